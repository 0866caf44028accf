/-! scenes, cards and ranks go together; all threads add up -/
theorem sumN_sub {f g : Nat → Nat} : ∀ m, (∀ k, k < m → g k ≤ f k) → sumN (fun k => f k - g k) m + sumN g m = sumN f m
  | 0, _ => rfl
  | m + 1, h => by
    have ih := sumN_sub m (fun k hk => h k (by omega))
    have := h m (by omega)
    rw [sumN, sumN, sumN]; omega
section
variable {n : Nat} {num : Nat → Nat → Nat} {row : Nat → List Nat} {st : Nat → Nat} {b : Option AS} {v : VT} {post : Int32 → VT → Prop}
theorem box_all (hN : numOk n num) (hO : rowOk n row) : sumN (fun u => cntT num u n - tallyF num st (pre row 96) 10 (some u) none) 6 + (pre row 96).length = n := by
  have hD := RRd_pre hO hN
  have h1 := sumN_sub (f := fun u => cntT num u n) (g := fun u => tallyF num st (pre row 96) 10 (some u) none) 6 (fun k _ => by
    have := coF_1 (num := num) (n := n) (st := st) (L := pre row 96) (t := k) hD.1
    show tallyF num st (pre row 96) 10 (some k) none ≤ cntT num k n
    omega)
  have h2 := tally_all (num := num) (st := st) (L := pre row 96) (w := 10) (sc := none) (T6_of hD)
  have h3 : tallyF num st (pre row 96) 10 none none = (pre row 96).length := by rw [tally_none]; exact w10 _
  have h4 : sumN (fun u => cntT num u n) 6 = n := by
    have hs := sum_swap (x := fun c => num c 0) (c := fun _ => true) (w := fun _ => 1) n (fun k hk => by have := (hN k hk).1; show num k 0 < 6; omega)
    have e1 : sumN (fun t => sumN (fun k => if (num k 0 == t) && true then 1 else 0) n) 6 = sumN (fun u => cntT num u n) 6 := sumN_congr 6 (fun t _ => by
      rw [cntT_sum]
      exact sumN_congr n (fun k _ => by rw [Bool.and_true]))
    have e2 : ∀ m, sumN (fun _ => if true = true then 1 else 0) m = m := by
      intro m
      induction m with
      | zero => rfl
      | succ m ih => rw [sumN, ih, if_pos rfl]
    rw [← e1]
    exact hs.trans (e2 n)
  omega
theorem t_neg {sc : Nat} (hN : numOk n num) (hO : rowOk n row) : (0 ≤ Op.cmpValue (FP.fcmp (tV num row sc) FP.fconst0) .g) ↔ full row sc = true := by
  unfold tV
  by_cases hf : full row sc = true
  · have ht := tens_le hN (rowS_of hO sc) (of_decide_eq_true hf)
    have e0 : (FP.fconst0).toNat = 0 := by decide +kernel
    rw [if_pos hf, fc_ge .g (by omega) (by omega)]
    refine ⟨fun _ => hf, fun _ => by omega⟩
  · rw [if_neg hf]
    refine ⟨fun q => absurd q (by decide +kernel), fun q => absurd q hf⟩
theorem all_end {I15 : Int32 → Int32 → Int32 → Int32 → Int32 → Int32 → VT → Prop} {x1 x2 x3 x4 : Int32} {sc : Nat} {r : UInt32} (hV : SV (n, num, row, st) b v) (hsc : sc < 16) (hr : r = tV num row sc) (hI : ∀ v, SV (n, num, row, st) b v → I15 x1 x2 x3 x4 1 (nI (sc + 1)) v) : ((0 ≤ (Op.cmpValue (FP.fcmp r FP.fconst0) .g)) → (wv_L_isAll_j266 x1 x2 x3 x4 (nI sc) (nI (row sc).length) (0 : Int32) v I15 post)) ∧ (¬ (0 ≤ (Op.cmpValue (FP.fcmp r FP.fconst0) .g)) → (wv_L_isAll_j266 x1 x2 x3 x4 (nI sc) (nI (row sc).length) (1 : Int32) v I15 post)) := by
  have hO : rowOk n row := hV.1.2.1
  have hN : numOk n num := hV.1.1
  have h6 := hO.1 sc
  have hcl := clb_le (num := num) (row := row) (s2 := st 2) (sc + 1) sc (by omega)
  have hcp := clb_pos (num := num) (row := row) (s2 := st 2) (sc := sc)
  have hcr := clb_ris (num := num) (row := row) (s2 := st 2) (sc := sc)
  have hfl : full row sc = true ↔ 0 < (row sc).length := decide_eq_true_iff
  subst hr
  rw [t_neg hN hO]
  have e1 : nI sc + (1 : Int32) = nI (sc + 1) := by rw [l1, z_add]
  have tail : ∀ (q : Int32) v, SV (n, num, row, st) b v → wv_L_isAll_j305 x1 x2 x3 x4 (nI sc) q q v I15 post := by
    intro q v hV
    unfold wv_L_isAll_j305
    refine ⟨fun _ => ?_, fun d => absurd rfl d⟩
    refine q_scene4 hV hsc (fun v hV => ?_)
    unfold wv_L_isAll_j324 wv_L_isAll_j341
    rw [e1]
    have eb : (bI (ris num row (st 2) sc) = (1 : Int32)) ↔ ris num row (st 2) sc = true := by cases ris num row (st 2) sc <;> decide
    rw [eb]
    refine ⟨fun q1 => ?_, fun q1 => ?_⟩
    · refine q_scene6 hV hsc (fun v hV => ?_)
      rw [l1, z_le (by omega) (by omega)]
      have := hcr.mpr q1
      exact ⟨fun d => absurd d (by omega), fun _ => ⟨fun _ => hI v hV, fun d => absurd rfl d⟩⟩
    · refine q_scene6 hV hsc (fun v hV => ?_)
      rw [l1, z_le (by omega) (by omega)]
      have : ¬ 1 < clb num row (st 2) sc := fun e => q1 (hcr.mp e)
      exact ⟨fun _ => ⟨fun _ => hI v hV, fun d => absurd rfl d⟩, fun d => absurd (by omega) d⟩
  unfold wv_L_isAll_j266 wv_L_isAll_j276 wv_L_isAll_j295
  rw [z_eq0 (by omega)]
  by_cases h0 : (row sc).length = 0
  · have hnf : ¬ full row sc = true := fun e => by have := hfl.mp e; omega
    refine ⟨fun d => absurd d hnf, fun _ => ⟨fun _ => ⟨fun _ => ?_, fun d => absurd rfl d⟩, fun d => absurd h0 d⟩⟩
    refine q_scene6 hV hsc (fun v hV => ?_)
    rw [z_eq0 (by omega)]
    have : ¬ 0 < clb num row (st 2) sc := fun e => hnf (hcp.mp e)
    exact ⟨fun _ => ⟨fun _ => tail _ v hV, fun d => absurd h0 d⟩, fun d => absurd (by omega) d⟩
  · have hf : full row sc = true := hfl.mpr (by omega)
    refine ⟨fun _ => ⟨fun d => absurd d h0, fun _ => ⟨fun _ => ?_, fun d => absurd rfl d⟩⟩, fun d => absurd hf d⟩
    refine q_scene6 hV hsc (fun v hV => ?_)
    rw [z_eq0 (by omega)]
    have := hcp.mpr hf
    exact ⟨fun d => absurd d (by omega), fun _ => ⟨fun d => absurd d h0, fun _ => tail _ v hV⟩⟩
theorem all_threads {x1 x2 x3 x4 : Int32} (hV : SV (n, num, row, st) b v) (h1 : x1 = nI (pre row 96).length) (h2 : x2 = nI (tallyF num st (pre row 96) 2 none none)) (h3 : x3 = nI (cnt (isBrk num (pre row 96)) (pre row 96).length)) (h4 : x4 = nI (cnt (full row) 16)) (hp : ∀ v, SV (n, num, row, st) b v → post 1 v) : wv_L_isAll_l366 x1 x2 x3 x4 1 0 0 0 v post := by
  have hO : rowOk n row := hV.1.2.1
  have hN : numOk n num := hV.1.1
  have hn : n ≤ 40 := hO.2.2.2
  have hD := RRd_pre hO hN
  have hl := hD.1.1
  subst h1 h2 h3 h4
  unfold wv_L_isAll_l366
  refine lf5_i (fun x5 x6 x7 x8 v => ∃ t, t ≤ 6 ∧ x8 = nI t ∧ x5 = 1 ∧ x6 = nI (stnd num st (pre row 96) t) ∧ x7 = nI (sumN (fun u => cntT num u n - tallyF num st (pre row 96) 10 (some u) none) t) ∧ SV (n, num, row, st) b v) (fun _ _ _ x8 _ => 6 - x8.toNatClampNeg) ⟨0, by omega, rfl, rfl, rfl, rfl, hV⟩ ?_
  clear hV
  rintro x5 x6 x7 x8 v ⟨t, ht, rfl, rfl, rfl, rfl, hV⟩
  rw [l6, z_le (by omega) (by omega)]
  refine ⟨fun hx => ?_, fun hx => ⟨fun d => absurd d (by decide), fun _ => ?_⟩⟩
  · have hte : t = 6 := by omega
    subst hte
    have hba := box_all (st := st) hN hO
    have hcb := cnt_le (isBrk num (pre row 96)) (pre row 96).length
    have e3 : tallyF num st (pre row 96) 12 none none = cnt (isBrk num (pre row 96)) (pre row 96).length := by rw [tally_none]; exact w12
    unfold wv_L_isAll_j424
    refine ⟨fun d => absurd d (by decide), fun _ => ?_⟩
    refine q_count1 hV (fun v hV => ⟨fun _ => ?_, fun d => absurd rfl d⟩)
    refine q_count2 hV (fun v hV => ⟨fun _ => ?_, fun d => absurd rfl d⟩)
    refine q_count3 hV (fun v hV => ⟨fun _ => ?_, fun d => absurd (by rw [e3]) d⟩)
    refine q_count7 hV (fun v hV => ⟨fun _ => ?_, fun d => absurd rfl d⟩)
    refine q_count9 hV (fun v hV => ⟨fun _ => ?_, fun d => absurd rfl d⟩)
    refine q_count0 hV (fun v hV => ⟨fun _ => ?_, fun d => absurd (by rw [z_add, Nat.add_comm, hba]) d⟩)
    refine q_broken hV (by omega) (fun k hk hb hc v hV => ?_) (fun _ v hV => ⟨fun _ => hp v hV, fun d => absurd rfl d⟩)
    have := cnt_at (p := isBrk num (pre row 96)) hk hb
    omega
  · have ht6 : t < 6 := by omega
    have hdec : 6 - (nI (t + 1)).toNatClampNeg < 6 - (nI t).toNatClampNeg := by simp (disch := omega) only [z_cl]; omega
    have t12 := tallyF_le2 (num := num) (st := st) (w := 12) (t := some t) (sc := none) hD
    refine w_isThread hV ht6 (fun v hV => ?_)
    refine q_thread3 hV ht6 (fun v hV => ?_)
    have e1 : nI t + (1 : Int32) = nI (t + 1) := by rw [l1, z_add]
    have es : stnd num st (pre row 96) (t + 1) = stnd num st (pre row 96) t + (if (tallyF num st (pre row 96) 12 (some t) none == 0) = true then 1 else 0) := rfl
    unfold wv_L_isAll_j403
    rw [z_eq0 (by omega), e1]
    refine ⟨fun q => ?_, fun q => ?_⟩
    · refine q_thread1 hV ht6 (fun v hV => ⟨⟨t + 1, by omega, rfl, rfl, ?_, ?_, hV⟩, hdec⟩)
      · rw [es, if_pos (beq_iff_eq.mpr q), l1, z_add]
      · rw [z_add, sumN]
    · refine q_thread1 hV ht6 (fun v hV => ⟨⟨t + 1, by omega, rfl, rfl, ?_, ?_, hV⟩, hdec⟩)
      · rw [es, if_neg (fun e => q (beq_iff_eq.mp e)), l0, z_add]
      · rw [z_add, sumN]
theorem w_isAll (hV : SV (n, num, row, st) b v) (hp : ∀ v, SV (n, num, row, st) b v → post 1 v) : wv_L_isAll v post := by
  have hO : rowOk n row := hV.1.2.1
  have hN : numOk n num := hV.1.1
  have hn : n ≤ 40 := hO.2.2.2
  have hD := RRd_pre hO hN
  have hl := hD.1.1
  unfold wv_L_isAll wv_L_isAll_l15
  refine lf7_i (fun x1 x2 x3 x4 x5 x6 v => ∃ sc, sc ≤ 16 ∧ x6 = nI sc ∧ x1 = nI (ix row (6 * sc)) ∧ x2 = nI (sumN (worthF num st (pre row 96) 2) (ix row (6 * sc))) ∧ x3 = nI (cnt (isBrk num (pre row 96)) (ix row (6 * sc))) ∧ x4 = nI (cnt (full row) sc) ∧ x5 = 1 ∧ SV (n, num, row, st) b v) (fun _ _ _ _ _ x6 _ => 16 - x6.toNatClampNeg) ⟨0, by omega, rfl, rfl, rfl, rfl, rfl, rfl, hV⟩ ?_
  clear hV
  rintro x1 x2 x3 x4 x5 x6 v ⟨sc, hsc, rfl, rfl, rfl, rfl, rfl, rfl, hV⟩
  rw [l16, z_le (by omega) (by omega)]
  refine ⟨fun hx => ?_, fun hx => ⟨fun d => absurd d (by decide), fun _ => ?_⟩⟩
  · have hse : sc = 16 := by omega
    subst hse
    exact all_threads hV rfl rfl rfl rfl hp
  · have hsc16 : sc < 16 := by omega
    have h6 := hO.1 sc
    have hdec0 : 16 - (nI (sc + 1)).toNatClampNeg < 16 - (nI sc).toNatClampNeg := by simp (disch := omega) only [z_cl]; omega
    refine q_scene0 hV hsc16 (fun v hV => ?_)
    unfold wv_L_isAll_l45
    refine lf6_i (fun x1 x5 x8 x9 x10 v => ∃ p, p ≤ (row sc).length ∧ x10 = nI p ∧ x1 = nI (ix row (6 * sc + p)) ∧ x5 = 1 ∧ x8 = thrM num (row sc) p ∧ x9 = nI (cnt (isBrk num (pre row 96)) (ix row (6 * sc + p)) - cnt (isBrk num (pre row 96)) (ix row (6 * sc))) ∧ SV (n, num, row, st) b v) (fun _ _ _ _ x10 _ => 7 - x10.toNatClampNeg) ⟨0, by omega, rfl, rfl, rfl, rfl, by rw [Nat.add_zero, Nat.sub_self]; rfl, hV⟩ ?_
    clear hV
    rintro x1 x5 x8 x9 x10 v ⟨p, hpl, rfl, rfl, rfl, rfl, rfl, hV⟩
    rw [z_le (by omega) (by omega)]
    have hup := ix_up (row := row) (u := 6 * sc) (d := p)
    have hcu := cnt_up (p := isBrk num (pre row 96)) (k := ix row (6 * sc)) (ix row (6 * sc + p) - ix row (6 * sc))
    rw [show ix row (6 * sc) + (ix row (6 * sc + p) - ix row (6 * sc)) = ix row (6 * sc + p) by omega] at hcu
    refine ⟨fun hx2 => ?_, fun hx2 => ⟨fun d => absurd d (by decide), fun _ => ?_⟩⟩
    · have hpe : p = (row sc).length := by omega
      subst hpe
      rw [← ix_n hO] at hcu ⊢
      have c2 := tally_cut (num := num) (st := st) (w := 2) hO hsc16
      have c12 := tally_cut (num := num) (st := st) (w := 12) hO hsc16
      rw [w12, w12] at c12
      unfold wv_L_isAll_j171
      refine q_scene1 hV hsc16 (fun v hV => ?_)
      have e2 : nI (sumN (worthF num st (pre row 96) 2) (ix row (6 * sc))) + nI (tallyF num st (pre row 96) 2 none (some sc)) = nI (sumN (worthF num st (pre row 96) 2) (ix row (6 * (sc + 1)))) := by rw [z_add, ← c2, Nat.add_comm]
      have e3 : nI (cnt (isBrk num (pre row 96)) (ix row (6 * sc))) + nI (cnt (isBrk num (pre row 96)) (ix row (6 * (sc + 1))) - cnt (isBrk num (pre row 96)) (ix row (6 * sc))) = nI (cnt (isBrk num (pre row 96)) (ix row (6 * (sc + 1)))) := by rw [z_add]; exact congrArg nI (by omega)
      rw [e2, e3, z_le0 (by omega)]
      have go : ∀ (x4 k0 : Int32), x4 + k0 = nI (cnt (full row) (sc + 1)) → ∀ v, SV (n, num, row, st) b v → wv_L_isAll_j198 (nI (ix row (6 * (sc + 1)))) (nI (sumN (worthF num st (pre row 96) 2) (ix row (6 * (sc + 1))))) (nI (cnt (isBrk num (pre row 96)) (ix row (6 * (sc + 1))))) 1 (nI sc) (nI (row sc).length) (thrM num (row sc) (row sc).length) (nI (cnt (isBrk num (pre row 96)) (ix row (6 * (sc + 1))) - cnt (isBrk num (pre row 96)) (ix row (6 * sc)))) k0 x4 v (fun u0 u1 u2 u3 u4 u5 u6 => (∃ sc, sc ≤ 16 ∧ u5 = nI sc ∧ u0 = nI (ix row (6 * sc)) ∧ u1 = nI (sumN (worthF num st (pre row 96) 2) (ix row (6 * sc))) ∧ u2 = nI (cnt (isBrk num (pre row 96)) (ix row (6 * sc))) ∧ u3 = nI (cnt (full row) sc) ∧ u4 = 1 ∧ SV (n, num, row, st) b u6) ∧ 16 - u5.toNatClampNeg < 16 - (nI sc).toNatClampNeg) post := by
        intro x4 k0 hk0 v hV
        unfold wv_L_isAll_j198
        rw [hk0]
        refine ⟨fun d => absurd d (by decide), fun _ => ⟨fun d => absurd d (by rw [l6, z_lt (by omega) (by omega)]; omega), fun _ => ?_⟩⟩
        refine q_at hV hsc16 (by omega) (fun v hV => ?_)
        rw [slotv_ge (Nat.le_refl _)]
        refine ⟨fun _ => ?_, fun d => absurd rfl d⟩
        refine q_scene2 hV hsc16 (fun v hV => ?_)
        rw [thr_all hO hsc16]
        refine ⟨fun _ => ?_, fun d => absurd rfl d⟩
        refine q_scene5 hV hsc16 (fun v hV => ?_)
        refine ⟨fun _ => ?_, fun d => absurd (by exact congrArg nI (by omega)) d⟩
        refine q_tension hV hsc16 (fun v hV => ?_)
        exact all_end hV hsc16 rfl (fun v hV => ⟨⟨sc + 1, by omega, rfl, rfl, rfl, rfl, rfl, rfl, hV⟩, hdec0⟩)
      have es : cnt (full row) (sc + 1) = cnt (full row) sc + (if full row sc = true then 1 else 0) := rfl
      refine ⟨fun q => go _ _ ?_ v hV, fun q => go _ _ ?_ v hV⟩
      · rw [es, if_neg (fun e => by have : 0 < (row sc).length := of_decide_eq_true e; omega), l0, z_add]
      · rw [es, if_pos (show full row sc = true from decide_eq_true (by omega)), l1, z_add]
    · have hpl2 : p < (row sc).length := by omega
      obtain ⟨hk, hcd, hsl⟩ := ix_at hO hsc16 hpl2
      have hix := ix_s hO hpl2
      have hdec : 7 - (nI (p + 1)).toNatClampNeg < 7 - (nI p).toNatClampNeg := by simp (disch := omega) only [z_cl]; omega
      refine q_at hV hsc16 (by omega) (fun v hV => ?_)
      rw [slotv_gd hpl2]
      have eth : thrM num (row sc) (p + 1) = thrM num (row sc) p ||| ((1 : Int32) <<< (nI (num (gd (row sc) p) 0) &&& 31)) := rfl
      generalize ix row (6 * sc + p) = k at hk hcd hsl hix hcu ⊢
      generalize gd (row sc) p = c at hcd eth ⊢
      have hcn : c < n := by rw [← hcd]; exact (hD.1.2.1 k hk).1
      have hcb := cnt_le (isBrk num (pre row 96)) k
      have go : ∀ v, SV (n, num, row, st) b v → wv_L_isAll_j128 (nI k) (nI (sumN (worthF num st (pre row 96) 2) (ix row (6 * sc)))) (nI (cnt (isBrk num (pre row 96)) (ix row (6 * sc)))) (nI (cnt (full row) sc)) (nI sc) (nI (row sc).length) (thrM num (row sc) p) (nI (cnt (isBrk num (pre row 96)) k - cnt (isBrk num (pre row 96)) (ix row (6 * sc)))) (nI p) (nI c) v (fun u0 u1 u2 u3 u4 u5 u6 => (∃ sc, sc ≤ 16 ∧ u5 = nI sc ∧ u0 = nI (ix row (6 * sc)) ∧ u1 = nI (sumN (worthF num st (pre row 96) 2) (ix row (6 * sc))) ∧ u2 = nI (cnt (isBrk num (pre row 96)) (ix row (6 * sc))) ∧ u3 = nI (cnt (full row) sc) ∧ u4 = 1 ∧ SV (n, num, row, st) b u6) ∧ 16 - u5.toNatClampNeg < 16 - (nI sc).toNatClampNeg) (fun u0 u1 u2 u3 u4 u5 => (∃ p, p ≤ (row sc).length ∧ u4 = nI p ∧ u0 = nI (ix row (6 * sc + p)) ∧ u1 = 1 ∧ u2 = thrM num (row sc) p ∧ u3 = nI (cnt (isBrk num (pre row 96)) (ix row (6 * sc + p)) - cnt (isBrk num (pre row 96)) (ix row (6 * sc))) ∧ SV (n, num, row, st) b u5) ∧ 7 - u4.toNatClampNeg < 7 - (nI p).toNatClampNeg) post := by
        intro v hV
        unfold wv_L_isAll_j128 wv_L_isAll_j133
        refine q_card0 hV hcn (fun v hV => ?_)
        refine q_cardAt7 hV hk hcd (fun v hV => ?_)
        rw [bI_eq, z_add, l1, z_add, z_add]
        refine ⟨⟨p + 1, by omega, rfl, by rw [hix], rfl, by rw [eth]; rfl, ?_, hV⟩, hdec⟩
        rw [hix]
        have es : cnt (isBrk num (pre row 96)) (k + 1) = cnt (isBrk num (pre row 96)) k + b2n (isBrk num (pre row 96) k) := rfl
        rw [es]
        exact congrArg nI (by omega)
      refine q_cardAt5 hV hk hcd (fun v hV => ?_)
      rw [show sl (pre row 96) k / 6 = sc by omega]
      refine ⟨fun _ => ?_, fun d => absurd rfl d⟩
      refine q_cardAt6 hV hk hcd (fun v hV => ?_)
      rw [show sl (pre row 96) k % 6 = p by omega]
      refine ⟨fun _ => ?_, fun d => absurd rfl d⟩
      refine q_cardAt8 hV hk hcd (fun v hV => ?_)
      refine ⟨fun _ => ?_, fun d => absurd rfl d⟩
      refine q_cardAt7 hV hk hcd (fun v hV => ?_)
      rw [bI_0]
      refine ⟨fun _ => go v hV, fun q => ?_⟩
      have hb : isBrk num (pre row 96) k = true := eq_true_of_ne_false q
      rw [z_add, show cnt (isBrk num (pre row 96)) (ix row (6 * sc)) + (cnt (isBrk num (pre row 96)) k - cnt (isBrk num (pre row 96)) (ix row (6 * sc))) = cnt (isBrk num (pre row 96)) k by omega]
      refine q_broken hV (by omega) (fun j hj hbj hcj v hV => ?_) (fun hne v hV => absurd rfl (hne k hk hb))
      have hjk : j = k := cnt_uni hbj hb hcj
      subst hjk
      rw [hcd]
      exact ⟨fun _ => go v hV, fun d => absurd rfl d⟩
end
