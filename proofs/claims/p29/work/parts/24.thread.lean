/-! a thread, read card by card -/
def tp (num : Nat → Nat → Nat) (st : Nat → Nat) (L : List (Nat × Nat)) (w t k : Nat) : Nat := sumN (fun j => if fits (some t) (num (cd L j) 0) && fits none (sl L j / 6) then worthF num st L w j else 0) k
theorem tp_all {num : Nat → Nat → Nat} {st : Nat → Nat} {L : List (Nat × Nat)} {w t : Nat} : tallyF num st L w (some t) none = tp num st L w t L.length := rfl
theorem tp_y {num : Nat → Nat → Nat} {st : Nat → Nat} {L : List (Nat × Nat)} {w t k : Nat} (h : num (cd L k) 0 = t) : tp num st L w t (k + 1) = tp num st L w t k + worthF num st L w k := by
  unfold tp
  rw [sumN, if_pos]
  show (num (cd L k) 0 == t && true) = true
  rw [Bool.and_true]; exact beq_iff_eq.mpr h
theorem tp_n {num : Nat → Nat → Nat} {st : Nat → Nat} {L : List (Nat × Nat)} {w t k : Nat} (h : ¬ num (cd L k) 0 = t) : tp num st L w t (k + 1) = tp num st L w t k := by
  unfold tp
  rw [sumN, if_neg]; rfl
  show ¬ (num (cd L k) 0 == t && true) = true
  rw [Bool.and_true]; exact fun q => h (beq_iff_eq.mp q)
theorem tp_le {n : Nat} {num : Nat → Nat → Nat} {st : Nat → Nat} {L : List (Nat × Nat)} {w t k : Nat} (hD : RRd n num L) (hk : k ≤ L.length) : tp num st L w t k ≤ 39960 := tallyF_le (t := some t) (sc := none) hD hk
def oT (num : Nat → Nat → Nat) (L : List (Nat × Nat)) (t k : Nat) : Option Nat := lst (fun j => num (cd L j) 0 == t) k
def oS (num : Nat → Nat → Nat) (L : List (Nat × Nat)) (t k : Nat) : Option Nat := lst (fun j => num (cd L j) 0 == t && num (cd L j) 4 == 0) k
def optC (L : List (Nat × Nat)) (o : Option Nat) : Int32 := optI (o.map (cd L))
def ThrJ (num : Nat → Nat → Nat) (st : Nat → Nat) (L : List (Nat × Nat)) (t k : Nat) (x2 x3 x4 x5 x6 x7 x8 x9 x10 : Int32) : Prop := x2 = nI (tp num st L 10 t k) ∧ x3 = nI (tp num st L 11 t k) ∧ x4 = nI (tp num st L 12 t k) ∧ x5 = nI (tp num st L 13 t k) ∧ x6 = nI (tp num st L 14 t k) ∧ x7 = nI (tp num st L 2 t k) ∧ x8 = optC L (oT num L t k) ∧ x9 = optC L (oS num L t k) ∧ x10 = 1
section
variable {n : Nat} {num : Nat → Nat → Nat} {row : Nat → List Nat} {st : Nat → Nat} {b : Option AS} {v : VT} {post : Int32 → VT → Prop} {t : Nat}
theorem thr_end {m br mo : Nat} (hm : m ≤ 100000) (hbr : br ≤ 100000) (h1 : mo = 0 ↔ br = 0) (h2 : mo ≤ m) (h3 : m = 0 ∨ mo < m) (hp : post 1 v) : wv_L_isThread_j394 (nI m) (nI br) (nI mo) 1 v post := by
  have fin : ∀ q : Int32, wv_L_isThread_j421 (nI m) (nI mo) q q v post := by
    intro q
    unfold wv_L_isThread_j421
    refine ⟨fun _ => ⟨fun c => absurd c (by rw [l0, z_lt (by omega) (by omega)]; omega), fun _ => ⟨fun c => absurd c (by rw [z_lt (by omega) (by omega)]; omega), fun _ => ⟨fun _ => hp, fun c => ⟨fun d => ?_, fun _ => hp⟩⟩⟩⟩, fun c => absurd rfl c⟩
    rw [z_eq0 (by omega)] at c
    rw [z_le (by omega) (by omega)] at d
    omega
  unfold wv_L_isThread_j394
  refine ⟨fun c => absurd c (by decide), fun _ => ?_⟩
  unfold wv_L_isThread_j411
  rw [z_eq0 (by omega), z_eq0 (by omega)]
  exact ⟨fun c => ⟨fun _ => fin _, fun d => absurd (h1.mp c) d⟩, fun c => ⟨fun d => absurd (h1.mpr d) c, fun _ => fin _⟩⟩
theorem thr_tail {I30 I40 : Int32 → Int32 → Int32 → Int32 → Int32 → Int32 → Int32 → Int32 → Int32 → Int32 → VT → Prop} {x1 x2 x5 x7 x8 x9 x11 s : Int32} {m3 m4 m6 p c f k : Nat} (hV : SV (n, num, row, st) b v) (hk : k < (pre row 96).length) (hc : cd (pre row 96) k = c) (hf : f ≤ 1) (h1 : 0 ≤ s ↔ isBrk num (pre row 96) k = false) (h2 : s ≤ nI (st 1) ↔ isTiH num (st 1) (pre row 96) k = false) (hI : ∀ v, SV (n, num, row, st) b v → I40 x2 (nI (m3 + b2n (f == 0))) (nI (m4 + b2n (isBrk num (pre row 96) k))) x5 (nI (m6 + b2n (isTiH num (st 1) (pre row 96) k))) x7 x8 (if f = 0 then nI c else x9) 1 (nI (p + 1)) v) : wv_L_isThread_j200 x1 x2 (nI m3) (nI m4) x5 (nI m6) x7 x8 x9 1 x11 (nI p) (nI c) (nI f) s v I30 I40 post := by
  unfold wv_L_isThread_j200
  refine ⟨fun q => absurd q (by decide), fun _ => ?_⟩
  refine q_cardAt7 hV hk hc (fun v hV => ?_)
  generalize isBrk num (pre row 96) k = B at h1 hI
  generalize isTiH num (st 1) (pre row 96) k = E at h2 hI
  have fin2 : ∀ v, SV (n, num, row, st) b v → wv_L_isThread_j268 x1 x2 (nI m3) (nI (m4 + b2n B)) x5 x7 x8 x9 1 x11 (nI p) (nI c) (nI f) (nI (b2n E)) (nI m6) v I30 I40 post := by
    intro v hV
    unfold wv_L_isThread_j268 wv_L_isThread_j282
    rw [z_eq0 (by omega), z_add, l1, z_add, z_add, l0, z_add]
    have h3 := hI v hV
    refine ⟨fun q => ⟨fun _ => ?_, fun d => absurd q d⟩, fun q => ⟨fun d => absurd d q, fun _ => ?_⟩⟩
    · rw [if_pos q, q] at h3; exact h3
    · rw [if_neg q, show (f == 0) = false from beq_eq_false_iff_ne.mpr q] at h3; exact h3
  have fin : ∀ v, SV (n, num, row, st) b v → wv_L_isThread_j247 x1 x2 (nI m3) x5 (nI m6) x7 x8 x9 1 x11 (nI p) (nI c) (nI f) s (nI (b2n B)) (nI m4) v I30 I40 post := by
    intro v hV
    unfold wv_L_isThread_j247
    refine q_count11 hV (fun v hV => ?_)
    rw [z_add, h2]
    have h3 := fin2 v hV
    refine ⟨fun q => ?_, fun q => ?_⟩
    · rw [q] at h3; exact h3
    · rw [eq_true_of_ne_false q] at h3; exact h3
  unfold wv_L_isThread_j225
  rw [h1]
  refine ⟨fun q => ⟨fun _ => ?_, fun d => absurd (by rw [q]; rfl) d⟩, fun q => ⟨fun _ => ?_, fun d => absurd (by rw [eq_true_of_ne_false q]; rfl) d⟩⟩
  · unfold wv_L_isThread_j233
    rw [h1]
    refine ⟨fun _ => ?_, fun d => absurd q d⟩
    have h3 := fin v hV
    rw [q] at h3; exact h3
  · unfold wv_L_isThread_j233
    rw [h1]
    refine ⟨fun d => absurd d q, fun _ => ?_⟩
    have h3 := fin v hV
    rw [eq_true_of_ne_false q] at h3; exact h3
theorem thr_go {I30 I40 : Int32 → Int32 → Int32 → Int32 → Int32 → Int32 → Int32 → Int32 → Int32 → Int32 → VT → Prop} {x2 x7 : Int32} {m3 m4 m5 m6 sc p c k : Nat} (hV : SV (n, num, row, st) b v) (ht : t < 6) (hsc : sc < 16) (hk : k < (pre row 96).length) (hc : cd (pre row 96) k = c) (hsl : sl (pre row 96) k / 6 = sc) (hct : num c 0 = t) (hI : ∀ v, SV (n, num, row, st) b v → I40 x2 (nI (m3 + worthF num st (pre row 96) 11 k)) (nI (m4 + worthF num st (pre row 96) 12 k)) (nI (m5 + worthF num st (pre row 96) 13 k)) (nI (m6 + worthF num st (pre row 96) 14 k)) x7 (nI c) (optC (pre row 96) (oS num (pre row 96) t (k + 1))) 1 (nI (p + 1)) v) : wv_L_isThread_j111 (nI t) x2 (nI m3) (nI m4) (nI m5) (nI m6) x7 (optC (pre row 96) (oT num (pre row 96) t k)) (optC (pre row 96) (oS num (pre row 96) t k)) (nI sc) (nI p) (nI c) 1 v I30 I40 post := by
  have hO : rowOk n row := hV.1.2.1
  have hN : numOk n num := hV.1.1
  have hS : setOk st := hV.1.2.2
  have hn : n ≤ 40 := hO.2.2.2
  have hD := RRd_pre hO hN
  have hcn : c < n := by rw [← hc]; exact (hD.1.2.1 k hk).1
  have hf := (hN c hcn).2.2.2.2.2
  have hb1 := (hN c hcn).2.1
  have e11 : worthF num st (pre row 96) 11 k = b2n (num c 4 == 0) := by rw [← hc]; rfl
  have e12 : worthF num st (pre row 96) 12 k = b2n (isBrk num (pre row 96) k) := rfl
  have e13 : worthF num st (pre row 96) 13 k = b2n (isTH num (st 0) (pre row 96) k) := rfl
  have e14 : worthF num st (pre row 96) 14 k = b2n (isTiH num (st 1) (pre row 96) k) := rfl
  rw [e11, e12, e13, e14] at hI
  have haA : aA num (pre row 96) k = oT num (pre row 96) t k := by unfold aA oT; rw [hc, hct]
  have hsA : num c 4 = 0 → sA num (pre row 96) k = oS num (pre row 96) t k := fun h0 => by unfold sA oS; rw [hc, hct, if_neg (by omega)]
  have hsA1 : num c 4 = 1 → sA num (pre row 96) k = none := fun h0 => by unfold sA; rw [hc, if_pos h0]
  have hoS : oS num (pre row 96) t (k + 1) = if num c 4 = 0 then some k else oS num (pre row 96) t k := by
    unfold oS
    rw [lst_s, hc, hct]
    by_cases h0 : num c 4 = 0
    · rw [if_pos h0, if_pos (by simp [h0])]
    · rw [if_neg h0, if_neg (by simp [h0])]
  have go : ∀ v, SV (n, num, row, st) b v → wv_L_isThread_j146 (nI t) x2 (nI m3) (nI m4) (nI m6) x7 (optC (pre row 96) (oS num (pre row 96) t k)) 1 (nI sc) (nI p) (nI c) (nI (b2n (isTH num (st 0) (pre row 96) k))) (nI m5) v I30 I40 post := by
    intro v hV
    unfold wv_L_isThread_j146
    refine q_card4 hV hcn (fun v hV => ?_)
    rw [l1, z_eq (by omega) (by omega), z_add]
    have tail : ∀ (s : Int32) v, SV (n, num, row, st) b v → (0 ≤ s ↔ isBrk num (pre row 96) k = false) → (s ≤ nI (st 1) ↔ isTiH num (st 1) (pre row 96) k = false) → wv_L_isThread_j200 (nI t) x2 (nI m3) (nI m4) (nI (m5 + b2n (isTH num (st 0) (pre row 96) k))) (nI m6) x7 (nI c) (optC (pre row 96) (oS num (pre row 96) t k)) 1 (nI sc) (nI p) (nI c) (nI (num c 4)) s v I30 I40 post := by
      intro s v hV h1 h2
      refine thr_tail hV hk hc hf h1 h2 (fun v hV => ?_)
      have h3 := hI v hV
      rw [hoS] at h3
      by_cases h0 : num c 4 = 0
      · rw [if_pos h0]; rw [if_pos h0] at h3
        have e : optC (pre row 96) (some k) = nI c := by show nI (cd (pre row 96) k) = nI c; rw [hc]
        rw [e] at h3; exact h3
      · rw [if_neg h0]; rw [if_neg h0] at h3; exact h3
    have z0 : (0 : Int32) ≤ 0 ↔ True := by decide
    have z1 : (0 : Int32) ≤ nI (st 1) ↔ True := by rw [l0, z_le (by omega) (by have := hS.2.2.1; omega)]; simp
    refine ⟨fun q => ?_, fun q => ?_⟩
    · unfold wv_L_isThread_j169
      refine ⟨fun d => absurd d (by decide), fun _ => ?_⟩
      unfold wv_L_isThread_j181
      have h3 := tail 0 v hV (by rw [z0]; unfold isBrk; rw [hsA1 q]; simp) (by rw [z1]; unfold isTiH; rw [hsA1 q]; simp)
      rw [q] at h3; exact h3
    · have q0 : num c 4 = 0 := by omega
      unfold wv_L_isThread_j169
      refine ⟨fun _ => ?_, fun d => absurd rfl d⟩
      have hs := hsA q0
      rw [q0] at tail
      cases ho : oS num (pre row 96) t k with
      | none =>
        rw [ho] at hs tail
        refine ⟨fun d => absurd (show (0 : Int32) ≤ optI none from d) (by decide), fun _ => ?_⟩
        unfold wv_L_isThread_j181
        exact tail 0 v hV (by rw [z0]; unfold isBrk; rw [hs]; simp) (by rw [z1]; unfold isTiH; rw [hs]; simp)
      | some bb =>
        rw [ho] at hs tail
        have hbb : bb < k := sA_lt hs
        have hbn : cd (pre row 96) bb < n := (hD.1.2.1 bb (by omega)).1
        have hb2 := (hN _ hbn).2.1
        have e : optC (pre row 96) (some bb) = nI (cd (pre row 96) bb) := rfl
        rw [e] at tail ⊢
        refine ⟨fun _ => ?_, fun d => absurd (by rw [l0, z_le (by omega) (by omega)]; omega) d⟩
        refine q_card1 hV hcn (fun v hV => ?_)
        refine q_card1 hV hbn (fun v hV => ?_)
        refine tail _ v hV ?_ ?_
        · unfold isBrk
          rw [hs, hc]
          show (0 ≤ nI (num c 1) - nI (num (cd (pre row 96) bb) 1)) ↔ decide (num c 1 < num (cd (pre row 96) bb) 1) = false
          rw [Int32.le_iff_toInt_le, z_toIntSub (by omega) (by omega), decide_eq_false_iff_not]
          show ((0 : Int) ≤ _) ↔ _
          omega
        · unfold isTiH
          rw [hs, hc]
          show (nI (num c 1) - nI (num (cd (pre row 96) bb) 1) ≤ nI (st 1)) ↔ decide (num (cd (pre row 96) bb) 1 + st 1 < num c 1) = false
          rw [z_subLe (by omega) (by omega) (by have := hS.2.2.1; omega), decide_eq_false_iff_not]
          omega
  unfold wv_L_isThread_j111
  cases ho : oT num (pre row 96) t k with
  | none =>
    refine ⟨fun _ => ?_, fun d => absurd (show optI none < (0 : Int32) by decide) d⟩
    unfold wv_L_isThread_j145
    have h3 := go v hV
    have e : isTH num (st 0) (pre row 96) k = false := by unfold isTH; rw [haA, ho]
    rw [e] at h3; exact h3
  | some bb =>
    have hbb : bb < k := aA_lt (haA.trans ho)
    have e : optC (pre row 96) (some bb) = nI (cd (pre row 96) bb) := rfl
    have hbn : cd (pre row 96) bb < n := (hD.1.2.1 bb (by omega)).1
    have hb96 := (hD.1.2.1 bb (by omega)).2
    rw [e]
    refine ⟨fun d => absurd d (by rw [l0, z_lt (by omega) (by omega)]; omega), fun _ => ?_⟩
    refine q_cardAt5 hV (show bb < (pre row 96).length by omega) rfl (fun v hV => ?_)
    refine q_count10 hV (fun v hV => ?_)
    have h0 := hS.1
    rw [l1, z_sub1Le (by omega) (by omega) (by omega)]
    have e2 : isTH num (st 0) (pre row 96) k = decide (sl (pre row 96) bb / 6 + 1 + st 0 < sc) := by
      unfold isTH
      rw [haA, ho, hsl]
    have h3 := go v hV
    refine ⟨fun q => ?_, fun q => ?_⟩
    · unfold wv_L_isThread_j145
      rw [e2, decide_eq_false (by omega)] at h3; exact h3
    · rw [e2, decide_eq_true (by omega)] at h3; exact h3
theorem w_isThread (hV : SV (n, num, row, st) b v) (ht : t < 6) (hp : ∀ v, SV (n, num, row, st) b v → post 1 v) : wv_L_isThread (nI t) v post := by
  have hO : rowOk n row := hV.1.2.1
  have hN : numOk n num := hV.1.1
  have hS : setOk st := hV.1.2.2
  have hn : n ≤ 40 := hO.2.2.2
  have hD := RRd_pre hO hN
  have hl := hD.1.1
  unfold wv_L_isThread wv_L_isThread_l30
  refine lf11_i (fun x2 x3 x4 x5 x6 x7 x8 x9 x10 x11 v => ∃ sc, sc ≤ 16 ∧ x11 = nI sc ∧ ThrJ num st (pre row 96) t (ix row (6 * sc)) x2 x3 x4 x5 x6 x7 x8 x9 x10 ∧ SV (n, num, row, st) b v) (fun _ _ _ _ _ _ _ _ _ x11 _ => 16 - x11.toNatClampNeg) ⟨0, by omega, rfl, ⟨rfl, rfl, rfl, rfl, rfl, rfl, rfl, rfl, rfl⟩, hV⟩ ?_
  clear hV
  rintro x2 x3 x4 x5 x6 x7 x8 x9 x10 x11 v ⟨sc, hsc, rfl, ⟨rfl, rfl, rfl, rfl, rfl, rfl, rfl, rfl, rfl⟩, hV⟩
  rw [l16, z_le (by omega) (by omega)]
  refine ⟨fun hx => ?_, fun hx => ?_⟩
  · have hse : sc = 16 := by omega
    subst hse
    have hix : ix row (6 * 16) = (pre row 96).length := rfl
    rw [hix]
    have hR : (sRow num row t).length = tallyF num st (pre row 96) 11 (some t) none := sRow_len
    have hB : tallyF num st (pre row 96) 12 (some t) none = dsc (HR num (pre row 96) (sRow num row t)) (sRow num row t).length := tally_HR (T6_of hD)
    have hb1 := bst_le (HR num (pre row 96) (sRow num row t)) (sRow num row t).length
    have hb2 := bst_full (H := HR num (pre row 96) (sRow num row t)) (sRow num row t).length
    have hb3 := full_bst (H := HR num (pre row 96) (sRow num row t)) (m := (sRow num row t).length)
    have hb4 := bst_pos (H := HR num (pre row 96) (sRow num row t)) (m := (sRow num row t).length)
    have t11 := tallyF_le2 (num := num) (st := st) (w := 11) (t := some t) (sc := none) hD
    have t12 := tallyF_le2 (num := num) (st := st) (w := 12) (t := some t) (sc := none) hD
    refine q_thread4 hV ht (fun v hV => ?_)
    refine ⟨fun q => absurd q (by decide), fun _ => ?_⟩
    refine q_thread0 hV ht (fun v hV => ⟨fun _ => ?_, fun d => absurd rfl d⟩)
    refine q_thread2 hV ht (fun v hV => ⟨fun _ => ?_, fun d => absurd rfl d⟩)
    refine q_thread3 hV ht (fun v hV => ⟨fun _ => ?_, fun d => absurd rfl d⟩)
    refine q_thread5 hV ht (fun v hV => ⟨fun _ => ?_, fun d => absurd rfl d⟩)
    refine q_thread6 hV ht (fun v hV => ⟨fun _ => ?_, fun d => absurd rfl d⟩)
    refine q_thread7 hV ht (fun v hV => ⟨fun _ => ?_, fun d => absurd rfl d⟩)
    rw [← tp_all, ← tp_all]
    refine thr_end (by omega) (by omega) ⟨fun q => ?_, fun q => ?_⟩ (by omega) (by omega) (hp v hV)
    · rw [hB]; exact hb2 (by omega)
    · have := hb3 (by rw [← hB]; exact q)
      omega
  · have hsc16 : sc < 16 := by omega
    have h6 := hO.1 sc
    unfold wv_L_isThread_l40
    refine lf11_i (fun x2 x3 x4 x5 x6 x7 x8 x9 x10 x12 v => ∃ p, p ≤ (row sc).length ∧ x12 = nI p ∧ ThrJ num st (pre row 96) t (ix row (6 * sc + p)) x2 x3 x4 x5 x6 x7 x8 x9 x10 ∧ SV (n, num, row, st) b v) (fun _ _ _ _ _ _ _ _ _ x12 _ => 7 - x12.toNatClampNeg) ⟨0, by omega, rfl, ⟨rfl, rfl, rfl, rfl, rfl, rfl, rfl, rfl, rfl⟩, hV⟩ ?_
    clear hV
    rintro x2 x3 x4 x5 x6 x7 x8 x9 x10 x12 v ⟨p, hpl, rfl, ⟨rfl, rfl, rfl, rfl, rfl, rfl, rfl, rfl, rfl⟩, hV⟩
    refine q_scene0 hV hsc16 (fun v hV => ?_)
    rw [z_le (by omega) (by omega)]
    refine ⟨fun hx2 => ?_, fun hx2 => ⟨fun q => absurd q (by decide), fun _ => ?_⟩⟩
    · have hpe : p = (row sc).length := by omega
      subst hpe
      rw [l1, z_add, ← ix_n hO]
      exact ⟨⟨sc + 1, by omega, rfl, ⟨rfl, rfl, rfl, rfl, rfl, rfl, rfl, rfl, rfl⟩, hV⟩, by simp (disch := omega) only [z_cl]; omega⟩
    · have hpl2 : p < (row sc).length := by omega
      obtain ⟨hk, hcd, hsl⟩ := ix_at hO hsc16 hpl2
      have hix := ix_s hO hpl2
      have hdec : 7 - (nI (p + 1)).toNatClampNeg < 7 - (nI p).toNatClampNeg := by simp (disch := omega) only [z_cl]; omega
      refine q_at hV hsc16 (by omega) (fun v hV => ?_)
      rw [slotv_gd hpl2]
      generalize ix row (6 * sc + p) = k at hk hcd hsl hix ⊢
      generalize gd (row sc) p = c at hcd ⊢
      have hcn : c < n := by rw [← hcd]; exact (hD.1.2.1 k hk).1
      have hc0 := (hN c hcn).1
      refine q_card0 hV hcn (fun v hV => ?_)
      rw [z_eq (by omega) (by omega)]
      have hT : ∀ w, tp num st (pre row 96) w t k ≤ 39960 := fun w => tp_le hD (by omega)
      refine ⟨fun q => ?_, fun q => ?_⟩
      · have hct : num (cd (pre row 96) k) 0 = t := by rw [hcd]; exact q
        refine q_card2 hV hcn (fun v hV => ?_)
        refine q_cardAt9 hV hk hcd (fun v hV => ?_)
        have haA : aA num (pre row 96) k = oT num (pre row 96) t k := by unfold aA oT; rw [hct]
        rw [haA]
        refine ⟨fun _ => ?_, fun d => absurd rfl d⟩
        refine thr_go hV ht hsc16 hk hcd (by omega) q (fun v hV => ⟨⟨p + 1, by omega, rfl, ?_, hV⟩, hdec⟩)
        rw [hix, l1, z_add, z_add]
        have eo : oT num (pre row 96) t (k + 1) = some k := by unfold oT; rw [lst_s, if_pos (beq_iff_eq.mpr hct)]
        refine ⟨by rw [tp_y hct]; rfl, by rw [tp_y hct], by rw [tp_y hct], by rw [tp_y hct], by rw [tp_y hct], ?_, ?_, rfl, rfl⟩
        · rw [tp_y hct]
          show nI (tp num st (pre row 96) 2 t k + num c 2) = nI (tp num st (pre row 96) 2 t k + num (cd (pre row 96) k) 2)
          rw [hcd]
        · rw [eo]
          show nI c = nI (cd (pre row 96) k)
          rw [hcd]
      · have hct : ¬ num (cd (pre row 96) k) 0 = t := by rw [hcd]; exact q
        rw [l1, z_add]
        refine ⟨⟨p + 1, by omega, rfl, ?_, hV⟩, hdec⟩
        rw [hix]
        have eo : oT num (pre row 96) t (k + 1) = oT num (pre row 96) t k := by unfold oT; rw [lst_s, if_neg (fun e => hct (beq_iff_eq.mp e))]
        have es : oS num (pre row 96) t (k + 1) = oS num (pre row 96) t k := by
          unfold oS
          rw [lst_s, if_neg]
          rw [Bool.and_eq_true]
          exact fun e => hct (beq_iff_eq.mp e.1)
        exact ⟨by rw [tp_n hct], by rw [tp_n hct], by rw [tp_n hct], by rw [tp_n hct], by rw [tp_n hct], by rw [tp_n hct], by rw [eo], by rw [es], rfl⟩
end
