/-! the scenes of the model -/
theorem sum_scene {row : Nat → List Nat} {n : Nat} {f : Nat → Nat} {sc : Nat} (hO : rowOk n row) : ∀ t, sumN (fun k => if sl (pre row t) k / 6 = sc then f (cd (pre row t) k) else 0) (pre row t).length = sumN (fun p => f (gd (row sc) p)) (min (row sc).length (t - 6 * sc))
  | 0 => by rw [show min (row sc).length (0 - 6 * sc) = 0 by omega]; rfl
  | t + 1 => by
    have ih := sum_scene (f := f) (sc := sc) hO t
    have h6 := hO.1 sc
    cases h : (row (t / 6))[t % 6]? with
    | none =>
      rw [pre_none h, ih]
      have hl := List.getElem?_eq_none_iff.mp h
      have : min (row sc).length (t - 6 * sc) = min (row sc).length (t + 1 - 6 * sc) := by
        by_cases he : t / 6 = sc
        · rw [he] at hl; omega
        · omega
      rw [this]
    | some c =>
      have hlt : t % 6 < (row (t / 6)).length := by
        have := List.getElem?_eq_some_iff.mp h
        exact this.1
      have hcd : sumN (fun k => if sl (pre row t ++ [(c, t)]) k / 6 = sc then f (cd (pre row t ++ [(c, t)]) k) else 0) (pre row t).length = sumN (fun k => if sl (pre row t) k / 6 = sc then f (cd (pre row t) k) else 0) (pre row t).length := sumN_congr _ (fun k hk => by rw [sl_l hk, cd_l hk])
      rw [pre_some h, List.length_append, List.length_singleton, sumN, hcd, ih, sl_e, cd_e]
      show _ + (if t / 6 = sc then f c else 0) = _
      by_cases he : t / 6 = sc
      · rw [if_pos he]
        rw [he] at hlt h
        rw [show min (row sc).length (t - 6 * sc) = t % 6 by omega, show min (row sc).length (t + 1 - 6 * sc) = t % 6 + 1 by omega, sumN]
        have : gd (row sc) (t % 6) = c := by
          have h2 := getD_some (d := 0) hlt
          rw [h] at h2
          exact (Option.some.inj h2).symm
        rw [this]
      · rw [if_neg he, Nat.add_zero, show min (row sc).length (t - 6 * sc) = min (row sc).length (t + 1 - 6 * sc) by omega]
theorem tally_words {n : Nat} {num : Nat → Nat → Nat} {st : Nat → Nat} {row : Nat → List Nat} {sc : Nat} (hO : rowOk n row) (hsc : sc < 16) : tallyF num st (pre row 96) 2 none (some sc) = wSum num (row sc) (row sc).length := by
  have h6 := hO.1 sc
  have := sum_scene (f := fun c => num c 2) (sc := sc) hO 96
  rw [show min (row sc).length (96 - 6 * sc) = (row sc).length by omega] at this
  unfold wSum
  rw [← this]
  unfold tallyF
  refine sumN_congr _ (fun k _ => ?_)
  show (if true && (sl (pre row 96) k / 6 == sc) then num (cd (pre row 96) k) 2 else 0) = _
  rw [Bool.true_and]
  by_cases h : sl (pre row 96) k / 6 = sc
  · rw [if_pos h, if_pos (beq_iff_eq.mpr h)]
  · rw [if_neg h, if_neg (by rw [beq_iff_eq]; exact h)]
theorem sum_swapN {x : Nat → Nat} {w : Nat → Nat} {N : Nat} : ∀ m, (∀ k, k < m → x k < N) → sumN (fun t => sumN (fun k => if x k = t then w k else 0) m) N = sumN w m
  | 0, _ => sumN_zero N
  | m + 1, h => by
    have ih := sum_swapN (x := x) (w := w) (N := N) m (fun k hk => h k (by omega))
    have e : sumN (fun t => sumN (fun k => if x k = t then w k else 0) (m + 1)) N = sumN (fun t => sumN (fun k => if x k = t then w k else 0) m + (if t = x m then w m else 0)) N := sumN_congr _ (fun t _ => by
      rw [sumN]; congr 1
      by_cases hx : x m = t
      · rw [if_pos hx, if_pos hx.symm]
      · rw [if_neg hx, if_neg (fun e => hx e.symm)])
    rw [e, sumN_add, ih, sumN_pt, if_pos (h m (by omega))]; rfl
theorem words_all {n : Nat} {num : Nat → Nat → Nat} {st : Nat → Nat} {row : Nat → List Nat} (hO : rowOk n row) : sumN (fun sc => wSum num (row sc) (row sc).length) 16 = tallyF num st (pre row 96) 2 none none := by
  have h1 : sumN (fun sc => wSum num (row sc) (row sc).length) 16 = sumN (fun sc => tallyF num st (pre row 96) 2 none (some sc)) 16 := sumN_congr _ (fun sc hsc => (tally_words hO hsc).symm)
  rw [h1]
  have hL := LOk_pre (t := 96) hO (by omega)
  have h2 := sum_swapN (x := fun k => sl (pre row 96) k / 6) (w := fun k => num (cd (pre row 96) k) 2) (N := 16) (pre row 96).length (fun k hk => by have := (hL.2.1 k hk).2; show sl (pre row 96) k / 6 < 16; omega)
  have h3 : tallyF num st (pre row 96) 2 none none = sumN (fun k => num (cd (pre row 96) k) 2) (pre row 96).length := rfl
  rw [h3, ← h2]
  refine sumN_congr _ (fun sc _ => sumN_congr _ (fun k _ => ?_))
  show (if true && (sl (pre row 96) k / 6 == sc) then num (cd (pre row 96) k) 2 else 0) = _
  rw [Bool.true_and]
  by_cases h : sl (pre row 96) k / 6 = sc
  · rw [if_pos h, if_pos (beq_iff_eq.mpr h)]
  · rw [if_neg h, if_neg (by rw [beq_iff_eq]; exact h)]
def thrM (num : Nat → Nat → Nat) (L : List Nat) : Nat → Int32
  | 0 => 0
  | m + 1 => thrM num L m ||| ((1 : Int32) <<< (nI (num (gd L m) 0) &&& 31))
theorem thrB_l {num : Nat → Nat → Nat} {L M : List (Nat × Nat)} {sc : Nat} : ∀ m, m ≤ L.length → thrB num (L ++ M) sc m = thrB num L sc m
  | 0, _ => rfl
  | m + 1, h => by
    rw [thrB, thrB, thrB_l m (by omega), sl_l (by omega), cd_l (by omega)]
theorem thr_scene {row : Nat → List Nat} {n : Nat} {num : Nat → Nat → Nat} {sc : Nat} (hO : rowOk n row) : ∀ t, thrB num (pre row t) sc (pre row t).length = thrM num (row sc) (min (row sc).length (t - 6 * sc))
  | 0 => by rw [show min (row sc).length (0 - 6 * sc) = 0 by omega]; rfl
  | t + 1 => by
    have ih := thr_scene (num := num) (sc := sc) hO t
    have h6 := hO.1 sc
    cases h : (row (t / 6))[t % 6]? with
    | none =>
      rw [pre_none h, ih]
      have hl := List.getElem?_eq_none_iff.mp h
      have : min (row sc).length (t - 6 * sc) = min (row sc).length (t + 1 - 6 * sc) := by
        by_cases he : t / 6 = sc
        · rw [he] at hl; omega
        · omega
      rw [this]
    | some c =>
      have hlt : t % 6 < (row (t / 6)).length := (List.getElem?_eq_some_iff.mp h).1
      rw [pre_some h, List.length_append, List.length_singleton, thrB, thrB_l _ (Nat.le_refl _), ih, sl_e, cd_e]
      show (if t / 6 = sc then _ else _) = _
      by_cases he : t / 6 = sc
      · rw [if_pos he]
        rw [he] at hlt h
        rw [show min (row sc).length (t - 6 * sc) = t % 6 by omega, show min (row sc).length (t + 1 - 6 * sc) = t % 6 + 1 by omega, thrM]
        have : gd (row sc) (t % 6) = c := by
          have h2 := getD_some (d := 0) hlt
          rw [h] at h2
          exact (Option.some.inj h2).symm
        rw [this]
      · rw [if_neg he, show min (row sc).length (t - 6 * sc) = min (row sc).length (t + 1 - 6 * sc) by omega]
theorem thr_all {row : Nat → List Nat} {n : Nat} {num : Nat → Nat → Nat} {sc : Nat} (hO : rowOk n row) (hsc : sc < 16) : thrB num (pre row 96) sc (pre row 96).length = thrM num (row sc) (row sc).length := by
  have h6 := hO.1 sc
  rw [thr_scene hO, show min (row sc).length (96 - 6 * sc) = (row sc).length by omega]
section
variable {n : Nat} {num : Nat → Nat → Nat} {row : Nat → List Nat} {st : Nat → Nat} {s : Nat → Int32}
theorem m_len {sc : Nat} (hM : RM n num row st s) (hsc : sc < 16) : s (nI (204 + 7 * sc)).toNatClampNeg = nI (row sc).length := by rw [z_cl (by omega)]; exact (hM.2.2.2 sc hsc).1
theorem in_row {sc : Nat} (hsc : sc < 16) : vp_in (nI (204 + 7 * sc)) 316 := (z_in (by omega)).mpr (by omega)
theorem m_card {sc p : Nat} (hM : RM n num row st s) (hO : rowOk n row) (hsc : sc < 16) (hp : p < (row sc).length) : vp_in (nI (204 + 7 * sc) + 1 + nI p) 316 ∧ s (nI (204 + 7 * sc) + 1 + nI p).toNatClampNeg = nI (gd (row sc) p) := by
  have h6 := hO.1 sc
  rw [l1, z_add, z_add, z_cl (by omega)]
  exact ⟨(z_in (by omega)).mpr (by omega), (hM.2.2.2 sc hsc).2 p hp⟩
theorem m_wordsIn {post : Int32 → Prop} {sc : Nat} (hM : RM n num row st s) (hO : rowOk n row) (hN : numOk n num) (hsc : sc < 16) (h : post (nI (wSum num (row sc) (row sc).length))) : wp_X9_wordsIn (nI sc) s post := by
  have hn := hO.2.2.2
  have h6 := hO.1 sc
  have hL := rowS_of hO sc
  unfold wp_X9_wordsIn wp_X9_wordsIn_l4
  refine lf2_i (fun x2 x3 => ∃ p, p ≤ (row sc).length ∧ x3 = nI p ∧ x2 = nI (wSum num (row sc) p)) (fun _ x3 => 6 - x3.toNatClampNeg) ⟨0, by omega, rfl, rfl⟩ ?_
  rintro x2 x3 ⟨p, hp, rfl, rfl⟩
  refine m_row ⟨in_row hsc, ?_⟩
  rw [m_len hM hsc, z_le (by omega) (by omega)]
  refine ⟨fun q => ?_, fun q => ?_⟩
  · have : p = (row sc).length := by omega
    subst this; exact h
  · have hpl : p < (row sc).length := by omega
    have hc := m_card hM hO hsc hpl
    refine m_row ⟨hc.1, ?_⟩
    rw [hc.2]
    refine m_of (k := 2) hM hn (gd_lt hL hpl) (by omega) ?_
    rw [l1, z_add, z_add]
    exact ⟨⟨p + 1, by omega, rfl, rfl⟩, by simp (disch := omega) only [z_cl]; omega⟩
theorem m_tensionIn {post : UInt32 → Prop} {sc : Nat} (hM : RM n num row st s) (hO : rowOk n row) (hN : numOk n num) (hsc : sc < 16) (h0 : 0 < (row sc).length) (h : post (tens num (row sc))) : wp_X9_tensionIn (nI sc) s post := by
  have hn := hO.2.2.2
  have h6 := hO.1 sc
  have hL := rowS_of hO sc
  unfold wp_X9_tensionIn wp_X9_tensionIn_l4
  refine lf2_i (fun x2 x3 => ∃ p, p ≤ (row sc).length ∧ x3 = nI p ∧ x2 = fN (tSum num (row sc) p)) (fun _ x3 => 6 - x3.toNatClampNeg) ⟨0, by omega, rfl, fN_c0⟩ ?_
  rintro x2 x3 ⟨p, hp, rfl, rfl⟩
  refine m_row ⟨in_row hsc, ?_⟩
  rw [m_len hM hsc, z_le (by omega) (by omega)]
  obtain ⟨h1, h2, h3⟩ := wt_le hN hL p hp
  refine ⟨fun q => ?_, fun q => ?_⟩
  · have : p = (row sc).length := by omega
    subst this
    refine m_wordsIn hM hO hN hsc ?_
    have ht := tens_le hN hL h0
    exact ⟨n32_lt (show (tens num (row sc)).toNat ≤ _ by omega), h⟩
  · have hpl : p < (row sc).length := by omega
    have hc := m_card hM hO hsc hpl
    have hg := gd_lt hL hpl
    refine m_row ⟨hc.1, ?_⟩
    rw [hc.2]
    refine m_of (k := 3) hM hn hg (by omega) ?_
    refine m_of (k := 2) hM hn hg (by omega) ?_
    have hcn := hN _ hg
    have h4 : num (gd (row sc) p) 3 * num (gd (row sc) p) 2 ≤ 100 * num (gd (row sc) p) 2 := Nat.mul_le_mul_right _ hcn.2.2.2.2.1
    have em : FP.fmul (FP.i2f (nI (num (gd (row sc) p) 3))) (FP.i2f (nI (num (gd (row sc) p) 2))) = fN (num (gd (row sc) p) 3 * num (gd (row sc) p) 2) := fN_mul (by omega) (by omega) (by omega)
    have ea : FP.fadd (fN (tSum num (row sc) p)) (fN (num (gd (row sc) p) 3 * num (gd (row sc) p) 2)) = fN (tSum num (row sc) (p + 1)) := fN_add (by omega)
    rw [em, ea]
    have := wt_le hN hL (p + 1) (by omega)
    refine ⟨fN_n32 (by omega), fN_n32 (by omega), ?_⟩
    rw [l1, z_add]
    exact ⟨⟨p + 1, by omega, rfl, rfl⟩, by simp (disch := omega) only [z_cl]; omega⟩
theorem m_threadsIn {post : Int32 → Prop} {sc : Nat} (hM : RM n num row st s) (hO : rowOk n row) (hsc : sc < 16) (h : post (thrM num (row sc) (row sc).length)) : wp_X9_threadsIn (nI sc) s post := by
  have hn := hO.2.2.2
  have h6 := hO.1 sc
  have hL := rowS_of hO sc
  unfold wp_X9_threadsIn wp_X9_threadsIn_l4
  refine lf2_i (fun x2 x3 => ∃ p, p ≤ (row sc).length ∧ x3 = nI p ∧ x2 = thrM num (row sc) p) (fun _ x3 => 6 - x3.toNatClampNeg) ⟨0, by omega, rfl, rfl⟩ ?_
  rintro x2 x3 ⟨p, hp, rfl, rfl⟩
  refine m_row ⟨in_row hsc, ?_⟩
  rw [m_len hM hsc, z_le (by omega) (by omega)]
  refine ⟨fun q => ?_, fun q => ?_⟩
  · have : p = (row sc).length := by omega
    subst this; exact h
  · have hpl : p < (row sc).length := by omega
    have hc := m_card hM hO hsc hpl
    refine m_row ⟨hc.1, ?_⟩
    rw [hc.2]
    refine m_of (k := 0) hM hn (gd_lt hL hpl) (by omega) ?_
    have e1 : nI p + (1 : Int32) = nI (p + 1) := by rw [l1, z_add]
    rw [e1]
    exact ⟨⟨p + 1, by omega, rfl, rfl⟩, by simp (disch := omega) only [z_cl]; omega⟩
theorem m_lastScene {post : Int32 → Prop} {sc : Nat} (hM : RM n num row st s) (hO : rowOk n row) (hsc : sc ≤ 16) (h : post (optI (lsS row sc))) : wp_X9_lastScene (nI sc) s post := by
  unfold wp_X9_lastScene wp_X9_lastScene_l5
  refine lf2_i (fun x2 x3 => ∃ k, k ≤ sc ∧ x3 = nI k ∧ x2 = optI (lsS row k)) (fun _ x3 => sc - x3.toNatClampNeg) ⟨0, by omega, rfl, rfl⟩ ?_
  rintro x2 x3 ⟨k, hk, rfl, rfl⟩
  rw [z_le (by omega) (by omega)]
  refine ⟨fun q => ?_, fun q => ?_⟩
  · have : k = sc := by omega
    subst this; exact h
  · have h6 := hO.1 k
    refine m_row ⟨in_row (by omega), ?_⟩
    rw [m_len hM (by omega), l0, z_le (by omega) (by omega), l1, z_add]
    refine ⟨fun q2 => ⟨⟨k + 1, by omega, rfl, ?_⟩, by simp (disch := omega) only [z_cl]; omega⟩, fun q2 => ⟨⟨k + 1, by omega, rfl, ?_⟩, by simp (disch := omega) only [z_cl]; omega⟩⟩
    · rw [lsS_s, show full row k = false from decide_eq_false (by omega)]; rfl
    · rw [lsS_s, show full row k = true from decide_eq_true (by omega)]; rfl
theorem m_isRising {post : Int32 → Prop} {sc : Nat} (hM : RM n num row st s) (hO : rowOk n row) (hN : numOk n num) (hsc : sc < 16) (h : post (bI (ris num row (st 2) sc))) : wp_X9_isRising (nI sc) s post := by
  have h6 := hO.1 sc
  unfold wp_X9_isRising
  refine m_lastScene hM hO (by omega) ?_
  refine m_row ⟨in_row hsc, ?_⟩
  rw [m_len hM hsc, l0, z_le (by omega) (by omega)]
  unfold ris at h
  have e5 : (-5 : Int32) = -nI 5 := rfl
  have hs3 : s ((3 : Int32)).toNatClampNeg = nI (st 2) := hM.2.1 2 (by omega)
  refine ⟨fun q => ?_, fun q => ?_⟩
  · have hf : full row sc = false := decide_eq_false (by omega)
    cases hl : lsS row sc with
    | none => rw [hl] at h; exact h
    | some l => rw [hl] at h; dsimp only at h; rw [hf] at h; exact h
  · have h0 : 0 < (row sc).length := by omega
    have hf : full row sc = true := decide_eq_true h0
    rw [e5]
    cases hl : lsS row sc with
    | none => rw [hl] at h; exact ⟨fun _ => h, fun c => absurd rfl c⟩
    | some l =>
      rw [hl] at h; dsimp only at h; rw [hf, Bool.true_and] at h
      have hll := lsS_lt hl
      refine ⟨fun q => absurd q (by show ¬ nI l = -nI 5; rw [z_en (by omega) (by omega) (by omega)]; exact id), fun _ => ?_⟩
      refine m_tensionIn hM hO hN hsc h0 ?_
      refine m_tensionIn (sc := l) hM hO hN (by omega) hll.2 ?_
      rw [hs3]
      have t1 := tens_le hN (rowS_of hO sc) h0
      have t2 := tens_le hN (rowS_of hO l) hll.2
      refine ⟨(f_sub t1 t2).1, f_rise, fun q => ?_, fun q => ?_⟩
      · rw [show risC num row (st 2) sc l = true from decide_eq_true q] at h; exact h
      · rw [show risC num row (st 2) sc l = false from decide_eq_false q] at h; exact h
theorem m_climb {post : Int32 → Prop} {sc : Nat} (hM : RM n num row st s) (hO : rowOk n row) (hN : numOk n num) (hsc : sc < 16) (h : post (nI (clb num row (st 2) sc))) : wp_X9_climb (nI sc) s post := by
  have h6 := hO.1 sc
  have hle := clb_le (num := num) (row := row) (s2 := st 2) (sc + 1) sc (by omega)
  unfold wp_X9_climb
  refine m_row ⟨in_row hsc, ?_⟩
  rw [m_len hM hsc, l0, z_eq (by omega) (by omega)]
  refine ⟨fun q => ?_, fun q => ?_⟩
  · rw [clb_eq, show full row sc = false from decide_eq_false (by omega)] at h; exact h
  · have hf : full row sc = true := decide_eq_true (by omega)
    unfold wp_X9_climb_l18
    refine lf2_i (fun x2 x3 => ∃ m k, k ≤ sc ∧ full row k = true ∧ 1 ≤ m ∧ x2 = nI m ∧ x3 = nI k ∧ m + clb num row (st 2) k = clb num row (st 2) sc + 1) (fun _ x3 => x3.toNatClampNeg) ⟨1, sc, by omega, hf, by omega, rfl, rfl, by omega⟩ ?_
    rintro x2 x3 ⟨m, k, hk, hfk, hm1, rfl, rfl, hm⟩
    have hle2 := clb_le (num := num) (row := row) (s2 := st 2) (k + 1) k (by omega)
    have hpos := (clb_pos (num := num) (s2 := st 2)).mpr hfk
    refine m_isRising hM hO hN (by omega) ?_
    have hce := clb_eq (num := num) (row := row) (s2 := st 2) (sc := k)
    rw [hfk, if_pos rfl] at hce
    rw [bI_0]
    refine ⟨fun q2 => ?_, fun q2 => ?_⟩
    · rw [q2, if_neg (by decide)] at hce
      rw [show m = clb num row (st 2) sc by omega]; exact h
    · have hr : ris num row (st 2) k = true := eq_true_of_ne_false q2
      rw [hr, if_pos rfl] at hce
      refine m_lastScene hM hO (by omega) ?_
      cases hl : lsS row k with
      | none => unfold ris at hr; rw [hl] at hr; cases hr
      | some l =>
        rw [hl] at hce; dsimp only at hce
        have hll := lsS_lt hl
        rw [l1, z_add]
        refine ⟨⟨m + 1, l, by omega, decide_eq_true hll.2, by omega, rfl, rfl, by omega⟩, ?_⟩
        show (nI l).toNatClampNeg < (nI k).toNatClampNeg
        simp (disch := omega) only [z_cl]; omega
theorem anyS_ls {sc : Nat} : anyS row 0 sc = (lsS row sc).isSome := by
  cases hl : lsS row sc with
  | some l =>
    have := lsS_lt hl
    exact anyS_iff.mpr ⟨l, this.1, Nat.zero_le _, this.2⟩
  | none =>
    refine eq_false_of_ne_true (fun e => ?_)
    obtain ⟨k, h1, _, h3⟩ := anyS_iff.mp e
    have := lst_none _ hl k h1
    rw [show full row k = true from decide_eq_true h3] at this; cases this
theorem m_isHole {post : Int32 → Prop} {sc : Nat} (hM : RM n num row st s) (hO : rowOk n row) (hsc : sc < 16) (h : post (bI (holeS row sc))) : wp_X9_isHole (nI sc) s post := by
  have h6 := hO.1 sc
  unfold wp_X9_isHole wp_X9_isHole_l6
  rw [l1, z_add]
  refine lf2_i (fun x2 x3 => ∃ k b, sc + 1 ≤ k ∧ k ≤ 16 ∧ b ≤ 6 * k ∧ x3 = nI k ∧ x2 = nI b ∧ (0 < b ↔ anyS row (sc + 1) k = true)) (fun _ x3 => 16 - x3.toNatClampNeg) ⟨sc + 1, 0, by omega, by omega, by omega, rfl, rfl, ⟨fun h => absurd h (Nat.lt_irrefl _), fun h => by obtain ⟨k, h1, h2, _⟩ := anyS_iff.mp h; omega⟩⟩ ?_
  rintro x2 x3 ⟨k, b, hk1, hk, hb, rfl, rfl, hab⟩
  refine ⟨fun hx => ?_, fun hx => ?_⟩
  · have hk6 : k = 16 := by simp (disch := omega) only [l16, z_le] at hx; omega
    subst hk6
    refine m_row ⟨in_row hsc, ?_⟩
    rw [m_len hM hsc, l0, z_eq (by omega) (by omega)]
    unfold holeS at h
    refine ⟨fun q => ?_, fun q => ?_⟩
    · have hf : full row sc = false := decide_eq_false (by omega)
      rw [hf, anyS_ls] at h
      refine m_lastScene hM hO (by omega) ?_
      have e5 : (-5 : Int32) = -nI 5 := rfl
      rw [e5]
      cases hl : lsS row sc with
      | none => rw [hl] at h; exact ⟨fun _ => h, fun c => absurd rfl c⟩
      | some l =>
        have hll := lsS_lt hl
        rw [hl] at h
        refine ⟨fun q => absurd q (by show ¬ nI l = -nI 5; rw [z_en (by omega) (by omega) (by omega)]; exact id), fun _ => ?_⟩
        rw [z_le (by omega) (by omega)]
        refine ⟨fun q2 => ?_, fun q2 => ?_⟩
        · rw [show anyS row (sc + 1) 16 = false from eq_false_of_ne_true (fun e => by have := hab.mpr e; omega)] at h; exact h
        · rw [hab.mp (by omega)] at h; exact h
    · have hf : full row sc = true := decide_eq_true (by omega)
      rw [hf] at h; exact h
  · have hk6 : k < 16 := by simp (disch := omega) only [l16, z_le] at hx; omega
    have h6k := hO.1 k
    refine m_row ⟨in_row hk6, ?_⟩
    rw [m_len hM hk6, z_add, z_add]
    refine ⟨⟨k + 1, b + (row k).length, by omega, by omega, by omega, rfl, rfl, ?_⟩, by simp (disch := omega) only [z_cl]; omega⟩
    rw [anyS_iff]
    constructor
    · intro hp
      rcases Nat.eq_zero_or_pos b with h0 | h0
      · exact ⟨k, by omega, by omega, by omega⟩
      · obtain ⟨j, h1, h2, h3⟩ := anyS_iff.mp (hab.mp h0)
        exact ⟨j, by omega, h2, h3⟩
    · rintro ⟨j, h1, h2, h3⟩
      rcases Nat.lt_or_ge j k with c | c
      · have := hab.mpr (anyS_iff.mpr ⟨j, c, h2, h3⟩); omega
      · rw [show j = k by omega] at h3; omega
theorem m_scenes {post : Int32 → Prop} (hM : RM n num row st s) (hO : rowOk n row) (h : post (nI (cnt (full row) 16))) : wp_X9_scenes s post := by
  unfold wp_X9_scenes wp_X9_scenes_l4
  refine lf2_i (fun x1 x2 => ∃ k, k ≤ 16 ∧ x2 = nI k ∧ x1 = nI (cnt (full row) k)) (fun _ x2 => 16 - x2.toNatClampNeg) ⟨0, by omega, rfl, rfl⟩ ?_
  rintro x1 x2 ⟨k, hk, rfl, rfl⟩
  refine ⟨fun hx => ?_, fun hx => ?_⟩
  · have hk6 : k = 16 := by simp (disch := omega) only [l16, z_le] at hx; omega
    subst hk6; exact h
  · have hk6 : k < 16 := by simp (disch := omega) only [l16, z_le] at hx; omega
    have h6 := hO.1 k
    refine m_row ⟨in_row hk6, ?_⟩
    rw [m_len hM hk6, l0, z_le (by omega) (by omega), z_add, l1, z_add, z_add]
    refine ⟨fun q2 => ⟨⟨k + 1, by omega, rfl, ?_⟩, by simp (disch := omega) only [z_cl]; omega⟩, fun q2 => ⟨⟨k + 1, by omega, rfl, ?_⟩, by simp (disch := omega) only [z_cl]; omega⟩⟩
    · rw [cnt, show full row k = false from decide_eq_false (by omega)]; rfl
    · rw [cnt, show full row k = true from decide_eq_true (by omega)]; rfl
theorem m_ofScenes {post : Int32 → Prop} {w : Nat} (hM : RM n num row st s) (hO : rowOk n row) (hN : numOk n num) (hw : w < 3) (h : post (nI (if w = 2 then mxN (clb num row (st 2)) 16 else if w = 1 then sumN (fun sc => wSum num (row sc) (row sc).length) 16 else cnt (holeS row) 16))) : wp_X9_ofScenes (nI w) s post := by
  unfold wp_X9_ofScenes wp_X9_ofScenes_l4
  refine lf2_i (fun x2 x3 => ∃ k, k ≤ 16 ∧ x3 = nI k ∧ x2 = nI (if w = 2 then mxN (clb num row (st 2)) k else if w = 1 then sumN (fun sc => wSum num (row sc) (row sc).length) k else cnt (holeS row) k)) (fun _ x3 => 16 - x3.toNatClampNeg) ⟨0, by omega, rfl, by rcases (show w = 0 ∨ w = 1 ∨ w = 2 by omega) with rfl | rfl | rfl <;> rfl⟩ ?_
  rintro x2 x3 ⟨k, hk, rfl, rfl⟩
  refine ⟨fun hx => ?_, fun hx => ?_⟩
  · have hk6 : k = 16 := by simp (disch := omega) only [l16, z_le] at hx; omega
    subst hk6; exact h
  · have hk6 : k < 16 := by simp (disch := omega) only [l16, z_le] at hx; omega
    have hle := clb_le (num := num) (row := row) (s2 := st 2) (k + 1) k (by omega)
    have hmx := mxN_le (f := clb num row (st 2)) (b := 17) k (fun j hj => by have := clb_le (num := num) (row := row) (s2 := st 2) (j + 1) j (by omega); omega)
    have hdec : 16 - (nI (k + 1)).toNatClampNeg < 16 - (nI k).toNatClampNeg := by simp (disch := omega) only [z_cl]; omega
    have e1 : nI k + (1 : Int32) = nI (k + 1) := by rw [l1, z_add]
    refine m_climb hM hO hN hk6 ?_
    rw [e1]
    rcases (show w = 0 ∨ w = 1 ∨ w = 2 by omega) with rfl | rfl | rfl
    · refine ⟨fun c => absurd c (by decide), fun _ => ⟨fun c => absurd c (by decide), fun _ => ?_⟩⟩
      refine m_isHole hM hO hk6 ?_
      rw [bI_0]
      refine ⟨fun q => ⟨⟨k + 1, by omega, rfl, ?_⟩, hdec⟩, fun q => ⟨⟨k + 1, by omega, rfl, ?_⟩, hdec⟩⟩
      · show nI (cnt (holeS row) k) + nI 0 = nI (cnt (holeS row) (k + 1))
        rw [z_add, cnt, q]; rfl
      · show nI (cnt (holeS row) k) + nI 1 = nI (cnt (holeS row) (k + 1))
        rw [z_add, cnt, if_pos (eq_true_of_ne_false q)]
    · refine ⟨fun c => absurd c (by decide), fun _ => ⟨fun _ => ?_, fun c => absurd rfl c⟩⟩
      refine m_wordsIn hM hO hN hk6 ⟨⟨k + 1, by omega, rfl, ?_⟩, hdec⟩
      show nI (sumN (fun sc => wSum num (row sc) (row sc).length) k) + _ = nI (sumN (fun sc => wSum num (row sc) (row sc).length) (k + 1))
      rw [z_add]; rfl
    · refine ⟨fun _ => ?_, fun c => absurd rfl c⟩
      show (nI (clb num row (st 2) k) ≤ nI (mxN (clb num row (st 2)) k) → _) ∧ (¬ nI (clb num row (st 2) k) ≤ nI (mxN (clb num row (st 2)) k) → _)
      rw [z_le (by omega) (by omega)]
      refine ⟨fun q => ⟨⟨k + 1, by omega, rfl, ?_⟩, hdec⟩, fun q => ⟨⟨k + 1, by omega, rfl, ?_⟩, hdec⟩⟩
      · show nI (mxN (clb num row (st 2)) k) = nI (mxN (clb num row (st 2)) (k + 1))
        rw [mxN, if_neg (by omega)]
      · show nI (clb num row (st 2) k) = nI (mxN (clb num row (st 2)) (k + 1))
        rw [mxN, if_pos (by omega)]
theorem t_101 : (1120534528 : UInt32).toNat = 1120534528 := rfl
theorem cnt_none : ∀ k, spS num row k = none → cnt (full row) k = 0
  | 0, _ => rfl
  | k + 1, h => by
    unfold spS at h
    by_cases hf : full row k = true
    · rw [if_pos hf] at h
      cases hs : spS num row k with
      | none => rw [hs] at h; cases h
      | some p => rw [hs] at h; cases h
    · rw [if_neg hf] at h
      rw [cnt, cnt_none k h, if_neg hf]
theorem cnt_some {p : UInt32 × UInt32} : ∀ k, spS num row k = some p → 0 < cnt (full row) k := by
  intro k
  induction k generalizing p with
  | zero => intro h; cases h
  | succ k ih =>
    intro h
    by_cases hf : full row k = true
    · rw [cnt, if_pos hf]; omega
    · unfold spS at h
      rw [if_neg hf] at h
      have := ih h
      rw [cnt, if_neg hf]; omega
theorem m_spanBits {post : Int32 → Prop} (hM : RM n num row st s) (hO : rowOk n row) (hN : numOk n num) (h : post (match spS num row 16 with
    | none => nI 0
    | some (a, b) => nI (FP.fsub b a).toNat)) : wp_X9_spanBits s post := by
  unfold wp_X9_spanBits wp_X9_spanBits_l8
  refine lf3_i (fun x1 x2 x3 => ∃ k, k ≤ 16 ∧ x3 = nI k ∧ ((spS num row k = none ∧ x1 = 3212836864 ∧ x2 = 1120534528) ∨ spS num row k = some (x2, x1))) (fun _ _ x3 => 16 - x3.toNatClampNeg) ⟨0, by omega, rfl, Or.inl ⟨rfl, rfl, rfl⟩⟩ ?_
  rintro x1 x2 x3 ⟨k, hk, rfl, hc⟩
  refine ⟨fun hx => ?_, fun hx => ?_⟩
  · have hk6 : k = 16 := by simp (disch := omega) only [l16, z_le] at hx; omega
    subst hk6
    refine m_scenes hM hO ?_
    have hcl := cnt_le (full row) 16
    rw [l0, z_eq (by omega) (by omega)]
    rcases hc with ⟨h1, rfl, rfl⟩ | h1
    · rw [h1] at h
      exact ⟨fun _ => h, fun c => absurd (cnt_none 16 h1) c⟩
    · rw [h1] at h
      have ho := spS_ok hN hO 16 _ _ h1
      have hp := cnt_some 16 h1
      have hf := f_sub ho.2 (show x2.toNat ≤ 1120403456 by omega)
      refine ⟨fun c => absurd c (by omega), fun _ => ⟨hf.1, hf.1, ?_⟩⟩
      have hlt := hf.2 ho.1
      have e : (FP.fsub x1 x2).toInt32 = nI (FP.fsub x1 x2).toNat := by
        rw [← Int32.toInt_inj, z_toInt (by omega)]
        show (FP.fsub x1 x2).toBitVec.toInt = _
        rw [BitVec.toInt_eq_toNat_cond]
        have : (FP.fsub x1 x2).toBitVec.toNat = (FP.fsub x1 x2).toNat := rfl
        rw [this, if_pos (by omega)]
      rw [e]; exact h
  · have hk6 : k < 16 := by simp (disch := omega) only [l16, z_le] at hx; omega
    have h6 := hO.1 k
    have e1 : nI k + (1 : Int32) = nI (k + 1) := by rw [l1, z_add]
    have hdec : 16 - (nI (k + 1)).toNatClampNeg < 16 - (nI k).toNatClampNeg := by simp (disch := omega) only [z_cl]; omega
    refine m_row ⟨in_row hk6, ?_⟩
    rw [m_len hM hk6, l0, z_le (by omega) (by omega), e1]
    refine ⟨fun q => ⟨⟨k + 1, by omega, rfl, ?_⟩, hdec⟩, fun q => ?_⟩
    · have hf : ¬ full row k = true := fun e => by have := of_decide_eq_true e; omega
      unfold spS
      rw [if_neg hf]; exact hc
    · have h0 : 0 < (row k).length := by omega
      have hf : full row k = true := decide_eq_true h0
      have ht := tens_le hN (rowS_of hO k) h0
      refine m_tensionIn hM hO hN hk6 h0 ?_
      unfold wp_X9_spanBits_j46
      rw [e1]
      rcases hc with ⟨h1, rfl, rfl⟩ | h1
      · rw [fc_ge .g (by omega) (by rw [t_101]; decide), t_101]
        refine ⟨fun c => absurd c (fc_m1 .l (by omega)), fun _ => ⟨fun c => absurd c (by omega), fun _ => ⟨⟨k + 1, by omega, rfl, Or.inr ?_⟩, hdec⟩⟩⟩
        unfold spS; rw [if_pos hf, h1]
      · have ho := spS_ok hN hO k _ _ h1
        have es : spS num row (k + 1) = some (if (tens num (row k)).toNat < x2.toNat then tens num (row k) else x2, if x1.toNat < (tens num (row k)).toNat then tens num (row k) else x1) := by
          show (if full row k then _ else _) = _
          rw [if_pos hf, h1]
        have el : (Op.cmpValue (FP.fcmp (tens num (row k)) x1) .l ≤ nI 0) ↔ (tens num (row k)).toNat ≤ x1.toNat := fc_le .l (by omega) (by omega)
        rw [fc_ge .g (by omega) (by omega), el]
        refine ⟨fun q1 => ⟨fun q2 => ?_, fun q2 => ?_⟩, fun q1 => ⟨fun q2 => ?_, fun q2 => ?_⟩⟩
        · exact ⟨⟨k + 1, by omega, rfl, Or.inr (by rw [es, if_neg (by omega), if_neg (by omega)])⟩, hdec⟩
        · exact ⟨⟨k + 1, by omega, rfl, Or.inr (by rw [es, if_pos (by omega), if_neg (by omega)])⟩, hdec⟩
        · exact ⟨⟨k + 1, by omega, rfl, Or.inr (by rw [es, if_neg (by omega), if_pos (by omega)])⟩, hdec⟩
        · exact ⟨⟨k + 1, by omega, rfl, Or.inr (by rw [es, if_pos (by omega), if_pos (by omega)])⟩, hdec⟩
end
