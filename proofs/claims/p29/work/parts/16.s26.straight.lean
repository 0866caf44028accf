/-! the straight row: what a card more makes, the longest row, the order -/
def HR (num : Nat → Nat → Nat) (L : List (Nat × Nat)) (R : List Nat) (i : Nat) : Nat := num (cd L (R.getD i 0)) 1
def CR (L : List (Nat × Nat)) (R : List Nat) (i : Nat) : Nat := cd L (R.getD i 0)
def dltP (H : Nat → Nat) (m e h : Nat) : Nat := (if 0 < e ∧ h < H (e - 1) then 1 else 0) + (if e < m ∧ H e < h then 1 else 0)
def dltM (H : Nat → Nat) (m e : Nat) : Nat := if 0 < e ∧ e < m ∧ H e < H (e - 1) then 1 else 0
theorem dlt_le (H : Nat → Nat) (m e h : Nat) : dltM H m e ≤ dltP H m e h := by
  unfold dltM dltP
  by_cases h1 : 0 < e ∧ e < m ∧ H e < H (e - 1)
  · rw [if_pos h1]
    by_cases h2 : h < H (e - 1)
    · rw [if_pos ⟨h1.1, h2⟩]; omega
    · rw [if_pos (show e < m ∧ H e < h from ⟨h1.2.1, by omega⟩)]; omega
  · rw [if_neg h1]; omega
theorem dltP_le (H : Nat → Nat) (m e h : Nat) : dltP H m e h ≤ 2 := by
  unfold dltP
  split <;> split <;> omega
section
variable {num : Nat → Nat → Nat} {L : List (Nat × Nat)} {R : List Nat} {gz : Int32} {ra ca ho so : Nat → Int32}
/-- the numbers are small -/
def RGo (num : Nat → Nat → Nat) (L : List (Nat × Nat)) (R : List Nat) : Prop := L.length ≤ 40 ∧ R.length ≤ 40 ∧ (∀ i, i < R.length → R.getD i 0 < L.length ∧ HR num L R i ≤ 9999 ∧ CR L R i < 40 ∧ sl L (R.getD i 0) < 96) ∧ (∀ i j, i < j → j < R.length → R.getD i 0 < R.getD j 0) ∧ (∀ i j, i < R.length → j < R.length → CR L R i = CR L R j → i = j)
theorem RGo_flt {n t : Nat} (hD : RRd n num L) : RGo num L (flt (pS num L t) L.length) := by
  have hfl := flt_len (pS num L t) L.length
  refine ⟨hD.1.1, by have := hD.1.1; omega, fun i hi => ?_, flt_up _, fun i j hi hj he => ?_⟩
  · have ha := (flt_at hi).1
    have hb := hD.1.2.1 _ ha
    have := hD.2.2
    exact ⟨ha, (hD.2.1 _ hb.1).2.1, Nat.lt_of_lt_of_le hb.1 hD.2.2, hb.2⟩
  · have ha := (flt_at hi).1
    have hb := (flt_at hj).1
    have hc := hD.1.2.2.2 _ _ ha hb he
    rcases Nat.lt_trichotomy i j with q | q | q
    · have := flt_up _ _ _ q hj; omega
    · exact q
    · have := flt_up _ _ _ q hi; omega
theorem s_made {post : Int32 → Prop} {h r : Nat} (hO : RGo num L R) (hG : RG num L R gz ra ca ho so) (hh : h ≤ 9999) (hr : r ≤ 100)
    (hp : ∀ e, e ≤ R.length → (∀ i, i < e → R.getD i 0 < r) → (∀ i, e ≤ i → i < R.length → r ≤ R.getD i 0) → post (nI (dltP (HR num L R) R.length e h - dltM (HR num L R) R.length e))) : wp_X5_breaksMadeBy (nI h) (nI r) gz ra ho post := by
  have hl := hO.1
  have hR := hO.2.1
  obtain ⟨rfl, hg⟩ := hG
  unfold wp_X5_breaksMadeBy wp_X5_breaksMadeBy_l2
  have fin : ∀ e, e ≤ R.length → (∀ i, i < e → R.getD i 0 < r) → (∀ i, e ≤ i → i < R.length → r ≤ R.getD i 0) → wp_X5_breaksMadeBy_j29 (nI h) (nI e) (nI R.length) ra ho post := by
    intro e he h1 h2
    have hpp := hp e he h1 h2
    unfold dltP dltM at hpp
    unfold wp_X5_breaksMadeBy_j29 wp_X5_breaksMadeBy_j38 wp_X5_breaksMadeBy_j53 wp_X5_breaksMadeBy_j96 wp_X5_breaksMadeBy_j110
    have em : (-1 : Int32) = -nI 1 := rfl
    rw [em]
    have hN : ∀ {x : Int32} {c : Prop}, (x = x → c) → (¬ x = x → c) → c := fun a _ => a rfl
    by_cases he0 : e = 0
    · subst he0
      by_cases hm : R.length = 0
      · have hv : ∀ {x : Int32} {po : Int32 → Prop}, po (-nI 5) → wp_X5_valueAt x (nI 0) ho po := by
          intro x po q
          refine s_val5_no ?_ q
          rcases z_cases x 1 (by omega) with c | c | ⟨c, hc, rfl⟩
          · exact Or.inl c
          · exact Or.inr (Int32.le_trans (show nI 0 ≤ nI 1 by decide) c.2)
          · exact Or.inr (by rw [z_le (by omega) (by omega)]; omega)
        simp (disch := omega) only [l0, l1, l2, l3, l4, l5, l6, l7, l8, l9, l10, l11, l12, l13, l14, l15, l16, l23, l31, l40, l42, l44, l48, l49, l57, l59, l60, l65, l70, l96, l100, l101, l127, l200, l204, l254, l316, l948, l999, l1000, l9999, z_le, z_lt, z_eq, z_en, z_ne, z_nn, z_ltn, z_nlt, z_len, z_nle, z_add, z_mul, z_sub, z_div, z_cl, z_in, z_addn, z_no, z_yes, not_true_eq_false, not_false_eq_true, false_implies, true_implies, true_and, and_true, forall_const, hm]
        refine hv ?_
        refine hv ?_
        rw [if_neg (by omega), if_neg (by omega), if_neg (by omega)] at hpp
        exact hpp
      · simp (disch := omega) only [l0, l1, l2, l3, l4, l5, l6, l7, l8, l9, l10, l11, l12, l13, l14, l15, l16, l23, l31, l40, l42, l44, l48, l49, l57, l59, l60, l65, l70, l96, l100, l101, l127, l200, l204, l254, l316, l948, l999, l1000, l9999, z_le, z_lt, z_eq, z_en, z_ne, z_nn, z_ltn, z_nlt, z_len, z_nle, z_add, z_mul, z_sub, z_div, z_cl, z_in, z_addn, z_no, z_yes, not_true_eq_false, not_false_eq_true, false_implies, true_implies, true_and, and_true, forall_const]
        refine s_val5_no (Or.inl (by decide)) ?_
        refine s_val5 hR (by omega) ?_
        have h3 := (hg 0 (by omega)).2.2.1
        have h4 := (hO.2.2.1 0 (by omega)).2.1
        rw [h3]
        show (nI h ≤ nI (HR num L R 0) → _) ∧ (¬ nI h ≤ nI (HR num L R 0) → _)
        rw [z_le (by omega) (by omega)]
        rw [if_neg (by omega), if_neg (show ¬ (0 < 0 ∧ 0 < R.length ∧ HR num L R 0 < HR num L R (0 - 1)) by omega)] at hpp
        refine ⟨fun q => ?_, fun q => ?_⟩
        · rw [if_neg (by omega)] at hpp; exact hpp
        · rw [if_pos ⟨by omega, by omega⟩] at hpp; exact hpp
    · by_cases hm : R.length = e
      · simp (disch := omega) only [l0, l1, l2, l3, l4, l5, l6, l7, l8, l9, l10, l11, l12, l13, l14, l15, l16, l23, l31, l40, l42, l44, l48, l49, l57, l59, l60, l65, l70, l96, l100, l101, l127, l200, l204, l254, l316, l948, l999, l1000, l9999, z_le, z_lt, z_eq, z_en, z_ne, z_nn, z_ltn, z_nlt, z_len, z_nle, z_add, z_mul, z_sub, z_div, z_cl, z_in, z_addn, z_no, z_yes, not_true_eq_false, not_false_eq_true, false_implies, true_implies, true_and, and_true, forall_const]
        refine s_val5 hR (show e - 1 < R.length by omega) ?_
        refine s_val5_no (Or.inr (by rw [z_le (by omega) (by omega)]; omega)) ?_
        have h3 := (hg (e - 1) (by omega)).2.2.1
        have h4 := (hO.2.2.1 (e - 1) (by omega)).2.1
        rw [h3]
        show (nI (HR num L R (e - 1)) ≤ nI h → _) ∧ (¬ nI (HR num L R (e - 1)) ≤ nI h → _)
        rw [z_le (by omega) (by omega)]
        rw [if_neg (show ¬ (e < R.length ∧ HR num L R e < h) by omega), if_neg (show ¬ (0 < e ∧ e < R.length ∧ HR num L R e < HR num L R (e - 1)) by omega)] at hpp
        refine ⟨fun q => ?_, fun q => ?_⟩
        · rw [if_neg (by omega)] at hpp; exact hpp
        · rw [if_pos ⟨by omega, by omega⟩] at hpp; exact hpp
      · simp (disch := omega) only [l0, l1, l2, l3, l4, l5, l6, l7, l8, l9, l10, l11, l12, l13, l14, l15, l16, l23, l31, l40, l42, l44, l48, l49, l57, l59, l60, l65, l70, l96, l100, l101, l127, l200, l204, l254, l316, l948, l999, l1000, l9999, z_le, z_lt, z_eq, z_en, z_ne, z_nn, z_ltn, z_nlt, z_len, z_nle, z_add, z_mul, z_sub, z_div, z_cl, z_in, z_addn, z_no, z_yes, not_true_eq_false, not_false_eq_true, false_implies, true_implies, true_and, and_true, forall_const]
        refine s_val5 hR (show e - 1 < R.length by omega) ?_
        refine s_val5 hR (show e < R.length by omega) ?_
        have h3 := (hg (e - 1) (by omega)).2.2.1
        have h4 := (hO.2.2.1 (e - 1) (by omega)).2.1
        have h5 := (hg e (by omega)).2.2.1
        have h6 := (hO.2.2.1 e (by omega)).2.1
        rw [h3, h5]
        have e3 : num (cd L (R.getD (e - 1) 0)) 1 = HR num L R (e - 1) := rfl
        have e5 : num (cd L (R.getD e 0)) 1 = HR num L R e := rfl
        rw [e3, e5]
        rw [z_le (by omega) (by omega), z_le (by omega) (by omega), z_le (by omega) (by omega)]
        have c1 : ((if 0 < e ∧ h < HR num L R (e - 1) then 1 else 0) : Nat) = if HR num L R (e - 1) ≤ h then 0 else 1 := by split <;> split <;> omega
        have c2 : ((if e < R.length ∧ HR num L R e < h then 1 else 0) : Nat) = if h ≤ HR num L R e then 0 else 1 := by split <;> split <;> omega
        have c3 : ((if 0 < e ∧ e < R.length ∧ HR num L R e < HR num L R (e - 1) then 1 else 0) : Nat) = if HR num L R (e - 1) ≤ HR num L R e then 0 else 1 := by split <;> split <;> omega
        rw [c1, c2, c3] at hpp
        refine ⟨fun q => ?_, fun q => ?_⟩ <;> refine ⟨fun q2 => ?_, fun q2 => ?_⟩ <;> refine ⟨fun q3 => ?_, fun q3 => ?_⟩ <;> simp (disch := omega) only [q, q2, q3, if_true, if_false] at hpp <;> first | exact hpp | (exfalso; omega) | (rw [z_addn (by omega)]; exact hpp)
  refine lf1_i (fun x3 => ∃ e, e ≤ R.length ∧ x3 = nI e ∧ ∀ i, i < e → R.getD i 0 < r) (fun x3 => R.length - x3.toNatClampNeg) ⟨0, by omega, rfl, fun i hi => absurd hi (Nat.not_lt_zero _)⟩ ?_
  rintro x3 ⟨e, he, rfl, h1⟩
  refine ⟨fun hx => ?_, fun hx => ?_⟩
  · have hen : e = R.length := by simp (disch := omega) only [z_le] at hx; omega
    exact fin e he h1 (fun i h2 h3 => absurd h3 (by omega))
  · have hen : e < R.length := by simp (disch := omega) only [z_le] at hx; omega
    refine s_val5 hR hen ?_
    have h3 := (hg e hen).1
    have h4 := (hO.2.2.1 e hen).1
    rw [h3, z_le (by omega) (by omega)]
    refine ⟨fun q => fin e he h1 (fun i h2 h3 => ?_), fun q => ?_⟩
    · rcases Nat.lt_or_ge e i with c | c
      · have := hO.2.2.2.1 e i c h3; omega
      · rw [show i = e by omega]; exact q
    · rw [l1, z_add]
      refine ⟨⟨e + 1, by omega, rfl, fun i hi => ?_⟩, by simp (disch := omega) only [z_cl]; omega⟩
      rcases Nat.lt_or_ge i e with c | c
      · exact h1 i c
      · rw [show i = e by omega]; omega
/-- the longest rows -/
def mxB (H T : Nat → Nat) (k : Nat) : Nat → Nat
  | 0 => 0
  | m + 1 => if H m ≤ H k then (if mxB H T k m < T m then T m else mxB H T k m) else mxB H T k m
def lonT (H : Nat → Nat) : Nat → Nat → Nat
  | 0 => fun _ => 0
  | k + 1 => fun j => if j = k then mxB H (lonT H k) k k + 1 else lonT H k j
def bst (H : Nat → Nat) : Nat → Nat
  | 0 => 0
  | k + 1 => if bst H k < mxB H (lonT H k) k k + 1 then mxB H (lonT H k) k k + 1 else bst H k
theorem mxB_le {H T : Nat → Nat} {k b : Nat} : ∀ m, (∀ j, j < m → T j ≤ b) → mxB H T k m ≤ b
  | 0, _ => Nat.zero_le _
  | m + 1, h => by
    have ih := mxB_le (H := H) (k := k) m (fun j hj => h j (by omega))
    have := h m (by omega)
    unfold mxB
    split
    · split <;> omega
    · omega
theorem lonT_s {H : Nat → Nat} {k j : Nat} : lonT H (k + 1) j = if j = k then mxB H (lonT H k) k k + 1 else lonT H k j := rfl
theorem bst_s {H : Nat → Nat} {k : Nat} : bst H (k + 1) = if bst H k < mxB H (lonT H k) k k + 1 then mxB H (lonT H k) k k + 1 else bst H k := rfl
theorem lonT_le (H : Nat → Nat) : ∀ k j, lonT H k j ≤ k
  | 0, _ => Nat.le_refl _
  | k + 1, j => by
    have ih := lonT_le H k
    unfold lonT
    show (if j = k then _ else _) ≤ k + 1
    split
    · have := mxB_le (H := H) (T := lonT H k) (k := k) (b := k) k (fun j _ => ih j); omega
    · have := ih j; omega
theorem bst_le (H : Nat → Nat) : ∀ k, bst H k ≤ k
  | 0 => Nat.le_refl _
  | k + 1 => by
    have ih := bst_le H k
    have := mxB_le (H := H) (T := lonT H k) (k := k) (b := k) k (fun j _ => lonT_le H k j)
    unfold bst
    split <;> omega
theorem s_fewest {post : Int32 → (Nat → Int32) → Prop} {lo : Nat → Int32} (hO : RGo num L R) (hG : RG num L R gz ra ca ho so) (hp : ∀ lo', post (nI (R.length - bst (HR num L R) R.length)) lo') : wp_X5_fewestMoves gz ho lo post := by
  have hR := hO.2.1
  obtain ⟨rfl, hg⟩ := hG
  unfold wp_X5_fewestMoves wp_X5_fewestMoves_l4
  refine lf3_i (fun x1 x2 lo => ∃ k, k ≤ R.length ∧ x2 = nI k ∧ x1 = nI (bst (HR num L R) k) ∧ ∀ j, j < k → lo j = nI (lonT (HR num L R) k j)) (fun _ x2 _ => R.length - x2.toNatClampNeg) ⟨0, by omega, rfl, rfl, fun j hj => absurd hj (Nat.not_lt_zero _)⟩ ?_
  rintro x1 x2 lo ⟨k, hk, rfl, rfl, hlo⟩
  have hb := bst_le (HR num L R) k
  refine ⟨fun hx => ?_, fun hx => ?_⟩
  · have hkn : k = R.length := by simp (disch := omega) only [z_le] at hx; omega
    subst hkn
    rw [z_sub hb]; exact hp lo
  · have hkn : k < R.length := by simp (disch := omega) only [z_le] at hx; omega
    refine ⟨fun q => absurd q (by rw [l40, z_le (by omega) (by omega)]; omega), fun _ => ?_⟩
    unfold wp_X5_fewestMoves_l23
    refine lf2_i (fun x3 x4 => ∃ m, m ≤ k ∧ x4 = nI m ∧ x3 = nI (mxB (HR num L R) (lonT (HR num L R) k) k m)) (fun _ x4 => k - x4.toNatClampNeg) ⟨0, by omega, rfl, rfl⟩ ?_
    rintro x3 x4 ⟨m, hm, rfl, rfl⟩
    have hmx := mxB_le (H := HR num L R) (T := lonT (HR num L R) k) (k := k) (b := k) m (fun j _ => lonT_le _ k j)
    refine ⟨fun hx => ?_, fun hx => ?_⟩
    · have hmk : m = k := by simp (disch := omega) only [z_le] at hx; omega
      subst hmk
      simp (disch := omega) only [l0, l1, l2, l3, l4, l5, l6, l7, l8, l9, l10, l11, l12, l13, l14, l15, l16, l23, l31, l40, l42, l44, l48, l49, l57, l59, l60, l65, l70, l96, l100, l101, l127, l200, l204, l254, l316, l948, l999, l1000, l9999, z_le, z_lt, z_eq, z_en, z_ne, z_nn, z_ltn, z_nlt, z_len, z_nle, z_add, z_mul, z_sub, z_div, z_cl, z_in, z_addn, z_no, z_yes, not_true_eq_false, not_false_eq_true, false_implies, true_implies, true_and, and_true, forall_const, z_up_s]
      refine ⟨by omega, by omega, ⟨m + 1, by omega, rfl, ?_, fun j hj => ?_⟩, by omega⟩
      · rw [bst_s]
        by_cases hq : bst (HR num L R) m < mxB (HR num L R) (lonT (HR num L R) m) m m + 1
        · rw [if_pos hq, if_pos hq]
        · rw [if_neg hq, if_neg hq]
      · rw [z_up]
        rw [lonT_s]
        by_cases he : j = m
        · subst he; rw [if_pos rfl, if_pos rfl]
        · rw [if_neg he, if_neg he]; exact hlo j (by omega)
    · have hmk : m < k := by simp (disch := omega) only [z_le] at hx; omega
      have h3 := (hg k (by omega)).2.2.1
      have h4 := (hO.2.2.1 k (by omega)).2.1
      have h5 := (hg m (by omega)).2.2.1
      have h6 := (hO.2.2.1 m (by omega)).2.1
      have e3 : num (cd L (R.getD k 0)) 1 = HR num L R k := rfl
      have e5 : num (cd L (R.getD m 0)) 1 = HR num L R m := rfl
      have h7 := lonT_le (HR num L R) k m
      rw [z_cl (by omega), z_cl (by omega), h3, h5, e3, e5, hlo m hmk]
      simp (disch := omega) only [l0, l1, l2, l3, l4, l5, l6, l7, l8, l9, l10, l11, l12, l13, l14, l15, l16, l23, l31, l40, l42, l44, l48, l49, l57, l59, l60, l65, l70, l96, l100, l101, l127, l200, l204, l254, l316, l948, l999, l1000, l9999, z_le, z_lt, z_eq, z_en, z_ne, z_nn, z_ltn, z_nlt, z_len, z_nle, z_add, z_mul, z_sub, z_div, z_cl, z_in, z_addn, z_no, z_yes, not_true_eq_false, not_false_eq_true, false_implies, true_implies, true_and, and_true, forall_const]
      refine ⟨by omega, by omega, fun q => ⟨⟨m + 1, by omega, rfl, ?_⟩, by omega⟩, fun q => ⟨by omega, ⟨m + 1, by omega, rfl, ?_⟩, by omega⟩⟩
      · rw [mxB, if_neg (show ¬ HR num L R m ≤ HR num L R k by omega)]
      · rw [mxB, if_pos (show HR num L R m ≤ HR num L R k by omega)]
        by_cases hq : mxB (HR num L R) (lonT (HR num L R) k) k m < lonT (HR num L R) k m
        · rw [if_pos hq, if_pos hq]
        · rw [if_neg hq, if_neg hq]
end
