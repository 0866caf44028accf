/-! the wall of the class -/
theorem RW_at {row : Nat → List Nat} {g : Nat → Int32} (hW : RW row g) {t : Nat} (ht : t < 96) : g t = slotv (row (t / 6)) (t % 6) := by
  have h := hW (t / 6) (by omega) (t % 6) (by omega)
  rw [show t / 6 * 6 + t % 6 = t by omega] at h
  exact h
theorem slotv_cases (L : List Nat) (p : Nat) : (∃ c, L[p]? = some c ∧ slotv L p = nI c ∧ c ∈ L ∧ p < L.length) ∨ (L[p]? = none ∧ slotv L p = -nI 5 ∧ L.length ≤ p) := by
  unfold slotv
  cases h : L[p]? with
  | none => exact Or.inr ⟨rfl, rfl, List.getElem?_eq_none_iff.mp h⟩
  | some c => exact Or.inl ⟨c, rfl, rfl, List.mem_of_getElem? h, (List.getElem?_eq_some_iff.mp h).1⟩
theorem s_cardAt {g : Nat → Int32} {post : Int32 → Prop} {t : Nat} (ht : t < 96) (h : post (g t)) : wp_X7_cardAt (nI t) g post := by
  unfold wp_X7_cardAt
  simp (disch := omega) only [l0, l1, l2, l3, l4, l5, l6, l7, l8, l9, l10, l11, l12, l13, l14, l15, l16, l23, l31, l40, l42, l44, l48, l49, l57, l59, l60, l65, l70, l96, l100, l101, l127, l200, l204, l254, l316, l948, l999, l1000, l9999, z_le, z_lt, z_eq, z_en, z_ne, z_nn, z_ltn, z_nlt, z_len, z_nle, z_add, z_mul, z_sub, z_div, z_cl, z_in, z_addn, z_no, z_yes, not_true_eq_false, not_false_eq_true, false_implies, true_implies, true_and, and_true, forall_const]
  exact ⟨ht, h⟩
theorem s_put7 {g : Nat → Int32} {post : (Nat → Int32) → Prop} {t : Nat} {v : Int32} (ht : t < 96) (h : post (upd g t v)) : wp_X7_put (nI t) v g post := by
  unfold wp_X7_put
  simp (disch := omega) only [l0, l1, l2, l3, l4, l5, l6, l7, l8, l9, l10, l11, l12, l13, l14, l15, l16, l23, l31, l40, l42, l44, l48, l49, l57, l59, l60, l65, l70, l96, l100, l101, l127, l200, l204, l254, l316, l948, l999, l1000, l9999, z_le, z_lt, z_eq, z_en, z_ne, z_nn, z_ltn, z_nlt, z_len, z_nle, z_add, z_mul, z_sub, z_div, z_cl, z_in, z_addn, z_no, z_yes, not_true_eq_false, not_false_eq_true, false_implies, true_implies, true_and, and_true, forall_const]
  exact ⟨ht, h⟩
theorem s_cardIn {row : Nat → List Nat} {g : Nat → Int32} {post : Int32 → Prop} {sc p : Nat} (hW : RW row g) (hs : sc < 16) (hp : p < 6) (h : post (slotv (row sc) p)) : wp_X7_cardIn (nI sc) (nI p) g post := by
  unfold wp_X7_cardIn wp_X8_isScene wp_X8_slot
  simp (disch := omega) only [l0, l1, l2, l3, l4, l5, l6, l7, l8, l9, l10, l11, l12, l13, l14, l15, l16, l23, l31, l40, l42, l44, l48, l49, l57, l59, l60, l65, l70, l96, l100, l101, l127, l200, l204, l254, l316, l948, l999, l1000, l9999, z_le, z_lt, z_eq, z_en, z_ne, z_nn, z_ltn, z_nlt, z_len, z_nle, z_add, z_mul, z_sub, z_div, z_cl, z_in, z_addn, z_no, z_yes, not_true_eq_false, not_false_eq_true, false_implies, true_implies, true_and, and_true, forall_const]
  refine s_cardAt (by omega) ?_
  rw [hW sc hs p hp]; exact h
theorem s_sizeOf {n : Nat} {row : Nat → List Nat} {g : Nat → Int32} {post : Int32 → Prop} {sc : Nat} (hW : RW row g) (hO : rowOk n row) (hs : sc < 16) (h : post (nI (row sc).length)) : wp_X7_sizeOf (nI sc) g post := by
  have h6 := hO.1 sc
  unfold wp_X7_sizeOf wp_X7_sizeOf_l4
  refine lf2_i (fun x2 x3 => ∃ p, p ≤ 6 ∧ x3 = nI p ∧ x2 = nI (min p (row sc).length)) (fun _ x3 => 6 - x3.toNatClampNeg) ⟨0, by omega, rfl, by simp; rfl⟩ ?_
  rintro x2 x3 ⟨p, hp, rfl, rfl⟩
  refine ⟨fun hc => ?_, fun hc => ?_⟩
  · have hp6 : 6 ≤ p := by simp (disch := omega) only [l6, z_le] at hc; exact hc
    rw [show min p (row sc).length = (row sc).length by omega]; exact h
  · have hp6 : p < 6 := by simp (disch := omega) only [l6, z_le] at hc; omega
    refine s_cardIn hW hs hp6 ?_
    rcases slotv_cases (row sc) p with ⟨c, h1, h2, h3, h4⟩ | ⟨h1, h2, h4⟩
    · have hcn : c < n := hO.2.1 sc c h3
      have hn : n ≤ 40 := hO.2.2.2
      rw [h2]
      simp (disch := omega) only [l0, l1, l2, l3, l4, l5, l6, l7, l8, l9, l10, l11, l12, l13, l14, l15, l16, l23, l31, l40, l42, l44, l48, l49, l57, l59, l60, l65, l70, l96, l100, l101, l127, l200, l204, l254, l316, l948, l999, l1000, l9999, z_le, z_lt, z_eq, z_en, z_ne, z_nn, z_ltn, z_nlt, z_len, z_nle, z_add, z_mul, z_sub, z_div, z_cl, z_in, z_addn, z_no, z_yes, not_true_eq_false, not_false_eq_true, false_implies, true_implies, true_and, and_true, forall_const]
      exact ⟨⟨p + 1, by omega, rfl, by omega⟩, by omega⟩
    · rw [h2]
      simp (disch := omega) only [l0, l1, l2, l3, l4, l5, l6, l7, l8, l9, l10, l11, l12, l13, l14, l15, l16, l23, l31, l40, l42, l44, l48, l49, l57, l59, l60, l65, l70, l96, l100, l101, l127, l200, l204, l254, l316, l948, l999, l1000, l9999, z_le, z_lt, z_eq, z_en, z_ne, z_nn, z_ltn, z_nlt, z_len, z_nle, z_add, z_mul, z_sub, z_div, z_cl, z_in, z_addn, z_no, z_yes, not_true_eq_false, not_false_eq_true, false_implies, true_implies, true_and, and_true, forall_const]
      exact ⟨⟨p + 1, by omega, rfl, by omega⟩, by omega⟩
/-- the cards of the slots below t, with their slots -/
def pre (row : Nat → List Nat) : Nat → List (Nat × Nat)
  | 0 => []
  | t + 1 => pre row t ++ (match (row (t / 6))[t % 6]? with
    | some c => [(c, t)]
    | none => [])
theorem pre_some {row : Nat → List Nat} {t c : Nat} (h : (row (t / 6))[t % 6]? = some c) : pre row (t + 1) = pre row t ++ [(c, t)] := by
  show pre row t ++ (match (row (t / 6))[t % 6]? with
    | some c => [(c, t)]
    | none => []) = _
  rw [h]
theorem pre_none {row : Nat → List Nat} {t : Nat} (h : (row (t / 6))[t % 6]? = none) : pre row (t + 1) = pre row t := by
  show pre row t ++ (match (row (t / 6))[t % 6]? with
    | some c => [(c, t)]
    | none => []) = _
  rw [h]; exact List.append_nil _
theorem pre_len (row : Nat → List Nat) : ∀ t, (pre row t).length ≤ t
  | 0 => Nat.le_refl _
  | t + 1 => by
    have h := pre_len row t
    cases h2 : (row (t / 6))[t % 6]? with
    | none => rw [pre_none h2]; omega
    | some c => rw [pre_some h2, List.length_append]; simp; omega
theorem s_ahead {n : Nat} {row : Nat → List Nat} {g : Nat → Int32} {post : Int32 → Prop} {t : Nat} (hW : RW row g) (hO : rowOk n row) (ht : t ≤ 96) (h : post (nI (pre row t).length)) : wp_X7_cardsAheadOf (nI t) g post := by
  unfold wp_X7_cardsAheadOf wp_X7_cardsAheadOf_l4
  refine lf2_i (fun x2 x3 => ∃ p, p ≤ t ∧ x3 = nI p ∧ x2 = nI (pre row p).length) (fun _ x3 => t - x3.toNatClampNeg) ⟨0, by omega, rfl, rfl⟩ ?_
  rintro x2 x3 ⟨p, hp, rfl, rfl⟩
  have hl := pre_len row p
  refine ⟨fun hc => ?_, fun hc => ?_⟩
  · have hp6 : t ≤ p := by simp (disch := omega) only [z_le] at hc; exact hc
    rw [show p = t by omega]; exact h
  · have hp6 : p < t := by simp (disch := omega) only [z_le] at hc; omega
    simp (disch := omega) only [l0, l1, l2, l3, l4, l5, l6, l7, l8, l9, l10, l11, l12, l13, l14, l15, l16, l23, l31, l40, l42, l44, l48, l49, l57, l59, l60, l65, l70, l96, l100, l101, l127, l200, l204, l254, l316, l948, l999, l1000, l9999, z_le, z_lt, z_eq, z_en, z_ne, z_nn, z_ltn, z_nlt, z_len, z_nle, z_add, z_mul, z_sub, z_div, z_cl, z_in, z_addn, z_no, z_yes, not_true_eq_false, not_false_eq_true, false_implies, true_implies, true_and, and_true, forall_const]
    refine s_cardAt (by omega) ?_
    rw [RW_at hW (by omega)]
    rcases slotv_cases (row (p / 6)) (p % 6) with ⟨c, h1, h2, h3, h4⟩ | ⟨h1, h2, h4⟩
    · have hcn : c < n := hO.2.1 _ c h3
      have hn : n ≤ 40 := hO.2.2.2
      rw [h2]
      simp (disch := omega) only [l0, l1, l2, l3, l4, l5, l6, l7, l8, l9, l10, l11, l12, l13, l14, l15, l16, l23, l31, l40, l42, l44, l48, l49, l57, l59, l60, l65, l70, l96, l100, l101, l127, l200, l204, l254, l316, l948, l999, l1000, l9999, z_le, z_lt, z_eq, z_en, z_ne, z_nn, z_ltn, z_nlt, z_len, z_nle, z_add, z_mul, z_sub, z_div, z_cl, z_in, z_addn, z_no, z_yes, not_true_eq_false, not_false_eq_true, false_implies, true_implies, true_and, and_true, forall_const]
      exact ⟨⟨p + 1, by omega, rfl, by rw [pre_some h1, List.length_append]; rfl⟩, by omega⟩
    · rw [h2]
      simp (disch := omega) only [l0, l1, l2, l3, l4, l5, l6, l7, l8, l9, l10, l11, l12, l13, l14, l15, l16, l23, l31, l40, l42, l44, l48, l49, l57, l59, l60, l65, l70, l96, l100, l101, l127, l200, l204, l254, l316, l948, l999, l1000, l9999, z_le, z_lt, z_eq, z_en, z_ne, z_nn, z_ltn, z_nlt, z_len, z_nle, z_add, z_mul, z_sub, z_div, z_cl, z_in, z_addn, z_no, z_yes, not_true_eq_false, not_false_eq_true, false_implies, true_implies, true_and, and_true, forall_const]
      exact ⟨⟨p + 1, by omega, rfl, by rw [pre_none h1]⟩, by omega⟩
theorem s_cards7 {n : Nat} {row : Nat → List Nat} {g : Nat → Int32} {post : Int32 → Prop} (hW : RW row g) (hO : rowOk n row) (h : post (nI (pre row 96).length)) : wp_X7_cards g post := by
  unfold wp_X7_cards
  exact s_ahead (t := 96) hW hO (by omega) h
/-- no card twice -/
theorem pre_mem (row : Nat → List Nat) {c s : Nat} : ∀ t, (c, s) ∈ pre row t ↔ s < t ∧ (row (s / 6))[s % 6]? = some c
  | 0 => by simp [pre]
  | t + 1 => by
    have ih := pre_mem row (c := c) (s := s) t
    cases h2 : (row (t / 6))[t % 6]? with
    | none =>
      rw [pre_none h2, ih]
      constructor
      · rintro ⟨a, b⟩; exact ⟨by omega, b⟩
      · rintro ⟨a, b⟩
        refine ⟨?_, b⟩
        rcases Nat.lt_or_ge s t with q | q
        · exact q
        · rw [show s = t by omega, h2] at b; cases b
    | some d =>
      rw [pre_some h2, List.mem_append, ih]
      constructor
      · rintro (⟨a, b⟩ | a)
        · exact ⟨by omega, b⟩
        · have e := List.mem_singleton.mp a
          cases e
          exact ⟨by omega, h2⟩
      · rintro ⟨a, b⟩
        rcases Nat.lt_or_ge s t with q | q
        · exact Or.inl ⟨q, b⟩
        · have e : s = t := by omega
          subst e
          rw [h2] at b; cases b
          exact Or.inr (List.mem_singleton.mpr rfl)
theorem s_slotOf {n : Nat} {row : Nat → List Nat} {g : Nat → Int32} {post : Int32 → Prop} {c s : Nat} (hW : RW row g) (hO : rowOk n row) (hc : c < n) (hs : s < 96) (hat : (row (s / 6))[s % 6]? = some c) (huniq : ∀ t, t < 96 → (row (t / 6))[t % 6]? = some c → t = s) (h : post (nI s)) : wp_X7_slotOf (nI c) g post := by
  have hn : n ≤ 40 := hO.2.2.2
  unfold wp_X7_slotOf wp_X7_slotOf_l2
  refine lf1_i (fun x2 => ∃ p, p ≤ s ∧ x2 = nI p) (fun x2 => 96 - x2.toNatClampNeg) ⟨0, by omega, rfl⟩ ?_
  rintro x2 ⟨p, hp, rfl⟩
  have hp96 : ¬ (96 : Int32) ≤ nI p := by rw [l96, z_le (by omega) (by omega)]; omega
  refine ⟨fun hc => absurd hc hp96, fun _ => ?_⟩
  refine s_cardAt (by omega) ?_
  rw [RW_at hW (by omega)]
  rcases slotv_cases (row (p / 6)) (p % 6) with ⟨d, h1, h2, h3, h4⟩ | ⟨h1, h2, h4⟩
  · have hcn : d < n := hO.2.1 _ d h3
    rw [h2]
    refine ⟨fun he => ?_, fun he => ?_⟩
    · have e : d = c := by simp (disch := omega) only [z_eq] at he; exact he
      subst e
      rw [huniq p (by omega) h1]; exact h
    · have e : ¬ d = c := by simp (disch := omega) only [z_eq] at he; exact he
      have hps : p ≠ s := by rintro rfl; rw [hat] at h1; cases h1; exact e rfl
      simp (disch := omega) only [l0, l1, l2, l3, l4, l5, l6, l7, l8, l9, l10, l11, l12, l13, l14, l15, l16, l23, l31, l40, l42, l44, l48, l49, l57, l59, l60, l65, l70, l96, l100, l101, l127, l200, l204, l254, l316, l948, l999, l1000, l9999, z_le, z_lt, z_eq, z_en, z_ne, z_nn, z_ltn, z_nlt, z_len, z_nle, z_add, z_mul, z_sub, z_div, z_cl, z_in, z_addn, z_no, z_yes, not_true_eq_false, not_false_eq_true, false_implies, true_implies, true_and, and_true, forall_const]
      exact ⟨⟨p + 1, by omega, rfl⟩, by omega⟩
  · rw [h2]
    have hps : p ≠ s := by rintro rfl; rw [hat] at h1; cases h1
    simp (disch := omega) only [l0, l1, l2, l3, l4, l5, l6, l7, l8, l9, l10, l11, l12, l13, l14, l15, l16, l23, l31, l40, l42, l44, l48, l49, l57, l59, l60, l65, l70, l96, l100, l101, l127, l200, l204, l254, l316, l948, l999, l1000, l9999, z_le, z_lt, z_eq, z_en, z_ne, z_nn, z_ltn, z_nlt, z_len, z_nle, z_add, z_mul, z_sub, z_div, z_cl, z_in, z_addn, z_no, z_yes, not_true_eq_false, not_false_eq_true, false_implies, true_implies, true_and, and_true, forall_const]
    exact ⟨⟨p + 1, by omega, rfl⟩, by omega⟩
theorem s_slotOf_no {n : Nat} {row : Nat → List Nat} {g : Nat → Int32} {post : Int32 → Prop} {c : Nat} (hW : RW row g) (hO : rowOk n row) (hc : c < n) (hno : ∀ t, t < 96 → ¬ (row (t / 6))[t % 6]? = some c) (h : post (-nI 5)) : wp_X7_slotOf (nI c) g post := by
  have hn : n ≤ 40 := hO.2.2.2
  unfold wp_X7_slotOf wp_X7_slotOf_l2
  refine lf1_i (fun x2 => ∃ p, p ≤ 96 ∧ x2 = nI p) (fun x2 => 96 - x2.toNatClampNeg) ⟨0, by omega, rfl⟩ ?_
  rintro x2 ⟨p, hp, rfl⟩
  refine ⟨fun _ => h, fun hc96 => ?_⟩
  have hp6 : p < 96 := by simp (disch := omega) only [l96, z_le] at hc96; omega
  refine s_cardAt (by omega) ?_
  rw [RW_at hW (by omega)]
  rcases slotv_cases (row (p / 6)) (p % 6) with ⟨d, h1, h2, h3, h4⟩ | ⟨h1, h2, h4⟩
  · have hcn : d < n := hO.2.1 _ d h3
    rw [h2]
    have e : ¬ d = c := by rintro rfl; exact hno p hp6 h1
    simp (disch := omega) only [l0, l1, l2, l3, l4, l5, l6, l7, l8, l9, l10, l11, l12, l13, l14, l15, l16, l23, l31, l40, l42, l44, l48, l49, l57, l59, l60, l65, l70, l96, l100, l101, l127, l200, l204, l254, l316, l948, l999, l1000, l9999, z_le, z_lt, z_eq, z_en, z_ne, z_nn, z_ltn, z_nlt, z_len, z_nle, z_add, z_mul, z_sub, z_div, z_cl, z_in, z_addn, z_no, z_yes, not_true_eq_false, not_false_eq_true, false_implies, true_implies, true_and, and_true, forall_const]
    exact ⟨⟨p + 1, by omega, rfl⟩, by omega⟩
  · rw [h2]
    simp (disch := omega) only [l0, l1, l2, l3, l4, l5, l6, l7, l8, l9, l10, l11, l12, l13, l14, l15, l16, l23, l31, l40, l42, l44, l48, l49, l57, l59, l60, l65, l70, l96, l100, l101, l127, l200, l204, l254, l316, l948, l999, l1000, l9999, z_le, z_lt, z_eq, z_en, z_ne, z_nn, z_ltn, z_nlt, z_len, z_nle, z_add, z_mul, z_sub, z_div, z_cl, z_in, z_addn, z_no, z_yes, not_true_eq_false, not_false_eq_true, false_implies, true_implies, true_and, and_true, forall_const]
    exact ⟨⟨p + 1, by omega, rfl⟩, by omega⟩
theorem s_isIn {n : Nat} {row : Nat → List Nat} {g : Nat → Int32} {post : Int32 → Prop} {c s sc : Nat} (hW : RW row g) (hO : rowOk n row) (h1 : once row) (hc : c < n) (hs : s < 96) (hsc : sc < 16) (hat : (row (s / 6))[s % 6]? = some c) (h : post (if s / 6 = sc then nI 1 else nI 0)) : wp_X7_isIn (nI c) (nI sc) g post := by
  unfold wp_X7_isIn
  refine s_slotOf hW hO hc hs hat (fun t ht hx => h1 c t s ht hs hx hat) ?_
  simp (disch := omega) only [l0, l1, l2, l3, l4, l5, l6, l7, l8, l9, l10, l11, l12, l13, l14, l15, l16, l23, l31, l40, l42, l44, l48, l49, l57, l59, l60, l65, l70, l96, l100, l101, l127, l200, l204, l254, l316, l948, l999, l1000, l9999, z_le, z_lt, z_eq, z_en, z_ne, z_nn, z_ltn, z_nlt, z_len, z_nle, z_add, z_mul, z_sub, z_div, z_cl, z_in, z_addn, z_no, z_yes, not_true_eq_false, not_false_eq_true, false_implies, true_implies, true_and, and_true, forall_const]
  refine ⟨fun he => ?_, fun he => ?_⟩
  · rw [if_pos he] at h; exact h
  · rw [if_neg he] at h; exact h
theorem s_isIn_no {n : Nat} {row : Nat → List Nat} {g : Nat → Int32} {post : Int32 → Prop} {c : Nat} {x : Int32} (hW : RW row g) (hO : rowOk n row) (hc : c < n) (hno : ∀ t, t < 96 → ¬ (row (t / 6))[t % 6]? = some c) (h : post (nI 0)) : wp_X7_isIn (nI c) x g post := by
  unfold wp_X7_isIn
  refine s_slotOf_no hW hO hc hno ?_
  exact ⟨fun _ => h, fun hc => absurd rfl hc⟩
def offRow (row : Nat → List Nat) (s : Nat) : Nat → List Nat := fun k => if k = s / 6 then (row k).eraseIdx (s % 6) else row k
theorem slotv_erase (L : List Nat) (p j : Nat) : slotv (L.eraseIdx p) j = if j < p then slotv L j else slotv L (j + 1) := by
  unfold slotv
  rw [List.getElem?_eraseIdx]
  by_cases h : j < p <;> simp [h]
theorem s_takeOff {n : Nat} {row : Nat → List Nat} {g : Nat → Int32} {post : (Nat → Int32) → Prop} {c s : Nat} (hW : RW row g) (hO : rowOk n row) (h1 : once row) (hc : c < n) (hs : s < 96) (hat : (row (s / 6))[s % 6]? = some c) (h : ∀ g', RW (offRow row s) g' → post g') : wp_X7_takeOff (nI c) g post := by
  unfold wp_X7_takeOff wp_X8_slot
  refine s_slotOf hW hO hc hs hat (fun t ht hx => h1 c t s ht hs hx hat) ?_
  simp (disch := omega) only [l0, l1, l2, l3, l4, l5, l6, l7, l8, l9, l10, l11, l12, l13, l14, l15, l16, l23, l31, l40, l42, l44, l48, l49, l57, l59, l60, l65, l70, l96, l100, l101, l127, l200, l204, l254, l316, l948, l999, l1000, l9999, z_le, z_lt, z_eq, z_en, z_ne, z_nn, z_ltn, z_nlt, z_len, z_nle, z_add, z_mul, z_sub, z_div, z_cl, z_in, z_addn, z_no, z_yes, not_true_eq_false, not_false_eq_true, false_implies, true_implies, true_and, and_true, forall_const]
  unfold wp_X7_takeOff_l25
  refine lf2_i (fun x4 g' => ∃ k, s ≤ k ∧ k ≤ s / 6 * 6 + 5 ∧ x4 = nI k ∧ ∀ t, t < 96 → g' t = if s ≤ t ∧ t < k then g (t + 1) else g t) (fun x4 _ => 96 - x4.toNatClampNeg) ⟨s, by omega, by omega, rfl, fun t _ => by rw [if_neg (by omega)]⟩ ?_
  rintro x4 g' ⟨k, hk1, hk2, rfl, hg⟩
  refine ⟨fun hx => ?_, fun hx => ?_⟩
  · have hk : k = s / 6 * 6 + 5 := by simp (disch := omega) only [z_le] at hx; omega
    refine s_put7 (by omega) ?_
    refine h _ (fun sc hsc p hp => ?_)
    rw [z_up]
    by_cases he : sc = s / 6
    · subst he
      have e2 : offRow row s (s / 6) = (row (s / 6)).eraseIdx (s % 6) := by unfold offRow; rw [if_pos rfl]
      rw [e2, slotv_erase]
      have h6 := hO.1 (s / 6)
      by_cases hp5 : p = 5
      · subst hp5
        rw [if_pos (by omega)]
        by_cases hm : 5 < s % 6
        · omega
        · rw [if_neg hm, slotv_ge (by omega)]; rfl
      · rw [if_neg (by omega), hg _ (by omega)]
        by_cases hm : p < s % 6
        · rw [if_neg (by omega), if_pos hm]; exact hW _ hsc p hp
        · rw [if_pos (by omega), if_neg hm]
          exact hW _ hsc (p + 1) (by omega)
    · have e2 : offRow row s sc = row sc := by unfold offRow; rw [if_neg he]
      rw [if_neg (by omega), hg _ (by omega), if_neg (by omega), e2]
      exact hW sc hsc p hp
  · have hk : k < s / 6 * 6 + 5 := by simp (disch := omega) only [z_le] at hx; omega
    simp (disch := omega) only [l0, l1, l2, l3, l4, l5, l6, l7, l8, l9, l10, l11, l12, l13, l14, l15, l16, l23, l31, l40, l42, l44, l48, l49, l57, l59, l60, l65, l70, l96, l100, l101, l127, l200, l204, l254, l316, l948, l999, l1000, l9999, z_le, z_lt, z_eq, z_en, z_ne, z_nn, z_ltn, z_nlt, z_len, z_nle, z_add, z_mul, z_sub, z_div, z_cl, z_in, z_addn, z_no, z_yes, not_true_eq_false, not_false_eq_true, false_implies, true_implies, true_and, and_true, forall_const]
    refine s_cardAt (by omega) ?_
    refine s_put7 (by omega) ?_
    refine ⟨⟨k + 1, by omega, by omega, rfl, fun t ht => ?_⟩, by omega⟩
    rw [z_up]
    by_cases htk : t = k
    · subst htk
      rw [if_pos rfl, if_pos (by omega), hg _ (by omega), if_neg (by omega)]
    · rw [if_neg htk, hg t ht]
      by_cases hq : s ≤ t ∧ t < k
      · rw [if_pos hq, if_pos (by omega)]
      · rw [if_neg hq, if_neg (by omega)]
theorem s_takeOff_no {n : Nat} {row : Nat → List Nat} {g : Nat → Int32} {post : (Nat → Int32) → Prop} {c : Nat} (hW : RW row g) (hO : rowOk n row) (hc : c < n) (hno : ∀ t, t < 96 → ¬ (row (t / 6))[t % 6]? = some c) (h : post g) : wp_X7_takeOff (nI c) g post := by
  unfold wp_X7_takeOff
  refine s_slotOf_no hW hO hc hno ?_
  exact ⟨fun _ => h, fun hc => absurd rfl hc⟩
def onRow (row : Nat → List Nat) (sc p c : Nat) : Nat → List Nat := fun k => if k = sc then (row k).insertIdx p c else row k
theorem slotv_insert (L : List Nat) (p c j : Nat) (hp : p ≤ L.length) : slotv (L.insertIdx p c) j = if j < p then slotv L j else if j = p then nI c else slotv L (j - 1) := by
  unfold slotv
  rw [List.getElem?_insertIdx]
  by_cases h : j < p
  · simp [h]
  · by_cases h2 : j = p
    · subst h2; simp [hp]
    · simp [h, h2]
theorem s_putIn {n : Nat} {row : Nat → List Nat} {g : Nat → Int32} {post : (Nat → Int32) → Prop} {c sc p : Nat} (hW : RW row g) (hO : rowOk n row) (hsc : sc < 16) (hp : p ≤ (row sc).length) (h5 : (row sc).length ≤ 5) (h : ∀ g', RW (onRow row sc p c) g' → post g') : wp_X7_putIn (nI c) (nI sc) (nI p) g post := by
  unfold wp_X7_putIn wp_X8_slot
  simp (disch := omega) only [l0, l1, l2, l3, l4, l5, l6, l7, l8, l9, l10, l11, l12, l13, l14, l15, l16, l23, l31, l40, l42, l44, l48, l49, l57, l59, l60, l65, l70, l96, l100, l101, l127, l200, l204, l254, l316, l948, l999, l1000, l9999, z_le, z_lt, z_eq, z_en, z_ne, z_nn, z_ltn, z_nlt, z_len, z_nle, z_add, z_mul, z_sub, z_div, z_cl, z_in, z_addn, z_no, z_yes, not_true_eq_false, not_false_eq_true, false_implies, true_implies, true_and, and_true, forall_const]
  unfold wp_X7_putIn_l14
  refine lf2_i (fun x5 g' => ∃ k, sc * 6 + p ≤ k ∧ k ≤ sc * 6 + 5 ∧ x5 = nI k ∧ ∀ t, t < 96 → g' t = if k < t ∧ t ≤ sc * 6 + 5 then g (t - 1) else g t) (fun x5 _ => x5.toNatClampNeg) ⟨sc * 6 + 5, by omega, by omega, rfl, fun t _ => by rw [if_neg (by omega)]⟩ ?_
  rintro x5 g' ⟨k, hk1, hk2, rfl, hg⟩
  refine ⟨fun hx => ?_, fun hx => ?_⟩
  · have hk : k = sc * 6 + p := by simp (disch := omega) only [z_le] at hx; omega
    refine s_put7 (by omega) ?_
    refine h _ (fun sc2 hsc2 q hq => ?_)
    rw [z_up]
    by_cases he : sc2 = sc
    · subst he
      have e2 : onRow row sc2 p c sc2 = (row sc2).insertIdx p c := by unfold onRow; rw [if_pos rfl]
      rw [e2, slotv_insert _ _ _ _ hp]
      by_cases hqp : q < p
      · rw [if_neg (by omega), if_pos hqp, hg _ (by omega), if_neg (by omega)]; exact hW _ hsc2 q hq
      · by_cases hqe : q = p
        · subst hqe; rw [if_pos rfl, if_neg (by omega), if_pos rfl]
        · rw [if_neg (by omega), if_neg hqp, if_neg hqe, hg _ (by omega), if_pos (by omega)]
          have hh := hW _ hsc2 (q - 1) (by omega)
          rw [show sc2 * 6 + q - 1 = sc2 * 6 + (q - 1) by omega]; exact hh
    · have e2 : onRow row sc p c sc2 = row sc2 := by unfold onRow; rw [if_neg he]
      rw [if_neg (by omega), hg _ (by omega), if_neg (by omega), e2]
      exact hW sc2 hsc2 q hq
  · have hk : sc * 6 + p < k := by simp (disch := omega) only [z_le] at hx; omega
    have hneg : (-1 : Int32) = -nI 1 := rfl
    rw [hneg]
    simp (disch := omega) only [l0, l1, l2, l3, l4, l5, l6, l7, l8, l9, l10, l11, l12, l13, l14, l15, l16, l23, l31, l40, l42, l44, l48, l49, l57, l59, l60, l65, l70, l96, l100, l101, l127, l200, l204, l254, l316, l948, l999, l1000, l9999, z_le, z_lt, z_eq, z_en, z_ne, z_nn, z_ltn, z_nlt, z_len, z_nle, z_add, z_mul, z_sub, z_div, z_cl, z_in, z_addn, z_no, z_yes, not_true_eq_false, not_false_eq_true, false_implies, true_implies, true_and, and_true, forall_const]
    refine s_cardAt (by omega) ?_
    refine s_put7 (by omega) ?_
    refine ⟨⟨k - 1, by omega, by omega, rfl, fun t ht => ?_⟩, by omega⟩
    rw [z_up]
    by_cases htk : t = k
    · subst htk
      rw [if_pos rfl, if_pos (by omega), hg _ (by omega), if_neg (by omega)]
    · rw [if_neg htk, hg t ht]
      by_cases hq : k < t ∧ t ≤ sc * 6 + 5
      · rw [if_pos hq, if_pos (by omega)]
      · rw [if_neg hq, if_neg (by omega)]
theorem s_exchange {g : Nat → Int32} {post : (Nat → Int32) → Prop} {s t : Nat} (hs : s < 96) (ht : t < 96) (h : ∀ g', (∀ j, g' j = if j = t then g s else if j = s then g t else g j) → post g') : wp_X7_exchange (nI s) (nI t) g post := by
  unfold wp_X7_exchange
  refine s_cardAt hs (s_cardAt ht (s_put7 hs (s_put7 ht (h _ (fun j => ?_)))))
  rw [z_up, z_up]
def xRow (row : Nat → List Nat) (a b : Nat) : Nat → List Nat := fun k => if k = a then row b else if k = b then row a else row k
theorem s_exchangeScenes {row : Nat → List Nat} {g : Nat → Int32} {post : (Nat → Int32) → Prop} {a b : Nat} (hW : RW row g) (ha : a < 16) (hb : b < 16) (hab : a ≠ b) (h : ∀ g', RW (xRow row a b) g' → post g') : wp_X7_exchangeScenes (nI a) (nI b) g post := by
  unfold wp_X7_exchangeScenes wp_X7_exchangeScenes_l2
  refine lf2_i (fun x3 g' => ∃ k, k ≤ 6 ∧ x3 = nI k ∧ ∀ sc, sc < 16 → ∀ p, p < 6 → g' (sc * 6 + p) = if p < k then slotv (xRow row a b sc) p else g (sc * 6 + p)) (fun x3 _ => 6 - x3.toNatClampNeg) ⟨0, by omega, rfl, fun sc hsc p hp => by rw [if_neg (by omega)]⟩ ?_
  rintro x3 g' ⟨k, hk, rfl, hg⟩
  refine ⟨fun hx => ?_, fun hx => ?_⟩
  · have hk6 : k = 6 := by simp (disch := omega) only [l6, z_le] at hx; omega
    refine h _ (fun sc hsc p hp => ?_)
    rw [hg sc hsc p hp, if_pos (by omega)]
  · have hk6 : k < 6 := by simp (disch := omega) only [l6, z_le] at hx; omega
    unfold wp_X8_slot
    simp (disch := omega) only [l0, l1, l2, l3, l4, l5, l6, l7, l8, l9, l10, l11, l12, l13, l14, l15, l16, l23, l31, l40, l42, l44, l48, l49, l57, l59, l60, l65, l70, l96, l100, l101, l127, l200, l204, l254, l316, l948, l999, l1000, l9999, z_le, z_lt, z_eq, z_en, z_ne, z_nn, z_ltn, z_nlt, z_len, z_nle, z_add, z_mul, z_sub, z_div, z_cl, z_in, z_addn, z_no, z_yes, not_true_eq_false, not_false_eq_true, false_implies, true_implies, true_and, and_true, forall_const]
    refine s_exchange (by omega) (by omega) (fun g2 hg2 => ?_)
    refine ⟨⟨k + 1, by omega, rfl, fun sc hsc p hp => ?_⟩, by omega⟩
    rw [hg2]
    by_cases h1 : sc = b ∧ p = k
    · obtain ⟨rfl, rfl⟩ := h1
      rw [if_pos rfl, if_pos (by omega), hg a ha _ hp, if_neg (by omega), hW a ha _ hp]
      unfold xRow; rw [if_neg (fun e => hab e.symm), if_pos rfl]
    · rw [if_neg (by omega)]
      by_cases h2 : sc = a ∧ p = k
      · obtain ⟨rfl, rfl⟩ := h2
        rw [if_pos rfl, if_pos (by omega), hg b hb _ hp, if_neg (by omega), hW b hb _ hp]
        unfold xRow; rw [if_pos rfl]
      · rw [if_neg (by omega), hg sc hsc p hp]
        by_cases h3 : p < k
        · rw [if_pos h3, if_pos (by omega)]
        · rw [if_neg h3]
          by_cases h4 : p = k
          · subst h4
            rw [if_pos (by omega), hW sc hsc p hp]
            unfold xRow; rw [if_neg (by omega), if_neg (by omega)]
          · rw [if_neg (by omega)]
def cnt (p : Nat → Bool) : Nat → Nat
  | 0 => 0
  | n + 1 => cnt p n + (if p n then 1 else 0)
theorem cnt_le (p : Nat → Bool) : ∀ n, cnt p n ≤ n
  | 0 => Nat.le_refl _
  | n + 1 => by
    have h := cnt_le p n
    unfold cnt
    split <;> omega
def full (row : Nat → List Nat) (sc : Nat) : Bool := decide (0 < (row sc).length)
theorem s_scenes {n : Nat} {row : Nat → List Nat} {g : Nat → Int32} {post : Int32 → Prop} (hW : RW row g) (hO : rowOk n row) (h : post (nI (cnt (full row) 16))) : wp_X7_scenesWithCards g post := by
  unfold wp_X7_scenesWithCards wp_X7_scenesWithCards_l4
  refine lf2_i (fun x1 x2 => ∃ k, k ≤ 16 ∧ x2 = nI k ∧ x1 = nI (cnt (full row) k)) (fun _ x2 => 16 - x2.toNatClampNeg) ⟨0, by omega, rfl, rfl⟩ ?_
  rintro x1 x2 ⟨k, hk, rfl, rfl⟩
  have hl := cnt_le (full row) k
  refine ⟨fun hx => ?_, fun hx => ?_⟩
  · have hk6 : k = 16 := by simp (disch := omega) only [l16, z_le] at hx; omega
    subst hk6; exact h
  · have hk6 : k < 16 := by simp (disch := omega) only [l16, z_le] at hx; omega
    refine s_sizeOf hW hO hk6 ?_
    have h6 := hO.1 k
    simp (disch := omega) only [l0, l1, l2, l3, l4, l5, l6, l7, l8, l9, l10, l11, l12, l13, l14, l15, l16, l23, l31, l40, l42, l44, l48, l49, l57, l59, l60, l65, l70, l96, l100, l101, l127, l200, l204, l254, l316, l948, l999, l1000, l9999, z_le, z_lt, z_eq, z_en, z_ne, z_nn, z_ltn, z_nlt, z_len, z_nle, z_add, z_mul, z_sub, z_div, z_cl, z_in, z_addn, z_no, z_yes, not_true_eq_false, not_false_eq_true, false_implies, true_implies, true_and, and_true, forall_const]
    refine ⟨fun h0 => ⟨⟨k + 1, by omega, rfl, ?_⟩, by omega⟩, fun h0 => ⟨⟨k + 1, by omega, rfl, ?_⟩, by omega⟩⟩
    · have hf : full row k = false := decide_eq_false (by omega)
      simp [cnt, hf]
    · have hf : full row k = true := decide_eq_true (by omega)
      simp [cnt, hf]
def anyS (row : Nat → List Nat) (a b : Nat) : Bool := decide (∃ k, k < b ∧ a ≤ k ∧ 0 < (row k).length)
theorem anyS_iff {row : Nat → List Nat} {a b : Nat} : anyS row a b = true ↔ ∃ k, k < b ∧ a ≤ k ∧ 0 < (row k).length := decide_eq_true_iff
theorem s_hasCards {n : Nat} {row : Nat → List Nat} {g : Nat → Int32} {post : Int32 → Prop} {a b : Nat} (hW : RW row g) (hO : rowOk n row) (ha : a ≤ 16) (hb : b ≤ 16) (h : post (if anyS row a b then nI 1 else nI 0)) : wp_X7_hasCards (nI a) (nI b) g post := by
  unfold wp_X7_hasCards wp_X7_hasCards_l2
  refine lf1_i (fun x3 => ∃ k, a ≤ k ∧ k ≤ 16 ∧ x3 = nI k ∧ ∀ j, a ≤ j → j < k → (row j).length = 0) (fun x3 => 16 - x3.toNatClampNeg) ⟨a, by omega, ha, rfl, fun j h1 h2 => absurd h1 (by omega)⟩ ?_
  rintro x3 ⟨k, hk1, hk, rfl, hz⟩
  refine ⟨fun hx => ?_, fun hx => ?_⟩
  · have hkb : b ≤ k := by simp (disch := omega) only [z_le] at hx; omega
    have hn : ¬ anyS row a b = true := by
      rw [anyS_iff]; rintro ⟨j, h1, h2, h3⟩
      have := hz j h2 (by omega); omega
    rw [if_neg hn] at h; exact h
  · have hkb : k < b := by simp (disch := omega) only [z_le] at hx; omega
    have hk16 : ¬ (16 : Int32) ≤ nI k := by rw [l16, z_le (by omega) (by omega)]; omega
    refine ⟨fun hc => absurd hc hk16, fun _ => ?_⟩
    refine s_sizeOf hW hO (by omega) ?_
    have h6 := hO.1 k
    simp (disch := omega) only [l0, l1, l2, l3, l4, l5, l6, l7, l8, l9, l10, l11, l12, l13, l14, l15, l16, l23, l31, l40, l42, l44, l48, l49, l57, l59, l60, l65, l70, l96, l100, l101, l127, l200, l204, l254, l316, l948, l999, l1000, l9999, z_le, z_lt, z_eq, z_en, z_ne, z_nn, z_ltn, z_nlt, z_len, z_nle, z_add, z_mul, z_sub, z_div, z_cl, z_in, z_addn, z_no, z_yes, not_true_eq_false, not_false_eq_true, false_implies, true_implies, true_and, and_true, forall_const]
    refine ⟨fun h0 => ⟨⟨k + 1, by omega, by omega, rfl, fun j h1 h2 => ?_⟩, by omega⟩, fun h0 => ?_⟩
    · rcases Nat.lt_or_ge j k with q | q
      · exact hz j h1 q
      · rw [show j = k by omega]; omega
    · have hy : anyS row a b = true := anyS_iff.mpr ⟨k, hkb, hk1, by omega⟩
      rw [if_pos hy] at h; exact h
def holeS (row : Nat → List Nat) (sc : Nat) : Bool := !full row sc && (anyS row 0 sc && anyS row (sc + 1) 16)
theorem s_isHole {n : Nat} {row : Nat → List Nat} {g : Nat → Int32} {post : Int32 → Prop} {sc : Nat} (hW : RW row g) (hO : rowOk n row) (hs : sc < 16) (h : post (if holeS row sc then nI 1 else nI 0)) : wp_X7_isHole (nI sc) g post := by
  unfold wp_X7_isHole
  refine s_sizeOf hW hO hs ?_
  have h6 := hO.1 sc
  simp (disch := omega) only [l0, l1, l2, l3, l4, l5, l6, l7, l8, l9, l10, l11, l12, l13, l14, l15, l16, l23, l31, l40, l42, l44, l48, l49, l57, l59, l60, l65, l70, l96, l100, l101, l127, l200, l204, l254, l316, l948, l999, l1000, l9999, z_le, z_lt, z_eq, z_en, z_ne, z_nn, z_ltn, z_nlt, z_len, z_nle, z_add, z_mul, z_sub, z_div, z_cl, z_in, z_addn, z_no, z_yes, not_true_eq_false, not_false_eq_true, false_implies, true_implies, true_and, and_true, forall_const]
  refine ⟨fun h0 => ?_, fun h0 => ?_⟩
  · have hf : full row sc = false := by simp [full]; exact List.length_eq_zero_iff.mp h0
    refine s_hasCards (a := 0) hW hO (by omega) (by omega) ?_
    cases h1 : anyS row 0 sc with
    | false =>
      rw [show holeS row sc = false by simp [holeS, h1]] at h
      exact ⟨fun _ => h, fun hc => absurd rfl hc⟩
    | true =>
      refine ⟨fun hc => absurd hc (by decide), fun _ => ?_⟩
      refine s_hasCards (b := 16) hW hO (by omega) (by omega) ?_
      cases h2 : anyS row (sc + 1) 16 with
      | false =>
        rw [show holeS row sc = false by simp [holeS, h2]] at h
        exact ⟨fun _ => h, fun hc => absurd rfl hc⟩
      | true =>
        rw [show holeS row sc = true by simp [holeS, h1, h2, hf]] at h
        exact ⟨fun hc => absurd hc (by decide), fun _ => h⟩
  · have hf : full row sc = true := by simp [full]; omega
    rw [show holeS row sc = false by simp [holeS, hf]] at h
    exact h
theorem s_holes {n : Nat} {row : Nat → List Nat} {g : Nat → Int32} {post : Int32 → Prop} (hW : RW row g) (hO : rowOk n row) (h : post (nI (cnt (holeS row) 16))) : wp_X7_holes g post := by
  unfold wp_X7_holes wp_X7_holes_l4
  refine lf2_i (fun x1 x2 => ∃ k, k ≤ 16 ∧ x2 = nI k ∧ x1 = nI (cnt (holeS row) k)) (fun _ x2 => 16 - x2.toNatClampNeg) ⟨0, by omega, rfl, rfl⟩ ?_
  rintro x1 x2 ⟨k, hk, rfl, rfl⟩
  have hl := cnt_le (holeS row) k
  refine ⟨fun hx => ?_, fun hx => ?_⟩
  · have hk6 : k = 16 := by simp (disch := omega) only [l16, z_le] at hx; omega
    subst hk6; exact h
  · have hk6 : k < 16 := by simp (disch := omega) only [l16, z_le] at hx; omega
    refine s_isHole hW hO hk6 ?_
    cases hb : holeS row k with
    | false =>
      simp (disch := omega) only [l0, l1, l2, l3, l4, l5, l6, l7, l8, l9, l10, l11, l12, l13, l14, l15, l16, l23, l31, l40, l42, l44, l48, l49, l57, l59, l60, l65, l70, l96, l100, l101, l127, l200, l204, l254, l316, l948, l999, l1000, l9999, z_le, z_lt, z_eq, z_en, z_ne, z_nn, z_ltn, z_nlt, z_len, z_nle, z_add, z_mul, z_sub, z_div, z_cl, z_in, z_addn, z_no, z_yes, not_true_eq_false, not_false_eq_true, false_implies, true_implies, true_and, and_true, forall_const]
      refine ⟨fun _ => ⟨⟨k + 1, by omega, rfl, by simp [cnt, hb]⟩, by omega⟩, fun hc => absurd rfl hc⟩
    | true =>
      refine ⟨fun hc => absurd hc (by decide), fun _ => ?_⟩
      simp (disch := omega) only [l0, l1, l2, l3, l4, l5, l6, l7, l8, l9, l10, l11, l12, l13, l14, l15, l16, l23, l31, l40, l42, l44, l48, l49, l57, l59, l60, l65, l70, l96, l100, l101, l127, l200, l204, l254, l316, l948, l999, l1000, l9999, z_le, z_lt, z_eq, z_en, z_ne, z_nn, z_ltn, z_nlt, z_len, z_nle, z_add, z_mul, z_sub, z_div, z_cl, z_in, z_addn, z_no, z_yes, not_true_eq_false, not_false_eq_true, false_implies, true_implies, true_and, and_true, forall_const]
      exact ⟨⟨k + 1, by omega, rfl, by simp [cnt, hb]⟩, by omega⟩
theorem s_copyWall {row : Nat → List Nat} {g g2 : Nat → Int32} {post : (Nat → Int32) → Prop} (hW : RW row g2) (h : ∀ g', RW row g' → post g') : wp_X7_copyFrom g g2 post := by
  unfold wp_X7_copyFrom
  refine h _ (fun sc hsc p hp => ?_)
  have e0 : (0 : Int32).toNatClampNeg = 0 := rfl
  have e1 : (96 : Int32).toNatClampNeg = 96 := rfl
  rw [e0, e1, z_cpy, if_pos (by omega)]
  exact hW sc hsc p hp
