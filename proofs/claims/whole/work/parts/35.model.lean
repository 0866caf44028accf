/-! the model's one row of numbers; its order -/
def RM (n : Nat) (num : Nat → Nat → Nat) (row : Nat → List Nat) (st : Nat → Nat) (s : Nat → Int32) : Prop :=
  s 0 = nI n ∧ (∀ i, i < 3 → s (1 + i) = nI (st i)) ∧ (∀ c, c < n → ∀ k, k < 5 → s (4 + 5 * c + k) = nI (num c k)) ∧ ∀ sc, sc < 16 → s (204 + 7 * sc) = nI (row sc).length ∧ ∀ p, p < (row sc).length → s (204 + 7 * sc + 1 + p) = nI (gd (row sc) p)
section
variable {n : Nat} {num : Nat → Nat → Nat} {row : Nat → List Nat} {st : Nat → Nat} {s : Nat → Int32}
theorem m_of {post : Int32 → Prop} {c k : Nat} (hM : RM n num row st s) (hn : n ≤ 40) (hc : c < n) (hk : k < 5) (h : post (nI (num c k))) : wp_X9_of (nI c) (nI k) s post := by
  unfold wp_X9_of
  simp (disch := omega) only [l0, l1, l2, l3, l4, l5, l6, l7, l8, l9, l10, l11, l12, l13, l14, l15, l16, l23, l31, l40, l42, l44, l48, l49, l57, l59, l60, l65, l70, l96, l100, l101, l127, l200, l204, l254, l316, l948, l999, l1000, l9999, z_le, z_lt, z_eq, z_en, z_ne, z_nn, z_ltn, z_nlt, z_len, z_nle, z_add, z_mul, z_sub, z_div, z_cl, z_in, z_addn, z_no, z_yes, not_true_eq_false, not_false_eq_true, false_implies, true_implies, true_and, and_true, forall_const]
  refine ⟨by omega, ?_⟩
  rw [hM.2.2.1 c hc k hk]; exact h
theorem m_row {post : Int32 → Prop} {sc : Nat} (h : post (nI (204 + 7 * sc))) : wp_X9_row (nI sc) post := by
  unfold wp_X9_row
  rw [l7, l204, z_mul, z_add]; exact h
theorem pre_step {sc p : Nat} (hO : rowOk n row) (h : p < (row sc).length) : pre row (6 * sc + p + 1) = pre row (6 * sc + p) ++ [(gd (row sc) p, 6 * sc + p)] := by
  have h6 := hO.1 sc
  refine pre_some ?_
  rw [show (6 * sc + p) / 6 = sc by omega, show (6 * sc + p) % 6 = p by omega]
  exact getD_some h
theorem pre_skip {sc : Nat} (hO : rowOk n row) : ∀ d, (row sc).length + d ≤ 6 → pre row (6 * sc + ((row sc).length + d)) = pre row (6 * sc + (row sc).length)
  | 0, _ => rfl
  | d + 1, h => by
    rw [← pre_skip hO d (by omega)]
    show pre row (6 * sc + ((row sc).length + d) + 1) = _
    refine pre_none ?_
    rw [show (6 * sc + ((row sc).length + d)) / 6 = sc by omega, show (6 * sc + ((row sc).length + d)) % 6 = (row sc).length + d by omega]
    exact List.getElem?_eq_none (by omega)
theorem pre_next {sc : Nat} (hO : rowOk n row) : pre row (6 * (sc + 1)) = pre row (6 * sc + (row sc).length) := by
  have h6 := hO.1 sc
  have := pre_skip (sc := sc) hO (6 - (row sc).length) (by omega)
  rw [← this]; congr 1; omega
/-- the order holds the list -/
def ROr (L : List (Nat × Nat)) (order rank : Nat → Int32) : Prop := (∀ k, k < L.length → order k = nI (cd L k) ∧ rank (cd L k) = nI k) ∧ ∀ c, c < 40 → (∀ k, k < L.length → cd L k ≠ c) → rank c = -nI 5
theorem m_layOrder {w : Int32} {order rank : Nat → Int32} {post : Int32 → (Nat → Int32) → (Nat → Int32) → Prop} (hM : RM n num row st s) (hO : rowOk n row) (h : ∀ order rank, ROr (pre row 96) order rank → post (nI (pre row 96).length) order rank) : wp_X9_layOrder w s order rank post := by
  have hn := hO.2.2.2
  unfold wp_X9_layOrder wp_X9_layOrder_l7
  refine lf2_i (fun x1 rank => ∃ j, j ≤ 40 ∧ x1 = nI j ∧ ∀ c, c < j → rank c = -nI 5) (fun x1 _ => 40 - x1.toNatClampNeg) ⟨0, by omega, rfl, fun c hc => absurd hc (Nat.not_lt_zero _)⟩ ?_
  clear rank
  rintro x1 rank ⟨j, hj, rfl, hr⟩
  refine ⟨fun hx => ?_, fun hx => ?_⟩
  · have hj4 : j = 40 := by simp (disch := omega) only [l40, z_le] at hx; omega
    subst hj4
    unfold wp_X9_layOrder_l29
    refine lf4_i (fun x1 w order rank => ∃ sc, sc ≤ 16 ∧ x1 = nI sc ∧ w = nI (pre row (6 * sc)).length ∧ ROr (pre row (6 * sc)) order rank) (fun x1 _ _ _ => 16 - x1.toNatClampNeg) ⟨0, by omega, rfl, rfl, fun k hk => absurd hk (Nat.not_lt_zero _), fun c hc _ => hr c hc⟩ ?_
    clear hr order rank
    rintro x1 w order rank ⟨sc, hsc, rfl, rfl, hR⟩
    refine ⟨fun hx => ?_, fun hx => ?_⟩
    · have h16 : sc = 16 := by simp (disch := omega) only [l16, z_le] at hx; omega
      subst h16; exact h _ _ hR
    · have h16 : sc < 16 := by simp (disch := omega) only [l16, z_le] at hx; omega
      have h6 := hO.1 sc
      have hM4 := hM.2.2.2 sc h16
      unfold wp_X9_layOrder_l37
      refine lf4_i (fun x2 w order rank => ∃ p, p ≤ (row sc).length ∧ x2 = nI p ∧ w = nI (pre row (6 * sc + p)).length ∧ ROr (pre row (6 * sc + p)) order rank) (fun x2 _ _ _ => 6 - x2.toNatClampNeg) ⟨0, by omega, rfl, rfl, hR⟩ ?_
      clear hR order rank
      rintro x2 w order rank ⟨p, hp, rfl, rfl, hR⟩
      refine m_row ⟨(z_in (by omega)).mpr (by omega), ?_⟩
      rw [z_cl (by omega), hM4.1, z_le (by omega) (by omega)]
      refine ⟨fun hq => ?_, fun hq => ?_⟩
      · have hpe : p = (row sc).length := by omega
        subst hpe
        rw [l1, z_add]
        rw [← pre_next hO] at hR ⊢
        exact ⟨⟨sc + 1, by omega, rfl, rfl, hR⟩, by simp (disch := omega) only [z_cl]; omega⟩
      · have hpl : p < (row sc).length := by omega
        have hstep := pre_step (sc := sc) (p := p) hO hpl
        have hlen := pre_le (t := 6 * sc + p + 1) hO (by omega)
        have hll : (pre row (6 * sc + p + 1)).length = (pre row (6 * sc + p)).length + 1 := by rw [hstep, List.length_append, List.length_singleton]
        refine m_row ?_
        have hcn : gd (row sc) p < n := gd_lt (rowS_of hO sc) hpl
        have ec : (nI (gd (row sc) p)).toNatClampNeg = gd (row sc) p := z_cl (by omega)
        have eL : (nI (pre row (6 * sc + p)).length).toNatClampNeg = (pre row (6 * sc + p)).length := z_cl (by omega)
        rw [l1, z_add, z_add, z_cl (show 204 + 7 * sc + 1 + p < 2147483648 by omega), hM4.2 p hpl, ec, eL, z_add, z_add]
        refine ⟨(z_in (by omega)).mpr (by omega), (z_in (by omega)).mpr (by omega), (z_in (by omega)).mpr (by omega), ⟨p + 1, by omega, rfl, by rw [← Nat.add_assoc, hll], ?_⟩, by simp (disch := omega) only [z_cl]; omega⟩
        have hinj : ∀ k, k < (pre row (6 * sc + p)).length → cd (pre row (6 * sc + p)) k ≠ gd (row sc) p := by
          intro k hk he
          have h1 : cd (pre row (6 * sc + p + 1)) k = cd (pre row (6 * sc + p + 1)) (pre row (6 * sc + p)).length := by rw [hstep, cd_l hk, cd_e]; exact he
          have := pre_inj (t := 6 * sc + p + 1) hO.2.2.1 (by omega) (by omega) (by omega) h1
          omega
        rw [← Nat.add_assoc]
        refine ⟨fun k hk => ?_, fun c hc hno => ?_⟩
        · rw [hll] at hk
          rw [hstep]
          rcases Nat.lt_or_ge k (pre row (6 * sc + p)).length with q | q
          · rw [cd_l q, z_up_n (by omega), z_up_n (hinj k q)]
            exact hR.1 k q
          · rw [show k = (pre row (6 * sc + p)).length by omega, cd_e]; exact ⟨z_up_s, z_up_s⟩
        · rw [hstep] at hno
          have h1 := hno (pre row (6 * sc + p)).length (by rw [List.length_append, List.length_singleton]; omega)
          rw [cd_e] at h1
          replace h1 : gd (row sc) p ≠ c := h1
          rw [z_up_n (fun e => h1 e.symm)]
          exact hR.2 c hc (fun k hk => by have := hno k (by rw [List.length_append, List.length_singleton]; omega); rw [cd_l hk] at this; exact this)
  · have hj4 : j < 40 := by simp (disch := omega) only [l40, z_le] at hx; omega
    have e5 : (-5 : Int32) = -nI 5 := rfl
    refine ⟨(z_in (by omega)).mpr (by omega), ?_⟩
    rw [z_cl (by omega), l1, z_add]
    refine ⟨⟨j + 1, by omega, rfl, fun c hc => ?_⟩, by simp (disch := omega) only [z_cl]; omega⟩
    rw [z_up]
    by_cases he : c = j
    · rw [if_pos he]; rfl
    · rw [if_neg he]; exact hr c (by omega)
theorem lst_skip {p : Nat → Bool} {a : Nat} : ∀ d, (∀ j, a ≤ j → j < a + d → p j = false) → lst p (a + d) = lst p a
  | 0, _ => rfl
  | d + 1, h => by
    rw [← Nat.add_assoc, lst_s, if_neg (by rw [h (a + d) (by omega) (by omega)]; decide)]
    exact lst_skip d (fun j h1 h2 => h j h1 (by omega))
/-- whether a card is at a slot -/
def atS (row : Nat → List Nat) (c t : Nat) : Bool := (row (t / 6))[t % 6]? == some c
theorem atS_iff {c t : Nat} : atS row c t = true ↔ (row (t / 6))[t % 6]? = some c := beq_iff_eq
/-- the slot of a card -/
def slotO (row : Nat → List Nat) (c : Nat) : Option Nat := lst (atS row c) 96
theorem slotO_some {c t : Nat} (h : slotO row c = some t) : t < 96 ∧ (row (t / 6))[t % 6]? = some c := by
  have := lst_lt _ h
  exact ⟨this.1, atS_iff.mp this.2⟩
theorem lst_none {p : Nat → Bool} : ∀ k, lst p k = none → ∀ j, j < k → p j = false
  | 0, _, j, h => absurd h (Nat.not_lt_zero _)
  | k + 1, h, j, hj => by
    rw [lst_s] at h
    by_cases hp : p k = true
    · rw [if_pos hp] at h; cases h
    · rw [if_neg hp] at h
      rcases Nat.lt_or_ge j k with q | q
      · exact lst_none k h j q
      · rw [show j = k by omega]; exact eq_false_of_ne_true hp
theorem slotO_none {c : Nat} (h : slotO row c = none) : ∀ t, t < 96 → ¬ (row (t / 6))[t % 6]? = some c := by
  intro t ht he
  have := lst_none _ h t ht
  rw [atS_iff.mpr he] at this; cases this
theorem slotO_at {c t : Nat} (h1 : once row) (ht : t < 96) (h : (row (t / 6))[t % 6]? = some c) : slotO row c = some t := by
  cases hs : slotO row c with
  | none => exact absurd h (slotO_none hs t ht)
  | some u =>
    have := slotO_some hs
    rw [h1 c u t this.1 ht this.2 h]
theorem m_sceneOf {post : Int32 → Prop} {c : Nat} (hM : RM n num row st s) (hO : rowOk n row) (hc : c < n) (h : post (optI ((slotO row c).map (· / 6)))) : wp_X9_sceneOf (nI c) s post := by
  have hn := hO.2.2.2
  unfold wp_X9_sceneOf wp_X9_sceneOf_l5
  refine lf2_i (fun x2 x3 => ∃ sc, sc ≤ 16 ∧ x3 = nI sc ∧ x2 = optI ((lst (atS row c) (6 * sc)).map (· / 6))) (fun _ x3 => 16 - x3.toNatClampNeg) ⟨0, by omega, rfl, rfl⟩ ?_
  rintro x2 x3 ⟨sc, hsc, rfl, rfl⟩
  refine ⟨fun hx => ?_, fun hx => ?_⟩
  · have h16 : sc = 16 := by simp (disch := omega) only [l16, z_le] at hx; omega
    subst h16; exact h
  · have h16 : sc < 16 := by simp (disch := omega) only [l16, z_le] at hx; omega
    have h6 := hO.1 sc
    have hM4 := hM.2.2.2 sc h16
    unfold wp_X9_sceneOf_l14
    refine lf2_i (fun x2 x4 => ∃ p, p ≤ (row sc).length ∧ x4 = nI p ∧ x2 = optI ((lst (atS row c) (6 * sc + p)).map (· / 6))) (fun _ x4 => 6 - x4.toNatClampNeg) ⟨0, by omega, rfl, rfl⟩ ?_
    rintro x2 x4 ⟨p, hp, rfl, rfl⟩
    refine m_row ⟨(z_in (by omega)).mpr (by omega), ?_⟩
    rw [z_cl (by omega), hM4.1, z_le (by omega) (by omega)]
    have e1 : nI p + (1 : Int32) = nI (p + 1) := by rw [l1, z_add]
    refine ⟨fun hq => ?_, fun hq => ?_⟩
    · rw [l1, z_add]
      have hsk := lst_skip (p := atS row c) (a := 6 * sc + p) (6 - p) (fun j h1 h2 => by
        refine eq_false_of_ne_true (fun e => ?_)
        rw [atS_iff, show j / 6 = sc by omega, List.getElem?_eq_none (by omega)] at e
        cases e)
      rw [show 6 * sc + p + (6 - p) = 6 * (sc + 1) by omega] at hsk
      exact ⟨⟨sc + 1, by omega, rfl, by rw [hsk]⟩, by simp (disch := omega) only [z_cl]; omega⟩
    · have hpl : p < (row sc).length := by omega
      have hcn : gd (row sc) p < n := gd_lt (rowS_of hO sc) hpl
      have hget : (row sc)[p]? = some (gd (row sc) p) := getD_some hpl
      refine m_row ?_
      rw [e1, l1, z_add, z_add, z_cl (by omega), hM4.2 p hpl, z_eq (by omega) (by omega)]
      have hdec : 6 - (nI (p + 1)).toNatClampNeg < 6 - (nI p).toNatClampNeg := by simp (disch := omega) only [z_cl]; omega
      refine ⟨(z_in (by omega)).mpr (by omega), fun q => ⟨⟨p + 1, by omega, rfl, ?_⟩, hdec⟩, fun q => ⟨⟨p + 1, by omega, rfl, ?_⟩, hdec⟩⟩
      · rw [← Nat.add_assoc, lst_s, if_pos (by rw [atS_iff, show (6 * sc + p) / 6 = sc by omega, show (6 * sc + p) % 6 = p by omega, hget, q])]
        show nI sc = nI ((6 * sc + p) / 6)
        rw [show (6 * sc + p) / 6 = sc by omega]
      · rw [← Nat.add_assoc, lst_s, if_neg (by rw [atS_iff, show (6 * sc + p) / 6 = sc by omega, show (6 * sc + p) % 6 = p by omega, hget]; intro e; cases e; exact q rfl)]
theorem m_placeOf {post : Int32 → Prop} {c : Nat} (hM : RM n num row st s) (hO : rowOk n row) (hc : c < n) (h : post (optI ((slotO row c).map (· % 6)))) : wp_X9_placeOf (nI c) s post := by
  have hn := hO.2.2.2
  unfold wp_X9_placeOf wp_X9_placeOf_l5
  refine lf2_i (fun x2 x3 => ∃ sc, sc ≤ 16 ∧ x3 = nI sc ∧ x2 = optI ((lst (atS row c) (6 * sc)).map (· % 6))) (fun _ x3 => 16 - x3.toNatClampNeg) ⟨0, by omega, rfl, rfl⟩ ?_
  rintro x2 x3 ⟨sc, hsc, rfl, rfl⟩
  refine ⟨fun hx => ?_, fun hx => ?_⟩
  · have h16 : sc = 16 := by simp (disch := omega) only [l16, z_le] at hx; omega
    subst h16; exact h
  · have h16 : sc < 16 := by simp (disch := omega) only [l16, z_le] at hx; omega
    have h6 := hO.1 sc
    have hM4 := hM.2.2.2 sc h16
    unfold wp_X9_placeOf_l14
    refine lf2_i (fun x2 x4 => ∃ p, p ≤ (row sc).length ∧ x4 = nI p ∧ x2 = optI ((lst (atS row c) (6 * sc + p)).map (· % 6))) (fun _ x4 => 6 - x4.toNatClampNeg) ⟨0, by omega, rfl, rfl⟩ ?_
    rintro x2 x4 ⟨p, hp, rfl, rfl⟩
    refine m_row ⟨(z_in (by omega)).mpr (by omega), ?_⟩
    rw [z_cl (by omega), hM4.1, z_le (by omega) (by omega)]
    have e1 : nI p + (1 : Int32) = nI (p + 1) := by rw [l1, z_add]
    refine ⟨fun hq => ?_, fun hq => ?_⟩
    · rw [l1, z_add]
      have hsk := lst_skip (p := atS row c) (a := 6 * sc + p) (6 - p) (fun j h1 h2 => by
        refine eq_false_of_ne_true (fun e => ?_)
        rw [atS_iff, show j / 6 = sc by omega, List.getElem?_eq_none (by omega)] at e
        cases e)
      rw [show 6 * sc + p + (6 - p) = 6 * (sc + 1) by omega] at hsk
      exact ⟨⟨sc + 1, by omega, rfl, by rw [hsk]⟩, by simp (disch := omega) only [z_cl]; omega⟩
    · have hpl : p < (row sc).length := by omega
      have hcn : gd (row sc) p < n := gd_lt (rowS_of hO sc) hpl
      have hget : (row sc)[p]? = some (gd (row sc) p) := getD_some hpl
      refine m_row ?_
      rw [e1, l1, z_add, z_add, z_cl (by omega), hM4.2 p hpl, z_eq (by omega) (by omega)]
      have hdec : 6 - (nI (p + 1)).toNatClampNeg < 6 - (nI p).toNatClampNeg := by simp (disch := omega) only [z_cl]; omega
      refine ⟨(z_in (by omega)).mpr (by omega), fun q => ⟨⟨p + 1, by omega, rfl, ?_⟩, hdec⟩, fun q => ⟨⟨p + 1, by omega, rfl, ?_⟩, hdec⟩⟩
      · rw [← Nat.add_assoc, lst_s, if_pos (by rw [atS_iff, show (6 * sc + p) / 6 = sc by omega, show (6 * sc + p) % 6 = p by omega, hget, q])]
        show nI p = nI ((6 * sc + p) % 6)
        rw [show (6 * sc + p) % 6 = p by omega]
      · rw [← Nat.add_assoc, lst_s, if_neg (by rw [atS_iff, show (6 * sc + p) / 6 = sc by omega, show (6 * sc + p) % 6 = p by omega, hget]; intro e; cases e; exact q rfl)]
end
