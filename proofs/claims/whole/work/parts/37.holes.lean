/-! what the model counts, told by the list -/
def T6 (num : Nat → Nat → Nat) (L : List (Nat × Nat)) : Prop := ∀ k, k < L.length → num (cd L k) 0 < 6 ∧ num (cd L k) 4 ≤ 1
theorem T6_of {n : Nat} {num : Nat → Nat → Nat} {L : List (Nat × Nat)} (hD : RRd n num L) : T6 num L := fun k hk => by
  have := hD.2.1 _ (hD.1.2.1 k hk).1
  exact ⟨by omega, by omega⟩
theorem sA_pS {num : Nat → Nat → Nat} {L : List (Nat × Nat)} {t k : Nat} (hp : pS num L t k = true) : sA num L k = lst (pS num L t) k := by
  unfold pS at hp
  rw [Bool.and_eq_true, beq_iff_eq, beq_iff_eq] at hp
  unfold sA
  rw [if_neg (by omega), hp.1]; rfl
theorem pS_cases {num : Nat → Nat → Nat} {L : List (Nat × Nat)} (h6 : T6 num L) {t k : Nat} (hk : k < L.length) : pS num L t k = true ∨ (pS num L t k = false ∧ (num (cd L k) 0 ≠ t ∨ sA num L k = none)) := by
  have h := h6 k hk
  by_cases h1 : num (cd L k) 0 = t
  · by_cases h2 : num (cd L k) 4 = 0
    · left; unfold pS; rw [h1, h2]; simp
    · right
      refine ⟨by unfold pS; rw [beq_eq_false_iff_ne.mpr h2]; simp, Or.inr ?_⟩
      unfold sA; rw [if_pos (by omega)]
  · right
    exact ⟨by unfold pS; rw [beq_eq_false_iff_ne.mpr h1]; simp, Or.inl h1⟩
/-- all breaks of a thread -/
theorem brM_tally {num : Nat → Nat → Nat} {st : Nat → Nat} {L : List (Nat × Nat)} {t : Nat} {sc : Option Nat} (h6 : T6 num L) : brM num L (flt (pS num L t) L.length) sc none (flt (pS num L t) L.length).length = tallyF num st L 12 (some t) sc := by
  unfold brM tallyF
  rw [tie (p := pS num L t) (Q := fun a b => isQ num L sc none a b), cnt_sumN]
  refine sumN_congr _ (fun k hk => ?_)
  have ew : worthF num st L 12 k = b2n (isBrk num L k) := rfl
  rw [ew]
  show b2n (pS num L t k && onL (fun a b => isQ num L sc none a b) k (lst (pS num L t) k)) = if (num (cd L k) 0 == t) && fits sc (sl L k / 6) then b2n (isBrk num L k) else 0
  rcases pS_cases (t := t) h6 hk with hp | ⟨hp, hq⟩
  · have hs := sA_pS hp
    have ht : (num (cd L k) 0 == t) = true := by
      unfold pS at hp; rw [Bool.and_eq_true] at hp; exact hp.1
    rw [hp, ht, Bool.true_and, Bool.true_and]
    unfold isBrk
    rw [hs]
    cases lst (pS num L t) k with
    | none => show b2n false = if _ then b2n false else 0; split <;> rfl
    | some b =>
      show b2n (decide (num (cd L k) 1 < num (cd L b) 1) && (fits sc (sl L k / 6) && true)) = if fits sc (sl L k / 6) then b2n (decide (num (cd L k) 1 < num (cd L b) 1)) else 0
      cases fits sc (sl L k / 6) <;> cases decide (num (cd L k) 1 < num (cd L b) 1) <;> rfl
  · rw [hp]
    rcases hq with hq | hq
    · rw [beq_eq_false_iff_ne.mpr hq]; rfl
    · unfold isBrk
      rw [hq]
      show b2n false = if _ then b2n false else 0
      split <;> rfl
theorem tally_all {num : Nat → Nat → Nat} {st : Nat → Nat} {L : List (Nat × Nat)} {w : Nat} {sc : Option Nat} (h6 : T6 num L) : sumN (fun t => tallyF num st L w (some t) sc) 6 = tallyF num st L w none sc :=
  sum_swap (x := fun k => num (cd L k) 0) (c := fun k => fits sc (sl L k / 6)) (w := fun k => worthF num st L w k) L.length (fun k hk => (h6 k hk).1)
theorem tallyF_le2 {n : Nat} {num : Nat → Nat → Nat} {st : Nat → Nat} {L : List (Nat × Nat)} {w : Nat} {t sc : Option Nat} (hD : RRd n num L) : tallyF num st L w t sc ≤ 39960 := tallyF_le hD (Nat.le_refl _)
section
variable {n : Nat} {num : Nat → Nat → Nat} {row : Nat → List Nat} {st : Nat → Nat} {s : Nat → Int32}
theorem m_breaksT {w sm : Int32} {order rank straight : Nat → Int32} {t : Nat} {sc : Option Nat} {post : Int32 → Int32 → Int32 → (Nat → Int32) → (Nat → Int32) → (Nat → Int32) → Prop} (hM : RM n num row st s) (hO : rowOk n row) (hN : numOk n num) (ht : t < 6) (hsc : ∀ u, sc = some u → u < 16) (h : ∀ w sm order rank straight, post (nI (tallyF num st (pre row 96) 12 (some t) sc)) w sm order rank straight) : wp_X9_breaks (nI t) (optI sc) (-5) w sm s order rank straight post := by
  refine m_breaks (c := none) hM hO hN ht hsc (fun u hu => by cases hu) (fun w sm order rank straight => ?_)
  have := brM_tally (st := st) (t := t) (sc := sc) (T6_of (RRd_pre hO hN))
  unfold sRow
  rw [this]; exact h _ _ _ _ _
theorem m_allBreaks {w sm : Int32} {order rank straight : Nat → Int32} {post : Int32 → Int32 → Int32 → (Nat → Int32) → (Nat → Int32) → (Nat → Int32) → Prop} (hM : RM n num row st s) (hO : rowOk n row) (hN : numOk n num) (h : ∀ w sm order rank straight, post (nI (tallyF num st (pre row 96) 12 none none)) w sm order rank straight) : wp_X9_allBreaks w sm s order rank straight post := by
  have hD := RRd_pre hO hN
  unfold wp_X9_allBreaks wp_X9_allBreaks_l4
  rw [← tally_all (T6_of hD)] at h
  have hle : ∀ t, tallyF num st (pre row 96) 12 (some t) none ≤ 39960 := fun t => tallyF_le2 hD
  have hb := fun sc u sm order rank straight post ht hsc h => @m_breaksT n num row st s u sm order rank straight sc none post hM hO hN ht hsc h
  clear hD
  generalize (pre row 96) = L at h hle hb
  refine lf7_i (fun x1 x2 _ _ _ _ _ => ∃ t, t ≤ 6 ∧ x2 = nI t ∧ x1 = nI (sumN (fun t => tallyF num st L 12 (some t) none) t)) (fun _ x2 _ _ _ _ _ => 6 - x2.toNatClampNeg) ⟨0, by omega, rfl, rfl⟩ ?_
  rintro x1 x2 w sm order rank straight ⟨t, ht, rfl, rfl⟩
  have hs := sumN_le (b := 39960) (f := fun t => tallyF num st L 12 (some t) none) t (fun k _ => hle k)
  refine ⟨fun hx => ?_, fun hx => ?_⟩
  · have h6 : t = 6 := by simp (disch := omega) only [l6, z_le] at hx; omega
    subst h6; exact h _ _ _ _ _
  · have h6 : t < 6 := by simp (disch := omega) only [l6, z_le] at hx; omega
    refine hb t w sm order rank straight _ h6 (fun u hu => by cases hu) (fun w sm order rank straight => ?_)
    rw [l1, z_add, z_add]
    exact ⟨⟨t + 1, by omega, rfl, rfl⟩, by simp (disch := omega) only [z_cl]; omega⟩
theorem m_breaksIn {w sm : Int32} {order rank straight : Nat → Int32} {sc : Nat} {post : Int32 → Int32 → Int32 → (Nat → Int32) → (Nat → Int32) → (Nat → Int32) → Prop} (hM : RM n num row st s) (hO : rowOk n row) (hN : numOk n num) (hsc : sc < 16) (h : ∀ w sm order rank straight, post (nI (tallyF num st (pre row 96) 12 none (some sc))) w sm order rank straight) : wp_X9_breaksIn (nI sc) w sm s order rank straight post := by
  have hD := RRd_pre hO hN
  unfold wp_X9_breaksIn wp_X9_breaksIn_l4
  rw [← tally_all (T6_of hD)] at h
  have hle : ∀ t, tallyF num st (pre row 96) 12 (some t) (some sc) ≤ 39960 := fun t => tallyF_le2 hD
  have hb := fun u sm order rank straight t post ht hsc h => @m_breaksT n num row st s u sm order rank straight t (some sc) post hM hO hN ht hsc h
  clear hD
  generalize (pre row 96) = L at h hle hb
  refine lf7_i (fun x1 x2 _ _ _ _ _ => ∃ t, t ≤ 6 ∧ x2 = nI t ∧ x1 = nI (sumN (fun t => tallyF num st L 12 (some t) (some sc)) t)) (fun _ x2 _ _ _ _ _ => 6 - x2.toNatClampNeg) ⟨0, by omega, rfl, rfl⟩ ?_
  rintro x1 x2 w sm order rank straight ⟨t, ht, rfl, rfl⟩
  have hs := sumN_le (b := 39960) (f := fun t => tallyF num st L 12 (some t) (some sc)) t (fun k _ => hle k)
  refine ⟨fun hx => ?_, fun hx => ?_⟩
  · have h6 : t = 6 := by simp (disch := omega) only [l6, z_le] at hx; omega
    subst h6; exact h _ _ _ _ _
  · have h6 : t < 6 := by simp (disch := omega) only [l6, z_le] at hx; omega
    refine hb w sm order rank straight t _ h6 (fun u hu => by cases hu; exact hsc) (fun w sm order rank straight => ?_)
    rw [l1, z_add, z_add]
    exact ⟨⟨t + 1, by omega, rfl, rfl⟩, by simp (disch := omega) only [z_cl]; omega⟩
/-- threads that stand -/
def stnd (num : Nat → Nat → Nat) (st : Nat → Nat) (L : List (Nat × Nat)) : Nat → Nat := cnt (fun t => tallyF num st L 12 (some t) none == 0)
theorem m_standing {w sm : Int32} {order rank straight : Nat → Int32} {post : Int32 → Int32 → Int32 → (Nat → Int32) → (Nat → Int32) → (Nat → Int32) → Prop} (hM : RM n num row st s) (hO : rowOk n row) (hN : numOk n num) (h : ∀ w sm order rank straight, post (nI (stnd num st (pre row 96) 6)) w sm order rank straight) : wp_X9_standing w sm s order rank straight post := by
  have hD := RRd_pre hO hN
  unfold wp_X9_standing wp_X9_standing_l4
  have hle : ∀ t, tallyF num st (pre row 96) 12 (some t) none ≤ 39960 := fun t => tallyF_le2 hD
  have hb := fun u sm order rank straight t post ht hsc h => @m_breaksT n num row st s u sm order rank straight t none post hM hO hN ht hsc h
  clear hD
  generalize (pre row 96) = L at h hle hb
  refine lf7_i (fun x1 x2 _ _ _ _ _ => ∃ t, t ≤ 6 ∧ x2 = nI t ∧ x1 = nI (stnd num st L t)) (fun _ x2 _ _ _ _ _ => 6 - x2.toNatClampNeg) ⟨0, by omega, rfl, rfl⟩ ?_
  rintro x1 x2 w sm order rank straight ⟨t, ht, rfl, rfl⟩
  refine ⟨fun hx => ?_, fun hx => ?_⟩
  · have h6 : t = 6 := by simp (disch := omega) only [l6, z_le] at hx; omega
    subst h6; exact h _ _ _ _ _
  · have h6 : t < 6 := by simp (disch := omega) only [l6, z_le] at hx; omega
    refine hb w sm order rank straight t _ h6 (fun u hu => by cases hu) (fun w sm order rank straight => ?_)
    have := hle t
    rw [l0, z_eq (by omega) (by omega), l1, z_add, z_add, z_add]
    have hst : stnd num st L (t + 1) = stnd num st L t + (if (tallyF num st L 12 (some t) none == 0) = true then 1 else 0) := rfl
    refine ⟨fun q => ⟨⟨t + 1, by omega, rfl, ?_⟩, by simp (disch := omega) only [z_cl]; omega⟩, fun q => ⟨⟨t + 1, by omega, rfl, ?_⟩, by simp (disch := omega) only [z_cl]; omega⟩⟩
    · rw [hst, if_pos (beq_iff_eq.mpr q)]
    · rw [hst, if_neg (by rw [beq_iff_eq]; exact q)]
/-- time holes -/
def isT (num : Nat → Nat → Nat) (s1 : Nat) (L : List (Nat × Nat)) (a b : Nat) : Bool := decide (num (cd L a) 1 + s1 < num (cd L b) 1)
theorem tiM_tally {L : List (Nat × Nat)} {t : Nat} (h6 : T6 num L) : cnt (fun i => decide (0 < i) && isT num (st 1) L ((flt (pS num L t) L.length).getD (i - 1) 0) ((flt (pS num L t) L.length).getD i 0)) (flt (pS num L t) L.length).length = tallyF num st L 14 (some t) none := by
  unfold tallyF
  rw [tie (p := pS num L t) (Q := fun a b => isT num (st 1) L a b), cnt_sumN]
  refine sumN_congr _ (fun k hk => ?_)
  have ew : worthF num st L 14 k = b2n (isTiH num (st 1) L k) := rfl
  rw [ew]
  show b2n (pS num L t k && onL (fun a b => isT num (st 1) L a b) k (lst (pS num L t) k)) = if (num (cd L k) 0 == t) && true then b2n (isTiH num (st 1) L k) else 0
  rw [Bool.and_true]
  rcases pS_cases (t := t) h6 hk with hp | ⟨hp, hq⟩
  · have hs := sA_pS hp
    have ht : (num (cd L k) 0 == t) = true := by
      unfold pS at hp; rw [Bool.and_eq_true] at hp; exact hp.1
    rw [hp, ht, Bool.true_and, if_pos rfl]
    unfold isTiH
    rw [hs]
    cases lst (pS num L t) k with
    | none => rfl
    | some b => rfl
  · rw [hp]
    rcases hq with hq | hq
    · rw [beq_eq_false_iff_ne.mpr hq]; rfl
    · unfold isTiH
      rw [hq]
      show b2n false = if _ then b2n false else 0
      split <;> rfl
theorem m_timeHoles {w sm : Int32} {order rank straight : Nat → Int32} {t : Nat} {post : Int32 → Int32 → Int32 → (Nat → Int32) → (Nat → Int32) → (Nat → Int32) → Prop} (hM : RM n num row st s) (hO : rowOk n row) (hN : numOk n num) (hS : setOk st) (ht : t < 6) (h : ∀ w sm order rank straight, post (nI (tallyF num st (pre row 96) 14 (some t) none)) w sm order rank straight) : wp_X9_timeHoles (nI t) w sm s order rank straight post := by
  have hn := hO.2.2.2
  have hD := RRd_pre hO hN
  have hl := hD.1.1
  have hG : RGo num (pre row 96) (sRow num row t) := RGo_flt (t := t) hD
  have hti := tiM_tally (st := st) (t := t) (T6_of hD)
  have hti2 : cnt (fun i => decide (0 < i) && isT num (st 1) (pre row 96) ((sRow num row t).getD (i - 1) 0) ((sRow num row t).getD i 0)) (sRow num row t).length = tallyF num st (pre row 96) 14 (some t) none := hti
  rw [← hti2] at h
  clear hti hti2
  unfold wp_X9_timeHoles
  refine m_layStraight hM hO hN ht (fun order rank straight hR hs => ?_)
  have hRl : (sRow num row t).length ≤ 40 := hG.2.1
  generalize sRow num row t = R at h hs hRl hG ⊢
  generalize pre row 96 = L at h hs hD hl hG hR ⊢
  unfold wp_X9_timeHoles_l9
  by_cases h0 : R.length = 0
  · refine lf2_i (fun x4 x5 => x4 = nI 0 ∧ x5 = nI 1) (fun _ _ => 0) ⟨rfl, rfl⟩ ?_
    rintro x4 x5 ⟨rfl, rfl⟩
    refine ⟨fun _ => ?_, fun q => absurd (by rw [h0]; decide) q⟩
    have := h (nI L.length) (nI R.length) order rank straight
    rw [h0] at this ⊢; exact this
  · refine lf2_i (fun x4 x5 => ∃ j, 1 ≤ j ∧ j ≤ R.length ∧ x5 = nI j ∧ x4 = nI (cnt (fun i => decide (0 < i) && isT num (st 1) L (R.getD (i - 1) 0) (R.getD i 0)) j)) (fun _ x5 => R.length - x5.toNatClampNeg) ⟨1, by omega, by omega, rfl, rfl⟩ ?_
    rintro x4 x5 ⟨j, hj1, hj, rfl, rfl⟩
    rw [z_le (by omega) (by omega)]
    refine ⟨fun hx => ?_, fun hx => ?_⟩
    · have hjn : j = R.length := by omega
      subst hjn; exact h _ _ _ _ _
    · have hjn : j < R.length := by omega
      have ec : (nI j).toNatClampNeg = j := z_cl (by omega)
      have hdec : R.length - (nI (j + 1)).toNatClampNeg < R.length - j := by simp (disch := omega) only [z_cl]; omega
      have g1 := hG.2.2.1 j hjn
      have g2 := hG.2.2.1 (j - 1) (by omega)
      have c1 := hD.1.2.1 _ g1.1
      have c2 := hD.1.2.1 _ g2.1
      rw [ec]
      refine ⟨(z_in (by omega)).mpr (by omega), ?_⟩
      rw [hs j hjn]
      refine m_of (k := 1) hM hn c1.1 (by omega) ?_
      rw [l1, z_sub hj1, z_cl (show j - 1 < 2147483648 by omega), hs (j - 1) (by omega)]
      refine ⟨(z_in (by omega)).mpr (by omega), ?_⟩
      refine m_of (k := 1) hM hn c2.1 (by omega) ?_
      have b1 := numB hN c1.1 1 (by omega)
      have b2 := numB hN c2.1 1 (by omega)
      have d1 : num (CR L R j) 1 = num (cd L (R.getD j 0)) 1 := rfl
      have d2 : num (CR L R (j - 1)) 1 = num (cd L (R.getD (j - 1) 0)) 1 := rfl
      have hs1 : s ((2 : Int32)).toNatClampNeg = nI (st 1) := hM.2.1 1 (by omega)
      have hst1 := hS.2.2.1
      rw [hs1, d1, d2, z_subLe (by omega) (by omega) (by omega), l0, z_add, z_add, z_add]
      have hstep : cnt (fun i => decide (0 < i) && isT num (st 1) L (R.getD (i - 1) 0) (R.getD i 0)) (j + 1) = cnt (fun i => decide (0 < i) && isT num (st 1) L (R.getD (i - 1) 0) (R.getD i 0)) j + (if isT num (st 1) L (R.getD (j - 1) 0) (R.getD j 0) then 1 else 0) := by
        rw [cnt]
        have : decide (0 < j) = true := decide_eq_true (by omega)
        rw [this, Bool.true_and]
      refine ⟨fun q => ⟨⟨j + 1, by omega, by omega, rfl, ?_⟩, hdec⟩, fun q => ⟨⟨j + 1, by omega, by omega, rfl, ?_⟩, hdec⟩⟩
      · rw [hstep, if_neg (by unfold isT; rw [decide_eq_true_iff]; omega)]
      · rw [hstep, if_pos (by unfold isT; rw [decide_eq_true_iff]; omega)]
/-- thread holes -/
theorem aA_pT {L : List (Nat × Nat)} {t k : Nat} (hp : num (cd L k) 0 = t) : aA num L k = lst (fun j => num (cd L j) 0 == t) k := by unfold aA; rw [hp]
theorem m_threadHoles {w : Int32} {order rank : Nat → Int32} {t : Nat} {post : Int32 → Int32 → (Nat → Int32) → (Nat → Int32) → Prop} (hM : RM n num row st s) (hO : rowOk n row) (hN : numOk n num) (hS : setOk st) (ht : t < 6) (h : ∀ w order rank, post (nI (tallyF num st (pre row 96) 13 (some t) none)) w order rank) : wp_X9_threadHoles (nI t) w s order rank post := by
  have hn := hO.2.2.2
  have hD := RRd_pre hO hN
  have hl := hD.1.1
  have hat : ∀ k, k < (pre row 96).length → slotO row (cd (pre row 96) k) = some (sl (pre row 96) k) := fun k hk => slotO_at hO.2.2.1 (hD.1.2.1 k hk).2 (pre_at (row := row) (t := 96) hk).2
  unfold wp_X9_threadHoles
  refine m_layOrder hM hO (fun order rank hR => ?_)
  generalize pre row 96 = L at h hD hl hat hR ⊢
  unfold wp_X9_threadHoles_l12
  refine lf3_i (fun x2 x3 x4 => ∃ j, j ≤ L.length ∧ x4 = nI j ∧ x3 = optI ((lst (fun k => num (cd L k) 0 == t) j).map (cd L)) ∧ x2 = nI (sumN (fun k => if fits (some t) (num (cd L k) 0) && fits none (sl L k / 6) then worthF num st L 13 k else 0) j)) (fun _ _ x4 => L.length - x4.toNatClampNeg) ⟨0, by omega, rfl, rfl, rfl⟩ ?_
  rintro x2 x3 x4 ⟨j, hj, rfl, rfl, rfl⟩
  rw [z_le (by omega) (by omega)]
  refine ⟨fun hx => ?_, fun hx => ?_⟩
  · have hjn : j = L.length := by omega
    subst hjn; exact h _ _ _
  · have hjn : j < L.length := by omega
    have hle := tallyF_le (st := st) (w := 13) (t := some t) (sc := none) hD hj
    have ec : (nI j).toNatClampNeg = j := z_cl (by omega)
    have hdec : L.length - (nI (j + 1)).toNatClampNeg < L.length - j := by simp (disch := omega) only [z_cl]; omega
    have hcn := hD.1.2.1 j hjn
    have hnk := hN _ hcn.1
    have hin : vp_in (nI j) 40 := (z_in (by omega)).mpr (by omega)
    have e1 : nI j + (1 : Int32) = nI (j + 1) := by rw [l1, z_add]
    rw [ec, e1, (hR.1 j hjn).1]
    refine ⟨hin, ?_⟩
    refine m_of (k := 0) hM hn hcn.1 (by omega) ?_
    rw [z_eq (by omega) (by omega)]
    refine ⟨fun q => ?_, fun q => ⟨⟨j + 1, by omega, rfl, ?_, ?_⟩, hdec⟩⟩
    · have hq : (num (cd L j) 0 == t) = true := beq_iff_eq.mpr q
      have hlast : lst (fun k => num (cd L k) 0 == t) (j + 1) = some j := by rw [lst_s, if_pos hq]
      have hstep : sumN (fun k => if fits (some t) (num (cd L k) 0) && fits none (sl L k / 6) then worthF num st L 13 k else 0) (j + 1) = sumN (fun k => if fits (some t) (num (cd L k) 0) && fits none (sl L k / 6) then worthF num st L 13 k else 0) j + b2n (isTH num (st 0) L j) := by
        rw [sumN]
        show _ + (if (num (cd L j) 0 == t) && true then b2n (isTH num (st 0) L j) else 0) = _
        rw [hq]; rfl
      have e5 : (-5 : Int32) = -nI 5 := rfl
      have no : isTH num (st 0) L j = false → wp_X9_threadHoles_j76 (nI t) (nI j) (nI (sumN (fun k => if fits (some t) (num (cd L k) 0) && fits none (sl L k / 6) then worthF num st L 13 k else 0) j)) (nI L.length) s order rank (fun u0 u1 u2 => (∃ j, j ≤ L.length ∧ u2 = nI j ∧ u1 = optI ((lst (fun k => num (cd L k) 0 == t) j).map (cd L)) ∧ u0 = nI (sumN (fun k => if fits (some t) (num (cd L k) 0) && fits none (sl L k / 6) then worthF num st L 13 k else 0) j)) ∧ L.length - u2.toNatClampNeg < L.length - j) post := by
        intro hf
        unfold wp_X9_threadHoles_j76 wp_X9_threadHoles_j77
        rw [ec, e1, (hR.1 j hjn).1]
        refine ⟨hin, ⟨j + 1, by omega, rfl, by rw [hlast]; rfl, ?_⟩, hdec⟩
        rw [hstep, hf, l0, z_add]; rfl
      unfold isTH at no
      rw [aA_pT q] at no
      rw [e5]
      cases hb : lst (fun k => num (cd L k) 0 == t) j with
      | none => rw [hb] at no; exact ⟨fun _ => no rfl, fun q2 => absurd rfl q2⟩
      | some b =>
        rw [hb] at no; dsimp only at no
        have hbj := (lst_lt _ hb).1
        have hcb := hD.1.2.1 b (by omega)
        refine ⟨fun q2 => absurd q2 (by show ¬ nI (cd L b) = -nI 5; rw [z_en (by omega) (by omega) (by omega)]; exact id), fun _ => ⟨hin, ?_⟩⟩
        refine m_sceneOf hM hO hcn.1 ?_
        refine m_sceneOf (c := cd L b) hM hO hcb.1 ?_
        rw [hat j hjn, hat b (by omega)]
        have hs0 : s ((1 : Int32)).toNatClampNeg = nI (st 0) := hM.2.1 0 (by omega)
        have hst0 := hS.1
        rw [hs0, l1]
        have s1 := hcn.2
        have s2 := hcb.2
        have ee : (optI (Option.map (· / 6) (some (sl L j))) - optI (Option.map (· / 6) (some (sl L b))) - nI 1 ≤ nI (st 0)) ↔ sl L j / 6 ≤ sl L b / 6 + 1 + st 0 := by
          show (nI (sl L j / 6) - nI (sl L b / 6) - nI 1 ≤ nI (st 0)) ↔ _
          exact z_sub1Le (by omega) (by omega) (by omega)
        rw [ee]
        refine ⟨fun q2 => no (decide_eq_false (by omega)), fun q2 => ?_⟩
        unfold wp_X9_threadHoles_j77
        rw [ec, (hR.1 j hjn).1, l1, z_add, z_add]
        refine ⟨hin, ⟨j + 1, by omega, rfl, by rw [hlast]; rfl, ?_⟩, hdec⟩
        have hyes : isTH num (st 0) L j = true := by
          unfold isTH
          rw [aA_pT q, hb]
          exact decide_eq_true (by omega)
        rw [hstep, hyes]; rfl
    · have hq : (num (cd L j) 0 == t) = false := beq_eq_false_iff_ne.mpr q
      rw [lst_s, if_neg (by rw [hq]; decide)]
    · have hq : (num (cd L j) 0 == t) = false := beq_eq_false_iff_ne.mpr q
      rw [sumN]
      show _ = nI (_ + (if (num (cd L j) 0 == t) && true then worthF num st L 13 j else 0))
      rw [hq]; rfl
end
