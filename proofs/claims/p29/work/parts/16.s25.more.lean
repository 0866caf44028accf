/-! ranks, the breaks one by one, the threads of a scene; the straight row -/
section
variable {n : Nat} {num : Nat → Nat → Nat} {L : List (Nat × Nat)} {size csize : Int32} {cnum names slots ahead sAhead : Nat → Int32} {post : Int32 → Prop} {k : Nat}
theorem s_rankOf {c : Nat} (hD : RRd n num L) (hR : RR num L size csize cnum names slots ahead sAhead) (hc : c < n) (h : ∀ k, k < L.length → cd L k = c → post (nI k)) (hno : (∀ k, k < L.length → cd L k ≠ c) → post (-nI 5)) : wp_X3_rankOf (nI c) size names post := by
  have hl := hD.1.1
  have hn := hD.2.2
  unfold wp_X3_rankOf wp_X3_rankOf_l2
  refine lf1_i (fun x2 => ∃ j, j ≤ L.length ∧ x2 = nI j ∧ ∀ k, k < j → cd L k ≠ c) (fun x2 => L.length - x2.toNatClampNeg) ⟨0, by omega, rfl, fun k hk => absurd hk (Nat.not_lt_zero _)⟩ ?_
  rintro x2 ⟨j, hj, rfl, hz⟩
  refine ⟨fun hx => ?_, fun hx => ?_⟩
  · rw [hR.1] at hx
    have hjn : j = L.length := by simp (disch := omega) only [z_le] at hx; omega
    subst hjn; exact hno hz
  · rw [hR.1] at hx
    have hjn : j < L.length := by simp (disch := omega) only [z_le] at hx; omega
    refine s_card3 hD hR hjn ?_
    have hcn := (hD.1.2.1 j hjn).1
    simp (disch := omega) only [l0, l1, l2, l3, l4, l5, l6, l7, l8, l9, l10, l11, l12, l13, l14, l15, l16, l23, l31, l40, l42, l44, l48, l49, l57, l59, l60, l65, l70, l96, l100, l101, l127, l200, l204, l254, l316, l948, l999, l1000, l9999, z_le, z_lt, z_eq, z_en, z_ne, z_nn, z_ltn, z_nlt, z_len, z_nle, z_add, z_mul, z_sub, z_div, z_cl, z_in, z_addn, z_no, z_yes, not_true_eq_false, not_false_eq_true, false_implies, true_implies, true_and, and_true, forall_const]
    refine ⟨fun q => h j hjn q, fun q => ⟨⟨j + 1, by omega, rfl, fun k hk => ?_⟩, by omega⟩⟩
    rcases Nat.lt_or_ge k j with r | r
    · exact hz k r
    · rw [show k = j by omega]; exact q
theorem bI_0 {b : Bool} : bI b = 0 ↔ b = false := by cases b <;> decide
theorem s_breakNumber {r : Nat} (hD : RRd n num L) (hR : RR num L size csize cnum names slots ahead sAhead) (hr : r < 2147483648) (h : ∀ k, k < L.length → isBrk num L k = true → cnt (isBrk num L) k = r → post (nI (cd L k))) (hno : (∀ k, k < L.length → isBrk num L k = true → cnt (isBrk num L) k ≠ r) → post (-nI 5)) : wp_X3_breakNumber (nI r) size csize cnum names sAhead post := by
  have hl := hD.1.1
  have hn := hD.2.2
  unfold wp_X3_breakNumber wp_X3_breakNumber_l4
  refine lf2_i (fun x2 x3 => ∃ j, j ≤ L.length ∧ x3 = nI j ∧ x2 = nI (cnt (isBrk num L) j) ∧ ∀ k, k < j → isBrk num L k = true → cnt (isBrk num L) k ≠ r) (fun _ x3 => L.length - x3.toNatClampNeg) ⟨0, by omega, rfl, rfl, fun k hk => absurd hk (Nat.not_lt_zero _)⟩ ?_
  rintro x2 x3 ⟨j, hj, rfl, rfl, hz⟩
  have hcl := cnt_le (isBrk num L) j
  have e1 : nI j + (1 : Int32) = nI (j + 1) := by rw [l1, z_add]
  refine ⟨fun hx => ?_, fun hx => ?_⟩
  · rw [hR.1] at hx
    have hjn : j = L.length := by simp (disch := omega) only [z_le] at hx; omega
    subst hjn; exact hno hz
  · rw [hR.1] at hx
    have hjn : j < L.length := by simp (disch := omega) only [z_le] at hx; omega
    have hdec : L.length - (nI (j + 1)).toNatClampNeg < L.length - (nI j).toNatClampNeg := by simp (disch := omega) only [z_cl]; omega
    refine s_isBreak hD hR hjn ?_
    rw [bI_0, e1]
    refine ⟨fun q => ⟨⟨j + 1, by omega, rfl, ?_, fun k hk hb => ?_⟩, hdec⟩, fun q => ⟨fun q2 => ?_, fun q2 => ⟨⟨j + 1, by omega, rfl, ?_, fun k hk hb => ?_⟩, hdec⟩⟩⟩
    · rw [cnt, q]; rfl
    · rcases Nat.lt_or_ge k j with r | r
      · exact hz k r hb
      · rw [show k = j by omega, q] at hb; cases hb
    · refine s_card3 hD hR hjn ?_
      rw [z_eq (by omega) (by omega)] at q2
      exact h j hjn (by simpa using q) q2
    · rw [cnt, if_pos (by simpa using q), l1, z_add]
    · rcases Nat.lt_or_ge k j with r | r
      · exact hz k r hb
      · rw [show k = j by omega]
        rw [z_eq (by omega) (by omega)] at q2
        exact q2
def thrB (num : Nat → Nat → Nat) (L : List (Nat × Nat)) (sc : Nat) : Nat → Int32
  | 0 => 0
  | m + 1 => if sl L m / 6 = sc then thrB num L sc m ||| ((1 : Int32) <<< (nI (num (cd L m) 0) &&& 31)) else thrB num L sc m
theorem s_threadsIn {sc : Nat} (hD : RRd n num L) (hR : RR num L size csize cnum names slots ahead sAhead) (hsc : sc < 16) (h : post (thrB num L sc L.length)) : wp_X3_threadsIn (nI sc) size csize cnum slots post := by
  have hl := hD.1.1
  unfold wp_X3_threadsIn wp_X3_threadsIn_l4
  refine lf2_i (fun x2 x3 => ∃ j, j ≤ L.length ∧ x3 = nI j ∧ x2 = thrB num L sc j) (fun _ x3 => L.length - x3.toNatClampNeg) ⟨0, by omega, rfl, rfl⟩ ?_
  rintro x2 x3 ⟨j, hj, rfl, rfl⟩
  have e1 : nI j + (1 : Int32) = nI (j + 1) := by rw [l1, z_add]
  refine ⟨fun hx => ?_, fun hx => ?_⟩
  · rw [hR.1] at hx
    have hjn : j = L.length := by simp (disch := omega) only [z_le] at hx; omega
    subst hjn; exact h
  · rw [hR.1] at hx
    have hjn : j < L.length := by simp (disch := omega) only [z_le] at hx; omega
    have hdec : L.length - (nI (j + 1)).toNatClampNeg < L.length - (nI j).toNatClampNeg := by simp (disch := omega) only [z_cl]; omega
    have hs := (hD.1.2.1 j hjn).2
    refine s_scene3 hD hR hjn ?_
    rw [z_eq (by omega) (by omega), e1]
    refine ⟨fun q => ?_, fun q => ⟨⟨j + 1, by omega, rfl, ?_⟩, hdec⟩⟩
    · refine s_num3 (i := 0) hD hR hjn (by omega) ⟨⟨j + 1, by omega, rfl, ?_⟩, hdec⟩
      rw [thrB, if_pos q]
    · rw [thrB, if_neg q]
end
/-- the indices below m that have it -/
def flt (p : Nat → Bool) : Nat → List Nat
  | 0 => []
  | m + 1 => flt p m ++ (if p m then [m] else [])
theorem flt_y {p : Nat → Bool} {m : Nat} (h : p m = true) : flt p (m + 1) = flt p m ++ [m] := by rw [flt, if_pos h]
theorem flt_n {p : Nat → Bool} {m : Nat} (h : p m = false) : flt p (m + 1) = flt p m := by rw [flt, if_neg (by rw [h]; decide), List.append_nil]
theorem flt_len (p : Nat → Bool) : ∀ m, (flt p m).length ≤ m
  | 0 => Nat.le_refl _
  | m + 1 => by
    have := flt_len p m
    cases h : p m with
    | true => rw [flt_y h, List.length_append, List.length_singleton]; omega
    | false => rw [flt_n h]; omega
theorem flt_mem {p : Nat → Bool} {k : Nat} : ∀ m, k ∈ flt p m ↔ k < m ∧ p k = true
  | 0 => by simp [flt]
  | m + 1 => by
    have ih := flt_mem (p := p) (k := k) m
    cases h : p m with
    | true =>
      rw [flt_y h, List.mem_append, ih, List.mem_singleton]
      constructor
      · rintro (⟨a, b⟩ | rfl)
        · exact ⟨by omega, b⟩
        · exact ⟨by omega, h⟩
      · rintro ⟨a, b⟩
        rcases Nat.lt_or_ge k m with q | q
        · exact Or.inl ⟨q, b⟩
        · exact Or.inr (by omega)
    | false =>
      rw [flt_n h, ih]
      constructor
      · rintro ⟨a, b⟩; exact ⟨by omega, b⟩
      · rintro ⟨a, b⟩
        refine ⟨?_, b⟩
        rcases Nat.lt_or_ge k m with q | q
        · exact q
        · rw [show k = m by omega, h] at b; cases b
theorem flt_congr {p q : Nat → Bool} : ∀ m, (∀ j, j < m → p j = q j) → flt p m = flt q m
  | 0, _ => rfl
  | m + 1, h => by rw [flt, flt, flt_congr m (fun j hj => h j (by omega)), h m (by omega)]
theorem flt_at {p : Nat → Bool} {m i : Nat} (h : i < (flt p m).length) : (flt p m).getD i 0 < m ∧ p ((flt p m).getD i 0) = true := (flt_mem m).mp (getD_mem h)
theorem flt_up {p : Nat → Bool} : ∀ m i j, i < j → j < (flt p m).length → (flt p m).getD i 0 < (flt p m).getD j 0
  | 0, i, j, _, h => absurd h (Nat.not_lt_zero _)
  | m + 1, i, j, hij, h => by
    have ih := flt_up (p := p) m
    cases hp : p m with
    | false => rw [flt_n hp] at h ⊢; exact ih i j hij h
    | true =>
      rw [flt_y hp] at h ⊢
      rw [List.length_append, List.length_singleton] at h
      rcases Nat.lt_or_ge j (flt p m).length with q | q
      · rw [getD_l q, getD_l (by omega)]; exact ih i j hij q
      · rw [show j = (flt p m).length by omega, getD_e, getD_l (by omega)]
        exact (flt_at (p := p) (m := m) (i := i) (by omega)).1
/-- the straight row holds ranks -/
def RG (num : Nat → Nat → Nat) (L : List (Nat × Nat)) (R : List Nat) (size : Int32) (ranks cards hours slots : Nat → Int32) : Prop :=
  size = nI R.length ∧ ∀ i, i < R.length → ranks i = nI (R.getD i 0) ∧ cards i = nI (cd L (R.getD i 0)) ∧ hours i = nI (num (cd L (R.getD i 0)) 1) ∧ slots i = nI (sl L (R.getD i 0))
def pS (num : Nat → Nat → Nat) (L : List (Nat × Nat)) (t k : Nat) : Bool := num (cd L k) 0 == t && num (cd L k) 4 == 0
theorem s_gather {n : Nat} {num : Nat → Nat → Nat} {L : List (Nat × Nat)} {t : Nat} {size csize : Int32} {cnum names slots ahead sAhead : Nat → Int32} {gz : Int32} {ra ca ho so : Nat → Int32} {post : Int32 → (Nat → Int32) → (Nat → Int32) → (Nat → Int32) → (Nat → Int32) → Prop} (hD : RRd n num L) (hR : RR num L size csize cnum names slots ahead sAhead) (ht : t < 6) (h : ∀ gz ra ca ho so, RG num L (flt (pS num L t) L.length) gz ra ca ho so → post gz ra ca ho so) : wp_X5_gather (nI t) gz ra ca ho so size csize cnum names slots post := by
  have hl := hD.1.1
  have hn := hD.2.2
  unfold wp_X5_gather wp_X5_gather_l7
  refine lf6_i (fun x3 gz ra ca ho so => ∃ j, j ≤ L.length ∧ x3 = nI j ∧ RG num L (flt (pS num L t) j) gz ra ca ho so) (fun x3 _ _ _ _ _ => L.length - x3.toNatClampNeg) ⟨0, by omega, rfl, rfl, fun i hi => absurd hi (Nat.not_lt_zero _)⟩ ?_
  rintro x3 gz ra ca ho so ⟨j, hj, rfl, hG⟩
  unfold wp_X3_size
  have hfl := flt_len (pS num L t) j
  have e1 : nI j + (1 : Int32) = nI (j + 1) := by rw [l1, z_add]
  refine ⟨fun hx => ?_, fun hx => ?_⟩
  · rw [hR.1] at hx
    have hjn : j = L.length := by simp (disch := omega) only [z_le] at hx; omega
    subst hjn; exact h _ _ _ _ _ hG
  · rw [hR.1] at hx
    have hjn : j < L.length := by simp (disch := omega) only [z_le] at hx; omega
    have hdec : L.length - (nI (j + 1)).toNatClampNeg < L.length - (nI j).toNatClampNeg := by simp (disch := omega) only [z_cl]; omega
    have hcn := (hD.1.2.1 j hjn)
    have h4 := (hD.2.1 _ hcn.1).2.2.2.2.2
    have hhr := numB hD.2.1 hcn.1 1 (by omega)
    rw [hG.1]
    refine ⟨fun q => absurd q (by rw [l40, z_le (by omega) (by omega)]; omega), fun _ => ?_⟩
    refine s_isOf (t := some t) hD hR (fun u hu => by cases hu; exact ht) hjn ?_
    rw [bI_0, e1]
    refine ⟨fun q => ⟨⟨j + 1, by omega, rfl, ?_⟩, hdec⟩, fun q => ?_⟩
    · rw [flt_n (by unfold pS; rw [show (num (cd L j) 0 == t) = false from q]; rfl)]; exact ⟨rfl, hG.2⟩
    · have q1 : (num (cd L j) 0 == t) = true := eq_true_of_ne_false q
      unfold wp_X3_isStraight
      refine s_num3 (i := 4) hD hR hjn (by omega) ?_
      rw [l0, z_eq (by omega) (by omega)]
      refine ⟨fun r => ?_, fun r => ?_⟩
      · refine ⟨fun q => absurd q (by decide), fun _ => ?_⟩
        refine ⟨(z_in (by omega)).mpr (by omega), ?_⟩
        refine s_card3 hD hR hjn ?_
        refine ⟨(z_in (by omega)).mpr (by omega), ?_⟩
        unfold wp_X3_hourAt
        refine s_num3 (i := 1) hD hR hjn (by omega) ?_
        refine ⟨(z_in (by omega)).mpr (by omega), ?_⟩
        refine s_slot3 hD hR hjn ?_
        refine ⟨(z_in (by omega)).mpr (by omega), ⟨j + 1, by omega, rfl, ?_⟩, hdec⟩
        rw [flt_y (by unfold pS; rw [q1, r]; rfl)]
        rw [l1, z_add, z_cl (by omega)]
        refine ⟨by simp, fun i hi => ?_⟩
        rw [List.length_append, List.length_singleton] at hi
        rw [z_up, z_up, z_up, z_up]
        by_cases he : i = (flt (pS num L t) j).length
        · subst he
          rw [getD_e]; simp
        · rw [if_neg he, if_neg he, if_neg he, if_neg he, getD_l (by omega)]
          exact hG.2 i (by omega)
      · refine ⟨fun _ => ⟨⟨j + 1, by omega, rfl, ?_⟩, hdec⟩, fun q => absurd rfl q⟩
        rw [flt_n (by unfold pS; rw [show (num (cd L j) 4 == 0) = false from beq_eq_false_iff_ne.mpr r]; simp)]; exact ⟨rfl, hG.2⟩
theorem s_val5 {m k : Nat} {f : Nat → Int32} {post : Int32 → Prop} (hm : m ≤ 40) (hk : k < m) (h : post (f k)) : wp_X5_valueAt (nI k) (nI m) f post := by
  unfold wp_X5_valueAt
  simp (disch := omega) only [l0, l1, l2, l3, l4, l5, l6, l7, l8, l9, l10, l11, l12, l13, l14, l15, l16, l23, l31, l40, l42, l44, l48, l49, l57, l59, l60, l65, l70, l96, l100, l101, l127, l200, l204, l254, l316, l948, l999, l1000, l9999, z_le, z_lt, z_eq, z_en, z_ne, z_nn, z_ltn, z_nlt, z_len, z_nle, z_add, z_mul, z_sub, z_div, z_cl, z_in, z_addn, z_no, z_yes, not_true_eq_false, not_false_eq_true, false_implies, true_implies, true_and, and_true, forall_const]
  exact ⟨by omega, h⟩
theorem s_val5_no {m : Nat} {x : Int32} {f : Nat → Int32} {post : Int32 → Prop} (hx : x < nI 0 ∨ nI m ≤ x) (h : post (-nI 5)) : wp_X5_valueAt x (nI m) f post := by
  unfold wp_X5_valueAt
  refine ⟨fun _ => h, fun h1 => ⟨fun _ => h, fun h2 => ?_⟩⟩
  rcases hx with q | q
  · exact absurd q h1
  · exact absurd q h2
