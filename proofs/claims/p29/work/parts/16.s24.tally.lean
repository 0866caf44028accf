/-! what the reading tells -/
theorem z_toIntSub {a b : Nat} (ha : a < 1000000) (hb : b < 1000000) : (nI a - nI b).toInt = (a : Int) - b := by
  rw [Int32.toInt_sub, z_toInt (by omega), z_toInt (by omega)]
  rw [Int.bmod_eq_of_le] <;> omega
theorem z_subLe {a b c : Nat} (ha : a < 1000000) (hb : b < 1000000) (hc : c < 1000000) : (nI a - nI b ≤ nI c) ↔ a ≤ b + c := by
  rw [Int32.le_iff_toInt_le, z_toIntSub ha hb, z_toInt (by omega)]; omega
theorem z_sub1Le {a b c : Nat} (ha : a < 1000000) (hb : b < 1000000) (hc : c < 1000000) : (nI a - nI b - nI 1 ≤ nI c) ↔ a ≤ b + 1 + c := by
  rw [Int32.le_iff_toInt_le, Int32.toInt_sub, z_toIntSub ha hb, z_toInt (by omega), z_toInt (by omega)]
  rw [Int.bmod_eq_of_le] <;> omega
def RRd (n : Nat) (num : Nat → Nat → Nat) (L : List (Nat × Nat)) : Prop := LOk n L ∧ numOk n num ∧ n ≤ 40
theorem s_val3 {m k : Nat} {f : Nat → Int32} {post : Int32 → Prop} (hm : m ≤ 40) (hk : k < m) (h : post (f k)) : wp_X3_valueAt (nI k) (nI m) f post := by
  unfold wp_X3_valueAt
  simp (disch := omega) only [l0, l1, l2, l3, l4, l5, l6, l7, l8, l9, l10, l11, l12, l13, l14, l15, l16, l23, l31, l40, l42, l44, l48, l49, l57, l59, l60, l65, l70, l96, l100, l101, l127, l200, l204, l254, l316, l948, l999, l1000, l9999, z_le, z_lt, z_eq, z_en, z_ne, z_nn, z_ltn, z_nlt, z_len, z_nle, z_add, z_mul, z_sub, z_div, z_cl, z_in, z_addn, z_no, z_yes, not_true_eq_false, not_false_eq_true, false_implies, true_implies, true_and, and_true, forall_const]
  exact ⟨by omega, h⟩
theorem s_val3_no {m : Nat} {x : Int32} {f : Nat → Int32} {post : Int32 → Prop} (hx : x < nI 0 ∨ nI m ≤ x) (h : post (-nI 5)) : wp_X3_valueAt x (nI m) f post := by
  unfold wp_X3_valueAt
  refine ⟨fun _ => h, fun h1 => ⟨fun _ => h, fun h2 => ?_⟩⟩
  rcases hx with q | q
  · exact absurd q h1
  · exact absurd q h2
section
variable {n : Nat} {num : Nat → Nat → Nat} {L : List (Nat × Nat)} {size csize : Int32} {cnum names slots ahead sAhead : Nat → Int32} {post : Int32 → Prop} {k : Nat}
theorem s_num3 {i : Nat} (hD : RRd n num L) (hR : RR num L size csize cnum names slots ahead sAhead) (hk : k < L.length) (hi : i < 5) (h : post (nI (num (cd L k) i))) : wp_X1_number (nI k) (nI i) csize cnum post :=
  s_number (num := fun k i => num (cd L k) i) hR.2.1 hD.1.1 hk hi h
theorem s_card3 (hD : RRd n num L) (hR : RR num L size csize cnum names slots ahead sAhead) (hk : k < L.length) (h : post (nI (cd L k))) : wp_X3_cardAt (nI k) size names post := by
  unfold wp_X3_cardAt
  rw [hR.1]
  exact s_val3 hD.1.1 hk (by rw [hR.2.2.1 k hk]; exact h)
theorem s_slot3 (hD : RRd n num L) (hR : RR num L size csize cnum names slots ahead sAhead) (hk : k < L.length) (h : post (nI (sl L k))) : wp_X3_slotAt (nI k) size slots post := by
  unfold wp_X3_slotAt
  rw [hR.1]
  exact s_val3 hD.1.1 hk (by rw [hR.2.2.2.1 k hk]; exact h)
theorem s_scene3 (hD : RRd n num L) (hR : RR num L size csize cnum names slots ahead sAhead) (hk : k < L.length) (h : post (nI (sl L k / 6))) : wp_X3_sceneAt (nI k) size slots post := by
  have hs := (hD.1.2.1 k hk).2
  unfold wp_X3_sceneAt
  rw [hR.1]
  refine s_val3 hD.1.1 hk ?_
  rw [hR.2.2.2.1 k hk]
  have e5 : (-5 : Int32) = -nI 5 := rfl
  rw [e5]
  simp (disch := omega) only [l0, l1, l2, l3, l4, l5, l6, l7, l8, l9, l10, l11, l12, l13, l14, l15, l16, l23, l31, l40, l42, l44, l48, l49, l57, l59, l60, l65, l70, l96, l100, l101, l127, l200, l204, l254, l316, l948, l999, l1000, l9999, z_le, z_lt, z_eq, z_en, z_ne, z_nn, z_ltn, z_nlt, z_len, z_nle, z_add, z_mul, z_sub, z_div, z_cl, z_in, z_addn, z_no, z_yes, not_true_eq_false, not_false_eq_true, false_implies, true_implies, true_and, and_true, forall_const]
  exact h
theorem s_place3 (hD : RRd n num L) (hR : RR num L size csize cnum names slots ahead sAhead) (hk : k < L.length) (h : post (nI (sl L k % 6))) : wp_X3_placeAt (nI k) size slots post := by
  have hs := (hD.1.2.1 k hk).2
  unfold wp_X3_placeAt
  rw [hR.1]
  refine s_val3 hD.1.1 hk ?_
  rw [hR.2.2.2.1 k hk]
  have e5 : (-5 : Int32) = -nI 5 := rfl
  rw [e5]
  simp (disch := omega) only [l0, l1, l2, l3, l4, l5, l6, l7, l8, l9, l10, l11, l12, l13, l14, l15, l16, l23, l31, l40, l42, l44, l48, l49, l57, l59, l60, l65, l70, l96, l100, l101, l127, l200, l204, l254, l316, l948, l999, l1000, l9999, z_le, z_lt, z_eq, z_en, z_ne, z_nn, z_ltn, z_nlt, z_len, z_nle, z_add, z_mul, z_sub, z_div, z_cl, z_in, z_addn, z_no, z_yes, not_true_eq_false, not_false_eq_true, false_implies, true_implies, true_and, and_true, forall_const]
  rw [show sl L k - sl L k / 6 * 6 = sl L k % 6 by omega]
  exact h
theorem s_sceneNo (hR : RR num L size csize cnum names slots ahead sAhead) (h : post (-nI 5)) : wp_X3_sceneAt (-nI 5) size slots post := by
  unfold wp_X3_sceneAt
  rw [hR.1]
  refine s_val3_no (Or.inl (by decide)) ?_
  exact ⟨fun _ => h, fun q => absurd rfl q⟩
theorem s_placeNo (hR : RR num L size csize cnum names slots ahead sAhead) (h : post (-nI 5)) : wp_X3_placeAt (-nI 5) size slots post := by
  unfold wp_X3_placeAt
  rw [hR.1]
  refine s_val3_no (Or.inl (by decide)) ?_
  exact ⟨fun _ => h, fun q => absurd rfl q⟩
def isBrk (num : Nat → Nat → Nat) (L : List (Nat × Nat)) (k : Nat) : Bool := match sA num L k with
  | none => false
  | some b => decide (num (cd L k) 1 < num (cd L b) 1)
def isTH (num : Nat → Nat → Nat) (s0 : Nat) (L : List (Nat × Nat)) (k : Nat) : Bool := match aA num L k with
  | none => false
  | some b => decide (sl L b / 6 + 1 + s0 < sl L k / 6)
def isTiH (num : Nat → Nat → Nat) (s1 : Nat) (L : List (Nat × Nat)) (k : Nat) : Bool := match sA num L k with
  | none => false
  | some b => decide (num (cd L b) 1 + s1 < num (cd L k) 1)
def bI (b : Bool) : Int32 := if b then nI 1 else nI 0
def b2n (b : Bool) : Nat := if b then 1 else 0
theorem bI_eq (b : Bool) : bI b = nI (b2n b) := by cases b <;> rfl
theorem b2n_le (b : Bool) : b2n b ≤ 1 := by cases b <;> decide
theorem s_isBreak (hD : RRd n num L) (hR : RR num L size csize cnum names slots ahead sAhead) (hk : k < L.length) (h : post (bI (isBrk num L k))) : wp_X3_isBreak (nI k) size csize cnum sAhead post := by
  unfold wp_X3_isBreak
  rw [hR.1]
  refine s_val3 hD.1.1 hk ?_
  rw [hR.2.2.2.2.2 k hk]
  have e5 : (-5 : Int32) = -nI 5 := rfl
  rw [e5]
  unfold isBrk at h
  cases hs : sA num L k with
  | none => rw [hs] at h; exact ⟨fun _ => h, fun q => absurd rfl q⟩
  | some b =>
    rw [hs] at h; dsimp only at h
    have hb := sA_lt hs
    have hl := hD.1.1
    refine ⟨fun q => absurd q (by show ¬ nI b = -nI 5; rw [z_en (by omega) (by omega) (by omega)]; exact id), fun _ => ?_⟩
    refine s_num3 (i := 1) hD hR hk (by omega) ?_
    refine s_num3 (i := 1) hD hR (by omega) (by omega) ?_
    have h1 := numB hD.2.1 (hD.1.2.1 k hk).1 1 (by omega)
    have h2 := numB hD.2.1 (hD.1.2.1 b (by omega)).1 1 (by omega)
    refine ⟨fun q => ?_, fun q => ?_⟩
    · rw [z_le (by omega) (by omega)] at q
      rw [decide_eq_false (by omega)] at h; exact h
    · rw [z_le (by omega) (by omega)] at q
      rw [decide_eq_true (by omega)] at h; exact h
theorem s_isTiH {s1 : Nat} (hD : RRd n num L) (hR : RR num L size csize cnum names slots ahead sAhead) (hs1 : s1 ≤ 9999) (hk : k < L.length) (h : post (bI (isTiH num s1 L k))) : wp_X3_endsTimeHole (nI k) (nI s1) size csize cnum sAhead post := by
  unfold wp_X3_endsTimeHole
  rw [hR.1]
  refine s_val3 hD.1.1 hk ?_
  rw [hR.2.2.2.2.2 k hk]
  have e5 : (-5 : Int32) = -nI 5 := rfl
  rw [e5]
  unfold isTiH at h
  cases hs : sA num L k with
  | none => rw [hs] at h; exact ⟨fun _ => h, fun q => absurd rfl q⟩
  | some b =>
    rw [hs] at h; dsimp only at h
    have hb := sA_lt hs
    have hl := hD.1.1
    refine ⟨fun q => absurd q (by show ¬ nI b = -nI 5; rw [z_en (by omega) (by omega) (by omega)]; exact id), fun _ => ?_⟩
    refine s_num3 (i := 1) hD hR hk (by omega) ?_
    refine s_num3 (i := 1) hD hR (by omega) (by omega) ?_
    have h1 := numB hD.2.1 (hD.1.2.1 k hk).1 1 (by omega)
    have h2 := numB hD.2.1 (hD.1.2.1 b (by omega)).1 1 (by omega)
    refine ⟨fun q => ?_, fun q => ?_⟩
    · rw [z_subLe (by omega) (by omega) (by omega)] at q
      rw [decide_eq_false (by omega)] at h; exact h
    · rw [z_subLe (by omega) (by omega) (by omega)] at q
      rw [decide_eq_true (by omega)] at h; exact h
theorem s_isTH {s0 : Nat} (hD : RRd n num L) (hR : RR num L size csize cnum names slots ahead sAhead) (hs0 : s0 ≤ 14) (hk : k < L.length) (h : post (bI (isTH num s0 L k))) : wp_X3_endsThreadHole (nI k) (nI s0) size slots ahead post := by
  unfold wp_X3_endsThreadHole wp_X3_rankAhead
  have hsz := hR.1
  rw [hR.1]
  refine s_val3 hD.1.1 hk ?_
  rw [hR.2.2.2.2.1 k hk]
  have e5 : (-5 : Int32) = -nI 5 := rfl
  rw [e5]
  unfold isTH at h
  cases hs : aA num L k with
  | none => rw [hs] at h; exact ⟨fun _ => h, fun q => absurd rfl q⟩
  | some b =>
    rw [hs] at h; dsimp only at h
    have hb := aA_lt hs
    have hl := hD.1.1
    refine ⟨fun q => absurd q (by show ¬ nI b = -nI 5; rw [z_en (by omega) (by omega) (by omega)]; exact id), fun _ => ?_⟩
    rw [← hsz]
    refine s_scene3 hD hR hk ?_
    refine s_scene3 hD hR (by omega) ?_
    have h1 := (hD.1.2.1 k hk).2
    have h2 := (hD.1.2.1 b (by omega)).2
    refine ⟨fun q => ?_, fun q => ?_⟩
    · rw [l1, z_sub1Le (by omega) (by omega) (by omega)] at q
      rw [decide_eq_false (by omega)] at h; exact h
    · rw [l1, z_sub1Le (by omega) (by omega) (by omega)] at q
      rw [decide_eq_true (by omega)] at h; exact h
def sumN (f : Nat → Nat) : Nat → Nat
  | 0 => 0
  | n + 1 => sumN f n + f n
theorem sumN_le {f : Nat → Nat} {b : Nat} : ∀ n, (∀ k, k < n → f k ≤ b) → sumN f n ≤ b * n
  | 0, _ => Nat.zero_le _
  | n + 1, h => by
    have := sumN_le n (fun k hk => h k (by omega))
    have := h n (by omega)
    unfold sumN
    rw [Nat.mul_succ]; omega
theorem sumN_congr {f g : Nat → Nat} : ∀ n, (∀ k, k < n → f k = g k) → sumN f n = sumN g n
  | 0, _ => rfl
  | n + 1, h => by
    unfold sumN
    rw [sumN_congr n (fun k hk => h k (by omega)), h n (by omega)]
/-- any, or a number -/
def argI : Option Nat → Int32
  | none => -nI 1
  | some t => nI t
def fits : Option Nat → Nat → Bool
  | none, _ => true
  | some t, x => x == t
def worthF (num : Nat → Nat → Nat) (st : Nat → Nat) (L : List (Nat × Nat)) (w k : Nat) : Nat :=
  if w = 2 then num (cd L k) 2 else if w = 10 then 1 else if w = 11 then b2n (num (cd L k) 4 == 0) else if w = 12 then b2n (isBrk num L k) else if w = 13 then b2n (isTH num (st 0) L k) else b2n (isTiH num (st 1) L k)
theorem s_worth {st : Nat → Nat} {w : Nat} (hD : RRd n num L) (hR : RR num L size csize cnum names slots ahead sAhead) (hS : setOk st) (hw : w = 2 ∨ w = 10 ∨ w = 11 ∨ w = 12 ∨ w = 13 ∨ w = 14) (hk : k < L.length) (h : post (nI (worthF num st L w k))) : wp_X3_worth (nI w) (nI k) (nI (st 0)) (nI (st 1)) size csize cnum slots ahead sAhead post := by
  unfold wp_X3_worth
  have hb : ∀ b : Bool, (bI b = 0 → b = false) ∧ (¬ bI b = 0 → b = true) := by intro b; cases b <;> decide
  have key : ∀ b : Bool, post (nI (b2n b)) → (bI b = 0 → post 0) ∧ (¬ bI b = 0 → post 1) := by
    intro b hp
    refine ⟨fun q => ?_, fun q => ?_⟩
    · rw [(hb b).1 q] at hp; exact hp
    · rw [(hb b).2 q] at hp; exact hp
  refine ⟨fun q => ?_, fun q => ?_, fun q => ?_, fun q => ?_, fun q => ?_, fun q => ?_, fun q1 q2 q3 q4 q5 q6 => ?_⟩
  · have e : w = 2 := by simp (disch := omega) only [l2, z_eq] at q; exact q
    subst e
    exact s_num3 (i := 2) hD hR hk (by omega) h
  · have e : w = 10 := by simp (disch := omega) only [l10, z_eq] at q; exact q
    subst e; exact h
  · have e : w = 11 := by simp (disch := omega) only [l11, z_eq] at q; exact q
    subst e
    unfold wp_X3_isStraight
    refine s_num3 (i := 4) hD hR hk (by omega) ?_
    have h4 := (hD.2.1 _ (hD.1.2.1 k hk).1).2.2.2.2.2
    have hk2 := key (num (cd L k) 4 == 0) h
    refine ⟨fun r => ?_, fun r => ?_⟩
    · have e : num (cd L k) 4 = 0 := by simp (disch := omega) only [l0, z_eq] at r; exact r
      rw [e] at hk2; exact hk2
    · have e : num (cd L k) 4 = 1 := by simp (disch := omega) only [l0, z_eq] at r; omega
      rw [e] at hk2; exact hk2
  · have e : w = 12 := by simp (disch := omega) only [l12, z_eq] at q; exact q
    subst e
    exact s_isBreak hD hR hk (key _ h)
  · have e : w = 13 := by simp (disch := omega) only [l13, z_eq] at q; exact q
    subst e
    exact s_isTH hD hR hS.1 hk (key _ h)
  · have e : w = 14 := by simp (disch := omega) only [l14, z_eq] at q; exact q
    subst e
    exact s_isTiH hD hR hS.2.2.1 hk (key _ h)
  · exfalso
    simp (disch := omega) only [l2, l10, l11, l12, l13, l14, z_eq] at q1 q2 q3 q4 q5 q6
    omega
theorem worthF_le {st : Nat → Nat} {w : Nat} (hD : RRd n num L) (hk : k < L.length) : worthF num st L w k ≤ 999 := by
  have h2 := (hD.2.1 _ (hD.1.2.1 k hk).1).2.2.2.1
  unfold worthF
  have hb := fun b => Nat.le_trans (b2n_le b) (show 1 ≤ 999 by omega)
  split
  · exact h2
  · split
    · omega
    · split
      · exact hb _
      · split
        · exact hb _
        · split <;> exact hb _
def tallyF (num : Nat → Nat → Nat) (st : Nat → Nat) (L : List (Nat × Nat)) (w : Nat) (t sc : Option Nat) : Nat := sumN (fun k => if fits t (num (cd L k) 0) && fits sc (sl L k / 6) then worthF num st L w k else 0) L.length
theorem tallyF_le {st : Nat → Nat} {w : Nat} {t sc : Option Nat} (hD : RRd n num L) {m : Nat} (hm : m ≤ L.length) : sumN (fun k => if fits t (num (cd L k) 0) && fits sc (sl L k / 6) then worthF num st L w k else 0) m ≤ 39960 := by
  have := sumN_le (b := 999) (f := fun k => if fits t (num (cd L k) 0) && fits sc (sl L k / 6) then worthF num st L w k else 0) m (fun k hk => by
    show (if _ then _ else _) ≤ 999
    split
    · exact worthF_le hD (by omega)
    · omega)
  have h2 := hD.1.1
  have : 999 * m ≤ 999 * 40 := Nat.mul_le_mul_left _ (by omega)
  omega
theorem s_isOf {t : Option Nat} (hD : RRd n num L) (hR : RR num L size csize cnum names slots ahead sAhead) (ht : ∀ u, t = some u → u < 6) (hk : k < L.length) (h : post (bI (fits t (num (cd L k) 0)))) : wp_X3_isOf (nI k) (argI t) csize cnum post := by
  unfold wp_X3_isOf
  have hm : (-1 : Int32) = -nI 1 := rfl
  rw [hm]
  cases t with
  | none => exact ⟨fun _ => h, fun q => absurd rfl q⟩
  | some u =>
    have hu := ht u rfl
    refine ⟨fun q => absurd q (by show ¬ nI u = -nI 1; rw [z_en (by omega) (by omega) (by omega)]; exact id), fun _ => ?_⟩
    refine s_num3 (i := 0) hD hR hk (by omega) ?_
    have h1 := numB hD.2.1 (hD.1.2.1 k hk).1 0 (by omega)
    have e : (nI (num (cd L k) 0) = argI (some u)) ↔ num (cd L k) 0 = u := z_eq (by omega) (by omega)
    rw [e]
    replace h : post (bI (num (cd L k) 0 == u)) := h
    refine ⟨fun q => ?_, fun q => ?_⟩
    · rw [beq_iff_eq.mpr q] at h; exact h
    · rw [beq_eq_false_iff_ne.mpr q] at h; exact h
theorem s_tally {st : Nat → Nat} {w : Nat} {t sc : Option Nat} (hD : RRd n num L) (hR : RR num L size csize cnum names slots ahead sAhead) (hS : setOk st) (hw : w = 2 ∨ w = 10 ∨ w = 11 ∨ w = 12 ∨ w = 13 ∨ w = 14) (ht : ∀ u, t = some u → u < 6) (hsc : ∀ u, sc = some u → u < 16) (h : post (nI (tallyF num st L w t sc))) : wp_X3_tally (nI w) (argI t) (argI sc) (nI (st 0)) (nI (st 1)) size csize cnum slots ahead sAhead post := by
  have hl := hD.1.1
  unfold wp_X3_tally wp_X3_tally_l6
  refine lf2_i (fun x4 x5 => ∃ j, j ≤ L.length ∧ x5 = nI j ∧ x4 = nI (sumN (fun k => if fits t (num (cd L k) 0) && fits sc (sl L k / 6) then worthF num st L w k else 0) j)) (fun _ x5 => L.length - x5.toNatClampNeg) ⟨0, by omega, rfl, rfl⟩ ?_
  rintro x4 x5 ⟨j, hj, rfl, rfl⟩
  have hle := tallyF_le (st := st) (w := w) (t := t) (sc := sc) hD hj
  have e1 : nI j + (1 : Int32) = nI (j + 1) := by rw [l1, z_add]
  rw [hR.1]
  refine ⟨fun hx => ?_, fun hx => ?_⟩
  · have hjn : j = L.length := by simp (disch := omega) only [z_le] at hx; omega
    subst hjn; exact h
  · have hjn : j < L.length := by simp (disch := omega) only [z_le] at hx; omega
    have hw2 := worthF_le (st := st) (w := w) hD hjn
    have hdec : L.length - (nI (j + 1)).toNatClampNeg < L.length - (nI j).toNatClampNeg := by simp (disch := omega) only [z_cl]; omega
    have hno : (fits t (num (cd L j) 0) && fits sc (sl L j / 6)) = false → ∃ i, i ≤ L.length ∧ nI (j + 1) = nI i ∧ nI (sumN (fun k => if fits t (num (cd L k) 0) && fits sc (sl L k / 6) then worthF num st L w k else 0) j) = nI (sumN (fun k => if fits t (num (cd L k) 0) && fits sc (sl L k / 6) then worthF num st L w k else 0) i) := by
      intro hf
      refine ⟨j + 1, by omega, rfl, ?_⟩
      rw [sumN]; simp [hf]
    refine s_isOf hD hR ht hjn ?_
    rw [e1]
    refine ⟨fun q => ⟨hno ?_, hdec⟩, fun q => ?_⟩
    · cases hf : fits t (num (cd L j) 0) with
      | false => rfl
      | true => rw [hf] at q; exact absurd q (by decide)
    · have hf : fits t (num (cd L j) 0) = true := by
        cases hf : fits t (num (cd L j) 0) with
        | true => rfl
        | false => rw [hf] at q; exact absurd rfl q
      have hyes : fits sc (sl L j / 6) = true → wp_X3_worth (nI w) (nI j) (nI (st 0)) (nI (st 1)) (nI L.length) csize cnum slots ahead sAhead (fun r_3 => (∃ i, i ≤ L.length ∧ nI (j + 1) = nI i ∧ nI (sumN (fun k => if fits t (num (cd L k) 0) && fits sc (sl L k / 6) then worthF num st L w k else 0) j) + r_3 = nI (sumN (fun k => if fits t (num (cd L k) 0) && fits sc (sl L k / 6) then worthF num st L w k else 0) i)) ∧ L.length - (nI (j + 1)).toNatClampNeg < L.length - (nI j).toNatClampNeg) := by
        intro hg
        rw [← hR.1]
        refine s_worth hD hR hS hw hjn ⟨⟨j + 1, by omega, rfl, ?_⟩, hdec⟩
        rw [z_add, sumN]; simp [hf, hg]
      have hm : (-1 : Int32) = -nI 1 := rfl
      rw [hm]
      unfold wp_X3_tally_j40
      rw [e1]
      cases sc with
      | none => exact ⟨fun _ => hyes rfl, fun q => absurd rfl q⟩
      | some u =>
        have hu := hsc u rfl
        refine ⟨fun q => absurd q (by show ¬ nI u = -nI 1; rw [z_en (by omega) (by omega) (by omega)]; exact id), fun _ => ?_⟩
        rw [← hR.1]
        refine s_scene3 hD hR hjn ?_
        rw [hR.1]
        have hs2 := (hD.1.2.1 j hjn).2
        have e : (nI (sl L j / 6) = argI (some u)) ↔ sl L j / 6 = u := z_eq (by omega) (by omega)
        rw [e]
        refine ⟨fun q => hyes (beq_iff_eq.mpr q), fun q => ⟨hno ?_, hdec⟩⟩
        rw [show fits (some u) (sl L j / 6) = false from beq_eq_false_iff_ne.mpr q]; simp
end
