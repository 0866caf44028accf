/-! what the class keeps: cards, the wall, settings; its leaves -/
def slotv (L : List Nat) (p : Nat) : Int32 := match L[p]? with
  | some c => nI c
  | none => -nI 5
theorem slotv_lt {L : List Nat} {p : Nat} (h : p < L.length) : slotv L p = nI (L.getD p 0) := by
  unfold slotv; simp [h]
theorem slotv_ge {L : List Nat} {p : Nat} (h : L.length ≤ p) : slotv L p = -nI 5 := by
  unfold slotv; rw [List.getElem?_eq_none h]
/-- the slots hold the rows -/
def RW (row : Nat → List Nat) (g : Nat → Int32) : Prop := ∀ sc, sc < 16 → ∀ p, p < 6 → g (sc * 6 + p) = slotv (row sc) p
/-- n cards with their numbers -/
def RCd (n : Nat) (num : Nat → Nat → Nat) (size : Int32) (f : Nat → Int32) : Prop := size = nI n ∧ ∀ c, c < n → ∀ k, k < 5 → f (c * 5 + k) = nI (num c k)
def RS (st : Nat → Nat) (t : Nat → Int32) : Prop := ∀ i, i < 3 → t i = nI (st i)
/-- every card at one slot at most -/
def once (row : Nat → List Nat) : Prop := ∀ c s t, s < 96 → t < 96 → (row (s / 6))[s % 6]? = some c → (row (t / 6))[t % 6]? = some c → s = t
def numOk (n : Nat) (num : Nat → Nat → Nat) : Prop := ∀ c, c < n → num c 0 ≤ 5 ∧ num c 1 ≤ 9999 ∧ 1 ≤ num c 2 ∧ num c 2 ≤ 999 ∧ num c 3 ≤ 100 ∧ num c 4 ≤ 1
def rowOk (n : Nat) (row : Nat → List Nat) : Prop := (∀ sc, (row sc).length ≤ 6) ∧ (∀ sc, ∀ c ∈ row sc, c < n) ∧ once row ∧ n ≤ 40
def setOk (st : Nat → Nat) : Prop := st 0 ≤ 14 ∧ 1 ≤ st 1 ∧ st 1 ≤ 9999 ∧ st 2 ≤ 1000
theorem numB {n : Nat} {num : Nat → Nat → Nat} (h : numOk n num) {c : Nat} (hc : c < n) (k : Nat) (hk : k < 5) : num c k < 10000 := by
  obtain ⟨h0, h1, h2, h3, h4, h5⟩ := h c hc
  rcases (show k = 0 ∨ k = 1 ∨ k = 2 ∨ k = 3 ∨ k = 4 by omega) with rfl | rfl | rfl | rfl | rfl <;> omega
-- cards
theorem s_number {n : Nat} {num : Nat → Nat → Nat} {size : Int32} {f : Nat → Int32} {post : Int32 → Prop} {c k : Nat} (hR : RCd n num size f) (hn : n ≤ 40) (hc : c < n) (hk : k < 5) (h : post (nI (num c k))) : wp_X1_number (nI c) (nI k) size f post := by
  obtain ⟨rfl, hf⟩ := hR
  unfold wp_X1_number wp_X1_isNumber
  simp (disch := omega) only [l0, l1, l2, l3, l4, l5, l6, l7, l8, l9, l10, l11, l12, l13, l14, l15, l16, l23, l31, l40, l42, l44, l48, l49, l57, l59, l60, l65, l70, l96, l100, l101, l127, l200, l204, l254, l316, l948, l999, l1000, l9999, z_le, z_lt, z_eq, z_en, z_ne, z_nn, z_ltn, z_nlt, z_len, z_nle, z_add, z_mul, z_sub, z_div, z_cl, z_in, z_addn, z_no, z_yes, not_true_eq_false, not_false_eq_true, false_implies, true_implies, true_and, and_true, forall_const]
  refine ⟨by omega, ?_⟩
  rw [hf c hc k hk]; exact h
theorem s_has {n : Nat} {post : Int32 → Prop} {c : Nat} (hn : n ≤ 40) (hc : c < n) (h : post (nI 1)) : wp_X1_has (nI c) (nI n) post := by
  unfold wp_X1_has
  simp (disch := omega) only [l0, l1, l2, l3, l4, l5, l6, l7, l8, l9, l10, l11, l12, l13, l14, l15, l16, l23, l31, l40, l42, l44, l48, l49, l57, l59, l60, l65, l70, l96, l100, l101, l127, l200, l204, l254, l316, l948, l999, l1000, l9999, z_le, z_lt, z_eq, z_en, z_ne, z_nn, z_ltn, z_nlt, z_len, z_nle, z_add, z_mul, z_sub, z_div, z_cl, z_in, z_addn, z_no, z_yes, not_true_eq_false, not_false_eq_true, false_implies, true_implies, true_and, and_true, forall_const]
  exact h
theorem s_has_no {n : Nat} {post : Int32 → Prop} {x : Int32} (hn : n ≤ 40) (hx : x < nI 0 ∨ nI n ≤ x) (h : post (nI 0)) : wp_X1_has x (nI n) post := by
  unfold wp_X1_has
  refine ⟨fun _ => h, fun hc => ⟨fun _ => h, fun hc2 => ?_⟩⟩
  rcases hx with hx | hx
  · exact absurd hx hc
  · exact absurd hx hc2
theorem s_put {n : Nat} {f : Nat → Int32} {post : (Nat → Int32) → Prop} {c k : Nat} {v : Int32} (hn : n ≤ 40) (hc : c < n) (hk : k < 5) (h : post (upd f (c * 5 + k) v)) : wp_X1_put (nI c) (nI k) v (nI n) f post := by
  unfold wp_X1_put wp_X1_isNumber
  simp (disch := omega) only [l0, l1, l2, l3, l4, l5, l6, l7, l8, l9, l10, l11, l12, l13, l14, l15, l16, l23, l31, l40, l42, l44, l48, l49, l57, l59, l60, l65, l70, l96, l100, l101, l127, l200, l204, l254, l316, l948, l999, l1000, l9999, z_le, z_lt, z_eq, z_en, z_ne, z_nn, z_ltn, z_nlt, z_len, z_nle, z_add, z_mul, z_sub, z_div, z_cl, z_in, z_addn, z_no, z_yes, not_true_eq_false, not_false_eq_true, false_implies, true_implies, true_and, and_true, forall_const]
  exact ⟨by omega, h⟩
/-- the numbers with one card more -/
def num5 (num : Nat → Nat → Nat) (n a b c d e : Nat) : Nat → Nat → Nat := fun i k => if i = n then (match k with
  | 0 => a
  | 1 => b
  | 2 => c
  | 3 => d
  | _ => e) else num i k
theorem s_append {n : Nat} {num : Nat → Nat → Nat} {size : Int32} {f : Nat → Int32} {post : Int32 → (Nat → Int32) → Prop} {a b c d e : Nat} (hR : RCd n num size f) (hn : n < 40) (h : ∀ f', RCd (n + 1) (num5 num n a b c d e) (nI (n + 1)) f' → post (nI (n + 1)) f') : wp_X1_append (nI a) (nI b) (nI c) (nI d) (nI e) size f post := by
  obtain ⟨rfl, hf⟩ := hR
  unfold wp_X1_append wp_X1_hasRoomFor
  simp (disch := omega) only [l0, l1, l2, l3, l4, l5, l6, l7, l8, l9, l10, l11, l12, l13, l14, l15, l16, l23, l31, l40, l42, l44, l48, l49, l57, l59, l60, l65, l70, l96, l100, l101, l127, l200, l204, l254, l316, l948, l999, l1000, l9999, z_le, z_lt, z_eq, z_en, z_ne, z_nn, z_ltn, z_nlt, z_len, z_nle, z_add, z_mul, z_sub, z_div, z_cl, z_in, z_addn, z_no, z_yes, not_true_eq_false, not_false_eq_true, false_implies, true_implies, true_and, and_true, forall_const]
  refine s_put (by omega) (by omega) (by omega) ?_
  refine s_put (by omega) (by omega) (by omega) ?_
  refine s_put (by omega) (by omega) (by omega) ?_
  refine s_put (by omega) (by omega) (by omega) ?_
  refine s_put (by omega) (by omega) (by omega) ?_
  refine h _ ⟨rfl, fun i hi k hk => ?_⟩
  simp only [z_up, num5]
  by_cases hin : i = n
  · subst hin
    rcases (show k = 0 ∨ k = 1 ∨ k = 2 ∨ k = 3 ∨ k = 4 by omega) with rfl | rfl | rfl | rfl | rfl <;> simp
  · rw [if_neg (by omega), if_neg (by omega), if_neg (by omega), if_neg (by omega), if_neg (by omega), if_neg hin]
    exact hf i (by omega) k hk
theorem s_appendFrom {n : Nat} {num : Nat → Nat → Nat} {size : Int32} {f : Nat → Int32} {n2 : Nat} {num2 : Nat → Nat → Nat} {size2 : Int32} {f2 : Nat → Int32} {post : Int32 → (Nat → Int32) → Prop} {c : Nat} (hR : RCd n num size f) (hn : n < 40) (hR2 : RCd n2 num2 size2 f2) (hn2 : n2 ≤ 40) (hc : c < n2) (h : ∀ f', RCd (n + 1) (fun i k => if i = n then num2 c k else num i k) (nI (n + 1)) f' → post (nI (n + 1)) f') : wp_X1_appendFrom (nI c) size f size2 f2 post := by
  obtain ⟨rfl, hf⟩ := hR
  unfold wp_X1_appendFrom wp_X1_hasRoomFor
  simp (disch := omega) only [l0, l1, l2, l3, l4, l5, l6, l7, l8, l9, l10, l11, l12, l13, l14, l15, l16, l23, l31, l40, l42, l44, l48, l49, l57, l59, l60, l65, l70, l96, l100, l101, l127, l200, l204, l254, l316, l948, l999, l1000, l9999, z_le, z_lt, z_eq, z_en, z_ne, z_nn, z_ltn, z_nlt, z_len, z_nle, z_add, z_mul, z_sub, z_div, z_cl, z_in, z_addn, z_no, z_yes, not_true_eq_false, not_false_eq_true, false_implies, true_implies, true_and, and_true, forall_const]
  unfold wp_X1_appendFrom_l27
  refine lf2_i (fun x4 g => ∃ j, j ≤ 5 ∧ x4 = nI j ∧ (∀ i, i < n → ∀ k, k < 5 → g (i * 5 + k) = nI (num i k)) ∧ ∀ k, k < j → g (n * 5 + k) = nI (num2 c k)) (fun x4 _ => 5 - x4.toNatClampNeg) ⟨0, by omega, rfl, hf, fun k hk => absurd hk (Nat.not_lt_zero _)⟩ ?_
  rintro x4 g ⟨j, hj, rfl, hg, hg2⟩
  refine ⟨fun hc5 => ?_, fun hc5 => ?_⟩
  · have hj5 : j = 5 := by simp (disch := omega) only [l5, z_le] at hc5; omega
    subst hj5
    refine h _ ⟨rfl, fun i hi k hk => ?_⟩
    by_cases hin : i = n
    · subst hin; show g _ = nI (if _ then _ else _); rw [if_pos rfl]; exact hg2 k hk
    · show g _ = nI (if _ then _ else _); rw [if_neg hin]; exact hg i (by omega) k hk
  · have hj5 : j < 5 := by simp (disch := omega) only [l5, z_le] at hc5; omega
    refine s_number hR2 hn2 hc hj5 ?_
    refine s_put (by omega) (by omega) hj5 ?_
    simp (disch := omega) only [l1, z_add, z_cl]
    refine ⟨⟨j + 1, by omega, rfl, fun i hi k hk => ?_, fun k hk => ?_⟩, by omega⟩
    · rw [z_up_n (by omega)]; exact hg i hi k hk
    · by_cases hkj : k = j
      · subst hkj; exact z_up_s
      · rw [z_up_n (by omega)]; exact hg2 k (by omega)
theorem s_copyCards {size : Int32} {f : Nat → Int32} {n2 : Nat} {num2 : Nat → Nat → Nat} {size2 : Int32} {f2 : Nat → Int32} {post : Int32 → (Nat → Int32) → Prop} (hR2 : RCd n2 num2 size2 f2) (hn2 : n2 ≤ 40) (h : ∀ f', RCd n2 num2 size2 f' → post size2 f') : wp_X1_copyFrom size f size2 f2 post := by
  unfold wp_X1_copyFrom
  refine h _ ⟨hR2.1, fun c hc k hk => ?_⟩
  have e0 : (0 : Int32).toNatClampNeg = 0 := rfl
  have e1 : (200 : Int32).toNatClampNeg = 200 := rfl
  rw [e0, e1, z_cpy, if_pos (by omega)]
  exact hR2.2 c hc k hk
def cntT (num : Nat → Nat → Nat) (t : Nat) : Nat → Nat
  | 0 => 0
  | n + 1 => cntT num t n + (if num n 0 = t then 1 else 0)
theorem cntT_le (num : Nat → Nat → Nat) (t : Nat) : ∀ n, cntT num t n ≤ n
  | 0 => Nat.le_refl _
  | n + 1 => by
    have h := cntT_le num t n
    unfold cntT
    split <;> omega
theorem s_ofThread {n : Nat} {num : Nat → Nat → Nat} {size : Int32} {f : Nat → Int32} {post : Int32 → Prop} {t : Nat} (hR : RCd n num size f) (hn : n ≤ 40) (hN : numOk n num) (ht : t < 6) (h : post (nI (cntT num t n))) : wp_X1_ofThread (nI t) size f post := by
  unfold wp_X1_ofThread wp_X1_ofThread_l4
  refine lf2_i (fun x2 x3 => ∃ j, j ≤ n ∧ x3 = nI j ∧ x2 = nI (cntT num t j)) (fun _ x3 => n - x3.toNatClampNeg) ⟨0, by omega, rfl, rfl⟩ ?_
  rintro x2 x3 ⟨j, hj, rfl, rfl⟩
  have hcj := cntT_le num t j
  refine ⟨fun hc => ?_, fun hc => ?_⟩
  · rw [hR.1] at hc
    have hjn : j = n := by simp (disch := omega) only [z_le] at hc; omega
    subst hjn; exact h
  · rw [hR.1] at hc
    have hjn : j < n := by simp (disch := omega) only [z_le] at hc; omega
    refine s_number (k := 0) hR hn hjn (by omega) ?_
    have hb := (hN j hjn).1
    refine ⟨fun he => ?_, fun hne => ?_⟩
    · have he2 : num j 0 = t := by simp (disch := omega) only [z_eq] at he; exact he
      simp (disch := omega) only [l1, z_add, z_cl]
      exact ⟨⟨j + 1, by omega, rfl, by simp [cntT, he2]⟩, by omega⟩
    · have hne2 : ¬ num j 0 = t := by simp (disch := omega) only [z_eq] at hne; exact hne
      simp (disch := omega) only [l1, z_add, z_cl]
      exact ⟨⟨j + 1, by omega, rfl, by simp [cntT, hne2]⟩, by omega⟩
