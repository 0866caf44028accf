/-! the reading of a wall: its cards in order, with the last ones of each thread -/
theorem pig : ∀ (m n : Nat) (f : Nat → Nat), (∀ i, i < n → f i < m) → (∀ i j, i < j → j < n → f i ≠ f j) → n ≤ m
  | 0, n, f, h1, _ => by
    rcases Nat.eq_zero_or_pos n with h | h
    · omega
    · exact absurd (h1 0 h) (Nat.not_lt_zero _)
  | m + 1, n, f, h1, h2 => by
    by_cases hx : ∃ i, i < n ∧ f i = m
    · obtain ⟨i0, hi0, he⟩ := hx
      have ih := pig m (n - 1) (fun i => f (if i < i0 then i else i + 1)) (fun i hi => by
        show f (if i < i0 then i else i + 1) < m
        have hq : (if i < i0 then i else i + 1) < n ∧ (if i < i0 then i else i + 1) ≠ i0 := by split <;> omega
        have ha := h1 _ hq.1
        have hb : f (if i < i0 then i else i + 1) ≠ f i0 := by
          rcases Nat.lt_or_gt_of_ne hq.2 with q | q
          · exact h2 _ _ q hi0
          · exact fun e => h2 _ _ q hq.1 e.symm
        omega) (fun i j hij hj => by
        show f (if i < i0 then i else i + 1) ≠ f (if j < i0 then j else j + 1)
        exact h2 _ _ (by split <;> split <;> omega) (by split <;> omega))
      omega
    · have ih := pig m n f (fun i hi => by
        have ha := h1 i hi
        have hb : f i ≠ m := fun e => hx ⟨i, hi, e⟩
        omega) h2
      omega
def cd (L : List (Nat × Nat)) (k : Nat) : Nat := (L.getD k (0, 0)).1
def sl (L : List (Nat × Nat)) (k : Nat) : Nat := (L.getD k (0, 0)).2
theorem getD_l {α : Type} {L M : List α} {k : Nat} {d : α} (h : k < L.length) : (L ++ M).getD k d = L.getD k d := by
  rw [List.getD_eq_getElem?_getD, List.getD_eq_getElem?_getD, List.getElem?_append_left h]
theorem getD_e {α : Type} {L : List α} {x d : α} : (L ++ [x]).getD L.length d = x := by
  rw [List.getD_eq_getElem?_getD, List.getElem?_append_right (Nat.le_refl _)]; simp
theorem getD_some {α : Type} {L : List α} {k : Nat} {d : α} (h : k < L.length) : L[k]? = some (L.getD k d) := by
  rw [List.getD_eq_getElem?_getD, List.getElem?_eq_getElem h]; rfl
theorem getD_mem {α : Type} {L : List α} {k : Nat} {d : α} (h : k < L.length) : L.getD k d ∈ L := List.mem_of_getElem? (getD_some h)
theorem cd_l {L M : List (Nat × Nat)} {k : Nat} (h : k < L.length) : cd (L ++ M) k = cd L k := by unfold cd; rw [getD_l h]
theorem sl_l {L M : List (Nat × Nat)} {k : Nat} (h : k < L.length) : sl (L ++ M) k = sl L k := by unfold sl; rw [getD_l h]
theorem cd_e {L : List (Nat × Nat)} {x : Nat × Nat} : cd (L ++ [x]) L.length = x.1 := by unfold cd; rw [getD_e]
theorem sl_e {L : List (Nat × Nat)} {x : Nat × Nat} : sl (L ++ [x]) L.length = x.2 := by unfold sl; rw [getD_e]
theorem pre_at {row : Nat → List Nat} {t k : Nat} (h : k < (pre row t).length) : sl (pre row t) k < t ∧ (row (sl (pre row t) k / 6))[sl (pre row t) k % 6]? = some (cd (pre row t) k) := by
  have hm : (cd (pre row t) k, sl (pre row t) k) ∈ pre row t := getD_mem (d := (0, 0)) h
  exact (pre_mem row t).mp hm
theorem pre_up {row : Nat → List Nat} : ∀ t, ∀ i j, i < j → j < (pre row t).length → sl (pre row t) i < sl (pre row t) j
  | 0, i, j, _, h => absurd h (Nat.not_lt_zero _)
  | t + 1, i, j, hij, h => by
    have ih := pre_up (row := row) t
    cases h2 : (row (t / 6))[t % 6]? with
    | none => rw [pre_none h2] at h ⊢; exact ih i j hij h
    | some c =>
      rw [pre_some h2] at h ⊢
      rw [List.length_append, List.length_singleton] at h
      rcases Nat.lt_or_ge j (pre row t).length with q | q
      · rw [sl_l q, sl_l (by omega)]; exact ih i j hij q
      · rw [show j = (pre row t).length by omega, sl_e, sl_l (by omega)]
        exact (pre_at (row := row) (t := t) (k := i) (by omega)).1
theorem pre_inj {row : Nat → List Nat} {t : Nat} (h1 : once row) (ht : t ≤ 96) {i j : Nat} (hi : i < (pre row t).length) (hj : j < (pre row t).length) (he : cd (pre row t) i = cd (pre row t) j) : i = j := by
  have ha := pre_at hi
  have hb := pre_at hj
  have hs := h1 _ _ _ (by omega) (by omega) (he ▸ ha.2) hb.2
  rcases Nat.lt_trichotomy i j with q | q | q
  · have := pre_up t i j q hj; omega
  · exact q
  · have := pre_up t j i q hi; omega
theorem cd_lt {n : Nat} {row : Nat → List Nat} {t k : Nat} (hO : rowOk n row) (h : k < (pre row t).length) : cd (pre row t) k < n := by
  have ha := pre_at h
  exact hO.2.1 _ _ (List.mem_of_getElem? ha.2)
theorem pre_le {n : Nat} {row : Nat → List Nat} {t : Nat} (hO : rowOk n row) (ht : t ≤ 96) : (pre row t).length ≤ n := by
  refine pig n _ (cd (pre row t)) (fun i hi => cd_lt hO hi) (fun i j hij hj he => ?_)
  have := pre_inj hO.2.2.1 ht (by omega) hj he
  omega
/-- what holds of what is read -/
def LOk (n : Nat) (L : List (Nat × Nat)) : Prop := L.length ≤ 40 ∧ (∀ k, k < L.length → cd L k < n ∧ sl L k < 96) ∧ (∀ i j, i < j → j < L.length → sl L i < sl L j) ∧ (∀ i j, i < L.length → j < L.length → cd L i = cd L j → i = j)
theorem LOk_pre {n : Nat} {row : Nat → List Nat} {t : Nat} (hO : rowOk n row) (ht : t ≤ 96) : LOk n (pre row t) := by
  refine ⟨?_, fun k hk => ⟨cd_lt hO hk, ?_⟩, pre_up t, fun i j hi hj he => pre_inj hO.2.2.1 ht hi hj he⟩
  · have := pre_le (t := t) hO ht; have := hO.2.2.2; omega
  · have := (pre_at hk).1; omega
/-- the last index below k -/
def lst (p : Nat → Bool) : Nat → Option Nat
  | 0 => none
  | k + 1 => if p k then some k else lst p k
theorem lst_s {p : Nat → Bool} {k : Nat} : lst p (k + 1) = if p k then some k else lst p k := rfl
theorem lst_congr {p q : Nat → Bool} : ∀ k, (∀ j, j < k → p j = q j) → lst p k = lst q k
  | 0, _ => rfl
  | k + 1, h => by
    unfold lst
    rw [h k (by omega), lst_congr k (fun j hj => h j (by omega))]
theorem lst_lt {p : Nat → Bool} {b : Nat} : ∀ k, lst p k = some b → b < k ∧ p b = true
  | 0, h => by cases h
  | k + 1, h => by
    unfold lst at h
    by_cases hp : p k = true
    · rw [if_pos hp] at h; cases h; exact ⟨by omega, hp⟩
    · rw [if_neg hp] at h
      have := lst_lt k h
      exact ⟨by omega, this.2⟩
def optI : Option Nat → Int32
  | none => -nI 5
  | some j => nI j
theorem optI_congr {p q : Nat → Bool} {k : Nat} (h : ∀ j, j < k → p j = q j) : optI (lst p k) = optI (lst q k) := congrArg optI (lst_congr k h)
def aA (num : Nat → Nat → Nat) (L : List (Nat × Nat)) (k : Nat) : Option Nat := lst (fun j => num (cd L j) 0 == num (cd L k) 0) k
def sA (num : Nat → Nat → Nat) (L : List (Nat × Nat)) (k : Nat) : Option Nat := if num (cd L k) 4 = 1 then none else lst (fun j => num (cd L j) 0 == num (cd L k) 0 && num (cd L j) 4 == 0) k
theorem aA_lt {num : Nat → Nat → Nat} {L : List (Nat × Nat)} {k b : Nat} (h : aA num L k = some b) : b < k := (lst_lt _ h).1
theorem sA_lt {num : Nat → Nat → Nat} {L : List (Nat × Nat)} {k b : Nat} (h : sA num L k = some b) : b < k := by
  unfold sA at h
  split at h
  · cases h
  · exact (lst_lt _ h).1
theorem aA_l {num : Nat → Nat → Nat} {L M : List (Nat × Nat)} {k : Nat} (h : k < L.length) : aA num (L ++ M) k = aA num L k := by
  unfold aA
  rw [cd_l h]
  exact lst_congr k (fun j hj => by rw [cd_l (by omega)])
theorem sA_l {num : Nat → Nat → Nat} {L M : List (Nat × Nat)} {k : Nat} (h : k < L.length) : sA num (L ++ M) k = sA num L k := by
  unfold sA
  rw [cd_l h, lst_congr k (fun j hj => by rw [cd_l (by omega)])]
/-- the reading holds the list -/
def RR (num : Nat → Nat → Nat) (L : List (Nat × Nat)) (size csize : Int32) (cnum names slots ahead sAhead : Nat → Int32) : Prop :=
  size = nI L.length ∧ RCd L.length (fun k i => num (cd L k) i) csize cnum ∧ (∀ k, k < L.length → names k = nI (cd L k)) ∧ (∀ k, k < L.length → slots k = nI (sl L k)) ∧ (∀ k, k < L.length → ahead k = optI (aA num L k)) ∧ (∀ k, k < L.length → sAhead k = optI (sA num L k))
def RLst (num : Nat → Nat → Nat) (L : List (Nat × Nat)) (last lastS : Nat → Int32) : Prop :=
  ∀ t, t < 6 → last t = optI (lst (fun j => num (cd L j) 0 == t) L.length) ∧ lastS t = optI (lst (fun j => num (cd L j) 0 == t && num (cd L j) 4 == 0) L.length)
theorem s_isThread {post : Int32 → Prop} {t : Nat} (h : post (nI 1)) (ht : t < 6) : wp_X8_isThread (nI t) post := by
  unfold wp_X8_isThread
  simp (disch := omega) only [l0, l1, l2, l3, l4, l5, l6, l7, l8, l9, l10, l11, l12, l13, l14, l15, l16, l23, l31, l40, l42, l44, l48, l49, l57, l59, l60, l65, l70, l96, l100, l101, l127, l200, l204, l254, l316, l948, l999, l1000, l9999, z_le, z_lt, z_eq, z_en, z_ne, z_nn, z_ltn, z_nlt, z_len, z_nle, z_add, z_mul, z_sub, z_div, z_cl, z_in, z_addn, z_no, z_yes, not_true_eq_false, not_false_eq_true, false_implies, true_implies, true_and, and_true, forall_const]
  exact h
theorem s_readCard3 {n : Nat} {num : Nat → Nat → Nat} {L : List (Nat × Nat)} {c t : Nat} {size csize : Int32} {cnum names slots ahead sAhead last lastS : Nat → Int32} {psize : Int32} {pnum : Nat → Int32} {post : Int32 → Int32 → (Nat → Int32) → (Nat → Int32) → (Nat → Int32) → (Nat → Int32) → (Nat → Int32) → (Nat → Int32) → (Nat → Int32) → Prop}
    (hR : RR num L size csize cnum names slots ahead sAhead) (hL : RLst num L last lastS) (hP : RCd n num psize pnum) (hN : numOk n num) (hn : n ≤ 40) (hc : c < n) (h40 : L.length < 40)
    (h : ∀ size csize cnum names slots ahead sAhead last lastS, RR num (L ++ [(c, t)]) size csize cnum names slots ahead sAhead → RLst num (L ++ [(c, t)]) last lastS → post size csize cnum names slots ahead sAhead last lastS) :
    wp_X3_readCard (nI c) (nI t) size csize cnum names slots ahead sAhead last lastS psize pnum post := by
  obtain ⟨rfl, hcd, hna, hsl, hah, hsa⟩ := hR
  have hb := hN c hc
  have hll : (L ++ [(c, t)]).length = L.length + 1 := by simp
  unfold wp_X3_readCard
  refine s_number (k := 0) hP hn hc (by omega) ?_
  refine ⟨fun q => absurd q (by rw [show (0 : Int32) = nI 0 from rfl, z_lt (by omega) (by omega)]; omega), fun _ => ⟨fun q => absurd q (by rw [l40, z_le (by omega) (by omega)]; omega), fun _ => ?_⟩⟩
  refine s_isThread ?_ (by omega)
  refine ⟨fun q => absurd q (by decide), fun _ => ?_⟩
  refine s_appendFrom hcd (by omega) hP hn hc (fun f' hf' => ?_)
  refine ⟨(z_in (by omega)).mpr (by omega), (z_in (by omega)).mpr (by omega), (z_in (by omega)).mpr (by omega), (z_in (by omega)).mpr (by omega), (z_in (by omega)).mpr (by omega), ?_⟩
  refine s_number (k := 4) hP hn hc (by omega) ?_
  have hcards : RCd (L ++ [(c, t)]).length (fun k i => num (cd (L ++ [(c, t)]) k) i) (nI (L.length + 1)) f' := by
    refine ⟨by rw [hll], fun k hk i hi => ?_⟩
    rw [hf'.2 k (by omega) i hi]
    show nI (if k = L.length then num c i else num (cd L k) i) = nI (num (cd (L ++ [(c, t)]) k) i)
    by_cases he : k = L.length
    · subst he; rw [if_pos rfl, cd_e]
    · rw [if_neg he, cd_l (by omega)]
  have hlast : ∀ u, u < 6 → optI (lst (fun j => num (cd (L ++ [(c, t)]) j) 0 == u) (L ++ [(c, t)]).length) = if u = num c 0 then nI L.length else last u := by
    intro u hu
    rw [hll]
    rw [lst_s]
    rw [cd_e]
    by_cases he : u = num c 0
    · subst he; simp [optI]
    · rw [if_neg he, if_neg (by simp; exact fun e => he e.symm), (hL u hu).1]
      exact optI_congr (fun j hj => by rw [cd_l hj])
  have hnew : ∀ k, k < (L ++ [(c, t)]).length → k = L.length ∨ k < L.length := fun k hk => by omega
  have haA : aA num (L ++ [(c, t)]) L.length = lst (fun j => num (cd L j) 0 == num c 0) L.length := by
    unfold aA; rw [cd_e]; exact lst_congr _ (fun j hj => by rw [cd_l hj])
  refine ⟨fun h1 => ?_, fun h1 => ?_⟩
  · have e1 : num c 4 = 1 := by simp (disch := omega) only [l1, z_eq] at h1; exact h1
    refine ⟨(z_in (by omega)).mpr (by omega), ?_⟩
    simp (disch := omega) only [l0, l1, l2, l3, l4, l5, l6, l7, l8, l9, l10, l11, l12, l13, l14, l15, l16, l23, l31, l40, l42, l44, l48, l49, l57, l59, l60, l65, l70, l96, l100, l101, l127, l200, l204, l254, l316, l948, l999, l1000, l9999, z_le, z_lt, z_eq, z_en, z_ne, z_nn, z_ltn, z_nlt, z_len, z_nle, z_add, z_mul, z_sub, z_div, z_cl, z_in, z_addn, z_no, z_yes, not_true_eq_false, not_false_eq_true, false_implies, true_implies, true_and, and_true, forall_const]
    refine h _ _ _ _ _ _ _ _ _ ⟨by rw [hll], hcards, fun k hk => ?_, fun k hk => ?_, fun k hk => ?_, fun k hk => ?_⟩ (fun u hu => ⟨?_, ?_⟩)
    · rcases hnew k hk with rfl | q
      · rw [z_up_s, cd_e]
      · rw [z_up_n (by omega), hna k q, cd_l q]
    · rcases hnew k hk with rfl | q
      · rw [z_up_s, sl_e]
      · rw [z_up_n (by omega), hsl k q, sl_l q]
    · rcases hnew k hk with rfl | q
      · rw [z_up_s, haA, (hL _ (by omega)).1]
      · rw [z_up_n (by omega), hah k q, aA_l q]
    · rcases hnew k hk with rfl | q
      · rw [z_up_s]; unfold sA; rw [cd_e, if_pos e1]; rfl
      · rw [z_up_n (by omega), hsa k q, sA_l q]
    · rw [hlast u hu, z_up]
    · rw [(hL u hu).2, hll]
      rw [lst_s]
      rw [cd_e, if_neg (by simp [e1])]
      exact optI_congr (fun j hj => by rw [cd_l hj])
  · have e1 : num c 4 = 0 := by simp (disch := omega) only [l1, z_eq] at h1; omega
    refine ⟨(z_in (by omega)).mpr (by omega), (z_in (by omega)).mpr (by omega), (z_in (by omega)).mpr (by omega), ?_⟩
    simp (disch := omega) only [l0, l1, l2, l3, l4, l5, l6, l7, l8, l9, l10, l11, l12, l13, l14, l15, l16, l23, l31, l40, l42, l44, l48, l49, l57, l59, l60, l65, l70, l96, l100, l101, l127, l200, l204, l254, l316, l948, l999, l1000, l9999, z_le, z_lt, z_eq, z_en, z_ne, z_nn, z_ltn, z_nlt, z_len, z_nle, z_add, z_mul, z_sub, z_div, z_cl, z_in, z_addn, z_no, z_yes, not_true_eq_false, not_false_eq_true, false_implies, true_implies, true_and, and_true, forall_const]
    refine h _ _ _ _ _ _ _ _ _ ⟨by rw [hll], hcards, fun k hk => ?_, fun k hk => ?_, fun k hk => ?_, fun k hk => ?_⟩ (fun u hu => ⟨?_, ?_⟩)
    · rcases hnew k hk with rfl | q
      · rw [z_up_s, cd_e]
      · rw [z_up_n (by omega), hna k q, cd_l q]
    · rcases hnew k hk with rfl | q
      · rw [z_up_s, sl_e]
      · rw [z_up_n (by omega), hsl k q, sl_l q]
    · rcases hnew k hk with rfl | q
      · rw [z_up_s, haA, (hL _ (by omega)).1]
      · rw [z_up_n (by omega), hah k q, aA_l q]
    · rcases hnew k hk with rfl | q
      · rw [z_up_s]; unfold sA; rw [cd_e, if_neg (show ¬ num c 4 = 1 by omega), (hL _ (by omega)).2]
        exact optI_congr (fun j hj => by rw [cd_l hj])
      · rw [z_up_n (by omega), hsa k q, sA_l q]
    · rw [hlast u hu, z_up]
    · rw [z_up, hll]
      rw [lst_s]
      rw [cd_e]
      by_cases he : u = num c 0
      · subst he; simp [optI, e1]
      · rw [if_neg he, if_neg (by simp; intro e; exact absurd e.symm he), (hL u hu).2]
        exact optI_congr (fun j hj => by rw [cd_l hj])
theorem s_setting {st : Nat → Nat} {t : Nat → Int32} {post : Int32 → Prop} {i : Nat} (hS : RS st t) (hi : i < 3) (h : post (nI (st i))) : wp_X4_setting (nI i) t post := by
  unfold wp_X4_setting
  simp (disch := omega) only [l0, l1, l2, l3, l4, l5, l6, l7, l8, l9, l10, l11, l12, l13, l14, l15, l16, l23, l31, l40, l42, l44, l48, l49, l57, l59, l60, l65, l70, l96, l100, l101, l127, l200, l204, l254, l316, l948, l999, l1000, l9999, z_le, z_lt, z_eq, z_en, z_ne, z_nn, z_ltn, z_nlt, z_len, z_nle, z_add, z_mul, z_sub, z_div, z_cl, z_in, z_addn, z_no, z_yes, not_true_eq_false, not_false_eq_true, false_implies, true_implies, true_and, and_true, forall_const]
  rw [hS i hi]
  exact ⟨by omega, h⟩
theorem s_read3 {n : Nat} {num : Nat → Nat → Nat} {row : Nat → List Nat} {st : Nat → Nat} {x y size csize : Int32} {cnum names slots ahead sAhead last lastS : Nat → Int32} {psize : Int32} {pnum pset g : Nat → Int32} {post : Int32 → Int32 → Int32 → Int32 → (Nat → Int32) → (Nat → Int32) → (Nat → Int32) → (Nat → Int32) → (Nat → Int32) → (Nat → Int32) → (Nat → Int32) → Prop}
    (hP : RCd n num psize pnum) (hN : numOk n num) (hS : RS st pset) (hW : RW row g) (hO : rowOk n row)
    (h : ∀ size csize cnum names slots ahead sAhead last lastS, RR num (pre row 96) size csize cnum names slots ahead sAhead → post (nI (st 0)) (nI (st 1)) size csize cnum names slots ahead sAhead last lastS) :
    wp_X3_read x y size csize cnum names slots ahead sAhead last lastS psize pnum pset g post := by
  have hn := hO.2.2.2
  unfold wp_X3_read wp_X1_clear
  refine s_setting (i := 0) hS (by omega) ?_
  refine s_setting (i := 1) hS (by omega) ?_
  unfold wp_X3_read_l32
  refine lf3_i (fun x3 la ls => ∃ j, j ≤ 6 ∧ x3 = nI j ∧ ∀ t, t < j → la t = -nI 5 ∧ ls t = -nI 5) (fun x3 _ _ => 6 - x3.toNatClampNeg) ⟨0, by omega, rfl, fun t ht => absurd ht (Nat.not_lt_zero _)⟩ ?_
  rintro x3 la ls ⟨j, hj, rfl, hla⟩
  refine ⟨fun hx => ?_, fun hx => ?_⟩
  · have hj6 : j = 6 := by simp (disch := omega) only [l6, z_le] at hx; omega
    subst hj6
    unfold wp_X3_read_l62
    refine lf10_i (fun x3 size csize cnum names slots ahead sAhead last lastS => ∃ t, t ≤ 96 ∧ x3 = nI t ∧ RR num (pre row t) size csize cnum names slots ahead sAhead ∧ RLst num (pre row t) last lastS) (fun x3 _ _ _ _ _ _ _ _ _ => 96 - x3.toNatClampNeg) ⟨0, by omega, rfl, ⟨rfl, ⟨rfl, fun c hc => absurd hc (Nat.not_lt_zero _)⟩, fun c hc => absurd hc (Nat.not_lt_zero _), fun c hc => absurd hc (Nat.not_lt_zero _), fun c hc => absurd hc (Nat.not_lt_zero _), fun c hc => absurd hc (Nat.not_lt_zero _)⟩, fun t ht => hla t ht⟩ ?_
    rintro x3 size csize cnum names slots ahead sAhead last lastS ⟨t, ht, rfl, hR, hL⟩
    refine ⟨fun hx => ?_, fun hx => ?_⟩
    · have ht6 : t = 96 := by simp (disch := omega) only [l96, z_le] at hx; omega
      subst ht6
      exact h _ _ _ _ _ _ _ _ _ hR
    · have ht6 : t < 96 := by simp (disch := omega) only [l96, z_le] at hx; omega
      refine s_cardAt ht6 ?_
      rw [RW_at hW ht6]
      have e1 : nI t + (1 : Int32) = nI (t + 1) := by rw [l1, z_add]
      rcases slotv_cases (row (t / 6)) (t % 6) with ⟨c, h1, h2, h3, h4⟩ | ⟨h1, h2, h4⟩
      · have hcn : c < n := hO.2.1 _ c h3
        rw [h2, hP.1]
        refine s_has (by omega) hcn ?_
        refine ⟨fun q => absurd q (by decide), fun _ => ?_⟩
        have hlen : (pre row (t + 1)).length ≤ n := pre_le hO (by omega)
        rw [pre_some h1, List.length_append, List.length_singleton] at hlen
        refine s_readCard3 (n := n) hR hL ⟨rfl, hP.2⟩ hN hn hcn (by omega) (fun size csize cnum names slots ahead sAhead last lastS hR hL => ?_)
        rw [e1]
        refine ⟨⟨t + 1, by omega, rfl, ?_, ?_⟩, by simp (disch := omega) only [z_cl]; omega⟩
        · rw [pre_some h1]; exact hR
        · rw [pre_some h1]; exact hL
      · rw [h2, hP.1]
        refine s_has_no (by omega) (Or.inl (by decide)) ?_
        refine ⟨fun _ => ?_, fun q => absurd rfl q⟩
        rw [e1]
        refine ⟨⟨t + 1, by omega, rfl, ?_, ?_⟩, by simp (disch := omega) only [z_cl]; omega⟩
        · rw [pre_none h1]; exact hR
        · rw [pre_none h1]; exact hL
  · have hj6 : j < 6 := by simp (disch := omega) only [l6, z_le] at hx; omega
    simp (disch := omega) only [l0, l1, l2, l3, l4, l5, l6, l7, l8, l9, l10, l11, l12, l13, l14, l15, l16, l23, l31, l40, l42, l44, l48, l49, l57, l59, l60, l65, l70, l96, l100, l101, l127, l200, l204, l254, l316, l948, l999, l1000, l9999, z_le, z_lt, z_eq, z_en, z_ne, z_nn, z_ltn, z_nlt, z_len, z_nle, z_add, z_mul, z_sub, z_div, z_cl, z_in, z_addn, z_no, z_yes, not_true_eq_false, not_false_eq_true, false_implies, true_implies, true_and, and_true, forall_const]
    refine ⟨by omega, by omega, ⟨j + 1, by omega, rfl, fun t ht => ?_⟩, by omega⟩
    rw [z_up, z_up]
    by_cases he : t = j
    · subst he; rw [if_pos rfl, if_pos rfl]; exact ⟨rfl, rfl⟩
    · rw [if_neg he, if_neg he]; exact hla t (by omega)
