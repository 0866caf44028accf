/-! breaks as descents of a row of cards; a card put in -/
def dsc (H : Nat → Nat) (m : Nat) : Nat := cnt (fun i => decide (0 < i) && decide (H i < H (i - 1))) m
def insH (H : Nat → Nat) (e h : Nat) : Nat → Nat := fun i => if i < e then H i else if i = e then h else H (i - 1)
theorem dsc_s {H : Nat → Nat} {m : Nat} : dsc H (m + 1) = dsc H m + (if 0 < m ∧ H m < H (m - 1) then 1 else 0) := by
  show cnt _ m + (if (decide (0 < m) && decide (H m < H (m - 1))) = true then 1 else 0) = _
  simp only [Bool.and_eq_true, decide_eq_true_iff]; rfl
theorem dsc_congr {H G : Nat → Nat} {m : Nat} (h : ∀ i, i < m → H i = G i) : dsc H m = dsc G m := by
  refine cnt_congr m (fun i hi => ?_)
  show (decide (0 < i) && decide (H i < H (i - 1))) = (decide (0 < i) && decide (G i < G (i - 1)))
  rw [h i hi, h (i - 1) (by omega)]
theorem dltP_e {H : Nat → Nat} {e h : Nat} : dltP H e e h = if 0 < e ∧ h < H (e - 1) then 1 else 0 := by
  unfold dltP
  rw [if_neg (show ¬ (e < e ∧ H e < h) from fun q => absurd q.1 (Nat.lt_irrefl e))]; rfl
theorem dltM_e {H : Nat → Nat} {e : Nat} : dltM H e e = 0 := by
  unfold dltM
  rw [if_neg (fun q => absurd q.2.1 (Nat.lt_irrefl e))]
theorem dltP_g {H : Nat → Nat} {e d h : Nat} : dltP H (e + d + 1) e h = (if 0 < e ∧ h < H (e - 1) then 1 else 0) + (if H e < h then 1 else 0) := by
  unfold dltP
  have : (e < e + d + 1 ∧ H e < h) ↔ H e < h := ⟨fun q => q.2, fun q => ⟨by omega, q⟩⟩
  simp only [this]
theorem dltM_g {H : Nat → Nat} {e d : Nat} : dltM H (e + d + 1) e = if 0 < e ∧ H e < H (e - 1) then 1 else 0 := by
  unfold dltM
  have : (0 < e ∧ e < e + d + 1 ∧ H e < H (e - 1)) ↔ (0 < e ∧ H e < H (e - 1)) := ⟨fun q => ⟨q.1, q.2.2⟩, fun q => ⟨q.1, by omega, q.2⟩⟩
  simp only [this]
theorem insH_lt {H : Nat → Nat} {e h i : Nat} (q : i < e) : insH H e h i = H i := if_pos q
theorem insH_eq {H : Nat → Nat} {e h : Nat} : insH H e h e = h := by
  unfold insH
  rw [if_neg (Nat.lt_irrefl e), if_pos rfl]
theorem insH_gt {H : Nat → Nat} {e h i : Nat} (q : e < i) : insH H e h i = H (i - 1) := by
  unfold insH
  rw [if_neg (by omega), if_neg (by omega)]
theorem dsc_ins {H : Nat → Nat} {e h : Nat} : ∀ d, dsc (insH H e h) (e + d + 1) + dltM H (e + d) e = dsc H (e + d) + dltP H (e + d) e h
  | 0 => by
    show dsc (insH H e h) (e + 1) + dltM H e e = dsc H e + dltP H e e h
    rw [dsc_s, dltM_e, dltP_e, insH_eq, dsc_congr (G := H) (fun i hi => insH_lt hi)]
    by_cases h0 : 0 < e
    · rw [insH_lt (show e - 1 < e by omega)]; omega
    · rw [if_neg (fun q => h0 q.1), if_neg (fun q => h0 q.1)]
  | d + 1 => by
    have ih := dsc_ins (H := H) (e := e) (h := h) d
    rw [← Nat.add_assoc]
    rw [dsc_s, dltM_g, dltP_g, dsc_s (H := H), insH_gt (show e < e + d + 1 by omega), Nat.add_sub_cancel]
    have hp : (0 < e + d + 1 ∧ H (e + d) < insH H e h (e + d)) ↔ H (e + d) < insH H e h (e + d) := ⟨fun q => q.2, fun q => ⟨by omega, q⟩⟩
    simp only [hp]
    cases d with
    | zero =>
      have ih2 : dsc (insH H e h) (e + 1) + dltM H e e = dsc H e + dltP H e e h := ih
      rw [dltM_e, dltP_e] at ih2
      show dsc (insH H e h) (e + 1) + (if H e < insH H e h e then 1 else 0) + (if 0 < e ∧ H e < H (e - 1) then 1 else 0) = dsc H e + (if 0 < e ∧ H e < H (e - 1) then 1 else 0) + ((if 0 < e ∧ h < H (e - 1) then 1 else 0) + (if H e < h then 1 else 0))
      rw [insH_eq]
      omega
    | succ d =>
      rw [← Nat.add_assoc] at ih
      rw [dltM_g, dltP_g] at ih
      rw [← Nat.add_assoc, insH_gt (show e < e + d + 1 by omega)]
      have hq : (0 < e + d + 1 ∧ H (e + d + 1) < H (e + d + 1 - 1)) ↔ H (e + d + 1) < H (e + d + 1 - 1) := ⟨fun q => q.2, fun q => ⟨by omega, q⟩⟩
      simp only [hq]
      omega
theorem dlt_congr {H G : Nat → Nat} {m e h : Nat} (he : e ≤ m) (hh : ∀ i, i < m → H i = G i) : dltP H m e h = dltP G m e h ∧ dltM H m e = dltM G m e := by
  have c1 : (0 < e ∧ h < H (e - 1)) ↔ (0 < e ∧ h < G (e - 1)) := by
    constructor <;> (rintro ⟨a, b⟩; have := hh (e - 1) (by omega); exact ⟨a, by omega⟩)
  have c2 : (e < m ∧ H e < h) ↔ (e < m ∧ G e < h) := by
    constructor <;> (rintro ⟨a, b⟩; have := hh e a; exact ⟨a, by omega⟩)
  have c3 : (0 < e ∧ e < m ∧ H e < H (e - 1)) ↔ (0 < e ∧ e < m ∧ G e < G (e - 1)) := by
    constructor <;> (rintro ⟨a, b, c⟩; have := hh e b; have := hh (e - 1) (by omega); exact ⟨a, b, by omega⟩)
  unfold dltP dltM
  simp only [c1, c2, c3]; exact ⟨trivial, trivial⟩
/-- the straight row as cards -/
def qS (num : Nat → Nat → Nat) (t c : Nat) : Bool := num c 0 == t && num c 4 == 0
def FL (num : Nat → Nat → Nat) (t : Nat) (C : List Nat) : List Nat := C.filter (qS num t)
def HF (num : Nat → Nat → Nat) (F : List Nat) (i : Nat) : Nat := num (F.getD i 0) 1
theorem map_at {L : List (Nat × Nat)} {m : Nat} (h : m < L.length) : (L.map Prod.fst)[m]? = some (cd L m) := by
  rw [List.getElem?_map, getD_some (d := (0, 0)) h]; rfl
theorem flt_map {num : Nat → Nat → Nat} {L : List (Nat × Nat)} {t : Nat} : ∀ m, m ≤ L.length → (flt (pS num L t) m).map (cd L) = FL num t ((L.map Prod.fst).take m)
  | 0, _ => rfl
  | m + 1, h => by
    have ih := flt_map (num := num) (L := L) (t := t) m (by omega)
    unfold FL at ih ⊢
    rw [List.take_succ, map_at (show m < L.length by omega), List.filter_append, ← ih]
    have he : pS num L t m = qS num t (cd L m) := rfl
    cases hp : pS num L t m with
    | true =>
      rw [flt_y hp, List.map_append]
      rw [he] at hp
      simp [hp]
    | false =>
      rw [flt_n hp]
      rw [he] at hp
      simp [hp]
theorem getD_map {L : List (Nat × Nat)} {R : List Nat} {i : Nat} (h : i < R.length) : (R.map (cd L)).getD i 0 = cd L (R.getD i 0) := by
  rw [List.getD_eq_getElem?_getD, List.getElem?_map, getD_some (d := 0) h]; rfl
theorem FL_all {num : Nat → Nat → Nat} {L : List (Nat × Nat)} {t : Nat} : (flt (pS num L t) L.length).map (cd L) = FL num t (L.map Prod.fst) := by
  have h := flt_map (num := num) (L := L) (t := t) L.length (Nat.le_refl _)
  rw [List.take_of_length_le (by rw [List.length_map]; exact Nat.le_refl _)] at h
  exact h
theorem HF_HR {num : Nat → Nat → Nat} {L : List (Nat × Nat)} {t i : Nat} (h : i < (flt (pS num L t) L.length).length) : HR num L (flt (pS num L t) L.length) i = HF num (FL num t (L.map Prod.fst)) i := by
  unfold HF
  rw [← FL_all, getD_map h]; rfl
theorem FL_len {num : Nat → Nat → Nat} {L : List (Nat × Nat)} {t : Nat} : (FL num t (L.map Prod.fst)).length = (flt (pS num L t) L.length).length := by
  rw [← FL_all, List.length_map]
theorem tally_dsc {num : Nat → Nat → Nat} {st : Nat → Nat} {L : List (Nat × Nat)} {t : Nat} (h6 : T6 num L) : tallyF num st L 12 (some t) none = dsc (HF num (FL num t (L.map Prod.fst))) (FL num t (L.map Prod.fst)).length := by
  rw [← brM_tally (sc := none) h6, FL_len]
  unfold brM dsc
  refine cnt_congr _ (fun i hi => ?_)
  rw [← HF_HR hi, ← HF_HR (show i - 1 < (flt (pS num L t) L.length).length by omega)]
  show (decide (0 < i) && (decide (num (cd L ((flt (pS num L t) L.length).getD i 0)) 1 < num (cd L ((flt (pS num L t) L.length).getD (i - 1) 0)) 1) && (true && true))) = _
  rw [Bool.and_true, Bool.and_true]; rfl
theorem HF_ins {num : Nat → Nat → Nat} {X Y : List Nat} {c : Nat} : HF num (X ++ c :: Y) = insH (HF num (X ++ Y)) X.length (num c 1) := by
  funext i
  show num ((X ++ c :: Y).getD i 0) 1 = if i < X.length then num ((X ++ Y).getD i 0) 1 else if i = X.length then num c 1 else num ((X ++ Y).getD (i - 1) 0) 1
  rw [List.getD_eq_getElem?_getD, List.getD_eq_getElem?_getD, List.getD_eq_getElem?_getD]
  by_cases h1 : i < X.length
  · rw [if_pos h1, List.getElem?_append_left h1, List.getElem?_append_left h1]
  · rw [if_neg h1, List.getElem?_append_right (by omega)]
    by_cases h2 : i = X.length
    · rw [if_pos h2, h2, Nat.sub_self]; rfl
    · rw [if_neg h2, List.getElem?_append_right (by omega), show i - X.length = (i - 1 - X.length) + 1 by omega, List.getElem?_cons_succ]
theorem sum_same {f g : Nat → Nat} {t0 : Nat} (he : ∀ t, t ≠ t0 → g t = f t) : ∀ m, m ≤ t0 → sumN g m = sumN f m
  | 0, _ => rfl
  | m + 1, h => by rw [sumN, sumN, sum_same he m (by omega), he m (by omega)]
theorem sum_one {f g : Nat → Nat} {t0 M Q : Nat} (he : ∀ t, t ≠ t0 → g t = f t) (h0 : g t0 + M = f t0 + Q) : ∀ m, t0 < m → sumN g m + M = sumN f m + Q
  | 0, h => absurd h (Nat.not_lt_zero _)
  | m + 1, h => by
    rw [sumN, sumN]
    by_cases hm : m = t0
    · rw [hm, sum_same he t0 (Nat.le_refl _)]; omega
    · have ih := sum_one he h0 m (by omega)
      rw [he m hm]; omega
theorem FL_app {num : Nat → Nat → Nat} {t : Nat} {X Y : List Nat} : FL num t (X ++ Y) = FL num t X ++ FL num t Y := List.filter_append ..
theorem FL_y {num : Nat → Nat → Nat} {t c : Nat} {Y : List Nat} (h : qS num t c = true) : FL num t (c :: Y) = c :: FL num t Y := List.filter_cons_of_pos h
theorem FL_n {num : Nat → Nat → Nat} {t c : Nat} {Y : List Nat} (h : ¬ qS num t c = true) : FL num t (c :: Y) = FL num t Y := List.filter_cons_of_neg h
/-- all breaks, with a card more -/
theorem tally_in {num : Nat → Nat → Nat} {st : Nat → Nat} {L L2 : List (Nat × Nat)} {A B : List Nat} {c : Nat} (h6 : T6 num L) (h62 : T6 num L2) (hc : num c 0 < 6) (e1 : L.map Prod.fst = A ++ B) (e2 : L2.map Prod.fst = A ++ c :: B) :
    (num c 4 ≠ 0 → tallyF num st L2 12 none none = tallyF num st L 12 none none) ∧ (num c 4 = 0 → tallyF num st L2 12 none none + dltM (HF num (FL num (num c 0) (A ++ B))) (FL num (num c 0) (A ++ B)).length (FL num (num c 0) A).length = tallyF num st L 12 none none + dltP (HF num (FL num (num c 0) (A ++ B))) (FL num (num c 0) (A ++ B)).length (FL num (num c 0) A).length (num c 1)) := by
  rw [← tally_all h6, ← tally_all h62]
  constructor
  · intro hf
    refine sumN_congr 6 (fun t _ => ?_)
    rw [tally_dsc h6, tally_dsc h62, e1, e2, FL_app, FL_app, FL_n]
    unfold qS
    rw [beq_eq_false_iff_ne.mpr hf, Bool.and_false]; decide
  · intro hf
    refine sum_one (t0 := num c 0) (fun t ht => ?_) ?_ 6 hc
    · show tallyF num st L2 12 (some t) none = tallyF num st L 12 (some t) none
      rw [tally_dsc h6, tally_dsc h62, e1, e2, FL_app, FL_app, FL_n]
      unfold qS
      rw [beq_eq_false_iff_ne.mpr (fun e => ht e.symm), Bool.false_and]; decide
    · show tallyF num st L2 12 (some (num c 0)) none + _ = tallyF num st L 12 (some (num c 0)) none + _
      have hq : qS num (num c 0) c = true := by
        unfold qS
        rw [beq_iff_eq.mpr rfl, beq_iff_eq.mpr hf]; rfl
      rw [tally_dsc h6, tally_dsc h62, e1, e2, FL_app, FL_app, FL_y hq, HF_ins]
      have h := dsc_ins (H := HF num (FL num (num c 0) A ++ FL num (num c 0) B)) (e := (FL num (num c 0) A).length) (h := num c 1) (FL num (num c 0) B).length
      rw [List.length_append, List.length_append, List.length_cons]
      exact h
/-- the cards, scene by scene -/
def rc (row : Nat → List Nat) : Nat → List Nat
  | 0 => []
  | k + 1 => rc row k ++ row k
theorem take_s {L : List Nat} {p : Nat} (h : p < L.length) : L.take (p + 1) = L.take p ++ [gd L p] := by
  rw [List.take_succ, getD_some (d := 0) h]; rfl
theorem pre_rc {n : Nat} {row : Nat → List Nat} (hO : rowOk n row) : ∀ k, (pre row (6 * k)).map Prod.fst = rc row k ∧ ∀ p, p ≤ (row k).length → (pre row (6 * k + p)).map Prod.fst = rc row k ++ (row k).take p
  | 0 => by
    refine ⟨rfl, fun p hp => ?_⟩
    induction p with
    | zero => rfl
    | succ p ih => rw [← Nat.add_assoc, pre_step hO (by omega), List.map_append, ih (by omega), take_s (by omega), List.append_assoc]; rfl
  | k + 1 => by
    have ih := (pre_rc hO k).2 (row k).length (Nat.le_refl _)
    rw [← pre_next hO, List.take_length] at ih
    refine ⟨ih, fun p hp => ?_⟩
    induction p with
    | zero => rw [Nat.add_zero, List.take_zero, List.append_nil]; exact ih
    | succ p ih2 => rw [← Nat.add_assoc, pre_step hO (by omega), List.map_append, ih2 (by omega), take_s (by omega), List.append_assoc]; rfl
theorem ins_td {c : Nat} : ∀ (L : List Nat) (p : Nat), p ≤ L.length → L.insertIdx p c = L.take p ++ c :: L.drop p
  | L, 0, _ => by simp
  | [], p + 1, h => absurd h (by simp)
  | b :: L, p + 1, h => by
    have ih := ins_td (c := c) L p (by simpa using h)
    rw [List.insertIdx_succ_cons, ih]; rfl
theorem rc_le {row : Nat → List Nat} {sc p c : Nat} : ∀ k, k ≤ sc → rc (onRow row sc p c) k = rc row k
  | 0, _ => rfl
  | k + 1, h => by
    rw [rc, rc, rc_le k (by omega)]
    have : onRow row sc p c k = row k := by unfold onRow; rw [if_neg (by omega)]
    rw [this]
theorem rc_on {row : Nat → List Nat} {sc p c : Nat} (hp : p ≤ (row sc).length) : ∀ d, ∃ B, rc row (sc + 1 + d) = (rc row sc ++ (row sc).take p) ++ B ∧ rc (onRow row sc p c) (sc + 1 + d) = (rc row sc ++ (row sc).take p) ++ c :: B
  | 0 => by
    refine ⟨(row sc).drop p, ?_, ?_⟩
    · show rc row sc ++ row sc = _
      rw [List.append_assoc, List.take_append_drop]
    · show rc (onRow row sc p c) sc ++ onRow row sc p c sc = _
      have : onRow row sc p c sc = (row sc).insertIdx p c := by unfold onRow; rw [if_pos rfl]
      rw [rc_le sc (Nat.le_refl _), this, ins_td _ _ hp, List.append_assoc]
  | d + 1 => by
    obtain ⟨B, h1, h2⟩ := rc_on (c := c) hp d
    refine ⟨B ++ row (sc + 1 + d), ?_, ?_⟩
    · show rc row (sc + 1 + d) ++ row (sc + 1 + d) = _
      rw [h1, List.append_assoc]
    · show rc (onRow row sc p c) (sc + 1 + d) ++ onRow row sc p c (sc + 1 + d) = _
      have : onRow row sc p c (sc + 1 + d) = row (sc + 1 + d) := by unfold onRow; rw [if_neg (by omega)]
      rw [h2, this, List.append_assoc]; rfl
theorem pre_on {n : Nat} {row : Nat → List Nat} {sc p c : Nat} (hO : rowOk n row) (hO2 : rowOk n (onRow row sc p c)) (hsc : sc < 16) (hp : p ≤ (row sc).length) : ∃ A B, A.length = (pre row (6 * sc + p)).length ∧ (pre row 96).map Prod.fst = A ++ B ∧ (pre (onRow row sc p c) 96).map Prod.fst = A ++ c :: B ∧ A = ((pre row 96).map Prod.fst).take (pre row (6 * sc + p)).length := by
  obtain ⟨B, h1, h2⟩ := rc_on (c := c) hp (16 - (sc + 1))
  rw [show sc + 1 + (16 - (sc + 1)) = 16 by omega] at h1 h2
  have a1 : (pre row 96).map Prod.fst = rc row 16 := (pre_rc hO 16).1
  have a2 : (pre (onRow row sc p c) 96).map Prod.fst = rc (onRow row sc p c) 16 := (pre_rc hO2 16).1
  have a3 := (pre_rc hO sc).2 p hp
  have a4 : (rc row sc ++ (row sc).take p).length = (pre row (6 * sc + p)).length := by rw [← a3, List.length_map]
  refine ⟨rc row sc ++ (row sc).take p, B, a4, a1.trans h1, a2.trans h2, ?_⟩
  rw [a1, h1, ← a4, List.take_left']
  rfl
theorem flt_app {p : Nat → Bool} {r : Nat} : ∀ d, ∃ X, flt p (r + d) = flt p r ++ X ∧ ∀ x ∈ X, r ≤ x
  | 0 => ⟨[], (List.append_nil _).symm, fun x hx => absurd hx (List.not_mem_nil)⟩
  | d + 1 => by
    obtain ⟨X, h1, h2⟩ := flt_app (p := p) (r := r) d
    refine ⟨X ++ (if p (r + d) then [r + d] else []), ?_, fun x hx => ?_⟩
    · rw [← Nat.add_assoc, flt, h1, List.append_assoc]
    · rcases List.mem_append.mp hx with q | q
      · exact h2 x q
      · split at q
        · have := List.mem_singleton.mp q; omega
        · exact absurd q (List.not_mem_nil)
theorem flt_cut {p : Nat → Bool} {m r e : Nat} (hr : r ≤ m) (he : e ≤ (flt p m).length) (h1 : ∀ i, i < e → (flt p m).getD i 0 < r) (h2 : ∀ i, e ≤ i → i < (flt p m).length → r ≤ (flt p m).getD i 0) : e = (flt p r).length := by
  obtain ⟨X, hX, hx⟩ := flt_app (p := p) (r := r) (m - r)
  rw [show r + (m - r) = m by omega] at hX
  rw [hX] at he h1 h2
  rw [List.length_append] at he h2
  rcases Nat.lt_trichotomy e (flt p r).length with q | q | q
  · have a := h2 e (Nat.le_refl _) (by omega)
    rw [getD_l q] at a
    have b := (flt_at q).1
    omega
  · exact q
  · have a := h1 (flt p r).length q
    have hl : 0 < X.length := by omega
    rw [List.getD_eq_getElem?_getD, List.getElem?_append_right (Nat.le_refl _), Nat.sub_self, getD_some (d := 0) hl] at a
    have b := hx (X.getD 0 0) (getD_mem hl)
    exact absurd a (by show ¬ X.getD 0 0 < r; omega)
