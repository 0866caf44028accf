/-! the best place -/
def bs (ok : Nat → Bool) (v : Nat → Nat) : Nat → Option (Nat × Nat)
  | 0 => none
  | u + 1 => if ok u then (match bs ok v u with
    | none => some (10 * (u / 6) + u % 6, v u)
    | some (b, m) => if v u < m then some (10 * (u / 6) + u % 6, v u) else some (b, m)) else bs ok v u
def bsI : Option (Nat × Nat) → Int32
  | none => -nI 5
  | some (b, _) => nI b
def bsM : Option (Nat × Nat) → Int32
  | none => nI 1000
  | some (_, m) => nI m
section
variable {ok : Nat → Bool} {v : Nat → Nat}
theorem bs_n {u : Nat} (h : ok u = false) : bs ok v (u + 1) = bs ok v u := by
  show (if ok u then _ else bs ok v u) = _
  rw [h]; rfl
theorem bs_y0 {u : Nat} (h : ok u = true) (h0 : bs ok v u = none) : bs ok v (u + 1) = some (10 * (u / 6) + u % 6, v u) := by
  show (if ok u then (match bs ok v u with
    | none => some (10 * (u / 6) + u % 6, v u)
    | some (b, m) => if v u < m then some (10 * (u / 6) + u % 6, v u) else some (b, m)) else bs ok v u) = _
  rw [h, h0]; rfl
theorem bs_y1 {u b m : Nat} (h : ok u = true) (h0 : bs ok v u = some (b, m)) : bs ok v (u + 1) = if v u < m then some (10 * (u / 6) + u % 6, v u) else some (b, m) := by
  show (if ok u then (match bs ok v u with
    | none => some (10 * (u / 6) + u % 6, v u)
    | some (b, m) => if v u < m then some (10 * (u / 6) + u % 6, v u) else some (b, m)) else bs ok v u) = _
  rw [h, h0]; rfl
theorem bs_skip {a : Nat} : ∀ d, (∀ j, a ≤ j → j < a + d → ok j = false) → bs ok v (a + d) = bs ok v a
  | 0, _ => rfl
  | d + 1, h => by
    rw [← Nat.add_assoc, bs_n (h (a + d) (by omega) (by omega))]
    exact bs_skip d (fun j h1 h2 => h j h1 (by omega))
theorem bs_ok {Q : Nat → Prop} : ∀ u, (∀ j, j < u → ok j = true → Q (v j)) → ∀ b m, bs ok v u = some (b, m) → Q m ∧ b ≤ 10 * u
  | 0, _, b, m, h => by cases h
  | u + 1, hq, b, m, h => by
    have ih := bs_ok (Q := Q) u (fun j hj => hq j (by omega))
    cases hok : ok u with
    | false =>
      rw [bs_n hok] at h
      have := ih b m h
      exact ⟨this.1, by omega⟩
    | true =>
      have hv := hq u (by omega) hok
      cases hb : bs ok v u with
      | none =>
        rw [bs_y0 hok hb] at h
        cases h
        exact ⟨hv, by omega⟩
      | some bm =>
        obtain ⟨b2, m2⟩ := bm
        rw [bs_y1 hok hb] at h
        have h2 := ih b2 m2 hb
        by_cases hlt : v u < m2
        · rw [if_pos hlt] at h; cases h; exact ⟨hv, by omega⟩
        · rw [if_neg hlt] at h; cases h; exact ⟨h2.1, by omega⟩
end
def okU (row : Nat → List Nat) (u : Nat) : Bool := decide ((row (u / 6)).length ≤ 5 ∧ u % 6 ≤ (row (u / 6)).length)
theorem okU_y {row : Nat → List Nat} {sc p : Nat} (hp : p < 6) (h : (row sc).length ≤ 5 ∧ p ≤ (row sc).length) : okU row (6 * sc + p) = true := by
  unfold okU
  rw [show (6 * sc + p) / 6 = sc by omega, show (6 * sc + p) % 6 = p by omega]
  exact decide_eq_true h
theorem okU_n {row : Nat → List Nat} {sc p : Nat} (hp : p < 6) (h : ¬ ((row sc).length ≤ 5 ∧ p ≤ (row sc).length)) : okU row (6 * sc + p) = false := by
  unfold okU
  rw [show (6 * sc + p) / 6 = sc by omega, show (6 * sc + p) % 6 = p by omega]
  exact decide_eq_false h
theorem okU_at {row : Nat → List Nat} {u : Nat} (h : okU row u = true) : (row (u / 6)).length ≤ 5 ∧ u % 6 ≤ (row (u / 6)).length := of_decide_eq_true h
theorem pre_lenp {n : Nat} {row : Nat → List Nat} {sc : Nat} (hO : rowOk n row) : ∀ p, p ≤ (row sc).length → (pre row (6 * sc + p)).length = (pre row (6 * sc)).length + p
  | 0, _ => rfl
  | p + 1, h => by
    rw [← Nat.add_assoc, pre_step hO (by omega), List.length_append, List.length_singleton, pre_lenp hO p (by omega)]; omega
section
variable {n : Nat} {num : Nat → Nat → Nat} {row : Nat → List Nat} {st : Nat → Nat} {s : Nat → Int32} {c : Nat}
theorem s_best29 {f g t tr : Nat → Int32} {x y size csize gz : Int32} {cnum names slots ahead sAhead last lastS ra ca ho so : Nat → Int32} {base : Nat} {v : Nat → Nat} {post : Int32 → (Nat → Int32) → Int32 → Int32 → Int32 → Int32 → (Nat → Int32) → (Nat → Int32) → (Nat → Int32) → (Nat → Int32) → (Nat → Int32) → (Nat → Int32) → (Nat → Int32) → Int32 → (Nat → Int32) → (Nat → Int32) → (Nat → Int32) → (Nat → Int32) → Prop}
    (htr : RW row tr) (hO : rowOk n row)
    (mk : ∀ sc p, sc < 16 → p ≤ (row sc).length → (row sc).length ≤ 5 → ∀ po : Int32 → Prop, po (nI (v (6 * sc + p) - base)) → wp_X8_breaksMadeBy (nI c) (nI (pre row (6 * sc + p)).length) (nI n) f gz ra ho po)
    (hv : ∀ u, u < 96 → okU row u = true → base ≤ v u ∧ v u ≤ 40)
    (h : post (bsI (bs (okU row) v 96)) tr x y size csize cnum names slots ahead sAhead last lastS gz ra ca ho so) : wp_X8_best_l29 (nI c) (-5) 0 0 (nI n) f g t tr x y size csize cnum names slots ahead sAhead last lastS gz ra ca ho so post := by
  have hn := hO.2.2.2
  unfold wp_X8_best_l29
  refine lf3_i (fun x2 x3 x4 => ∃ sc, sc ≤ 16 ∧ x4 = nI sc ∧ x2 = bsI (bs (okU row) v (6 * sc)) ∧ ∀ b m, bs (okU row) v (6 * sc) = some (b, m) → x3 = nI (m - base)) (fun _ _ x4 => 16 - x4.toNatClampNeg) ⟨0, by omega, rfl, rfl, fun b m q => by cases q⟩ ?_
  rintro x2 x3 x4 ⟨sc, hsc, rfl, rfl, hx3⟩
  rw [l16, z_le (by omega) (by omega)]
  refine ⟨fun hx => ?_, fun hx => ?_⟩
  · have hse : sc = 16 := by omega
    subst hse; exact h
  · have hsc16 : sc < 16 := by omega
    have h6 := hO.1 sc
    refine s_sizeOf htr hO hsc16 ?_
    refine s_slot (p := 0) ?_
    rw [Nat.add_zero, Nat.mul_comm sc 6]
    have hlen := pre_le (t := 6 * sc) hO (by omega)
    refine s_ahead (t := 6 * sc) htr hO (by omega) ?_
    unfold wp_X8_best_l65
    refine lf3_i (fun x2 x3 x7 => ∃ p, p ≤ 6 ∧ x7 = nI p ∧ x2 = bsI (bs (okU row) v (6 * sc + p)) ∧ ∀ b m, bs (okU row) v (6 * sc + p) = some (b, m) → x3 = nI (m - base)) (fun _ _ x7 => 6 - x7.toNatClampNeg) ⟨0, by omega, rfl, rfl, hx3⟩ ?_
    clear hx3 x3
    rintro x2 x3 x7 ⟨p, hp, rfl, rfl, hx3⟩
    have e1 : nI sc + (1 : Int32) = nI (sc + 1) := by rw [l1, z_add]
    have e2 : nI p + (1 : Int32) = nI (p + 1) := by rw [l1, z_add]
    have hdec : 6 - (nI (p + 1)).toNatClampNeg < 6 - (nI p).toNatClampNeg ∨ 6 ≤ p := by
      rcases Nat.lt_or_ge p 6 with q | q
      · left; simp (disch := omega) only [z_cl]; omega
      · exact Or.inr q
    have out : (p = 6 ∨ ¬ ((row sc).length ≤ 5 ∧ p ≤ (row sc).length)) → (∃ sc', sc' ≤ 16 ∧ nI sc + (1 : Int32) = nI sc' ∧ bsI (bs (okU row) v (6 * sc + p)) = bsI (bs (okU row) v (6 * sc')) ∧ ∀ b m, bs (okU row) v (6 * sc') = some (b, m) → x3 = nI (m - base)) ∧ 16 - (nI sc + (1 : Int32)).toNatClampNeg < 16 - (nI sc).toNatClampNeg := by
      intro q
      have hs := bs_skip (ok := okU row) (v := v) (a := 6 * sc + p) (6 - p) (fun j h1 h2 => by
        have hj := okU_n (row := row) (sc := sc) (p := j - 6 * sc) (by omega) (by omega)
        rw [show 6 * sc + (j - 6 * sc) = j by omega] at hj
        exact hj)
      rw [show 6 * sc + p + (6 - p) = 6 * (sc + 1) by omega] at hs
      rw [e1]
      refine ⟨⟨sc + 1, by omega, rfl, by rw [hs], fun b m e => hx3 b m (by rw [← hs]; exact e)⟩, by simp (disch := omega) only [z_cl]; omega⟩
    rw [l6, z_lt (by omega) (by omega), z_le (by omega) (by omega), z_le (by omega) (by omega)]
    refine ⟨fun q => out (by omega), fun q => ⟨fun q2 => out (by omega), fun q2 => ⟨fun q3 => out (by omega), fun q3 => ?_⟩⟩⟩
    have hok : okU row (6 * sc + p) = true := okU_y (by omega) (by omega)
    have hvv := hv (6 * sc + p) (by omega) hok
    have hq := bs_ok (ok := okU row) (v := v) (Q := fun m => base ≤ m ∧ m ≤ 40) (6 * sc + p) (fun j hj hjo => hv j (by omega) hjo)
    have hd2 : 6 - (nI (p + 1)).toNatClampNeg < 6 - (nI p).toNatClampNeg := by
      rcases hdec with a | a
      · exact a
      · omega
    have edv : (6 * sc + p) / 6 = sc := by omega
    have emd : (6 * sc + p) % 6 = p := by omega
    rw [z_add, ← pre_lenp hO p (by omega)]
    refine mk sc p hsc16 (by omega) (by omega) _ ?_
    unfold wp_X8_best_j110
    rw [e2]
    have e10 : (10 : Int32) * nI sc + nI p = nI (10 * sc + p) := by rw [l10, z_mul, z_add]
    rw [e10]
    cases hb : bs (okU row) v (6 * sc + p) with
    | none =>
      have hnx := bs_y0 (v := v) hok hb
      rw [edv, emd] at hnx
      refine ⟨fun _ => ⟨⟨p + 1, by omega, rfl, ?_, fun b m e => ?_⟩, hd2⟩, fun q => absurd rfl q⟩
      · rw [← Nat.add_assoc, hnx]; rfl
      · rw [← Nat.add_assoc, hnx] at e; cases e; rfl
    | some bm =>
      obtain ⟨b, m⟩ := bm
      have hbm := hq b m hb
      have hx3' := hx3 b m hb
      have hnx := bs_y1 (v := v) hok hb
      rw [edv, emd] at hnx
      refine ⟨fun q => absurd q (by show ¬ nI b = -nI 5; rw [z_en (by omega) (by omega) (by omega)]; exact id), fun _ => ?_⟩
      rw [hx3', z_le (by omega) (by omega)]
      refine ⟨fun q => ⟨⟨p + 1, by omega, rfl, ?_, fun b2 m2 e => ?_⟩, hd2⟩, fun q => ⟨⟨p + 1, by omega, rfl, ?_, fun b2 m2 e => ?_⟩, hd2⟩⟩
      · rw [← Nat.add_assoc, hnx, if_neg (by omega)]
      · rw [← Nat.add_assoc, hnx, if_neg (by omega)] at e; cases e; rfl
      · rw [← Nat.add_assoc, hnx, if_pos (by omega)]; rfl
      · rw [← Nat.add_assoc, hnx, if_pos (by omega)] at e; cases e; rfl
end
