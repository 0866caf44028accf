/-! the rows after an act -/
section
variable {n : Nat} {row : Nat → List Nat}
theorem off_at {s u c : Nat} (hO : rowOk n row) (h : (offRow row s (u / 6))[u % 6]? = some c) (hu : u < 96) (hs : s < 96) : ∃ v, v < 96 ∧ (row (v / 6))[v % 6]? = some c ∧ v ≠ s ∧ v = (if u / 6 = s / 6 ∧ s % 6 ≤ u % 6 then u + 1 else u) ∧ (u / 6 = s / 6 ∧ s % 6 ≤ u % 6 → u % 6 < 5) := by
  have h6 := hO.1 (u / 6)
  unfold offRow at h
  by_cases he : u / 6 = s / 6
  · rw [if_pos he, List.getElem?_eraseIdx] at h
    by_cases hlt : u % 6 < s % 6
    · rw [if_pos hlt] at h
      exact ⟨u, hu, h, by rintro rfl; omega, by rw [if_neg (by omega)], fun h => by omega⟩
    · rw [if_neg hlt] at h
      have hl := (List.getElem?_eq_some_iff.mp h).1
      refine ⟨u + 1, by omega, ?_, by omega, by rw [if_pos ⟨he, by omega⟩], fun _ => by omega⟩
      rw [show (u + 1) / 6 = u / 6 by omega, show (u + 1) % 6 = u % 6 + 1 by omega]; exact h
  · rw [if_neg he] at h
    exact ⟨u, hu, h, by rintro rfl; exact he rfl, by rw [if_neg (by omega)], fun h => absurd h.1 he⟩
theorem off_ok {s : Nat} (hO : rowOk n row) (hs : s < 96) : rowOk n (offRow row s) := by
  refine ⟨fun sc => ?_, fun sc c hc => ?_, fun c u v hu hv h1 h2 => ?_, hO.2.2.2⟩
  · unfold offRow
    have := hO.1 sc
    split
    · have := List.length_eraseIdx_le (row sc) (s % 6); omega
    · exact this
  · unfold offRow at hc
    split at hc
    · exact hO.2.1 sc c (List.mem_of_mem_eraseIdx hc)
    · exact hO.2.1 sc c hc
  · obtain ⟨a, ha, ha2, _, ha4, ha5⟩ := off_at hO h1 hu hs
    obtain ⟨b, hb, hb2, _, hb4, hb5⟩ := off_at hO h2 hv hs
    have := hO.2.2.1 c a b ha hb ha2 hb2
    rw [ha4, hb4] at this
    split at this <;> split at this <;> omega
theorem off_no {s c : Nat} (hO : rowOk n row) (hs : s < 96) (hat : (row (s / 6))[s % 6]? = some c) : ∀ t, t < 96 → ¬ (offRow row s (t / 6))[t % 6]? = some c := by
  intro t ht h
  obtain ⟨a, ha, ha2, ha3, _⟩ := off_at hO h ht hs
  exact ha3 (hO.2.2.1 c a s ha hs ha2 hat)
theorem on_at {sc p c d u : Nat} (hp : p ≤ (row sc).length) (h5 : (row sc).length ≤ 5) (hu : u < 96) (h : (onRow row sc p c (u / 6))[u % 6]? = some d) : (u = sc * 6 + p ∧ d = c) ∨ (u ≠ sc * 6 + p ∧ ∃ v, v < 96 ∧ (row (v / 6))[v % 6]? = some d ∧ v = if u / 6 = sc ∧ p < u % 6 then u - 1 else u) := by
  unfold onRow at h
  by_cases he : u / 6 = sc
  · rw [if_pos he, List.getElem?_insertIdx] at h
    by_cases h1 : u % 6 < p
    · rw [if_pos h1] at h
      exact Or.inr ⟨by omega, u, hu, h, by rw [if_neg (by omega)]⟩
    · rw [if_neg h1] at h
      by_cases h2 : u % 6 = p
      · rw [if_pos h2] at h
        split at h
        · left; exact ⟨by omega, (Option.some.inj h).symm⟩
        · cases h
      · rw [if_neg h2] at h
        refine Or.inr ⟨by omega, u - 1, by omega, ?_, by rw [if_pos ⟨he, by omega⟩]⟩
        rw [show (u - 1) / 6 = u / 6 by omega, show (u - 1) % 6 = u % 6 - 1 by omega]; exact h
  · rw [if_neg he] at h
    exact Or.inr ⟨by omega, u, hu, h, by rw [if_neg (by omega)]⟩
theorem on_ok {sc p c : Nat} (hO : rowOk n row) (hsc : sc < 16) (hp : p ≤ (row sc).length) (h5 : (row sc).length ≤ 5) (hc : c < n) (hno : ∀ t, t < 96 → ¬ (row (t / 6))[t % 6]? = some c) : rowOk n (onRow row sc p c) := by
  refine ⟨fun k => ?_, fun k d hd => ?_, fun d u v hu hv h1 h2 => ?_, hO.2.2.2⟩
  · unfold onRow
    have := hO.1 k
    split
    · rename_i he; subst he
      rw [List.length_insertIdx]; split <;> omega
    · exact this
  · unfold onRow at hd
    split at hd
    · rename_i he; subst he
      rcases (List.mem_insertIdx hp).mp hd with rfl | q
      · exact hc
      · exact hO.2.1 _ d q
    · exact hO.2.1 k d hd
  · rcases on_at hp h5 hu h1 with ⟨a1, a2⟩ | ⟨a0, a, ha, ha2, ha4⟩
    · rcases on_at hp h5 hv h2 with ⟨b1, b2⟩ | ⟨b0, b, hb, hb2, hb4⟩
      · omega
      · rw [a2] at hb2; exact absurd hb2 (hno b hb)
    · rcases on_at hp h5 hv h2 with ⟨b1, b2⟩ | ⟨b0, b, hb, hb2, hb4⟩
      · rw [b2] at ha2; exact absurd ha2 (hno a ha)
      · have := hO.2.2.1 d a b ha hb ha2 hb2
        rw [ha4, hb4] at this
        split at this <;> split at this <;> omega
/-- the same places, other cards -/
def reRow (row : Nat → List Nat) (f : Nat → Nat) : Nat → List Nat := fun sc => (List.range (row sc).length).map (fun p => f (6 * sc + p))
theorem re_len {f : Nat → Nat} {sc : Nat} : (reRow row f sc).length = (row sc).length := by unfold reRow; simp
theorem re_at {f : Nat → Nat} {sc p : Nat} : (reRow row f sc)[p]? = if p < (row sc).length then some (f (6 * sc + p)) else none := by
  unfold reRow
  rw [List.getElem?_map]
  by_cases h : p < (row sc).length
  · rw [if_pos h, List.getElem?_range h]; rfl
  · rw [if_neg h, List.getElem?_eq_none (by simp; omega)]; rfl
theorem re_gd {f : Nat → Nat} {sc p : Nat} (h : p < (row sc).length) : gd (reRow row f sc) p = f (6 * sc + p) := by
  unfold gd
  rw [List.getD_eq_getElem?_getD, re_at, if_pos h]; rfl
def occ (row : Nat → List Nat) (t : Nat) : Prop := t % 6 < (row (t / 6)).length
theorem re_ok {f : Nat → Nat} (hO : rowOk n row) (hf : ∀ sc p, p < (row sc).length → f (6 * sc + p) < n) (hi : ∀ u v, u < 96 → v < 96 → occ row u → occ row v → f u = f v → u = v) : rowOk n (reRow row f) := by
  refine ⟨fun sc => by rw [re_len]; exact hO.1 sc, fun sc c hc => ?_, fun c u v hu hv h1 h2 => ?_, hO.2.2.2⟩
  · unfold reRow at hc
    obtain ⟨p, hp, rfl⟩ := List.mem_map.mp hc
    exact hf sc p (List.mem_range.mp hp)
  · rw [re_at] at h1 h2
    split at h1
    · rename_i a1
      split at h2
      · rename_i a2
        refine hi u v hu hv a1 a2 ?_
        have e1 := Option.some.inj h1
        have e2 := Option.some.inj h2
        rw [show 6 * (u / 6) + u % 6 = u by omega] at e1
        rw [show 6 * (v / 6) + v % 6 = v by omega] at e2
        rw [e1, e2]
      · cases h2
    · cases h1
theorem re_RW {f : Nat → Nat} {g : Nat → Int32} (h : ∀ sc, sc < 16 → ∀ p, p < 6 → g (sc * 6 + p) = if p < (row sc).length then nI (f (6 * sc + p)) else -nI 5) : RW (reRow row f) g := by
  intro sc hsc p hp
  rw [h sc hsc p hp]
  unfold slotv
  rw [re_at]
  split <;> rfl
/-- the rows in another order -/
def permRow (row : Nat → List Nat) (σ : Nat → Nat) : Nat → List Nat := fun k => row (σ k)
theorem perm_ok {σ : Nat → Nat} (hO : rowOk n row) (h1 : ∀ k, k < 16 → σ k < 16) (h2 : ∀ i j, i < 16 → j < 16 → σ i = σ j → i = j) : rowOk n (permRow row σ) := by
  refine ⟨fun sc => hO.1 _, fun sc => hO.2.1 _, fun c u v hu hv a b => ?_, hO.2.2.2⟩
  have s1 := h1 (u / 6) (by omega)
  have s2 := h1 (v / 6) (by omega)
  have := hO.2.2.1 c (6 * σ (u / 6) + u % 6) (6 * σ (v / 6) + v % 6) (by omega) (by omega) (by
    rw [show (6 * σ (u / 6) + u % 6) / 6 = σ (u / 6) by omega, show (6 * σ (u / 6) + u % 6) % 6 = u % 6 by omega]; exact a) (by
    rw [show (6 * σ (v / 6) + v % 6) / 6 = σ (v / 6) by omega, show (6 * σ (v / 6) + v % 6) % 6 = v % 6 by omega]; exact b)
  have he : σ (u / 6) = σ (v / 6) := by omega
  have := h2 (u / 6) (v / 6) (by omega) (by omega) he
  omega
theorem RW_congr {row2 : Nat → List Nat} {g : Nat → Int32} (h : RW row g) (he : ∀ k, k < 16 → row2 k = row k) : RW row2 g := by
  intro sc hsc p hp
  rw [he sc hsc]; exact h sc hsc p hp
theorem x_perm {a b : Nat} : xRow row a b = permRow row (fun k => if k = a then b else if k = b then a else k) := by
  funext k
  unfold xRow permRow
  by_cases h1 : k = a
  · simp [h1]
  · by_cases h2 : k = b
    · show (if k = a then row b else if k = b then row a else row k) = row (if k = a then b else if k = b then a else k)
      rw [if_neg h1, if_pos h2, if_neg h1, if_pos h2]
    · simp [h1, h2]
theorem x_ok {a b : Nat} (hO : rowOk n row) (ha : a < 16) (hb : b < 16) : rowOk n (xRow row a b) := by
  rw [x_perm]
  refine perm_ok hO (fun k hk => ?_) (fun i j hi hj h => ?_)
  · show (if k = a then b else if k = b then a else k) < 16
    split <;> (try split) <;> omega
  · have h2 : (if i = a then b else if i = b then a else i) = (if j = a then b else if j = b then a else j) := h
    split at h2 <;> split at h2 <;> (try split at h2) <;> (try split at h2) <;> omega
/-- a scene put in -/
def insS (sc : Nat) : Nat → Nat := fun k => if k < sc then k else if k = sc then 15 else if k < 16 then k - 1 else k
/-- a scene taken out -/
def remS (sc : Nat) : Nat → Nat := fun k => if k < sc then k else if k < 15 then k + 1 else if k = 15 then sc else k
theorem ins_ok {sc : Nat} (hO : rowOk n row) (hs : sc < 16) : rowOk n (permRow row (insS sc)) := by
  refine perm_ok hO (fun k hk => ?_) (fun i j hi hj h => ?_)
  · unfold insS; split <;> (try split) <;> (try split) <;> omega
  · unfold insS at h
    split at h <;> split at h <;> (try split at h) <;> (try split at h) <;> (try split at h) <;> (try split at h) <;> omega
theorem rem_ok {sc : Nat} (hO : rowOk n row) (hs : sc < 16) : rowOk n (permRow row (remS sc)) := by
  refine perm_ok hO (fun k hk => ?_) (fun i j hi hj h => ?_)
  · unfold remS; split <;> (try split) <;> (try split) <;> omega
  · unfold remS at h
    split at h <;> split at h <;> (try split at h) <;> (try split at h) <;> (try split at h) <;> (try split at h) <;> omega
end
