/-! a thread put straight -/
def srtC (H C : Nat → Nat) (m i : Nat) : Nat := match lst (fun k => rk H C m k == i) m with
  | some k => C k
  | none => 0
def stF (row : Nat → List Nat) (H C S : Nat → Nat) (m u : Nat) : Nat := match lst (fun i => S i == u) m with
  | some i => srtC H C m i
  | none => crd row u
theorem lst_uni {p : Nat → Bool} {m i : Nat} (hi : i < m) (hp : p i = true) (hu : ∀ j, j < m → p j = true → j = i) : lst p m = some i := by
  cases h : lst p m with
  | none =>
    have := lst_none _ h i hi
    rw [hp] at this; cases this
  | some b =>
    have := lst_lt _ h
    rw [hu b this.1 this.2]
/-- what holds of the straight row -/
def SF (row : Nat → List Nat) (C S : Nat → Nat) (m : Nat) : Prop := injC C m ∧ (∀ i, i < m → S i < 96 ∧ occ row (S i) ∧ crd row (S i) = C i) ∧ ∀ i j, i < j → j < m → S i < S j
section
variable {n : Nat} {num : Nat → Nat → Nat} {row : Nat → List Nat} {st : Nat → Nat} {s : Nat → Int32} {H C S : Nat → Nat} {m : Nat}
theorem srtC_at {k : Nat} (hC : injC C m) (hk : k < m) : srtC H C m (rk H C m k) = C k := by
  unfold srtC
  rw [lst_uni (p := fun j => rk H C m j == rk H C m k) (i := k) hk (beq_iff_eq.mpr rfl) (fun j hj e => rk_inj hC hj hk (beq_iff_eq.mp e))]
theorem srtC_ex {i : Nat} (hC : injC C m) (hi : i < m) : ∃ k, k < m ∧ rk H C m k = i ∧ srtC H C m i = C k := by
  obtain ⟨k, hk, he⟩ := rk_surj hC (H := H) hi
  refine ⟨k, hk, he, ?_⟩
  rw [← he]; exact srtC_at hC hk
theorem S_inj (h : SF row C S m) {i j : Nat} (hi : i < m) (hj : j < m) (he : S i = S j) : i = j := by
  rcases Nat.lt_trichotomy i j with q | q | q
  · have := h.2.2 i j q hj; omega
  · exact q
  · have := h.2.2 j i q hi; omega
theorem stF_y (h : SF row C S m) {i : Nat} (hi : i < m) : stF row H C S m (S i) = srtC H C m i := by
  unfold stF
  rw [lst_uni (p := fun j => S j == S i) (i := i) hi (beq_iff_eq.mpr rfl) (fun j hj e => S_inj h hj hi (beq_iff_eq.mp e))]
theorem stF_n {u : Nat} (hu : ∀ i, i < m → S i ≠ u) : stF row H C S m u = crd row u := by
  unfold stF
  cases hl : lst (fun i => S i == u) m with
  | none => rfl
  | some b =>
    have := lst_lt _ hl
    exact absurd (beq_iff_eq.mp this.2) (hu b this.1)
theorem st_cases (u : Nat) : (∃ i, i < m ∧ S i = u) ∨ (∀ i, i < m → S i ≠ u) := by
  by_cases h : ∃ i, i < m ∧ S i = u
  · exact Or.inl h
  · exact Or.inr (fun i hi e => h ⟨i, hi, e⟩)
theorem st_ok (hO : rowOk n row) (h : SF row C S m) : rowOk n (reRow row (stF row H C S m)) := by
  have hCn : ∀ k, k < m → C k < n := fun k hk => by
    have := h.2.1 k hk
    rw [← this.2.2]; exact crd_lt hO this.2.1
  refine re_ok hO (fun sc p hp => ?_) (fun u v hu hv h1 h2 he => ?_)
  · rcases st_cases (S := S) (m := m) (6 * sc + p) with ⟨i, hi, e⟩ | hno
    · rw [← e, stF_y h hi]
      obtain ⟨k, hk, _, e2⟩ := srtC_ex (H := H) h.1 hi
      rw [e2]; exact hCn k hk
    · rw [stF_n hno]
      refine crd_lt hO ?_
      have h6 := hO.1 sc
      unfold occ
      rw [show (6 * sc + p) / 6 = sc by omega, show (6 * sc + p) % 6 = p by omega]; exact hp
  · have hc : ∀ u, u < 96 → occ row u → (∀ i, i < m → S i ≠ u) → ∀ j, j < m → crd row u = srtC H C m j → False := by
      intro u hu h1 hno j hj e
      obtain ⟨k, hk, _, e2⟩ := srtC_ex (H := H) h.1 hj
      have a := h.2.1 k hk
      rw [e2, ← a.2.2] at e
      exact hno k hk (crd_inj hO hu a.1 h1 a.2.1 e).symm
    rcases st_cases (S := S) (m := m) u with ⟨i, hi, e1⟩ | hno1
    · rcases st_cases (S := S) (m := m) v with ⟨j, hj, e2⟩ | hno2
      · rw [← e1, ← e2, stF_y h hi, stF_y h hj] at he
        obtain ⟨k, hk, r1, c1⟩ := srtC_ex (H := H) h.1 hi
        obtain ⟨l, hl, r2, c2⟩ := srtC_ex (H := H) h.1 hj
        rw [c1, c2] at he
        have hkl := h.1 k l hk hl he
        subst hkl
        rw [← e1, ← e2, ← r1, ← r2]
      · rw [← e1, stF_y h hi, stF_n hno2] at he
        exact (hc v hv h2 hno2 i hi he.symm).elim
    · rcases st_cases (S := S) (m := m) v with ⟨j, hj, e2⟩ | hno2
      · rw [← e2, stF_y h hj, stF_n hno1] at he
        exact (hc u hu h1 hno1 j hj he).elim
      · rw [stF_n hno1, stF_n hno2] at he
        exact crd_inj hO hu hv h1 h2 he
theorem st_RW {g g' : Nat → Int32} (hO : rowOk n row) (hW : RW row g) (h : SF row C S m) (hy : ∀ i, i < m → g' (S i) = nI (srtC H C m i)) (hno : ∀ u, u < 96 → (∀ i, i < m → S i ≠ u) → g' u = g u) : RW (reRow row (stF row H C S m)) g' := by
  refine re_RW (fun sc hsc p hp => ?_)
  have e1 : (6 * sc + p) / 6 = sc := by omega
  have e2 : (6 * sc + p) % 6 = p := by omega
  have hocc : occ row (6 * sc + p) ↔ p < (row sc).length := by unfold occ; rw [e1, e2]
  have hrw := RW_at hW (t := 6 * sc + p) (by omega)
  have hcr : crd row (6 * sc + p) = gd (row sc) p := by unfold crd; rw [e1, e2]
  rw [e1, e2] at hrw
  rw [show sc * 6 + p = 6 * sc + p by omega]
  have hu : 6 * sc + p < 96 := by omega
  clear e1 e2
  generalize 6 * sc + p = u at hocc hrw hcr hu
  rcases st_cases (S := S) (m := m) u with ⟨i, hi, e⟩ | hn2
  · have a := h.2.1 i hi
    rw [e] at a
    rw [if_pos (hocc.mp a.2.1), ← e, stF_y h hi]; exact hy i hi
  · rw [stF_n hn2, hno u hu hn2, hrw, hcr]
    by_cases h3 : p < (row sc).length
    · rw [if_pos h3]; exact slotv_gd h3
    · rw [if_neg h3]; exact slotv_ge (by omega)
end
