/-! two cards exchanged -/
def crd (row : Nat → List Nat) (u : Nat) : Nat := gd (row (u / 6)) (u % 6)
def tr2 (a b : Nat) : Nat → Nat := fun u => if u = a then b else if u = b then a else u
section
variable {n : Nat} {num : Nat → Nat → Nat} {row : Nat → List Nat} {st : Nat → Nat} {s : Nat → Int32}
theorem occ_some {u : Nat} (h : occ row u) : (row (u / 6))[u % 6]? = some (crd row u) := getD_some h
theorem occ_of {u c : Nat} (h : (row (u / 6))[u % 6]? = some c) : occ row u ∧ crd row u = c := by
  have h1 := (List.getElem?_eq_some_iff.mp h).1
  refine ⟨h1, ?_⟩
  have h2 := occ_some (row := row) (u := u) h1
  rw [h] at h2
  exact (Option.some.inj h2).symm
theorem crd_lt {u : Nat} (hO : rowOk n row) (h : occ row u) : crd row u < n := gd_lt (rowS_of hO _) h
theorem crd_inj {u v : Nat} (hO : rowOk n row) (hu : u < 96) (hv : v < 96) (h1 : occ row u) (h2 : occ row v) (he : crd row u = crd row v) : u = v := by
  have e1 := occ_some h1
  have e2 := occ_some h2
  rw [← he] at e2
  exact hO.2.2.1 _ u v hu hv e1 e2
theorem sw_ok {a b : Nat} (hO : rowOk n row) (ha : a < 96) (hb : b < 96) (oa : occ row a) (ob : occ row b) : rowOk n (reRow row (fun u => crd row (tr2 a b u))) := by
  have ho : ∀ u, occ row u → occ row (tr2 a b u) := by
    intro u hu
    unfold tr2
    split
    · exact ob
    · split
      · exact oa
      · exact hu
  have hl : ∀ u, u < 96 → tr2 a b u < 96 := by
    intro u hu
    unfold tr2
    split
    · exact hb
    · split
      · exact ha
      · exact hu
  refine re_ok hO (fun sc p hp => ?_) (fun u v hu hv h1 h2 he => ?_)
  · refine crd_lt hO (ho _ ?_)
    have h6 := hO.1 sc
    unfold occ
    rw [show (6 * sc + p) / 6 = sc by omega, show (6 * sc + p) % 6 = p by omega]; exact hp
  · have e := crd_inj hO (hl u hu) (hl v hv) (ho u h1) (ho v h2) he
    unfold tr2 at e
    split at e <;> split at e <;> (try split at e) <;> (try split at e) <;> omega
theorem sw_RW {g g' : Nat → Int32} {a b : Nat} (hO : rowOk n row) (hW : RW row g) (ha : a < 96) (hb : b < 96) (oa : occ row a) (ob : occ row b) (hg : ∀ j, g' j = if j = b then g a else if j = a then g b else g j) : RW (reRow row (fun u => crd row (tr2 a b u))) g' := by
  have hs : ∀ u, u < 96 → occ row u → g u = nI (crd row u) := fun u hu h => by rw [RW_at hW hu]; exact slotv_gd h
  refine re_RW (fun sc hsc p hp => ?_)
  have e1 : (6 * sc + p) / 6 = sc := by omega
  have e2 : (6 * sc + p) % 6 = p := by omega
  have hx : sc * 6 + p = 6 * sc + p := by omega
  have hocc : occ row (6 * sc + p) ↔ p < (row sc).length := by unfold occ; rw [e1, e2]
  have hrw := RW_at hW (t := 6 * sc + p) (by omega)
  show g' (sc * 6 + p) = if p < (row sc).length then nI (crd row (tr2 a b (6 * sc + p))) else -nI 5
  rw [e1, e2] at hrw
  rw [hx, hg]
  unfold tr2
  have hu : 6 * sc + p < 96 := by omega
  clear hx e1 e2
  generalize 6 * sc + p = u at hocc hrw hu
  by_cases h1 : u = b
  · subst h1
    rw [if_pos rfl, if_pos (hocc.mp ob), hs a ha oa]
    by_cases h2 : u = a
    · rw [if_pos h2, h2]
    · rw [if_neg h2, if_pos rfl]
  · rw [if_neg h1]
    by_cases h2 : u = a
    · subst h2
      rw [if_pos rfl, if_pos (hocc.mp oa), if_pos rfl, hs b hb ob]
    · rw [if_neg h2, if_neg h2, if_neg h1, hrw]
      by_cases h3 : p < (row sc).length
      · rw [if_pos h3, ← hrw]
        exact hs u hu (hocc.mpr h3)
      · rw [if_neg h3, slotv_ge (by omega)]
end
