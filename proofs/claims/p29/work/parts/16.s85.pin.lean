/-! pinning a card -/
/-- the rows without a card -/
def rowW (row : Nat → List Nat) (c : Nat) : Nat → List Nat := match slotO row c with
  | none => row
  | some t => offRow row t
theorem rowW_none {row : Nat → List Nat} {c : Nat} (hs : slotO row c = none) : rowW row c = row := by unfold rowW; rw [hs]
theorem rowW_some {row : Nat → List Nat} {c t : Nat} (hs : slotO row c = some t) : rowW row c = offRow row t := by unfold rowW; rw [hs]
theorem s_slot {post : Int32 → Prop} {sc p : Nat} (h : post (nI (sc * 6 + p))) : wp_X8_slot (nI sc) (nI p) post := by
  unfold wp_X8_slot
  rw [l6, z_mul, z_add]; exact h
theorem rng_no {p m : Nat} (hp : p ≤ m) (hm : m < 1000) : ¬ (nI p < nI 0 ∨ (¬ nI p < nI 0 ∧ nI m < nI p)) := by
  rw [z_lt (by omega) (by omega), z_lt (by omega) (by omega)]; omega
section
variable {n : Nat} {num : Nat → Nat → Nat} {row : Nat → List Nat} {st : Nat → Nat} {s g : Nat → Int32} {c sc : Nat}
theorem rowW_ok (hO : rowOk n row) : rowOk n (rowW row c) := by
  cases hs : slotO row c with
  | none => rw [rowW_none hs]; exact hO
  | some t => rw [rowW_some hs]; exact off_ok hO (slotO_some hs).1
theorem rowW_no (hO : rowOk n row) : ∀ t, t < 96 → ¬ (rowW row c (t / 6))[t % 6]? = some c := by
  cases hs : slotO row c with
  | none => rw [rowW_none hs]; exact slotO_none hs
  | some t => rw [rowW_some hs]; exact off_no hO (slotO_some hs).1 (slotO_some hs).2
theorem off_len {t : Nat} (ht : (row (t / 6))[t % 6]? = some c) : (offRow row t sc).length = if t / 6 = sc then (row sc).length - 1 else (row sc).length := by
  unfold offRow
  by_cases he : t / 6 = sc
  · subst he
    rw [if_pos rfl, if_pos rfl]
    exact List.length_eraseIdx_of_lt (List.getElem?_eq_some_iff.mp ht).1
  · rw [if_neg (fun e => he e.symm), if_neg he]
theorem s_takeOffW {post : (Nat → Int32) → Prop} (hW : RW row g) (hO : rowOk n row) (hc : c < n) (h : ∀ g', RW (rowW row c) g' → post g') : wp_X7_takeOff (nI c) g post := by
  cases hs : slotO row c with
  | none =>
    rw [rowW_none hs] at h
    exact s_takeOff_no hW hO hc (slotO_none hs) (h g hW)
  | some t =>
    rw [rowW_some hs] at h
    exact s_takeOff hW hO hO.2.2.1 hc (slotO_some hs).1 (slotO_some hs).2 h
theorem s_pinFaultN1 {x y z : Int32} {post : Int32 → Prop} (hn : n ≤ 40) (hx : x < nI 0 ∨ (¬ x < nI 0 ∧ nI n ≤ x)) (h : post (-1)) : wp_X8_pinFault x y z (nI n) g post := by
  unfold wp_X8_pinFault
  rcases hx with q | q
  · exact s_has_no hn (Or.inl q) ⟨fun _ => h, fun c => absurd rfl c⟩
  · exact s_has_no hn (Or.inr q.2) ⟨fun _ => h, fun c => absurd rfl c⟩
theorem s_pinFaultN2 {y z : Int32} {post : Int32 → Prop} (hn : n ≤ 40) (hc : c < n) (hx : y < nI 0 ∨ (¬ y < nI 0 ∧ nI 15 < y)) (h : post (-1)) : wp_X8_pinFault (nI c) y z (nI n) g post := by
  unfold wp_X8_pinFault
  exact s_has hn hc ⟨fun c => absurd c (by decide), fun _ => s_isSceneN hx ⟨fun _ => h, fun c => absurd rfl c⟩⟩
theorem s_pinFault {x3 : Int32} {post : Int32 → Prop} (hW : RW row g) (hO : rowOk n row) (hc : c < n) (hsc : sc < 16) (h3 : 6 ≤ (rowW row c sc).length → post (-3)) (h2 : (rowW row c sc).length ≤ 5 → (x3 < nI 0 ∨ (¬ x3 < nI 0 ∧ nI (rowW row c sc).length < x3)) → post (-2)) (h0 : (rowW row c sc).length ≤ 5 → ∀ p, p ≤ (rowW row c sc).length → x3 = nI p → post 0) : wp_X8_pinFault (nI c) (nI sc) x3 (nI n) g post := by
  have hn := hO.2.2.2
  have h6 := hO.1 sc
  have hw6 := (rowW_ok (c := c) hO).1 sc
  have fin : ∀ m, m = (rowW row c sc).length → wp_X8_pinFault_j54 x3 (nI m) (nI n) g post := by
    intro m hm
    rw [← hm] at h3 h2 h0 hw6
    unfold wp_X8_pinFault_j54
    rw [l6, z_lt (by omega) (by omega)]
    refine ⟨fun q => ?_, fun q => h3 (by omega)⟩
    rcases rng (x := x3) (lo := 0) (hi := m) (by omega) (by omega) with ⟨p, rfl, _, hp⟩ | hx
    · exact ⟨fun c => absurd c (by rw [l0, z_lt (by omega) (by omega)]; omega), fun _ => ⟨fun _ => h0 (by omega) p hp rfl, fun c => absurd (by rw [z_le (by omega) (by omega)]; exact hp) c⟩⟩
    · refine ⟨fun _ => h2 (by omega) hx, fun q1 => ⟨fun q2 => ?_, fun _ => h2 (by omega) hx⟩⟩
      rcases hx with c | c
      · exact absurd c q1
      · exfalso
        have c2 := c.2
        rw [Int32.lt_iff_toInt_lt] at c2
        rw [Int32.le_iff_toInt_le] at q2
        omega
  have fin2 : ∀ m, m = (rowW row c sc).length → ∀ x, x = nI m → wp_X8_pinFault_j54 x3 x (nI n) g post := by
    rintro m hm x rfl
    exact fin m hm
  unfold wp_X8_pinFault
  refine s_has hn hc ⟨fun c => absurd c (by decide), fun _ => s_isSceneY hsc ⟨fun c => absurd c (by decide), fun _ => s_sizeOf hW hO hsc ?_⟩⟩
  cases hs : slotO row c with
  | none =>
    exact s_isIn_no hW hO hc (slotO_none hs) ⟨fun _ => fin _ (by rw [rowW_none hs]), fun c => absurd rfl c⟩
  | some t =>
    have hts := slotO_some hs
    have hol := off_len (sc := sc) hts.2
    rw [← rowW_some hs] at hol
    refine s_isIn hW hO hO.2.2.1 hc hts.1 hsc hts.2 ?_
    by_cases he : t / 6 = sc
    · rw [if_pos he] at hol ⊢
      have hpl := (List.getElem?_eq_some_iff.mp hts.2).1
      rw [he] at hpl
      refine ⟨fun c => absurd c (by decide), fun _ => fin2 _ hol.symm _ ?_⟩
      rw [show (-1 : Int32) = -nI 1 from rfl, z_addn (by omega)]
    · rw [if_neg he] at hol ⊢
      exact ⟨fun _ => fin _ hol.symm, fun c => absurd rfl c⟩
end
