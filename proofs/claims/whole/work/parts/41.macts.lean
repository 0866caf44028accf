/-! the acts of the model on the rows -/
def outS (sc : Nat) (s s2 : Nat → Int32) : Prop := ∀ i, i < 316 → (i < 204 + 7 * sc ∨ 204 + 7 * sc + 7 ≤ i) → s2 i = s i
section
variable {n : Nat} {num : Nat → Nat → Nat} {row : Nat → List Nat} {st : Nat → Nat} {s : Nat → Int32}
theorem RM_row {row2 : Nat → List Nat} {s2 : Nat → Int32} {sc : Nat} (hM : RM n num row st s) (hn : n ≤ 40) (h6 : ∀ k, (row k).length ≤ 6) (hsc : sc < 16) (ho : outS sc s s2) (hl : s2 (204 + 7 * sc) = nI (row2 sc).length) (hc : ∀ p, p < (row2 sc).length → s2 (204 + 7 * sc + 1 + p) = nI (gd (row2 sc) p)) (he : ∀ k, k ≠ sc → row2 k = row k) : RM n num row2 st s2 := by
  obtain ⟨m0, m1, m2, m3⟩ := hM
  refine ⟨by rw [ho 0 (by omega) (by omega)]; exact m0, fun i hi => by rw [ho _ (by omega) (by omega)]; exact m1 i hi, fun c hc k hk => by rw [ho _ (by omega) (by omega)]; exact m2 c hc k hk, fun k hk => ?_⟩
  by_cases h : k = sc
  · subst h; exact ⟨hl, hc⟩
  · rw [he k h]
    have := m3 k hk
    have hk6 := h6 k
    refine ⟨by rw [ho _ (by omega) (by omega)]; exact this.1, fun p hp => by rw [ho _ (by omega) (by omega)]; exact this.2 p hp⟩
theorem gd_erase {L : List Nat} {p j : Nat} : gd (L.eraseIdx p) j = if j < p then gd L j else gd L (j + 1) := by
  unfold gd
  rw [List.getD_eq_getElem?_getD, List.getD_eq_getElem?_getD, List.getD_eq_getElem?_getD, List.getElem?_eraseIdx]
  split <;> rfl
theorem gd_insert {L : List Nat} {p c j : Nat} (hp : p ≤ L.length) : gd (L.insertIdx p c) j = if j < p then gd L j else if j = p then c else gd L (j - 1) := by
  unfold gd
  rw [List.getD_eq_getElem?_getD, List.getD_eq_getElem?_getD, List.getD_eq_getElem?_getD, List.getElem?_insertIdx]
  by_cases h : j < p
  · simp [h]
  · by_cases h2 : j = p
    · subst h2; simp [hp]
    · simp [h, h2]
theorem m_takeOff {post : (Nat → Int32) → Prop} {c t : Nat} (hM : RM n num row st s) (hO : rowOk n row) (hc : c < n) (ht : slotO row c = some t) (h : ∀ s2, RM n num (offRow row t) st s2 → (∀ i, 316 ≤ i → s2 i = s i) → post s2) : wp_X9_takeOff (nI c) s post := by
  have hn := hO.2.2.2
  have hts := slotO_some ht
  have hsc : t / 6 < 16 := by omega
  have h6 := hO.1 (t / 6)
  have hpl : t % 6 < (row (t / 6)).length := (List.getElem?_eq_some_iff.mp hts.2).1
  have hM4 := hM.2.2.2 (t / 6) hsc
  unfold wp_X9_takeOff
  refine m_sceneOf hM hO hc ?_
  refine m_placeOf hM hO hc ?_
  rw [ht]
  have e6 : optI (Option.map (· / 6) (some t)) = nI (t / 6) := rfl
  have e7 : optI (Option.map (· % 6) (some t)) = nI (t % 6) := rfl
  rw [e6, e7]
  have e5 : (-5 : Int32) = -nI 5 := rfl
  rw [e5]
  refine ⟨fun q => absurd q (by rw [z_en (by omega) (by omega) (by omega)]; exact id), fun _ => ?_⟩
  refine m_row ⟨in_row hsc, in_row hsc, ?_⟩
  rw [z_cl (show 204 + 7 * (t / 6) < 2147483648 by omega), hM4.1, l1, z_sub (by omega)]
  unfold wp_X9_takeOff_l34
  show lf2 _ (nI (t % 6)) _
  refine lf2_i (fun x4 s2 => ∃ k, t % 6 ≤ k ∧ k ≤ (row (t / 6)).length - 1 ∧ x4 = nI k ∧ outS (t / 6) s s2 ∧ (∀ i, 316 ≤ i → s2 i = s i) ∧ s2 (204 + 7 * (t / 6)) = nI ((row (t / 6)).length - 1) ∧ ∀ j, j < (row (t / 6)).length → s2 (204 + 7 * (t / 6) + 1 + j) = nI (gd (row (t / 6)) (if t % 6 ≤ j ∧ j < k then j + 1 else j))) (fun x4 _ => 6 - x4.toNatClampNeg) ⟨t % 6, by omega, by omega, rfl, fun i hi hio => by rw [z_up_n (by omega)], fun i hi => by rw [z_up_n (by omega)], z_up_s, fun j hj => by rw [z_up_n (by omega), if_neg (by omega)]; exact hM4.2 j hj⟩ ?_
  rintro x4 s2 ⟨k, hk1, hk2, rfl, ho, hbig, hl, hcs⟩
  refine m_row ⟨in_row hsc, ?_⟩
  rw [z_cl (show 204 + 7 * (t / 6) < 2147483648 by omega), hl, z_le (by omega) (by omega)]
  refine ⟨fun q => ?_, fun q => ?_⟩
  · have hke : k = (row (t / 6)).length - 1 := by omega
    have hoff : offRow row t (t / 6) = (row (t / 6)).eraseIdx (t % 6) := by unfold offRow; rw [if_pos rfl]
    have hlen : ((row (t / 6)).eraseIdx (t % 6)).length = (row (t / 6)).length - 1 := List.length_eraseIdx_of_lt hpl
    refine h s2 (RM_row hM hn hO.1 hsc ho (by rw [hoff, hlen]; exact hl) (fun p hp => ?_) (fun j hj => by unfold offRow; rw [if_neg hj])) hbig
    rw [hoff] at hp ⊢
    rw [hlen] at hp
    rw [gd_erase, hcs p (by omega)]
    by_cases hm : p < t % 6
    · rw [if_neg (by omega), if_pos hm]
    · rw [if_pos (by omega), if_neg hm]
  · refine m_row (m_row ?_)
    simp only [l1, l2, z_add]
    rw [z_cl (show 204 + 7 * (t / 6) + 1 + k < 2147483648 by omega), z_cl (show 204 + 7 * (t / 6) + 2 + k < 2147483648 by omega)]
    refine ⟨(z_in (by omega)).mpr (by omega), (z_in (by omega)).mpr (by omega), ⟨k + 1, by omega, by omega, rfl, fun i hi hio => ?_, fun i hi => ?_, ?_, fun j hj => ?_⟩, by simp (disch := omega) only [z_cl]; omega⟩
    · rw [z_up_n (by omega)]; exact ho i hi hio
    · rw [z_up_n (by omega)]; exact hbig i hi
    · rw [z_up_n (by omega)]; exact hl
    · have hnext := hcs (k + 1) (by omega)
      rw [if_neg (by omega)] at hnext
      rw [z_up]
      by_cases hjk : j = k
      · subst hjk
        rw [if_pos rfl, if_pos (by omega), show 204 + 7 * (t / 6) + 2 + j = 204 + 7 * (t / 6) + 1 + (j + 1) by omega]; exact hnext
      · rw [if_neg (by omega), hcs j hj]
        by_cases hq : t % 6 ≤ j ∧ j < k
        · rw [if_pos hq, if_pos (by omega)]
        · rw [if_neg hq, if_neg (by omega)]
theorem m_takeOff_no {post : (Nat → Int32) → Prop} {c : Nat} (hM : RM n num row st s) (hO : rowOk n row) (hc : c < n) (ht : slotO row c = none) (h : post s) : wp_X9_takeOff (nI c) s post := by
  unfold wp_X9_takeOff
  refine m_sceneOf hM hO hc ?_
  refine m_placeOf hM hO hc ?_
  rw [ht]
  exact ⟨fun _ => h, fun q => absurd rfl q⟩
theorem m_putAt {post : (Nat → Int32) → Prop} {c sc p : Nat} (hM : RM n num row st s) (hn : n ≤ 40) (h6 : ∀ k, (row k).length ≤ 6) (hsc : sc < 16) (hp : p ≤ (row sc).length) (h5 : (row sc).length ≤ 5) (h : ∀ s2, RM n num (onRow row sc p c) st s2 → (∀ i, 316 ≤ i → s2 i = s i) → post s2) : wp_X9_putAt (nI c) (nI sc) (nI p) s post := by
  have hM4 := hM.2.2.2 sc hsc
  unfold wp_X9_putAt
  refine m_row ⟨in_row hsc, ?_⟩
  rw [z_cl (show 204 + 7 * sc < 2147483648 by omega), hM4.1]
  unfold wp_X9_putAt_l11
  refine lf2_i (fun x4 s2 => ∃ k, p ≤ k ∧ k ≤ (row sc).length ∧ x4 = nI k ∧ outS sc s s2 ∧ (∀ i, 316 ≤ i → s2 i = s i) ∧ s2 (204 + 7 * sc) = nI (row sc).length ∧ (∀ j, j < k → s2 (204 + 7 * sc + 1 + j) = nI (gd (row sc) j)) ∧ ∀ j, k < j → j ≤ (row sc).length → s2 (204 + 7 * sc + 1 + j) = nI (gd (row sc) (j - 1))) (fun x4 _ => x4.toNatClampNeg) ⟨(row sc).length, hp, by omega, rfl, fun i _ _ => rfl, fun _ _ => rfl, hM4.1, fun j hj => hM4.2 j hj, fun j h1 h2 => by omega⟩ ?_
  rintro x4 s2 ⟨k, hk1, hk2, rfl, ho, hbig, hl, hc1, hc2⟩
  rw [z_le (by omega) (by omega)]
  refine ⟨fun q => ?_, fun q => ?_⟩
  · have hke : k = p := by omega
    subst hke
    refine m_row ?_
    rw [l1, z_add, z_add, z_cl (show 204 + 7 * sc + 1 + k < 2147483648 by omega)]
    refine ⟨(z_in (by omega)).mpr (by omega), m_row ⟨in_row hsc, in_row hsc, ?_⟩⟩
    rw [z_cl (show 204 + 7 * sc < 2147483648 by omega), z_up_n (by omega), hl, z_add]
    have hon : onRow row sc k c sc = (row sc).insertIdx k c := by unfold onRow; rw [if_pos rfl]
    have hlen : ((row sc).insertIdx k c).length = (row sc).length + 1 := by rw [List.length_insertIdx, if_pos hp]
    refine h _ (RM_row hM hn h6 hsc (fun i hi hio => by rw [z_up_n (by omega), z_up_n (by omega)]; exact ho i hi hio) (by rw [hon, hlen, z_up_s]) (fun j hj => ?_) (fun j hj => by unfold onRow; rw [if_neg hj])) (fun i hi => by rw [z_up_n (by omega), z_up_n (by omega)]; exact hbig i hi)
    rw [hon] at hj ⊢
    rw [hlen] at hj
    rw [gd_insert hp, z_up_n (by omega), z_up]
    by_cases hm : j < k
    · rw [if_neg (by omega), if_pos hm]; exact hc1 j hm
    · by_cases hm2 : j = k
      · subst hm2; rw [if_pos rfl, if_neg hm, if_pos rfl]
      · rw [if_neg (by omega), if_neg hm, if_neg hm2]; exact hc2 j (by omega) (by omega)
  · refine m_row (m_row ?_)
    have em : (-1 : Int32) = -nI 1 := rfl
    rw [em, z_addn (by omega), l1, z_add, z_add, z_add, z_cl (show 204 + 7 * sc + 1 + k < 2147483648 by omega), z_cl (show 204 + 7 * sc + k < 2147483648 by omega)]
    refine ⟨(z_in (by omega)).mpr (by omega), (z_in (by omega)).mpr (by omega), ⟨k - 1, by omega, by omega, rfl, fun i hi hio => ?_, fun i hi => ?_, ?_, fun j hj => ?_, fun j h1 h2 => ?_⟩, by simp (disch := omega) only [z_cl]; omega⟩
    · rw [z_up_n (by omega)]; exact ho i hi hio
    · rw [z_up_n (by omega)]; exact hbig i hi
    · rw [z_up_n (by omega)]; exact hl
    · rw [z_up_n (by omega)]; exact hc1 j (by omega)
    · rw [z_up]
      by_cases hjk : j = k
      · subst hjk
        rw [if_pos rfl, show 204 + 7 * sc + j = 204 + 7 * sc + 1 + (j - 1) by omega]; exact hc1 (j - 1) (by omega)
      · rw [if_neg (by omega)]; exact hc2 j (by omega) h2
/-- one row over another -/
theorem m_copyRow {post : (Nat → Int32) → Prop} {a b : Nat} (hM : RM n num row st s) (hn : n ≤ 40) (h6 : ∀ k, (row k).length ≤ 6) (ha : a < 16) (hb : b < 16) (hab : a ≠ b) (h : ∀ s2, RM n num (fun k => if k = b then row a else row k) st s2 → (∀ i, 316 ≤ i → s2 i = s i) → post s2) : wp_X9_copyRow (nI a) (nI b) s post := by
  have hM4 := hM.2.2.2 a ha
  have h6a := h6 a
  unfold wp_X9_copyRow wp_X9_copyRow_l2
  refine lf2_i (fun x3 s2 => ∃ k, k ≤ 7 ∧ x3 = nI k ∧ outS b s s2 ∧ (∀ i, 316 ≤ i → s2 i = s i) ∧ ∀ j, j < k → s2 (204 + 7 * b + j) = s (204 + 7 * a + j)) (fun x3 _ => 7 - x3.toNatClampNeg) ⟨0, by omega, rfl, fun i _ _ => rfl, fun _ _ => rfl, fun j hj => absurd hj (Nat.not_lt_zero _)⟩ ?_
  rintro x3 s2 ⟨k, hk, rfl, ho, hbig, hcs⟩
  refine ⟨fun hx => ?_, fun hx => ?_⟩
  · have hk7 : k = 7 := by simp (disch := omega) only [l7, z_le] at hx; omega
    subst hk7
    refine h s2 (RM_row hM hn h6 hb ho ?_ (fun p hp => ?_) (fun j hj => by show (if j = b then row a else row j) = row j; rw [if_neg hj])) hbig
    · show _ = nI (if b = b then row a else row b).length
      rw [if_pos rfl, ← hM4.1]; exact hcs 0 (by omega)
    · have hp2 : p < (row a).length := by
        have : (if b = b then row a else row b) = row a := if_pos rfl
        rw [this] at hp; exact hp
      show _ = nI (gd (if b = b then row a else row b) p)
      rw [if_pos rfl, ← hM4.2 p hp2]
      rw [Nat.add_assoc (204 + 7 * b), Nat.add_assoc (204 + 7 * a)]
      exact hcs (1 + p) (by omega)
  · have hk7 : k < 7 := by simp (disch := omega) only [l7, z_le] at hx; omega
    refine m_row (m_row ?_)
    rw [z_add, z_add, z_cl (show 204 + 7 * a + k < 2147483648 by omega), z_cl (show 204 + 7 * b + k < 2147483648 by omega), l1, z_add]
    refine ⟨(z_in (by omega)).mpr (by omega), (z_in (by omega)).mpr (by omega), ⟨k + 1, by omega, rfl, fun i hi hio => ?_, fun i hi => ?_, fun j hj => ?_⟩, by simp (disch := omega) only [z_cl]; omega⟩
    · rw [z_up_n (by omega)]; exact ho i hi hio
    · rw [z_up_n (by omega)]; exact hbig i hi
    · rw [z_up]
      by_cases hjk : j = k
      · subst hjk
        rw [if_pos rfl]
        exact ho _ (by omega) (by omega)
      · rw [if_neg (by omega)]; exact hcs j (by omega)
theorem m_write {post : (Nat → Int32) → Prop} {a b c d e : Nat} (hM : RM n num row st s) (hn : n < 40) (h : ∀ s2, RM (n + 1) (num5 num n a b c d e) row st s2 → (∀ i, 316 ≤ i → s2 i = s i) → post s2) : wp_X9_write (nI a) (nI b) (nI c) (nI d) (nI e) s post := by
  have hs0 : s ((0 : Int32)).toNatClampNeg = nI n := hM.1
  unfold wp_X9_write
  rw [hs0]
  simp (disch := omega) only [l0, l1, l2, l3, l4, l5, z_mul, z_add, z_cl, z_in]
  refine ⟨by omega, by omega, by omega, by omega, by omega, ?_⟩
  have e0 : (upd (upd (upd (upd (upd s (4 + 5 * n + 0) (nI a)) (4 + 5 * n + 1) (nI b)) (4 + 5 * n + 2) (nI c)) (4 + 5 * n + 3) (nI d)) (4 + 5 * n + 4) (nI e)) 0 = nI n := by
    rw [z_up_n (by omega), z_up_n (by omega), z_up_n (by omega), z_up_n (by omega), z_up_n (by omega)]; exact hM.1
  rw [e0, z_add]
  have hout : ∀ i, i ≠ 0 → (i < 4 + 5 * n ∨ 4 + 5 * n + 5 ≤ i) → upd (upd (upd (upd (upd (upd s (4 + 5 * n + 0) (nI a)) (4 + 5 * n + 1) (nI b)) (4 + 5 * n + 2) (nI c)) (4 + 5 * n + 3) (nI d)) (4 + 5 * n + 4) (nI e)) 0 (nI (n + 1)) i = s i := by
    intro i h0 hi
    rw [z_up_n h0, z_up_n (by omega), z_up_n (by omega), z_up_n (by omega), z_up_n (by omega), z_up_n (by omega)]
  refine h _ ⟨z_up_s, fun i hi => ?_, fun k hk j hj => ?_, fun k hk => ⟨?_, fun p hp => ?_⟩⟩ (fun i hi => hout i (by omega) (by omega))
  · rw [hout _ (by omega) (by omega)]; exact hM.2.1 i hi
  · by_cases he : k = n
    · subst he
      rw [mkC_num5, z_up_n (by omega)]
      rcases (show j = 0 ∨ j = 1 ∨ j = 2 ∨ j = 3 ∨ j = 4 by omega) with rfl | rfl | rfl | rfl | rfl
      · rw [z_up_n (by omega), z_up_n (by omega), z_up_n (by omega), z_up_n (by omega), z_up_s]; rfl
      · rw [z_up_n (by omega), z_up_n (by omega), z_up_n (by omega), z_up_s]; rfl
      · rw [z_up_n (by omega), z_up_n (by omega), z_up_s]; rfl
      · rw [z_up_n (by omega), z_up_s]; rfl
      · rw [z_up_s]; rfl
    · rw [hout _ (by omega) (by omega)]
      unfold num5
      rw [if_neg he]; exact hM.2.2.1 k (by omega) j hj
  · rw [hout _ (by omega) (by omega)]; exact (hM.2.2.2 k hk).1
  · rw [hout _ (by omega) (by omega)]; exact (hM.2.2.2 k hk).2 p hp
end
