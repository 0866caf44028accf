/-! pinning a card -/
/-- the rows without a card -/
def rowW (row : Nat → List Nat) (c : Nat) : Nat → List Nat := match slotO row c with
  | none => row
  | some t => offRow row t
theorem rowW_none {row : Nat → List Nat} {c : Nat} (hs : slotO row c = none) : rowW row c = row := by unfold rowW; rw [hs]
theorem rowW_some {row : Nat → List Nat} {c t : Nat} (hs : slotO row c = some t) : rowW row c = offRow row t := by unfold rowW; rw [hs]
theorem s_slot {post : Int32 → Prop} {sc p : Nat} (h : post (nI (sc * 6 + p))) : wp_X8_slot (nI sc) (nI p) post := by
  unfold wp_X8_slot
  rw [l6, z_mul, z_add]; exact h
theorem rng_no {p m : Nat} (hp : p ≤ m) (hm : m < 1000) : ¬ (nI p < nI 0 ∨ (¬ nI p < nI 0 ∧ nI m < nI p)) := by
  rw [z_lt (by omega) (by omega), z_lt (by omega) (by omega)]; omega
section
variable {n : Nat} {num : Nat → Nat → Nat} {row : Nat → List Nat} {st : Nat → Nat} {s g : Nat → Int32} {c sc : Nat}
theorem rowW_ok (hO : rowOk n row) : rowOk n (rowW row c) := by
  cases hs : slotO row c with
  | none => rw [rowW_none hs]; exact hO
  | some t => rw [rowW_some hs]; exact off_ok hO (slotO_some hs).1
theorem rowW_no (hO : rowOk n row) : ∀ t, t < 96 → ¬ (rowW row c (t / 6))[t % 6]? = some c := by
  cases hs : slotO row c with
  | none => rw [rowW_none hs]; exact slotO_none hs
  | some t => rw [rowW_some hs]; exact off_no hO (slotO_some hs).1 (slotO_some hs).2
theorem off_len {t : Nat} (ht : (row (t / 6))[t % 6]? = some c) : (offRow row t sc).length = if t / 6 = sc then (row sc).length - 1 else (row sc).length := by
  unfold offRow
  by_cases he : t / 6 = sc
  · subst he
    rw [if_pos rfl, if_pos rfl]
    exact List.length_eraseIdx_of_lt (List.getElem?_eq_some_iff.mp ht).1
  · rw [if_neg (fun e => he e.symm), if_neg he]
theorem s_takeOffW {post : (Nat → Int32) → Prop} (hW : RW row g) (hO : rowOk n row) (hc : c < n) (h : ∀ g', RW (rowW row c) g' → post g') : wp_X7_takeOff (nI c) g post := by
  cases hs : slotO row c with
  | none =>
    rw [rowW_none hs] at h
    exact s_takeOff_no hW hO hc (slotO_none hs) (h g hW)
  | some t =>
    rw [rowW_some hs] at h
    exact s_takeOff hW hO hO.2.2.1 hc (slotO_some hs).1 (slotO_some hs).2 h
theorem m_takeOffW {post : (Nat → Int32) → Prop} (hM : RM n num row st s) (hO : rowOk n row) (hc : c < n) (h : ∀ s2, RM n num (rowW row c) st s2 → (∀ i, 316 ≤ i → s2 i = s i) → post s2) : wp_X9_takeOff (nI c) s post := by
  cases hs : slotO row c with
  | none =>
    rw [rowW_none hs] at h
    exact m_takeOff_no hM hO hc hs (h s hM (fun _ _ => rfl))
  | some t =>
    rw [rowW_some hs] at h
    exact m_takeOff hM hO hc hs h
theorem s_pinFaultN1 {x y z : Int32} {post : Int32 → Prop} (hn : n ≤ 40) (hx : x < nI 0 ∨ (¬ x < nI 0 ∧ nI n ≤ x)) (h : post (-1)) : wp_X8_pinFault x y z (nI n) g post := by
  unfold wp_X8_pinFault
  rcases hx with q | q
  · exact s_has_no hn (Or.inl q) ⟨fun _ => h, fun c => absurd rfl c⟩
  · exact s_has_no hn (Or.inr q.2) ⟨fun _ => h, fun c => absurd rfl c⟩
theorem s_pinFaultN2 {y z : Int32} {post : Int32 → Prop} (hn : n ≤ 40) (hc : c < n) (hx : y < nI 0 ∨ (¬ y < nI 0 ∧ nI 15 < y)) (h : post (-1)) : wp_X8_pinFault (nI c) y z (nI n) g post := by
  unfold wp_X8_pinFault
  exact s_has hn hc ⟨fun c => absurd c (by decide), fun _ => s_isSceneN hx ⟨fun _ => h, fun c => absurd rfl c⟩⟩
theorem m_errorN1 {x y z : Int32} {post : Int32 → Prop} (hM : RM n num row st s) (hn : n ≤ 40) (hx : x < nI 0 ∨ (¬ x < nI 0 ∧ nI n ≤ x)) (h : post (-1)) : wp_X9_errorOf x y z s post := by
  unfold wp_X9_errorOf
  exact m_isCardN hM hn hx ⟨fun _ => h, fun c => absurd rfl c⟩
theorem m_errorN2 {y z : Int32} {post : Int32 → Prop} (hM : RM n num row st s) (hn : n ≤ 40) (hc : c < n) (hx : y < nI 0 ∨ (¬ y < nI 0 ∧ nI 15 < y)) (h : post (-1)) : wp_X9_errorOf (nI c) y z s post := by
  unfold wp_X9_errorOf
  exact m_isCardY hM hn hc ⟨fun c => absurd c (by decide), fun _ => m_inN (lo := 0) (hi := 15) hx ⟨fun _ => h, fun c => absurd rfl c⟩⟩
theorem s_pinFault {x3 : Int32} {post : Int32 → Prop} (hW : RW row g) (hO : rowOk n row) (hc : c < n) (hsc : sc < 16) (h3 : 6 ≤ (rowW row c sc).length → post (-3)) (h2 : (rowW row c sc).length ≤ 5 → (x3 < nI 0 ∨ (¬ x3 < nI 0 ∧ nI (rowW row c sc).length < x3)) → post (-2)) (h0 : (rowW row c sc).length ≤ 5 → ∀ p, p ≤ (rowW row c sc).length → x3 = nI p → post 0) : wp_X8_pinFault (nI c) (nI sc) x3 (nI n) g post := by
  have hn := hO.2.2.2
  have h6 := hO.1 sc
  have hw6 := (rowW_ok (c := c) hO).1 sc
  have fin : ∀ m, m = (rowW row c sc).length → wp_X8_pinFault_j54 x3 (nI m) (nI n) g post := by
    intro m hm
    rw [← hm] at h3 h2 h0 hw6
    unfold wp_X8_pinFault_j54
    rw [l6, z_lt (by omega) (by omega)]
    refine ⟨fun q => ?_, fun q => h3 (by omega)⟩
    rcases rng (x := x3) (lo := 0) (hi := m) (by omega) (by omega) with ⟨p, rfl, _, hp⟩ | hx
    · exact ⟨fun c => absurd c (by rw [l0, z_lt (by omega) (by omega)]; omega), fun _ => ⟨fun _ => h0 (by omega) p hp rfl, fun c => absurd (by rw [z_le (by omega) (by omega)]; exact hp) c⟩⟩
    · refine ⟨fun _ => h2 (by omega) hx, fun q1 => ⟨fun q2 => ?_, fun _ => h2 (by omega) hx⟩⟩
      rcases hx with c | c
      · exact absurd c q1
      · exfalso
        have c2 := c.2
        rw [Int32.lt_iff_toInt_lt] at c2
        rw [Int32.le_iff_toInt_le] at q2
        omega
  have fin2 : ∀ m, m = (rowW row c sc).length → ∀ x, x = nI m → wp_X8_pinFault_j54 x3 x (nI n) g post := by
    rintro m hm x rfl
    exact fin m hm
  unfold wp_X8_pinFault
  refine s_has hn hc ⟨fun c => absurd c (by decide), fun _ => s_isSceneY hsc ⟨fun c => absurd c (by decide), fun _ => s_sizeOf hW hO hsc ?_⟩⟩
  cases hs : slotO row c with
  | none =>
    exact s_isIn_no hW hO hc (slotO_none hs) ⟨fun _ => fin _ (by rw [rowW_none hs]), fun c => absurd rfl c⟩
  | some t =>
    have hts := slotO_some hs
    have hol := off_len (sc := sc) hts.2
    rw [← rowW_some hs] at hol
    refine s_isIn hW hO hO.2.2.1 hc hts.1 hsc hts.2 ?_
    by_cases he : t / 6 = sc
    · rw [if_pos he] at hol ⊢
      have hpl := (List.getElem?_eq_some_iff.mp hts.2).1
      rw [he] at hpl
      refine ⟨fun c => absurd c (by decide), fun _ => fin2 _ hol.symm _ ?_⟩
      rw [show (-1 : Int32) = -nI 1 from rfl, z_addn (by omega)]
    · rw [if_neg he] at hol ⊢
      exact ⟨fun _ => fin _ hol.symm, fun c => absurd rfl c⟩
theorem m_errorOf {x3 : Int32} {post : Int32 → Prop} (hM : RM n num row st s) (hO : rowOk n row) (hc : c < n) (hsc : sc < 16) (h3 : 6 ≤ (rowW row c sc).length → post (-3)) (h2 : (rowW row c sc).length ≤ 5 → (x3 < nI 0 ∨ (¬ x3 < nI 0 ∧ nI (rowW row c sc).length < x3)) → post (-2)) (h0 : (rowW row c sc).length ≤ 5 → ∀ p, p ≤ (rowW row c sc).length → x3 = nI p → post 0) : wp_X9_errorOf (nI c) (nI sc) x3 s post := by
  have hn := hO.2.2.2
  have h6 := hO.1 sc
  have hw6 := (rowW_ok (c := c) hO).1 sc
  have fin : ∀ m, m = (rowW row c sc).length → ∀ x y, y - x = nI m → wp_X9_errorOf_j43 x3 x y s post := by
    intro m hm x y hxy
    rw [← hm] at h3 h2 h0 hw6
    unfold wp_X9_errorOf_j43
    rw [hxy, l6, z_eq (by omega) (by omega)]
    refine ⟨fun q => h3 (by omega), fun q => ?_⟩
    rcases rng (x := x3) (lo := 0) (hi := m) (by omega) (by omega) with ⟨p, rfl, _, hp⟩ | hx
    · exact m_inY (lo := 0) (hi := m) (by omega) (by omega) hp ⟨fun c => absurd c (by decide), fun _ => h0 (by omega) p hp rfl⟩
    · exact m_inN (lo := 0) (hi := m) hx ⟨fun _ => h2 (by omega) hx, fun c => absurd rfl c⟩
  unfold wp_X9_errorOf
  refine m_isCardY hM hn hc ⟨fun c => absurd c (by decide), fun _ => m_inY (lo := 0) (hi := 15) (by omega) (by omega) (by omega) ⟨fun c => absurd c (by decide), fun _ => m_row ⟨in_row hsc, ?_⟩⟩⟩
  refine m_sceneOf hM hO hc ?_
  rw [m_len hM hsc]
  have e5 : (-5 : Int32) = -nI 5 := rfl
  have e0 : ∀ m, nI m - (0 : Int32) = nI m := fun m => by rw [l0, z_sub (Nat.zero_le _)]; rfl
  cases hs : slotO row c with
  | none =>
    refine ⟨fun q => absurd q (by show ¬ -nI 5 = nI sc; rw [z_ne (by omega) (by omega) (by omega)]; exact id), fun _ => fin _ rfl _ _ ?_⟩
    rw [rowW_none hs]; exact e0 _
  | some t =>
    have hts := slotO_some hs
    have hol := off_len (sc := sc) hts.2
    rw [← rowW_some hs] at hol
    have e6 : (optI (Option.map (· / 6) (some t)) = nI sc) ↔ t / 6 = sc := by
      show (nI (t / 6) = nI sc) ↔ _
      exact z_eq (by omega) (by omega)
    rw [e6]
    refine ⟨fun he => ?_, fun he => ?_⟩
    · rw [if_pos he] at hol
      have hpl := (List.getElem?_eq_some_iff.mp hts.2).1
      rw [he] at hpl
      exact fin _ hol.symm _ _ (by rw [l1, z_sub (by omega)])
    · rw [if_neg he] at hol
      exact fin _ hol.symm _ _ (e0 _)
end
theorem sim_pin : gSim_pin simR := by
  intro y1 y2 y3 xv_kept xv_now_cards_size xv_now_cards_numbers xv_now_wall_slots xv_now_settings xv_snapshot_cards_size xv_snapshot_cards_numbers xv_snapshot_wall_slots xv_snapshot_settings xv_history_oldest xv_history_size xv_history_states_0_cards_size xv_history_states_0_cards_numbers xv_history_states_0_wall_slots xv_history_states_0_settings xv_history_states_1_cards_size xv_history_states_1_cards_numbers xv_history_states_1_wall_slots xv_history_states_1_settings xv_history_states_2_cards_size xv_history_states_2_cards_numbers xv_history_states_2_wall_slots xv_history_states_2_settings xv_history_states_3_cards_size xv_history_states_3_cards_numbers xv_history_states_3_wall_slots xv_history_states_3_settings xv_text_length xv_text_position xv_text_faulty xv_text_signs xv_text_cards_size xv_text_cards_numbers xv_trial_slots xv_reading_mostScenesWithout xv_reading_mostHoursWithout xv_reading_size xv_reading_cards_size xv_reading_cards_numbers xv_reading_names xv_reading_slots xv_reading_ahead xv_reading_straightAhead xv_reading_last xv_reading_lastStraight xv_straightRow_size xv_straightRow_ranks xv_straightRow_cards xv_straightRow_hours xv_straightRow_slots xv_straightRow_sorted xv_straightRow_longest xv_tensions_values xv_tensions_climbs mv_onWall mv_straightMany mv_length mv_states mv_isKept mv_at mv_cards mv_s mv_before mv_kept mv_aside mv_order mv_rank mv_straight mv_sorted mv_longest mv_read mv_text hsim
  obtain ⟨a, b, hist, h, len, T, hA, hC, hM, hK, hHc, hHm, hT1, hT2, hl1, hl2⟩ := hsim
  have same : simR xv_kept xv_now_cards_size xv_now_cards_numbers xv_now_wall_slots xv_now_settings xv_snapshot_cards_size xv_snapshot_cards_numbers xv_snapshot_wall_slots xv_snapshot_settings xv_history_oldest xv_history_size xv_history_states_0_cards_size xv_history_states_0_cards_numbers xv_history_states_0_wall_slots xv_history_states_0_settings xv_history_states_1_cards_size xv_history_states_1_cards_numbers xv_history_states_1_wall_slots xv_history_states_1_settings xv_history_states_2_cards_size xv_history_states_2_cards_numbers xv_history_states_2_wall_slots xv_history_states_2_settings xv_history_states_3_cards_size xv_history_states_3_cards_numbers xv_history_states_3_wall_slots xv_history_states_3_settings xv_text_length xv_text_position xv_text_faulty xv_text_signs xv_text_cards_size xv_text_cards_numbers xv_trial_slots xv_reading_mostScenesWithout xv_reading_mostHoursWithout xv_reading_size xv_reading_cards_size xv_reading_cards_numbers xv_reading_names xv_reading_slots xv_reading_ahead xv_reading_straightAhead xv_reading_last xv_reading_lastStraight xv_straightRow_size xv_straightRow_ranks xv_straightRow_cards xv_straightRow_hours xv_straightRow_slots xv_straightRow_sorted xv_straightRow_longest xv_tensions_values xv_tensions_climbs mv_onWall mv_straightMany mv_length mv_states mv_isKept mv_at mv_cards mv_s mv_before mv_kept mv_aside mv_order mv_rank mv_straight mv_sorted mv_longest mv_read mv_text := ⟨a, b, hist, h, len, T, hA, hC, hM, hK, hHc, hHm, hT1, hT2, hl1, hl2⟩
  obtain ⟨n, num, row, st⟩ := a
  have hN : numOk n num := hA.1
  have hO : rowOk n row := hA.2.1
  have hn : n ≤ 40 := hO.2.2.2
  have hS : setOk st := hA.2.2
  replace hM : RM n num row st mv_s := hM
  replace hC : RCd n num xv_now_cards_size xv_now_cards_numbers ∧ RW row xv_now_wall_slots ∧ RS st xv_now_settings := hC
  have hsz : xv_now_cards_size = nI n := hC.1.1
  unfold wp_X8_pin
  rw [hsz] at hC same ⊢
  have bad1 : ∀ x : Int32, y1 = x → (x < nI 0 ∨ (¬ x < nI 0 ∧ nI n ≤ x)) → ∀ po : Int32 → Int32 → Int32 → Int32 → (Nat → Int32) → (Nat → Int32) → (Nat → Int32) → (Nat → Int32) → (Nat → Int32) → Prop, po (-1) mv_onWall mv_straightMany mv_states mv_s mv_before mv_order mv_rank mv_straight → wp_X9_pin x y2 y3 mv_onWall mv_straightMany mv_states mv_s mv_before mv_order mv_rank mv_straight po := by
    intro x _ hx po hp
    unfold wp_X9_pin
    exact m_errorN1 hM hn hx ⟨fun c => absurd c (by decide), fun _ => hp⟩
  rcases z_cases y1 n (by omega) with c | c | ⟨i, hi, rfl⟩
  · exact s_pinFaultN1 hn (Or.inl c) ⟨fun c => absurd c (by decide), fun _ => bad1 _ rfl (Or.inl c) _ ⟨rfl, same⟩⟩
  · exact s_pinFaultN1 hn (Or.inr c) ⟨fun c => absurd c (by decide), fun _ => bad1 _ rfl (Or.inr c) _ ⟨rfl, same⟩⟩
  · clear bad1
    rcases rng (x := y2) (lo := 0) (hi := 15) (by omega) (by omega) with ⟨k, rfl, _, hk⟩ | hx
    · have hk16 : k < 16 := by omega
      have ht6 : num i 0 < 6 := by have := (hN i hi).1; omega
      have hOW : rowOk n (rowW row i) := rowW_ok hO
      refine s_pinFault (row := row) hC.2.1 hO hi hk16 (fun q3 => ?_) (fun q5 qx => ?_) (fun q5 p hp e => ?_)
      · refine ⟨fun c => absurd c (by decide), fun _ => ?_⟩
        unfold wp_X9_pin
        exact m_errorOf hM hO hi hk16 (fun _ => ⟨fun c => absurd c (by decide), fun _ => ⟨rfl, same⟩⟩) (fun c _ => absurd q3 (by omega)) (fun c _ _ _ => absurd q3 (by omega))
      · refine ⟨fun c => absurd c (by decide), fun _ => ?_⟩
        unfold wp_X9_pin
        exact m_errorOf hM hO hi hk16 (fun c => absurd q5 (by omega)) (fun _ _ => ⟨fun c => absurd c (by decide), fun _ => ⟨rfl, same⟩⟩) (fun _ p hp e => by rw [e] at qx; exact absurd qx (rng_no hp (by omega)))
      · subst e
        have hO2 : rowOk n (onRow (rowW row i) k p i) := on_ok hOW hk16 hp q5 hi (rowW_no hO)
        refine ⟨fun _ => ?_, fun c => absurd rfl c⟩
        have e5 : (-5 : Int32) = -nI 5 := rfl
        cases hs : slotO row i with
        | none =>
          refine s_slotOf_no hC.2.1 hO hi (slotO_none hs) (s_slot ⟨fun c => absurd c (by rw [z_ne (by omega) (by omega) (by omega)]; exact id), fun _ => ?_⟩)
          refine s_record hHc hA hC (fun old sz n0 f0 g0 t0 n1 f1 g1 t1 n2 f2 g2 t2 n3 f3 g3 t3 hH2 => ?_)
          refine s_takeOffW (row := row) hC.2.1 hO hi (fun g1 hg1 => ?_)
          refine s_putIn hg1 hOW hk16 hp q5 (fun g' hg' => ?_)
          refine s_number (n := n) (num := num) (k := 0) hC.1 hn hi (by omega) ?_
          refine s_breaksNow (t := some (num i 0)) hC.1 hN hC.2.2 hS hg' hO2 (fun u hu => by cases hu; exact ht6) (fun x y size csize cnum names slots ahead sAhead last lastS => ?_)
          unfold wp_X9_pin
          refine m_errorOf hM hO hi hk16 (fun c => absurd q5 (by omega)) (fun _ c => absurd c (rng_no hp (by omega))) (fun _ p2 hp2 e => ?_)
          refine ⟨fun _ => m_sceneOf hM hO hi ?_, fun c => absurd rfl c⟩
          rw [hs]
          refine ⟨fun q => absurd q (by show ¬ -nI 5 = nI k; rw [z_ne (by omega) (by omega) (by omega)]; exact id), fun _ => ?_⟩
          unfold wp_X9_pin_j38
          refine m_record hHm hA hM (fun states before hHm2 => ?_)
          refine m_takeOffW hM hO hi (fun s1 hM1 _ => ?_)
          refine m_putAt hM1 hn hOW.1 hk16 hp q5 (fun s2 hM2 _ => ?_)
          refine m_of (k := 0) hM2 hn hi (by omega) ?_
          refine m_breaksT (sc := none) hM2 hO2 hN ht6 (fun u hu => by cases hu) (fun w sm order rank straight => ?_)
          exact ⟨rfl, (n, num, onRow (rowW row i) k p i, st), b, _, _, len, T, ⟨hN, hO2, hS⟩, ⟨hC.1, hg', hC.2.2⟩, hM2, hK, hH2, hHm2, hT1, hT2, hl1, hl2⟩
        | some t =>
          have hts := slotO_some hs
          refine s_slotOf hC.2.1 hO hi hts.1 hts.2 (fun v hv hx => hO.2.2.1 i v t hv hts.1 hx hts.2) (s_slot ?_)
          rw [z_eq (by omega) (by omega)]
          have e6 : (optI (Option.map (· / 6) (some t)) = nI k) ↔ t / 6 = k := by
            show (nI (t / 6) = nI k) ↔ _
            exact z_eq (by omega) (by omega)
          have e7 : (optI (Option.map (· % 6) (some t)) = nI p) ↔ t % 6 = p := by
            show (nI (t % 6) = nI p) ↔ _
            exact z_eq (by omega) (by omega)
          refine ⟨fun q => ?_, fun q => ?_⟩
          · unfold wp_X9_pin
            refine m_errorOf hM hO hi hk16 (fun c => absurd q5 (by omega)) (fun _ c => absurd c (rng_no hp (by omega))) (fun _ p2 hp2 e => ?_)
            refine ⟨fun _ => m_sceneOf hM hO hi ?_, fun c => absurd rfl c⟩
            rw [hs, e6]
            refine ⟨fun _ => m_placeOf hM hO hi ?_, fun c => absurd (by omega) c⟩
            rw [hs, e7]
            exact ⟨fun _ => ⟨rfl, same⟩, fun c => absurd (by omega) c⟩
          · refine s_record hHc hA hC (fun old sz n0 f0 g0 t0 n1 f1 g1 t1 n2 f2 g2 t2 n3 f3 g3 t3 hH2 => ?_)
            refine s_takeOffW (row := row) hC.2.1 hO hi (fun g1 hg1 => ?_)
            refine s_putIn hg1 hOW hk16 hp q5 (fun g' hg' => ?_)
            refine s_number (n := n) (num := num) (k := 0) hC.1 hn hi (by omega) ?_
            refine s_breaksNow (t := some (num i 0)) hC.1 hN hC.2.2 hS hg' hO2 (fun u hu => by cases hu; exact ht6) (fun x y size csize cnum names slots ahead sAhead last lastS => ?_)
            unfold wp_X9_pin
            refine m_errorOf hM hO hi hk16 (fun c => absurd q5 (by omega)) (fun _ c => absurd c (rng_no hp (by omega))) (fun _ p2 hp2 e => ?_)
            refine ⟨fun _ => m_sceneOf hM hO hi ?_, fun c => absurd rfl c⟩
            rw [hs]
            rw [e6]
            refine ⟨fun q2 => m_placeOf hM hO hi ?_, fun _ => ?_⟩
            · rw [hs, e7]
              refine ⟨fun c => absurd (by omega) q, fun _ => ?_⟩
              unfold wp_X9_pin_j38
              refine m_record hHm hA hM (fun states before hHm2 => ?_)
              refine m_takeOffW hM hO hi (fun s1 hM1 _ => ?_)
              refine m_putAt hM1 hn hOW.1 hk16 hp q5 (fun s2 hM2 _ => ?_)
              refine m_of (k := 0) hM2 hn hi (by omega) ?_
              refine m_breaksT (sc := none) hM2 hO2 hN ht6 (fun u hu => by cases hu) (fun w sm order rank straight => ?_)
              exact ⟨rfl, (n, num, onRow (rowW row i) k p i, st), b, _, _, len, T, ⟨hN, hO2, hS⟩, ⟨hC.1, hg', hC.2.2⟩, hM2, hK, hH2, hHm2, hT1, hT2, hl1, hl2⟩
            · unfold wp_X9_pin_j38
              refine m_record hHm hA hM (fun states before hHm2 => ?_)
              refine m_takeOffW hM hO hi (fun s1 hM1 _ => ?_)
              refine m_putAt hM1 hn hOW.1 hk16 hp q5 (fun s2 hM2 _ => ?_)
              refine m_of (k := 0) hM2 hn hi (by omega) ?_
              refine m_breaksT (sc := none) hM2 hO2 hN ht6 (fun u hu => by cases hu) (fun w sm order rank straight => ?_)
              exact ⟨rfl, (n, num, onRow (rowW row i) k p i, st), b, _, _, len, T, ⟨hN, hO2, hS⟩, ⟨hC.1, hg', hC.2.2⟩, hM2, hK, hH2, hHm2, hT1, hT2, hl1, hl2⟩
    · refine s_pinFaultN2 hn hi hx ⟨fun c => absurd c (by decide), fun _ => ?_⟩
      unfold wp_X9_pin
      exact m_errorN2 hM hn hi hx ⟨fun c => absurd c (by decide), fun _ => ⟨rfl, same⟩⟩
