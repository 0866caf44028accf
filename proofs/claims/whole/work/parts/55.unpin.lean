/-! taking a card off -/
theorem sim_unpin : gSim_unpin simR := by
  intro y1 xv_kept xv_now_cards_size xv_now_cards_numbers xv_now_wall_slots xv_now_settings xv_snapshot_cards_size xv_snapshot_cards_numbers xv_snapshot_wall_slots xv_snapshot_settings xv_history_oldest xv_history_size xv_history_states_0_cards_size xv_history_states_0_cards_numbers xv_history_states_0_wall_slots xv_history_states_0_settings xv_history_states_1_cards_size xv_history_states_1_cards_numbers xv_history_states_1_wall_slots xv_history_states_1_settings xv_history_states_2_cards_size xv_history_states_2_cards_numbers xv_history_states_2_wall_slots xv_history_states_2_settings xv_history_states_3_cards_size xv_history_states_3_cards_numbers xv_history_states_3_wall_slots xv_history_states_3_settings xv_text_length xv_text_position xv_text_faulty xv_text_signs xv_text_cards_size xv_text_cards_numbers xv_trial_slots xv_reading_mostScenesWithout xv_reading_mostHoursWithout xv_reading_size xv_reading_cards_size xv_reading_cards_numbers xv_reading_names xv_reading_slots xv_reading_ahead xv_reading_straightAhead xv_reading_last xv_reading_lastStraight xv_straightRow_size xv_straightRow_ranks xv_straightRow_cards xv_straightRow_hours xv_straightRow_slots xv_straightRow_sorted xv_straightRow_longest xv_tensions_values xv_tensions_climbs mv_onWall mv_straightMany mv_length mv_states mv_isKept mv_at mv_cards mv_s mv_before mv_kept mv_aside mv_order mv_rank mv_straight mv_sorted mv_longest mv_read mv_text hsim
  obtain ⟨a, b, hist, h, len, T, hA, hC, hM, hK, hHc, hHm, hT1, hT2, hl1, hl2⟩ := hsim
  have same : simR xv_kept xv_now_cards_size xv_now_cards_numbers xv_now_wall_slots xv_now_settings xv_snapshot_cards_size xv_snapshot_cards_numbers xv_snapshot_wall_slots xv_snapshot_settings xv_history_oldest xv_history_size xv_history_states_0_cards_size xv_history_states_0_cards_numbers xv_history_states_0_wall_slots xv_history_states_0_settings xv_history_states_1_cards_size xv_history_states_1_cards_numbers xv_history_states_1_wall_slots xv_history_states_1_settings xv_history_states_2_cards_size xv_history_states_2_cards_numbers xv_history_states_2_wall_slots xv_history_states_2_settings xv_history_states_3_cards_size xv_history_states_3_cards_numbers xv_history_states_3_wall_slots xv_history_states_3_settings xv_text_length xv_text_position xv_text_faulty xv_text_signs xv_text_cards_size xv_text_cards_numbers xv_trial_slots xv_reading_mostScenesWithout xv_reading_mostHoursWithout xv_reading_size xv_reading_cards_size xv_reading_cards_numbers xv_reading_names xv_reading_slots xv_reading_ahead xv_reading_straightAhead xv_reading_last xv_reading_lastStraight xv_straightRow_size xv_straightRow_ranks xv_straightRow_cards xv_straightRow_hours xv_straightRow_slots xv_straightRow_sorted xv_straightRow_longest xv_tensions_values xv_tensions_climbs mv_onWall mv_straightMany mv_length mv_states mv_isKept mv_at mv_cards mv_s mv_before mv_kept mv_aside mv_order mv_rank mv_straight mv_sorted mv_longest mv_read mv_text := ⟨a, b, hist, h, len, T, hA, hC, hM, hK, hHc, hHm, hT1, hT2, hl1, hl2⟩
  obtain ⟨n, num, row, st⟩ := a
  have hN : numOk n num := hA.1
  have hO : rowOk n row := hA.2.1
  have hn : n ≤ 40 := hO.2.2.2
  have hS : setOk st := hA.2.2
  have hsz : xv_now_cards_size = nI n := hC.1.1
  unfold wp_X8_unpin
  rw [hsz] at hC same ⊢
  rcases z_cases y1 n (by omega) with c | c | ⟨j, hj, rfl⟩
  · refine s_has_no hn (Or.inl c) ⟨fun _ => ?_, fun c => absurd rfl c⟩
    unfold wp_X9_unpin
    exact m_isCardN hM hn (Or.inl c) ⟨fun _ => ⟨rfl, same⟩, fun c => absurd rfl c⟩
  · refine s_has_no hn (Or.inr c.2) ⟨fun _ => ?_, fun c => absurd rfl c⟩
    unfold wp_X9_unpin
    exact m_isCardN hM hn (Or.inr c) ⟨fun _ => ⟨rfl, same⟩, fun c => absurd rfl c⟩
  · refine s_has hn hj ⟨fun c => absurd c (by decide), fun _ => ?_⟩
    cases hs : slotO row j with
    | none =>
      refine s_slotOf_no hC.2.1 hO hj (slotO_none hs) ⟨fun _ => ?_, fun c => absurd rfl c⟩
      unfold wp_X9_unpin
      refine m_isCardY hM hn hj ⟨fun c => absurd c (by decide), fun _ => m_sceneOf hM hO hj ?_⟩
      rw [hs]
      exact ⟨fun _ => ⟨rfl, same⟩, fun c => absurd rfl c⟩
    | some t =>
      have hts := slotO_some hs
      have e5 : (-5 : Int32) = -nI 5 := rfl
      have ht6 : num j 0 < 6 := by have := (hN j hj).1; omega
      refine s_slotOf hC.2.1 hO hj hts.1 hts.2 (fun u hu hx => hO.2.2.1 j u t hu hts.1 hx hts.2) ?_
      refine ⟨fun q => absurd q (by rw [e5, z_en (by omega) (by omega) (by omega)]; exact id), fun _ => ?_⟩
      refine s_record hHc hA hC (fun old sz n0 f0 g0 t0 n1 f1 g1 t1 n2 f2 g2 t2 n3 f3 g3 t3 hH2 => ?_)
      refine s_takeOff hC.2.1 hO hO.2.2.1 hj hts.1 hts.2 (fun g' hg' => ?_)
      have hO2 : rowOk n (offRow row t) := off_ok hO hts.1
      refine s_number (k := 0) hC.1 hn hj (by omega) ?_
      refine s_breaksNow (t := some (num j 0)) hC.1 hN hC.2.2 hS hg' hO2 (fun u hu => by cases hu; exact ht6) (fun x y size csize cnum names slots ahead sAhead last lastS => ?_)
      unfold wp_X9_unpin
      refine m_isCardY hM hn hj ⟨fun c => absurd c (by decide), fun _ => m_sceneOf hM hO hj ?_⟩
      rw [hs]
      refine ⟨fun q => absurd q (by show ¬ nI (t / 6) = -5; rw [e5, z_en (by omega) (by omega) (by omega)]; exact id), fun _ => ?_⟩
      refine m_record hHm hA hM (fun states before hHm2 => ?_)
      refine m_takeOff hM hO hj hs (fun s2 hM2 _ => ?_)
      refine m_of (k := 0) hM2 hn hj (by omega) ?_
      refine m_breaksT (sc := none) hM2 hO2 hN ht6 (fun u hu => by cases hu) (fun w sm order rank straight => ?_)
      exact ⟨rfl, (n, num, offRow row t, st), b, _, _, len, T, ⟨hN, hO2, hS⟩, ⟨hC.1, hg', hC.2.2⟩, hM2, hK, hH2, hHm2, hT1, hT2, hl1, hl2⟩
