/-! what stands at a place -/
theorem s_isSceneY {post : Int32 → Prop} {k : Nat} (hk : k < 16) (h : post 1) : wp_X8_isScene (nI k) post := by
  unfold wp_X8_isScene
  exact ⟨fun q => absurd q (by rw [show (0 : Int32) = nI 0 from rfl, z_lt (by omega) (by omega)]; omega), fun _ => ⟨fun q => absurd q (by rw [l16, z_le (by omega) (by omega)]; omega), fun _ => h⟩⟩
theorem s_isSceneN {post : Int32 → Prop} {x : Int32} (hx : x < nI 0 ∨ (¬ x < nI 0 ∧ nI 15 < x)) (h : post 0) : wp_X8_isScene x post := by
  unfold wp_X8_isScene
  refine ⟨fun _ => h, fun q => ⟨fun _ => h, fun q2 => ?_⟩⟩
  rcases hx with c | c
  · exact absurd c q
  · refine absurd ?_ q2
    have c2 := c.2
    rw [Int32.lt_iff_toInt_lt, z_toInt (by omega)] at c2
    rw [l16, Int32.le_iff_toInt_le, z_toInt (by omega)]; omega
theorem s_cardInBig {post : Int32 → Prop} {g : Nat → Int32} {k : Nat} {x : Int32} (hk : k < 16) (hx : ¬ x < nI 0 ∧ nI 6 ≤ x) (h : post (-nI 5)) : wp_X7_cardIn (nI k) x g post := by
  unfold wp_X7_cardIn
  exact s_isSceneY hk ⟨fun c => absurd c (by decide), fun _ => ⟨fun c => absurd c hx.1, fun _ => ⟨fun _ => h, fun c => absurd hx.2 c⟩⟩⟩
theorem sim_at : gSim_at simR := by
  intro y1 y2 xv_kept xv_now_cards_size xv_now_cards_numbers xv_now_wall_slots xv_now_settings xv_snapshot_cards_size xv_snapshot_cards_numbers xv_snapshot_wall_slots xv_snapshot_settings xv_history_oldest xv_history_size xv_history_states_0_cards_size xv_history_states_0_cards_numbers xv_history_states_0_wall_slots xv_history_states_0_settings xv_history_states_1_cards_size xv_history_states_1_cards_numbers xv_history_states_1_wall_slots xv_history_states_1_settings xv_history_states_2_cards_size xv_history_states_2_cards_numbers xv_history_states_2_wall_slots xv_history_states_2_settings xv_history_states_3_cards_size xv_history_states_3_cards_numbers xv_history_states_3_wall_slots xv_history_states_3_settings xv_text_length xv_text_position xv_text_faulty xv_text_signs xv_text_cards_size xv_text_cards_numbers xv_trial_slots xv_reading_mostScenesWithout xv_reading_mostHoursWithout xv_reading_size xv_reading_cards_size xv_reading_cards_numbers xv_reading_names xv_reading_slots xv_reading_ahead xv_reading_straightAhead xv_reading_last xv_reading_lastStraight xv_straightRow_size xv_straightRow_ranks xv_straightRow_cards xv_straightRow_hours xv_straightRow_slots xv_straightRow_sorted xv_straightRow_longest xv_tensions_values xv_tensions_climbs mv_onWall mv_straightMany mv_length mv_states mv_isKept mv_at mv_cards mv_s mv_before mv_kept mv_aside mv_order mv_rank mv_straight mv_sorted mv_longest mv_read mv_text hsim
  obtain ⟨a, b, hist, h, len, T, hA, hC, hM, hK, hHc, hHm, hT1, hT2, hl1, hl2⟩ := hsim
  have same : simR xv_kept xv_now_cards_size xv_now_cards_numbers xv_now_wall_slots xv_now_settings xv_snapshot_cards_size xv_snapshot_cards_numbers xv_snapshot_wall_slots xv_snapshot_settings xv_history_oldest xv_history_size xv_history_states_0_cards_size xv_history_states_0_cards_numbers xv_history_states_0_wall_slots xv_history_states_0_settings xv_history_states_1_cards_size xv_history_states_1_cards_numbers xv_history_states_1_wall_slots xv_history_states_1_settings xv_history_states_2_cards_size xv_history_states_2_cards_numbers xv_history_states_2_wall_slots xv_history_states_2_settings xv_history_states_3_cards_size xv_history_states_3_cards_numbers xv_history_states_3_wall_slots xv_history_states_3_settings xv_text_length xv_text_position xv_text_faulty xv_text_signs xv_text_cards_size xv_text_cards_numbers xv_trial_slots xv_reading_mostScenesWithout xv_reading_mostHoursWithout xv_reading_size xv_reading_cards_size xv_reading_cards_numbers xv_reading_names xv_reading_slots xv_reading_ahead xv_reading_straightAhead xv_reading_last xv_reading_lastStraight xv_straightRow_size xv_straightRow_ranks xv_straightRow_cards xv_straightRow_hours xv_straightRow_slots xv_straightRow_sorted xv_straightRow_longest xv_tensions_values xv_tensions_climbs mv_onWall mv_straightMany mv_length mv_states mv_isKept mv_at mv_cards mv_s mv_before mv_kept mv_aside mv_order mv_rank mv_straight mv_sorted mv_longest mv_read mv_text := ⟨a, b, hist, h, len, T, hA, hC, hM, hK, hHc, hHm, hT1, hT2, hl1, hl2⟩
  obtain ⟨n, num, row, st⟩ := a
  have hO : rowOk n row := hA.2.1
  unfold wp_X8_at
  rcases rng (x := y1) (lo := 0) (hi := 15) (by omega) (by omega) with ⟨k, rfl, _, hk⟩ | hx
  · refine s_isSceneY (by omega) ⟨fun c => absurd c (by decide), fun _ => ?_⟩
    have hk16 : k < 16 := by omega
    have h6 := hO.1 k
    have hlen : mv_s (nI (204 + 7 * k)).toNatClampNeg = nI (row k).length := m_len hM hk16
    have mgo : ∀ (po : Int32 → Prop), (¬ (0 : Int32) ≤ y2 → po (-2)) → ((0 : Int32) ≤ y2 → nI (row k).length ≤ y2 → po (-5)) → (∀ p, p < (row k).length → y2 = nI p → po (nI (gd (row k) p))) → wp_X9_at (nI k) y2 mv_s po := by
      intro po p1 p2 p3
      unfold wp_X9_at
      refine m_inY (lo := 0) (hi := 15) (by omega) (by omega) hk ⟨fun c => absurd c (by decide), fun _ => ⟨fun q => m_row ⟨in_row hk16, ?_⟩, p1⟩⟩
      rw [hlen]
      refine ⟨fun q2 => p2 q q2, fun q2 => m_row ?_⟩
      rcases z_cases y2 (row k).length (by omega) with c | c | ⟨p, hp, rfl⟩
      · exfalso
        rw [Int32.lt_iff_toInt_lt, z_toInt (by omega)] at c
        rw [l0, Int32.le_iff_toInt_le, z_toInt (by omega)] at q
        omega
      · exact absurd c.2 q2
      · have hc := m_card hM hO hk16 hp
        rw [hc.2]
        exact ⟨hc.1, p3 p hp rfl⟩
    refine ⟨fun q => ?_, fun q => mgo _ (fun _ => ⟨rfl, same⟩) (fun c => absurd c q) (fun p hp e => absurd (by rw [e, l0, z_le (by omega) (by omega)]; omega) q)⟩
    rcases z_cases y2 6 (by omega) with c | c | ⟨p, hp, rfl⟩
    · exfalso
      rw [Int32.lt_iff_toInt_lt, z_toInt (by omega)] at c
      rw [l0, Int32.le_iff_toInt_le, z_toInt (by omega)] at q
      omega
    · refine s_cardInBig hk16 c ?_
      refine mgo _ (fun c2 => absurd q c2) (fun _ _ => ⟨rfl, same⟩) (fun p hp e => ?_)
      exfalso
      have c2 := c.2
      rw [e, z_le (by omega) (by omega)] at c2
      omega
    · refine s_cardIn hC.2.1 hk16 hp ?_
      by_cases hpl : p < (row k).length
      · rw [slotv_gd hpl]
        refine mgo _ (fun c2 => absurd q c2) (fun _ c2 => ?_) (fun p2 hp2 e => ?_)
        · rw [z_le (by omega) (by omega)] at c2; omega
        · rw [z_eq (by omega) (by omega)] at e
          subst e
          exact ⟨rfl, same⟩
      · rw [slotv_ge (show (row k).length ≤ p by omega)]
        refine mgo _ (fun c2 => absurd q c2) (fun _ _ => ⟨rfl, same⟩) (fun p2 hp2 e => ?_)
        rw [z_eq (by omega) (by omega)] at e
        omega
  · refine s_isSceneN hx ⟨fun _ => ?_, fun c => absurd rfl c⟩
    unfold wp_X9_at
    exact m_inN (lo := 0) (hi := 15) hx ⟨fun _ => ⟨rfl, same⟩, fun c => absurd rfl c⟩
