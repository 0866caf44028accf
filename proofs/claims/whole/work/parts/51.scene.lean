/-! what a scene tells -/
theorem sim_scene : gSim_scene simR := by
  intro y1 y2 xv_kept xv_now_cards_size xv_now_cards_numbers xv_now_wall_slots xv_now_settings xv_snapshot_cards_size xv_snapshot_cards_numbers xv_snapshot_wall_slots xv_snapshot_settings xv_history_oldest xv_history_size xv_history_states_0_cards_size xv_history_states_0_cards_numbers xv_history_states_0_wall_slots xv_history_states_0_settings xv_history_states_1_cards_size xv_history_states_1_cards_numbers xv_history_states_1_wall_slots xv_history_states_1_settings xv_history_states_2_cards_size xv_history_states_2_cards_numbers xv_history_states_2_wall_slots xv_history_states_2_settings xv_history_states_3_cards_size xv_history_states_3_cards_numbers xv_history_states_3_wall_slots xv_history_states_3_settings xv_text_length xv_text_position xv_text_faulty xv_text_signs xv_text_cards_size xv_text_cards_numbers xv_trial_slots xv_reading_mostScenesWithout xv_reading_mostHoursWithout xv_reading_size xv_reading_cards_size xv_reading_cards_numbers xv_reading_names xv_reading_slots xv_reading_ahead xv_reading_straightAhead xv_reading_last xv_reading_lastStraight xv_straightRow_size xv_straightRow_ranks xv_straightRow_cards xv_straightRow_hours xv_straightRow_slots xv_straightRow_sorted xv_straightRow_longest xv_tensions_values xv_tensions_climbs mv_onWall mv_straightMany mv_length mv_states mv_isKept mv_at mv_cards mv_s mv_before mv_kept mv_aside mv_order mv_rank mv_straight mv_sorted mv_longest mv_read mv_text hsim
  obtain ⟨a, b, hist, h, len, T, hA, hC, hM, hK, hHc, hHm, hT1, hT2, hl1, hl2⟩ := hsim
  obtain ⟨n, num, row, st⟩ := a
  have hN : numOk n num := hA.1
  have hO : rowOk n row := hA.2.1
  have hS : setOk st := hA.2.2
  unfold wp_X8_scene
  rcases rng (x := y1) (lo := 0) (hi := 15) (by omega) (by omega) with ⟨k, rfl, _, hk⟩ | hx
  · have hk16 : k < 16 := by omega
    refine s_isSceneY hk16 ⟨fun c => absurd c (by decide), fun _ => ?_⟩
    refine s_read3 hC.1 hN hC.2.2 hC.2.1 hO (fun size csize cnum names slots ahead sAhead last lastS hRR => ?_)
    refine s_measure hC.1 hN hC.2.1 hO hC.2.2 hS.2.2.2 (fun va cl hRT => ?_)
    have hD : RRd n num (pre row 96) := RRd_pre hO hN
    have hw := tally_words (num := num) (st := st) hO hk16
    have hth := thr_all (num := num) hO hk16
    have hlen : mv_s (nI (204 + 7 * k)).toNatClampNeg = nI (row k).length := m_len hM hk16
    have mbr := fun sm w order rank straight post hp => @m_breaksIn n num row st mv_s w sm order rank straight k post hM hO hN hk16 hp
    generalize pre row 96 = L at hRR hD hw hth mbr
    refine ⟨fun e => ?_, fun e => ?_, fun e => ?_, fun e => ?_, fun e => ?_, fun e => ?_, fun e => ?_, fun e0 e1 e2 e3 e4 e5 e6 => ?_⟩
    · subst e
      refine s_sizeOf hC.2.1 hO hk16 ?_
      unfold wp_X9_scene
      refine m_inY (lo := 0) (hi := 15) (by omega) (by omega) hk ⟨fun c => absurd c (by decide), fun _ => ⟨fun _ => ?_, fun q => absurd q (by decide), fun q => absurd q (by decide), fun q => absurd q (by decide), fun q => absurd q (by decide), fun q => absurd q (by decide), fun q => absurd q (by decide), fun q0 q1 q2 q3 q4 q5 q6 => absurd rfl q0⟩⟩
      refine m_row ⟨in_row hk16, ?_⟩
      rw [hlen]
      exact ⟨rfl, (n, num, row, st), b, hist, h, len, T, hA, hC, hM, hK, hHc, hHm, hT1, hT2, hl1, hl2⟩
    · subst e
      refine s_tally (w := 2) (t := none) (sc := some k) hD hRR hS (Or.inl rfl) (fun u hu => by cases hu) (fun u hu => by cases hu; exact hk16) ?_
      rw [hw]
      unfold wp_X9_scene
      refine m_inY (lo := 0) (hi := 15) (by omega) (by omega) hk ⟨fun c => absurd c (by decide), fun _ => ⟨fun q => absurd q (by decide), fun _ => ?_, fun q => absurd q (by decide), fun q => absurd q (by decide), fun q => absurd q (by decide), fun q => absurd q (by decide), fun q => absurd q (by decide), fun q0 q1 q2 q3 q4 q5 q6 => absurd rfl q1⟩⟩
      exact m_wordsIn hM hO hN hk16 ⟨rfl, (n, num, row, st), b, hist, h, len, T, hA, hC, hM, hK, hHc, hHm, hT1, hT2, hl1, hl2⟩
    · subst e
      refine s_threadsIn hD hRR hk16 ?_
      rw [hth]
      unfold wp_X9_scene
      refine m_inY (lo := 0) (hi := 15) (by omega) (by omega) hk ⟨fun c => absurd c (by decide), fun _ => ⟨fun q => absurd q (by decide), fun q => absurd q (by decide), fun _ => ?_, fun q => absurd q (by decide), fun q => absurd q (by decide), fun q => absurd q (by decide), fun q => absurd q (by decide), fun q0 q1 q2 q3 q4 q5 q6 => absurd rfl q2⟩⟩
      exact m_threadsIn hM hO hk16 ⟨rfl, (n, num, row, st), b, hist, h, len, T, hA, hC, hM, hK, hHc, hHm, hT1, hT2, hl1, hl2⟩
    · subst e
      refine s_isHole (row := row) hC.2.1 hO hk16 ?_
      rw [show (if holeS row k = true then nI 1 else nI 0) = bI (holeS row k) from rfl]
      rw [bI_0]
      refine ⟨fun q => ?_, fun q => ?_⟩
      · unfold wp_X9_scene
        refine m_inY (lo := 0) (hi := 15) (by omega) (by omega) hk ⟨fun c => absurd c (by decide), fun _ => ⟨fun q => absurd q (by decide), fun q => absurd q (by decide), fun q => absurd q (by decide), fun _ => ?_, fun q => absurd q (by decide), fun q => absurd q (by decide), fun q => absurd q (by decide), fun q0 q1 q2 q3 q4 q5 q6 => absurd rfl q3⟩⟩
        refine m_isHole hM hO hk16 ?_
        rw [bI_0]
        exact ⟨fun _ => ⟨rfl, (n, num, row, st), b, hist, h, len, T, hA, hC, hM, hK, hHc, hHm, hT1, hT2, hl1, hl2⟩, fun c => absurd q c⟩
      · unfold wp_X9_scene
        refine m_inY (lo := 0) (hi := 15) (by omega) (by omega) hk ⟨fun c => absurd c (by decide), fun _ => ⟨fun q => absurd q (by decide), fun q => absurd q (by decide), fun q => absurd q (by decide), fun _ => ?_, fun q => absurd q (by decide), fun q => absurd q (by decide), fun q => absurd q (by decide), fun q0 q1 q2 q3 q4 q5 q6 => absurd rfl q3⟩⟩
        refine m_isHole hM hO hk16 ?_
        rw [bI_0]
        exact ⟨fun c => absurd c q, fun _ => ⟨rfl, (n, num, row, st), b, hist, h, len, T, hA, hC, hM, hK, hHc, hHm, hT1, hT2, hl1, hl2⟩⟩
    · subst e
      refine s_rises hRT hk16 ?_
      rw [bI_0]
      refine ⟨fun q => ?_, fun q => ?_⟩
      · unfold wp_X9_scene
        refine m_inY (lo := 0) (hi := 15) (by omega) (by omega) hk ⟨fun c => absurd c (by decide), fun _ => ⟨fun q => absurd q (by decide), fun q => absurd q (by decide), fun q => absurd q (by decide), fun q => absurd q (by decide), fun _ => ?_, fun q => absurd q (by decide), fun q => absurd q (by decide), fun q0 q1 q2 q3 q4 q5 q6 => absurd rfl q4⟩⟩
        refine m_isRising hM hO hN hk16 ?_
        rw [bI_0]
        exact ⟨fun _ => ⟨rfl, (n, num, row, st), b, hist, h, len, T, hA, hC, hM, hK, hHc, hHm, hT1, hT2, hl1, hl2⟩, fun c => absurd q c⟩
      · unfold wp_X9_scene
        refine m_inY (lo := 0) (hi := 15) (by omega) (by omega) hk ⟨fun c => absurd c (by decide), fun _ => ⟨fun q => absurd q (by decide), fun q => absurd q (by decide), fun q => absurd q (by decide), fun q => absurd q (by decide), fun _ => ?_, fun q => absurd q (by decide), fun q => absurd q (by decide), fun q0 q1 q2 q3 q4 q5 q6 => absurd rfl q4⟩⟩
        refine m_isRising hM hO hN hk16 ?_
        rw [bI_0]
        exact ⟨fun c => absurd c q, fun _ => ⟨rfl, (n, num, row, st), b, hist, h, len, T, hA, hC, hM, hK, hHc, hHm, hT1, hT2, hl1, hl2⟩⟩
    · subst e
      refine s_tally (w := 12) (t := none) (sc := some k) hD hRR hS (by omega) (fun u hu => by cases hu) (fun u hu => by cases hu; exact hk16) ?_
      unfold wp_X9_scene
      refine m_inY (lo := 0) (hi := 15) (by omega) (by omega) hk ⟨fun c => absurd c (by decide), fun _ => ⟨fun q => absurd q (by decide), fun q => absurd q (by decide), fun q => absurd q (by decide), fun q => absurd q (by decide), fun q => absurd q (by decide), fun _ => ?_, fun q => absurd q (by decide), fun q0 q1 q2 q3 q4 q5 q6 => absurd rfl q5⟩⟩
      exact mbr _ _ _ _ _ _ (fun w sm order rank straight => ⟨rfl, (n, num, row, st), b, hist, h, len, T, hA, hC, hM, hK, hHc, hHm, hT1, hT2, hl1, hl2⟩)
    · subst e
      refine s_climbTo hRT hk16 (by omega) ?_
      unfold wp_X9_scene
      refine m_inY (lo := 0) (hi := 15) (by omega) (by omega) hk ⟨fun c => absurd c (by decide), fun _ => ⟨fun q => absurd q (by decide), fun q => absurd q (by decide), fun q => absurd q (by decide), fun q => absurd q (by decide), fun q => absurd q (by decide), fun q => absurd q (by decide), fun _ => ?_, fun q0 q1 q2 q3 q4 q5 q6 => absurd rfl q6⟩⟩
      exact m_climb hM hO hN hk16 ⟨rfl, (n, num, row, st), b, hist, h, len, T, hA, hC, hM, hK, hHc, hHm, hT1, hT2, hl1, hl2⟩
    · unfold wp_X9_scene
      exact m_inY (lo := 0) (hi := 15) (by omega) (by omega) hk ⟨fun c => absurd c (by decide), fun _ => ⟨fun q => absurd q e0, fun q => absurd q e1, fun q => absurd q e2, fun q => absurd q e3, fun q => absurd q e4, fun q => absurd q e5, fun q => absurd q e6, fun _ _ _ _ _ _ _ => ⟨rfl, (n, num, row, st), b, hist, h, len, T, hA, hC, hM, hK, hHc, hHm, hT1, hT2, hl1, hl2⟩⟩⟩
  · refine s_isSceneN hx ⟨fun _ => ?_, fun c => absurd rfl c⟩
    unfold wp_X9_scene
    exact m_inN (lo := 0) (hi := 15) hx ⟨fun _ => ⟨rfl, (n, num, row, st), b, hist, h, len, T, hA, hC, hM, hK, hHc, hHm, hT1, hT2, hl1, hl2⟩, fun c => absurd rfl c⟩
