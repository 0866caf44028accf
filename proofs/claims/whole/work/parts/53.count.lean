/-! what is counted -/
theorem sim_count : gSim_count simR := by
  intro y1 xv_kept xv_now_cards_size xv_now_cards_numbers xv_now_wall_slots xv_now_settings xv_snapshot_cards_size xv_snapshot_cards_numbers xv_snapshot_wall_slots xv_snapshot_settings xv_history_oldest xv_history_size xv_history_states_0_cards_size xv_history_states_0_cards_numbers xv_history_states_0_wall_slots xv_history_states_0_settings xv_history_states_1_cards_size xv_history_states_1_cards_numbers xv_history_states_1_wall_slots xv_history_states_1_settings xv_history_states_2_cards_size xv_history_states_2_cards_numbers xv_history_states_2_wall_slots xv_history_states_2_settings xv_history_states_3_cards_size xv_history_states_3_cards_numbers xv_history_states_3_wall_slots xv_history_states_3_settings xv_text_length xv_text_position xv_text_faulty xv_text_signs xv_text_cards_size xv_text_cards_numbers xv_trial_slots xv_reading_mostScenesWithout xv_reading_mostHoursWithout xv_reading_size xv_reading_cards_size xv_reading_cards_numbers xv_reading_names xv_reading_slots xv_reading_ahead xv_reading_straightAhead xv_reading_last xv_reading_lastStraight xv_straightRow_size xv_straightRow_ranks xv_straightRow_cards xv_straightRow_hours xv_straightRow_slots xv_straightRow_sorted xv_straightRow_longest xv_tensions_values xv_tensions_climbs mv_onWall mv_straightMany mv_length mv_states mv_isKept mv_at mv_cards mv_s mv_before mv_kept mv_aside mv_order mv_rank mv_straight mv_sorted mv_longest mv_read mv_text hsim
  obtain ⟨a, b, hist, h, len, T, hA, hC, hM, hK, hHc, hHm, hT1, hT2, hl1, hl2⟩ := hsim
  obtain ⟨n, num, row, st⟩ := a
  have hN : numOk n num := hA.1
  have hO : rowOk n row := hA.2.1
  have hS : setOk st := hA.2.2
  have hsz : xv_now_cards_size = nI n := hC.1.1
  have hsz2 : xv_history_size = nI h := by obtain ⟨o, _, _, _, e, _⟩ := hHc; exact e
  have hs0 : mv_s ((0 : Int32)).toNatClampNeg = nI n := hM.1
  have hD : RRd n num (pre row 96) := RRd_pre hO hN
  have hwa := words_all (num := num) (st := st) hO
  have mwm := fun w order rank post hp => @m_wallMany n num row st mv_s w order rank post hM hO hp
  have mab := fun w sm order rank straight post hp => @m_allBreaks n num row st mv_s w sm order rank straight post hM hO hN hp
  have mho := fun w sm order rank straight k post hk hp => @m_holes n num row st mv_s w sm order rank straight k post hM hO hN hS hk hp
  have mst := fun w sm order rank straight post hp => @m_standing n num row st mv_s w sm order rank straight post hM hO hN hp
  have hno : (∀ k, k < 15 → ¬ y1 = nI k) → ∀ (po : Int32 → Int32 → Int32 → (Nat → Int32) → (Nat → Int32) → (Nat → Int32) → Prop), po (-2) mv_onWall mv_straightMany mv_order mv_rank mv_straight → wp_X9_count y1 mv_onWall mv_straightMany mv_length mv_states mv_s mv_order mv_rank mv_straight po := by
    intro ne po hp
    unfold wp_X9_count
    exact ⟨fun q => absurd q (ne 0 (by omega)), fun q => absurd q (ne 1 (by omega)), fun q => absurd q (ne 2 (by omega)), fun q => absurd q (ne 3 (by omega)), fun q => absurd q (ne 4 (by omega)), fun q => absurd q (ne 5 (by omega)), fun q => absurd q (ne 6 (by omega)), fun q => absurd q (ne 7 (by omega)), fun q => absurd q (ne 8 (by omega)), fun q => absurd q (ne 9 (by omega)), fun q => absurd q (ne 10 (by omega)), fun q => absurd q (ne 11 (by omega)), fun q => absurd q (ne 12 (by omega)), fun q => absurd q (ne 13 (by omega)), fun q => absurd q (ne 14 (by omega)), fun _ _ _ _ _ _ _ _ _ _ _ _ _ _ _ => hp⟩
  unfold wp_X8_count
  rcases z_cases y1 15 (by omega) with c | c | ⟨k, hk, rfl⟩
  · have ne : ∀ k, k < 15 → ¬ y1 = nI k := fun k hk => (z_neg c (by omega)).2.2.2.2.1
    refine ⟨fun _ => ?_, fun q => absurd (z_neg c (show 10 < 2147483648 by omega)).1 q⟩
    · skip
      unfold wp_X8_count_j24
      refine s_read3 hC.1 hN hC.2.2 hC.2.1 hO (fun size csize cnum names slots ahead sAhead last lastS hRR => ?_)
      exact ⟨fun q => absurd q (ne 0 (by omega)), fun q => absurd q (ne 1 (by omega)), fun q => absurd q (ne 2 (by omega)), fun q => absurd q (ne 3 (by omega)), fun q => absurd q (ne 4 (by omega)), fun q => absurd q (ne 5 (by omega)), fun q => absurd q (ne 6 (by omega)), fun q => absurd q (ne 7 (by omega)), fun q => absurd q (ne 8 (by omega)), fun q => absurd q (ne 9 (by omega)), fun q => absurd q (ne 13 (by omega)), fun q => absurd q (ne 14 (by omega)), fun _ _ _ _ _ _ _ _ _ _ _ _ => hno ne _ ⟨rfl, (n, num, row, st), b, hist, h, len, T, hA, hC, hM, hK, hHc, hHm, hT1, hT2, hl1, hl2⟩⟩
  · have ne : ∀ k, k < 15 → ¬ y1 = nI k := fun k hk => (z_big (by omega) c.2 hk).2.2.2.2.1
    refine ⟨fun q => absurd q (z_big (show 15 < 2147483648 by omega) c.2 (show 10 < 15 by omega)).1, fun _ => ⟨fun _ => ?_, fun q => absurd (z_big (show 15 < 2147483648 by omega) c.2 (show 13 < 15 by omega)).2.1 q⟩⟩
    · skip
      unfold wp_X8_count_j24
      refine s_read3 hC.1 hN hC.2.2 hC.2.1 hO (fun size csize cnum names slots ahead sAhead last lastS hRR => ?_)
      exact ⟨fun q => absurd q (ne 0 (by omega)), fun q => absurd q (ne 1 (by omega)), fun q => absurd q (ne 2 (by omega)), fun q => absurd q (ne 3 (by omega)), fun q => absurd q (ne 4 (by omega)), fun q => absurd q (ne 5 (by omega)), fun q => absurd q (ne 6 (by omega)), fun q => absurd q (ne 7 (by omega)), fun q => absurd q (ne 8 (by omega)), fun q => absurd q (ne 9 (by omega)), fun q => absurd q (ne 13 (by omega)), fun q => absurd q (ne 14 (by omega)), fun _ _ _ _ _ _ _ _ _ _ _ _ => hno ne _ ⟨rfl, (n, num, row, st), b, hist, h, len, T, hA, hC, hM, hK, hHc, hHm, hT1, hT2, hl1, hl2⟩⟩
  · rcases (show k = 0 ∨ k = 1 ∨ k = 2 ∨ k = 3 ∨ k = 4 ∨ k = 5 ∨ k = 6 ∨ k = 7 ∨ k = 8 ∨ k = 9 ∨ k = 10 ∨ k = 11 ∨ k = 12 ∨ k = 13 ∨ k = 14 by omega) with rfl | rfl | rfl | rfl | rfl | rfl | rfl | rfl | rfl | rfl | rfl | rfl | rfl | rfl | rfl
    · refine ⟨fun _ => ?_, fun q => absurd (by decide) q⟩
      unfold wp_X8_count_j24
      refine s_read3 hC.1 hN hC.2.2 hC.2.1 hO (fun size csize cnum names slots ahead sAhead last lastS hRR => ?_)
      generalize hLe : pre row 96 = L at hRR hD hwa mwm mab mho mst
      refine ⟨fun _ => ?_, fun q => absurd q (by decide), fun q => absurd q (by decide), fun q => absurd q (by decide), fun q => absurd q (by decide), fun q => absurd q (by decide), fun q => absurd q (by decide), fun q => absurd q (by decide), fun q => absurd q (by decide), fun q => absurd q (by decide), fun q => absurd q (by decide), fun q => absurd q (by decide), fun q0 q1 q2 q3 q4 q5 q6 q7 q8 q9 q13 q14 => absurd rfl q0⟩
      unfold wp_X1_size
      unfold wp_X9_count
      refine ⟨fun _ => ?_, fun q => absurd q (by decide), fun q => absurd q (by decide), fun q => absurd q (by decide), fun q => absurd q (by decide), fun q => absurd q (by decide), fun q => absurd q (by decide), fun q => absurd q (by decide), fun q => absurd q (by decide), fun q => absurd q (by decide), fun q => absurd q (by decide), fun q => absurd q (by decide), fun q => absurd q (by decide), fun q => absurd q (by decide), fun q => absurd q (by decide), fun q0 q1 q2 q3 q4 q5 q6 q7 q8 q9 q10 q11 q12 q13 q14 => absurd rfl q0⟩
      rw [hs0, hsz]
      rw [hsz] at hC
      exact ⟨rfl, (n, num, row, st), b, hist, h, len, T, hA, hC, hM, hK, hHc, hHm, hT1, hT2, hl1, hl2⟩
    · refine ⟨fun _ => ?_, fun q => absurd (by decide) q⟩
      unfold wp_X8_count_j24
      refine s_read3 hC.1 hN hC.2.2 hC.2.1 hO (fun size csize cnum names slots ahead sAhead last lastS hRR => ?_)
      generalize hLe : pre row 96 = L at hRR hD hwa mwm mab mho mst
      refine ⟨fun q => absurd q (by decide), fun _ => ?_, fun q => absurd q (by decide), fun q => absurd q (by decide), fun q => absurd q (by decide), fun q => absurd q (by decide), fun q => absurd q (by decide), fun q => absurd q (by decide), fun q => absurd q (by decide), fun q => absurd q (by decide), fun q => absurd q (by decide), fun q => absurd q (by decide), fun q0 q1 q2 q3 q4 q5 q6 q7 q8 q9 q13 q14 => absurd rfl q1⟩
      refine s_cards7 hC.2.1 hO ?_
      rw [hLe]
      unfold wp_X9_count
      refine ⟨fun q => absurd q (by decide), fun _ => ?_, fun q => absurd q (by decide), fun q => absurd q (by decide), fun q => absurd q (by decide), fun q => absurd q (by decide), fun q => absurd q (by decide), fun q => absurd q (by decide), fun q => absurd q (by decide), fun q => absurd q (by decide), fun q => absurd q (by decide), fun q => absurd q (by decide), fun q => absurd q (by decide), fun q => absurd q (by decide), fun q => absurd q (by decide), fun q0 q1 q2 q3 q4 q5 q6 q7 q8 q9 q10 q11 q12 q13 q14 => absurd rfl q1⟩
      exact mwm _ _ _ _ (fun w order rank => ⟨rfl, (n, num, row, st), b, hist, h, len, T, hA, hC, hM, hK, hHc, hHm, hT1, hT2, hl1, hl2⟩)
    · refine ⟨fun _ => ?_, fun q => absurd (by decide) q⟩
      unfold wp_X8_count_j24
      refine s_read3 hC.1 hN hC.2.2 hC.2.1 hO (fun size csize cnum names slots ahead sAhead last lastS hRR => ?_)
      generalize hLe : pre row 96 = L at hRR hD hwa mwm mab mho mst
      refine ⟨fun q => absurd q (by decide), fun q => absurd q (by decide), fun _ => ?_, fun q => absurd q (by decide), fun q => absurd q (by decide), fun q => absurd q (by decide), fun q => absurd q (by decide), fun q => absurd q (by decide), fun q => absurd q (by decide), fun q => absurd q (by decide), fun q => absurd q (by decide), fun q => absurd q (by decide), fun q0 q1 q2 q3 q4 q5 q6 q7 q8 q9 q13 q14 => absurd rfl q2⟩
      refine s_scenes hC.2.1 hO ?_
      unfold wp_X9_count
      refine ⟨fun q => absurd q (by decide), fun q => absurd q (by decide), fun _ => ?_, fun q => absurd q (by decide), fun q => absurd q (by decide), fun q => absurd q (by decide), fun q => absurd q (by decide), fun q => absurd q (by decide), fun q => absurd q (by decide), fun q => absurd q (by decide), fun q => absurd q (by decide), fun q => absurd q (by decide), fun q => absurd q (by decide), fun q => absurd q (by decide), fun q => absurd q (by decide), fun q0 q1 q2 q3 q4 q5 q6 q7 q8 q9 q10 q11 q12 q13 q14 => absurd rfl q2⟩
      exact m_scenes hM hO ⟨rfl, (n, num, row, st), b, hist, h, len, T, hA, hC, hM, hK, hHc, hHm, hT1, hT2, hl1, hl2⟩
    · refine ⟨fun _ => ?_, fun q => absurd (by decide) q⟩
      unfold wp_X8_count_j24
      refine s_read3 hC.1 hN hC.2.2 hC.2.1 hO (fun size csize cnum names slots ahead sAhead last lastS hRR => ?_)
      generalize hLe : pre row 96 = L at hRR hD hwa mwm mab mho mst
      refine ⟨fun q => absurd q (by decide), fun q => absurd q (by decide), fun q => absurd q (by decide), fun _ => ?_, fun q => absurd q (by decide), fun q => absurd q (by decide), fun q => absurd q (by decide), fun q => absurd q (by decide), fun q => absurd q (by decide), fun q => absurd q (by decide), fun q => absurd q (by decide), fun q => absurd q (by decide), fun q0 q1 q2 q3 q4 q5 q6 q7 q8 q9 q13 q14 => absurd rfl q3⟩
      refine s_tally (w := 12) (t := none) (sc := none) hD hRR hS (by omega) (fun u hu => by cases hu) (fun u hu => by cases hu) ?_
      unfold wp_X9_count
      refine ⟨fun q => absurd q (by decide), fun q => absurd q (by decide), fun q => absurd q (by decide), fun _ => ?_, fun q => absurd q (by decide), fun q => absurd q (by decide), fun q => absurd q (by decide), fun q => absurd q (by decide), fun q => absurd q (by decide), fun q => absurd q (by decide), fun q => absurd q (by decide), fun q => absurd q (by decide), fun q => absurd q (by decide), fun q => absurd q (by decide), fun q => absurd q (by decide), fun q0 q1 q2 q3 q4 q5 q6 q7 q8 q9 q10 q11 q12 q13 q14 => absurd rfl q3⟩
      exact mab _ _ _ _ _ _ (fun w sm order rank straight => ⟨rfl, (n, num, row, st), b, hist, h, len, T, hA, hC, hM, hK, hHc, hHm, hT1, hT2, hl1, hl2⟩)
    · refine ⟨fun _ => ?_, fun q => absurd (by decide) q⟩
      unfold wp_X8_count_j24
      refine s_read3 hC.1 hN hC.2.2 hC.2.1 hO (fun size csize cnum names slots ahead sAhead last lastS hRR => ?_)
      generalize hLe : pre row 96 = L at hRR hD hwa mwm mab mho mst
      refine ⟨fun q => absurd q (by decide), fun q => absurd q (by decide), fun q => absurd q (by decide), fun q => absurd q (by decide), fun _ => ?_, fun q => absurd q (by decide), fun q => absurd q (by decide), fun q => absurd q (by decide), fun q => absurd q (by decide), fun q => absurd q (by decide), fun q => absurd q (by decide), fun q => absurd q (by decide), fun q0 q1 q2 q3 q4 q5 q6 q7 q8 q9 q13 q14 => absurd rfl q4⟩
      refine s_tally (w := 13) (t := none) (sc := none) hD hRR hS (by omega) (fun u hu => by cases hu) (fun u hu => by cases hu) ?_
      unfold wp_X9_count
      refine ⟨fun q => absurd q (by decide), fun q => absurd q (by decide), fun q => absurd q (by decide), fun q => absurd q (by decide), fun _ => ?_, fun q => absurd q (by decide), fun q => absurd q (by decide), fun q => absurd q (by decide), fun q => absurd q (by decide), fun q => absurd q (by decide), fun q => absurd q (by decide), fun q => absurd q (by decide), fun q => absurd q (by decide), fun q => absurd q (by decide), fun q => absurd q (by decide), fun q0 q1 q2 q3 q4 q5 q6 q7 q8 q9 q10 q11 q12 q13 q14 => absurd rfl q4⟩
      exact mho _ _ _ _ _ 0 _ (by omega) (fun w sm order rank straight => ⟨rfl, (n, num, row, st), b, hist, h, len, T, hA, hC, hM, hK, hHc, hHm, hT1, hT2, hl1, hl2⟩)
    · refine ⟨fun _ => ?_, fun q => absurd (by decide) q⟩
      unfold wp_X8_count_j24
      refine s_read3 hC.1 hN hC.2.2 hC.2.1 hO (fun size csize cnum names slots ahead sAhead last lastS hRR => ?_)
      generalize hLe : pre row 96 = L at hRR hD hwa mwm mab mho mst
      refine ⟨fun q => absurd q (by decide), fun q => absurd q (by decide), fun q => absurd q (by decide), fun q => absurd q (by decide), fun q => absurd q (by decide), fun _ => ?_, fun q => absurd q (by decide), fun q => absurd q (by decide), fun q => absurd q (by decide), fun q => absurd q (by decide), fun q => absurd q (by decide), fun q => absurd q (by decide), fun q0 q1 q2 q3 q4 q5 q6 q7 q8 q9 q13 q14 => absurd rfl q5⟩
      refine s_tally (w := 14) (t := none) (sc := none) hD hRR hS (by omega) (fun u hu => by cases hu) (fun u hu => by cases hu) ?_
      unfold wp_X9_count
      refine ⟨fun q => absurd q (by decide), fun q => absurd q (by decide), fun q => absurd q (by decide), fun q => absurd q (by decide), fun q => absurd q (by decide), fun _ => ?_, fun q => absurd q (by decide), fun q => absurd q (by decide), fun q => absurd q (by decide), fun q => absurd q (by decide), fun q => absurd q (by decide), fun q => absurd q (by decide), fun q => absurd q (by decide), fun q => absurd q (by decide), fun q => absurd q (by decide), fun q0 q1 q2 q3 q4 q5 q6 q7 q8 q9 q10 q11 q12 q13 q14 => absurd rfl q5⟩
      exact mho _ _ _ _ _ 1 _ (by omega) (fun w sm order rank straight => ⟨rfl, (n, num, row, st), b, hist, h, len, T, hA, hC, hM, hK, hHc, hHm, hT1, hT2, hl1, hl2⟩)
    · refine ⟨fun _ => ?_, fun q => absurd (by decide) q⟩
      unfold wp_X8_count_j24
      refine s_read3 hC.1 hN hC.2.2 hC.2.1 hO (fun size csize cnum names slots ahead sAhead last lastS hRR => ?_)
      generalize hLe : pre row 96 = L at hRR hD hwa mwm mab mho mst
      refine ⟨fun q => absurd q (by decide), fun q => absurd q (by decide), fun q => absurd q (by decide), fun q => absurd q (by decide), fun q => absurd q (by decide), fun q => absurd q (by decide), fun _ => ?_, fun q => absurd q (by decide), fun q => absurd q (by decide), fun q => absurd q (by decide), fun q => absurd q (by decide), fun q => absurd q (by decide), fun q0 q1 q2 q3 q4 q5 q6 q7 q8 q9 q13 q14 => absurd rfl q6⟩
      refine s_holes (row := row) hC.2.1 hO ?_
      unfold wp_X9_count
      refine ⟨fun q => absurd q (by decide), fun q => absurd q (by decide), fun q => absurd q (by decide), fun q => absurd q (by decide), fun q => absurd q (by decide), fun q => absurd q (by decide), fun _ => ?_, fun q => absurd q (by decide), fun q => absurd q (by decide), fun q => absurd q (by decide), fun q => absurd q (by decide), fun q => absurd q (by decide), fun q => absurd q (by decide), fun q => absurd q (by decide), fun q => absurd q (by decide), fun q0 q1 q2 q3 q4 q5 q6 q7 q8 q9 q10 q11 q12 q13 q14 => absurd rfl q6⟩
      exact m_ofScenes (w := 0) hM hO hN (by omega) ⟨rfl, (n, num, row, st), b, hist, h, len, T, hA, hC, hM, hK, hHc, hHm, hT1, hT2, hl1, hl2⟩
    · refine ⟨fun _ => ?_, fun q => absurd (by decide) q⟩
      unfold wp_X8_count_j24
      refine s_read3 hC.1 hN hC.2.2 hC.2.1 hO (fun size csize cnum names slots ahead sAhead last lastS hRR => ?_)
      generalize hLe : pre row 96 = L at hRR hD hwa mwm mab mho mst
      refine ⟨fun q => absurd q (by decide), fun q => absurd q (by decide), fun q => absurd q (by decide), fun q => absurd q (by decide), fun q => absurd q (by decide), fun q => absurd q (by decide), fun q => absurd q (by decide), fun _ => ?_, fun q => absurd q (by decide), fun q => absurd q (by decide), fun q => absurd q (by decide), fun q => absurd q (by decide), fun q0 q1 q2 q3 q4 q5 q6 q7 q8 q9 q13 q14 => absurd rfl q7⟩
      refine s_tally (w := 2) (t := none) (sc := none) hD hRR hS (by omega) (fun u hu => by cases hu) (fun u hu => by cases hu) ?_
      rw [← hwa]
      unfold wp_X9_count
      refine ⟨fun q => absurd q (by decide), fun q => absurd q (by decide), fun q => absurd q (by decide), fun q => absurd q (by decide), fun q => absurd q (by decide), fun q => absurd q (by decide), fun q => absurd q (by decide), fun _ => ?_, fun q => absurd q (by decide), fun q => absurd q (by decide), fun q => absurd q (by decide), fun q => absurd q (by decide), fun q => absurd q (by decide), fun q => absurd q (by decide), fun q => absurd q (by decide), fun q0 q1 q2 q3 q4 q5 q6 q7 q8 q9 q10 q11 q12 q13 q14 => absurd rfl q7⟩
      exact m_ofScenes (w := 1) hM hO hN (by omega) ⟨rfl, (n, num, row, st), b, hist, h, len, T, hA, hC, hM, hK, hHc, hHm, hT1, hT2, hl1, hl2⟩
    · refine ⟨fun _ => ?_, fun q => absurd (by decide) q⟩
      unfold wp_X8_count_j24
      refine s_read3 hC.1 hN hC.2.2 hC.2.1 hO (fun size csize cnum names slots ahead sAhead last lastS hRR => ?_)
      generalize hLe : pre row 96 = L at hRR hD hwa mwm mab mho mst
      refine ⟨fun q => absurd q (by decide), fun q => absurd q (by decide), fun q => absurd q (by decide), fun q => absurd q (by decide), fun q => absurd q (by decide), fun q => absurd q (by decide), fun q => absurd q (by decide), fun q => absurd q (by decide), fun _ => ?_, fun q => absurd q (by decide), fun q => absurd q (by decide), fun q => absurd q (by decide), fun q0 q1 q2 q3 q4 q5 q6 q7 q8 q9 q13 q14 => absurd rfl q8⟩
      refine s_measure hC.1 hN hC.2.1 hO hC.2.2 hS.2.2.2 (fun va cl hRT => s_longest hRT ?_)
      unfold wp_X9_count
      refine ⟨fun q => absurd q (by decide), fun q => absurd q (by decide), fun q => absurd q (by decide), fun q => absurd q (by decide), fun q => absurd q (by decide), fun q => absurd q (by decide), fun q => absurd q (by decide), fun q => absurd q (by decide), fun _ => ?_, fun q => absurd q (by decide), fun q => absurd q (by decide), fun q => absurd q (by decide), fun q => absurd q (by decide), fun q => absurd q (by decide), fun q => absurd q (by decide), fun q0 q1 q2 q3 q4 q5 q6 q7 q8 q9 q10 q11 q12 q13 q14 => absurd rfl q8⟩
      exact m_ofScenes (w := 2) hM hO hN (by omega) ⟨rfl, (n, num, row, st), b, hist, h, len, T, hA, hC, hM, hK, hHc, hHm, hT1, hT2, hl1, hl2⟩
    · refine ⟨fun _ => ?_, fun q => absurd (by decide) q⟩
      unfold wp_X8_count_j24
      refine s_read3 hC.1 hN hC.2.2 hC.2.1 hO (fun size csize cnum names slots ahead sAhead last lastS hRR => ?_)
      generalize hLe : pre row 96 = L at hRR hD hwa mwm mab mho mst
      refine ⟨fun q => absurd q (by decide), fun q => absurd q (by decide), fun q => absurd q (by decide), fun q => absurd q (by decide), fun q => absurd q (by decide), fun q => absurd q (by decide), fun q => absurd q (by decide), fun q => absurd q (by decide), fun q => absurd q (by decide), fun _ => ?_, fun q => absurd q (by decide), fun q => absurd q (by decide), fun q0 q1 q2 q3 q4 q5 q6 q7 q8 q9 q13 q14 => absurd rfl q9⟩
      refine s_standing hD hRR hS ?_
      unfold wp_X9_count
      refine ⟨fun q => absurd q (by decide), fun q => absurd q (by decide), fun q => absurd q (by decide), fun q => absurd q (by decide), fun q => absurd q (by decide), fun q => absurd q (by decide), fun q => absurd q (by decide), fun q => absurd q (by decide), fun q => absurd q (by decide), fun _ => ?_, fun q => absurd q (by decide), fun q => absurd q (by decide), fun q => absurd q (by decide), fun q => absurd q (by decide), fun q => absurd q (by decide), fun q0 q1 q2 q3 q4 q5 q6 q7 q8 q9 q10 q11 q12 q13 q14 => absurd rfl q9⟩
      exact mst _ _ _ _ _ _ (fun w sm order rank straight => ⟨rfl, (n, num, row, st), b, hist, h, len, T, hA, hC, hM, hK, hHc, hHm, hT1, hT2, hl1, hl2⟩)
    · refine ⟨fun q => absurd q (by decide), fun _ => ⟨fun q => absurd q (by decide), fun _ => ?_⟩⟩
      rw [show nI 10 - (10 : Int32) = nI 0 from rfl]
      refine s_setting (i := 0) hC.2.2 (by omega) ?_
      unfold wp_X9_count
      refine ⟨fun q => absurd q (by decide), fun q => absurd q (by decide), fun q => absurd q (by decide), fun q => absurd q (by decide), fun q => absurd q (by decide), fun q => absurd q (by decide), fun q => absurd q (by decide), fun q => absurd q (by decide), fun q => absurd q (by decide), fun q => absurd q (by decide), fun _ => ?_, fun q => absurd q (by decide), fun q => absurd q (by decide), fun q => absurd q (by decide), fun q => absurd q (by decide), fun q0 q1 q2 q3 q4 q5 q6 q7 q8 q9 q10 q11 q12 q13 q14 => absurd rfl q10⟩
      rw [show (1 : Int32) + nI 10 - 10 = nI 1 from rfl, show (nI 1).toNatClampNeg = 1 + 0 from rfl]
      have es : mv_s (1 + 0) = nI (st 0) := hM.2.1 0 (by omega)
      rw [es]
      exact ⟨(z_in (by omega)).mpr (by omega), rfl, (n, num, row, st), b, hist, h, len, T, hA, hC, hM, hK, hHc, hHm, hT1, hT2, hl1, hl2⟩
    · refine ⟨fun q => absurd q (by decide), fun _ => ⟨fun q => absurd q (by decide), fun _ => ?_⟩⟩
      rw [show nI 11 - (10 : Int32) = nI 1 from rfl]
      refine s_setting (i := 1) hC.2.2 (by omega) ?_
      unfold wp_X9_count
      refine ⟨fun q => absurd q (by decide), fun q => absurd q (by decide), fun q => absurd q (by decide), fun q => absurd q (by decide), fun q => absurd q (by decide), fun q => absurd q (by decide), fun q => absurd q (by decide), fun q => absurd q (by decide), fun q => absurd q (by decide), fun q => absurd q (by decide), fun q => absurd q (by decide), fun _ => ?_, fun q => absurd q (by decide), fun q => absurd q (by decide), fun q => absurd q (by decide), fun q0 q1 q2 q3 q4 q5 q6 q7 q8 q9 q10 q11 q12 q13 q14 => absurd rfl q11⟩
      rw [show (1 : Int32) + nI 11 - 10 = nI 2 from rfl, show (nI 2).toNatClampNeg = 1 + 1 from rfl]
      have es : mv_s (1 + 1) = nI (st 1) := hM.2.1 1 (by omega)
      rw [es]
      exact ⟨(z_in (by omega)).mpr (by omega), rfl, (n, num, row, st), b, hist, h, len, T, hA, hC, hM, hK, hHc, hHm, hT1, hT2, hl1, hl2⟩
    · refine ⟨fun q => absurd q (by decide), fun _ => ⟨fun q => absurd q (by decide), fun _ => ?_⟩⟩
      rw [show nI 12 - (10 : Int32) = nI 2 from rfl]
      refine s_setting (i := 2) hC.2.2 (by omega) ?_
      unfold wp_X9_count
      refine ⟨fun q => absurd q (by decide), fun q => absurd q (by decide), fun q => absurd q (by decide), fun q => absurd q (by decide), fun q => absurd q (by decide), fun q => absurd q (by decide), fun q => absurd q (by decide), fun q => absurd q (by decide), fun q => absurd q (by decide), fun q => absurd q (by decide), fun q => absurd q (by decide), fun q => absurd q (by decide), fun _ => ?_, fun q => absurd q (by decide), fun q => absurd q (by decide), fun q0 q1 q2 q3 q4 q5 q6 q7 q8 q9 q10 q11 q12 q13 q14 => absurd rfl q12⟩
      rw [show (1 : Int32) + nI 12 - 10 = nI 3 from rfl, show (nI 3).toNatClampNeg = 1 + 2 from rfl]
      have es : mv_s (1 + 2) = nI (st 2) := hM.2.1 2 (by omega)
      rw [es]
      exact ⟨(z_in (by omega)).mpr (by omega), rfl, (n, num, row, st), b, hist, h, len, T, hA, hC, hM, hK, hHc, hHm, hT1, hT2, hl1, hl2⟩
    · refine ⟨fun q => absurd q (by decide), fun _ => ⟨fun _ => ?_, fun q => absurd (by decide) q⟩⟩
      unfold wp_X8_count_j24
      refine s_read3 hC.1 hN hC.2.2 hC.2.1 hO (fun size csize cnum names slots ahead sAhead last lastS hRR => ?_)
      generalize hLe : pre row 96 = L at hRR hD hwa mwm mab mho mst
      refine ⟨fun q => absurd q (by decide), fun q => absurd q (by decide), fun q => absurd q (by decide), fun q => absurd q (by decide), fun q => absurd q (by decide), fun q => absurd q (by decide), fun q => absurd q (by decide), fun q => absurd q (by decide), fun q => absurd q (by decide), fun q => absurd q (by decide), fun _ => ?_, fun q => absurd q (by decide), fun q0 q1 q2 q3 q4 q5 q6 q7 q8 q9 q13 q14 => absurd rfl q13⟩
      unfold wp_X2_size
      unfold wp_X9_count
      refine ⟨fun q => absurd q (by decide), fun q => absurd q (by decide), fun q => absurd q (by decide), fun q => absurd q (by decide), fun q => absurd q (by decide), fun q => absurd q (by decide), fun q => absurd q (by decide), fun q => absurd q (by decide), fun q => absurd q (by decide), fun q => absurd q (by decide), fun q => absurd q (by decide), fun q => absurd q (by decide), fun q => absurd q (by decide), fun _ => ?_, fun q => absurd q (by decide), fun q0 q1 q2 q3 q4 q5 q6 q7 q8 q9 q10 q11 q12 q13 q14 => absurd rfl q13⟩
      rw [hsz2, hHm.2.1]
      rw [hsz2] at hHc
      refine ⟨rfl, (n, num, row, st), b, hist, h, len, T, hA, hC, hM, hK, hHc, ⟨hHm.1, rfl, hHm.2.2⟩, hT1, hT2, hl1, hl2⟩
    · refine ⟨fun q => absurd q (by decide), fun _ => ⟨fun _ => ?_, fun q => absurd (by decide) q⟩⟩
      unfold wp_X8_count_j24
      refine s_read3 hC.1 hN hC.2.2 hC.2.1 hO (fun size csize cnum names slots ahead sAhead last lastS hRR => ?_)
      generalize hLe : pre row 96 = L at hRR hD hwa mwm mab mho mst
      refine ⟨fun q => absurd q (by decide), fun q => absurd q (by decide), fun q => absurd q (by decide), fun q => absurd q (by decide), fun q => absurd q (by decide), fun q => absurd q (by decide), fun q => absurd q (by decide), fun q => absurd q (by decide), fun q => absurd q (by decide), fun q => absurd q (by decide), fun q => absurd q (by decide), fun _ => ?_, fun q0 q1 q2 q3 q4 q5 q6 q7 q8 q9 q13 q14 => absurd rfl q14⟩
      unfold wp_X0_length
      unfold wp_X9_count
      refine ⟨fun q => absurd q (by decide), fun q => absurd q (by decide), fun q => absurd q (by decide), fun q => absurd q (by decide), fun q => absurd q (by decide), fun q => absurd q (by decide), fun q => absurd q (by decide), fun q => absurd q (by decide), fun q => absurd q (by decide), fun q => absurd q (by decide), fun q => absurd q (by decide), fun q => absurd q (by decide), fun q => absurd q (by decide), fun q => absurd q (by decide), fun _ => ?_, fun q0 q1 q2 q3 q4 q5 q6 q7 q8 q9 q10 q11 q12 q13 q14 => absurd rfl q14⟩
      rw [hl1, hl2]
      exact ⟨rfl, (n, num, row, st), b, hist, h, len, T, hA, hC, hM, hK, hHc, hHm, hT1, hT2, rfl, rfl⟩
