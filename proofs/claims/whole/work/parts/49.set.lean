/-! settings; what stands at a place -/
def kindS (k lo hi : Nat) : Prop := (k = 0 ∧ lo = 0 ∧ hi = 14) ∨ (k = 1 ∧ lo = 1 ∧ hi = 9999) ∨ (k = 2 ∧ lo = 0 ∧ hi = 1000)
theorem kindS_ex {k : Nat} (hk : k < 3) : ∃ lo hi, kindS k lo hi ∧ lo ≤ hi ∧ hi ≤ 9999 ∧ gLEASTS k = nI lo ∧ gMOSTS k = nI hi := by
  rcases (show k = 0 ∨ k = 1 ∨ k = 2 by omega) with rfl | rfl | rfl
  · exact ⟨0, 14, Or.inl ⟨rfl, rfl, rfl⟩, by omega, by omega, rfl, rfl⟩
  · exact ⟨1, 9999, Or.inr (Or.inl ⟨rfl, rfl, rfl⟩), by omega, by omega, rfl, rfl⟩
  · exact ⟨0, 1000, Or.inr (Or.inr ⟨rfl, rfl, rfl⟩), by omega, by omega, rfl, rfl⟩
def chS (st : Nat → Nat) (k v : Nat) : Nat → Nat := fun i => if i = k then v else st i
theorem chS_ok {st : Nat → Nat} {k v lo hi : Nat} (hS : setOk st) (hK : kindS k lo hi) (h1 : lo ≤ v) (h2 : v ≤ hi) : setOk (chS st k v) := by
  obtain ⟨a, b, c, d⟩ := hS
  rcases hK with ⟨rfl, rfl, rfl⟩ | ⟨rfl, rfl, rfl⟩ | ⟨rfl, rfl, rfl⟩ <;> (unfold setOk chS; simp; omega)
theorem setB {st : Nat → Nat} (hS : setOk st) {k : Nat} (hk : k < 3) : st k ≤ 9999 := by
  obtain ⟨a, b, c, d⟩ := hS
  rcases (show k = 0 ∨ k = 1 ∨ k = 2 by omega) with rfl | rfl | rfl <;> omega
theorem m_setY {states : Int32} {s before : Nat → Int32} {k v lo hi : Nat} {post : Int32 → Int32 → (Nat → Int32) → (Nat → Int32) → Prop} (hK : kindS k lo hi) (h1 : lo ≤ v) (h2 : v ≤ hi) (h : wp_X9_set_j51 (nI k) (nI v) 1 states s before post) : wp_X9_set (nI k) (nI v) states s before post := by
  unfold wp_X9_set
  rcases hK with ⟨rfl, rfl, rfl⟩ | ⟨rfl, rfl, rfl⟩ | ⟨rfl, rfl, rfl⟩
  · exact ⟨fun _ => m_inY (lo := 0) (hi := 14) (by omega) h1 h2 h, fun c => absurd rfl c⟩
  · exact ⟨fun c => absurd c (by decide), fun _ => ⟨fun _ => m_inY (lo := 1) (hi := 9999) (by omega) h1 h2 h, fun c => absurd rfl c⟩⟩
  · exact ⟨fun c => absurd c (by decide), fun _ => ⟨fun c => absurd c (by decide), fun _ => ⟨fun _ => m_inY (lo := 0) (hi := 1000) (by omega) h1 h2 ⟨fun c => absurd c (by decide), fun _ => h⟩, fun c => absurd rfl c⟩⟩⟩
theorem m_setN {states x : Int32} {s before : Nat → Int32} {k lo hi : Nat} {post : Int32 → Int32 → (Nat → Int32) → (Nat → Int32) → Prop} (hK : kindS k lo hi) (hx : x < nI lo ∨ (¬ x < nI lo ∧ nI hi < x)) (h : post (-2) states s before) : wp_X9_set (nI k) x states s before post := by
  have hz : wp_X9_set_j51 (nI k) x 0 states s before post := by
    unfold wp_X9_set_j51
    exact ⟨fun _ => h, fun c => absurd rfl c⟩
  unfold wp_X9_set
  rcases hK with ⟨rfl, rfl, rfl⟩ | ⟨rfl, rfl, rfl⟩ | ⟨rfl, rfl, rfl⟩
  · exact ⟨fun _ => m_inN hx hz, fun c => absurd rfl c⟩
  · exact ⟨fun c => absurd c (by decide), fun _ => ⟨fun _ => m_inN hx hz, fun c => absurd rfl c⟩⟩
  · refine ⟨fun c => absurd c (by decide), fun _ => ⟨fun c => absurd c (by decide), fun _ => ⟨fun _ => m_inN hx ⟨fun _ => ?_, fun c => absurd rfl c⟩, fun c => absurd rfl c⟩⟩⟩
    unfold wp_X9_set_j50; exact hz
theorem m_setX {states x y : Int32} {s before : Nat → Int32} {post : Int32 → Int32 → (Nat → Int32) → (Nat → Int32) → Prop} (hx : x < nI 0 ∨ (¬ x < nI 0 ∧ nI 3 ≤ x)) (h : post (-2) states s before) : wp_X9_set x y states s before post := by
  have ne : ∀ k, k < 3 → ¬ x = nI k := by
    intro k hk
    rcases hx with c | c
    · exact (z_neg c (by omega)).2.2.2.2.1
    · exact (z_big (by omega) c.2 hk).2.2.2.2.1
  have hz : wp_X9_set_j50 x y states s before post := by
    unfold wp_X9_set_j50 wp_X9_set_j51
    exact ⟨fun _ => h, fun c => absurd rfl c⟩
  unfold wp_X9_set
  exact ⟨fun c => absurd c (ne 0 (by omega)), fun _ => ⟨fun c => absurd c (ne 1 (by omega)), fun _ => ⟨fun c => absurd c (ne 2 (by omega)), fun _ => hz⟩⟩⟩
theorem sim_set : gSim_set simR := by
  intro y1 y2 xv_kept xv_now_cards_size xv_now_cards_numbers xv_now_wall_slots xv_now_settings xv_snapshot_cards_size xv_snapshot_cards_numbers xv_snapshot_wall_slots xv_snapshot_settings xv_history_oldest xv_history_size xv_history_states_0_cards_size xv_history_states_0_cards_numbers xv_history_states_0_wall_slots xv_history_states_0_settings xv_history_states_1_cards_size xv_history_states_1_cards_numbers xv_history_states_1_wall_slots xv_history_states_1_settings xv_history_states_2_cards_size xv_history_states_2_cards_numbers xv_history_states_2_wall_slots xv_history_states_2_settings xv_history_states_3_cards_size xv_history_states_3_cards_numbers xv_history_states_3_wall_slots xv_history_states_3_settings xv_text_length xv_text_position xv_text_faulty xv_text_signs xv_text_cards_size xv_text_cards_numbers xv_trial_slots xv_reading_mostScenesWithout xv_reading_mostHoursWithout xv_reading_size xv_reading_cards_size xv_reading_cards_numbers xv_reading_names xv_reading_slots xv_reading_ahead xv_reading_straightAhead xv_reading_last xv_reading_lastStraight xv_straightRow_size xv_straightRow_ranks xv_straightRow_cards xv_straightRow_hours xv_straightRow_slots xv_straightRow_sorted xv_straightRow_longest xv_tensions_values xv_tensions_climbs mv_onWall mv_straightMany mv_length mv_states mv_isKept mv_at mv_cards mv_s mv_before mv_kept mv_aside mv_order mv_rank mv_straight mv_sorted mv_longest mv_read mv_text hsim
  obtain ⟨a, b, hist, h, len, T, hA, hC, hM, hK, hHc, hHm, hT1, hT2, hl1, hl2⟩ := hsim
  have same : simR xv_kept xv_now_cards_size xv_now_cards_numbers xv_now_wall_slots xv_now_settings xv_snapshot_cards_size xv_snapshot_cards_numbers xv_snapshot_wall_slots xv_snapshot_settings xv_history_oldest xv_history_size xv_history_states_0_cards_size xv_history_states_0_cards_numbers xv_history_states_0_wall_slots xv_history_states_0_settings xv_history_states_1_cards_size xv_history_states_1_cards_numbers xv_history_states_1_wall_slots xv_history_states_1_settings xv_history_states_2_cards_size xv_history_states_2_cards_numbers xv_history_states_2_wall_slots xv_history_states_2_settings xv_history_states_3_cards_size xv_history_states_3_cards_numbers xv_history_states_3_wall_slots xv_history_states_3_settings xv_text_length xv_text_position xv_text_faulty xv_text_signs xv_text_cards_size xv_text_cards_numbers xv_trial_slots xv_reading_mostScenesWithout xv_reading_mostHoursWithout xv_reading_size xv_reading_cards_size xv_reading_cards_numbers xv_reading_names xv_reading_slots xv_reading_ahead xv_reading_straightAhead xv_reading_last xv_reading_lastStraight xv_straightRow_size xv_straightRow_ranks xv_straightRow_cards xv_straightRow_hours xv_straightRow_slots xv_straightRow_sorted xv_straightRow_longest xv_tensions_values xv_tensions_climbs mv_onWall mv_straightMany mv_length mv_states mv_isKept mv_at mv_cards mv_s mv_before mv_kept mv_aside mv_order mv_rank mv_straight mv_sorted mv_longest mv_read mv_text := ⟨a, b, hist, h, len, T, hA, hC, hM, hK, hHc, hHm, hT1, hT2, hl1, hl2⟩
  obtain ⟨n, num, row, st⟩ := a
  have hn : n ≤ 40 := hA.2.1.2.2.2
  unfold wp_X8_set
  rcases z_cases y1 3 (by omega) with c | c | ⟨k, hk, rfl⟩
  · exact ⟨fun _ => m_setX (Or.inl c) ⟨rfl, same⟩, fun c2 => absurd c c2⟩
  · refine ⟨fun c2 => absurd c2 c.1, fun _ => ⟨fun c2 => ?_, fun _ => m_setX (Or.inr c) ⟨rfl, same⟩⟩⟩
    have c3 := c.2
    rw [Int32.le_iff_toInt_le, z_toInt (by omega)] at c3
    rw [l3, Int32.lt_iff_toInt_lt, z_toInt (by omega)] at c2
    omega
  · obtain ⟨lo, hi, hK2, hlh, hhi, g1, g2⟩ := kindS_ex hk
    have hst : st k ≤ 9999 := setB hA.2.2 hk
    refine ⟨fun c => absurd c (by rw [show (0 : Int32) = nI 0 from rfl, z_lt (by omega) (by omega)]; omega), fun _ => ⟨fun _ => ⟨(z_in (by omega)).mpr hk, ?_⟩, fun c => absurd (by rw [l3, z_lt (by omega) (by omega)]; omega) c⟩⟩
    rw [z_cl (show k < 2147483648 by omega), g1, g2]
    rcases rng (x := y2) (lo := lo) (hi := hi) (by omega) hlh with ⟨v, rfl, v0, v1⟩ | hx
    · rw [z_lt (by omega) (by omega), z_le (by omega) (by omega)]
      refine ⟨fun c => absurd c (by omega), fun _ => ⟨(z_in (by omega)).mpr hk, fun _ => ?_, fun c => absurd v1 c⟩⟩
      refine s_setting (i := k) hC.2.2 hk ?_
      have mgo : ∀ (po : Int32 → Int32 → (Nat → Int32) → (Nat → Int32) → Prop), (st k = v → po (-5) mv_states mv_s mv_before) → (¬ st k = v → ∀ states s2 before, RM n num row (chS st k v) s2 → RHm (recH hist h (n, num, row, st)) (recN h) states before → po (nI (st k)) states s2 before) → wp_X9_set (nI k) (nI v) mv_states mv_s mv_before po := by
        intro po p1 p2
        refine m_setY hK2 v0 v1 ?_
        unfold wp_X9_set_j51
        refine ⟨fun c => absurd c (by decide), fun _ => ?_⟩
        have ei : (1 : Int32) + nI k = nI (1 + k) := by rw [l1, z_add]
        have esk : mv_s (1 + k) = nI (st k) := hM.2.1 k hk
        rw [ei, z_cl (show 1 + k < 2147483648 by omega), esk, z_eq (by omega) (by omega)]
        refine ⟨(z_in (by omega)).mpr (by omega), fun q => p1 q, fun q => m_record hHm hA hM (fun states before hHm2 => ⟨(z_in (by omega)).mpr (by omega), ?_⟩)⟩
        refine p2 q _ _ _ ⟨?_, fun i hi => ?_, fun c hc i hi => ?_, fun sc hsc => ⟨?_, fun p hp => ?_⟩⟩ hHm2
        · rw [z_up_n (by omega)]; exact hM.1
        · rw [z_up]
          unfold chS
          by_cases he : i = k
          · rw [if_pos he, if_pos (by omega)]
          · rw [if_neg he, if_neg (by omega)]; exact hM.2.1 i hi
        · rw [z_up_n (by omega)]; exact hM.2.2.1 c hc i hi
        · rw [z_up_n (by omega)]; exact (hM.2.2.2 sc hsc).1
        · rw [z_up_n (by omega)]; exact (hM.2.2.2 sc hsc).2 p hp
      show (nI (st k) = nI v → _) ∧ (¬ nI (st k) = nI v → _)
      rw [z_eq (by omega) (by omega)]
      refine ⟨fun q => mgo _ (fun _ => ⟨rfl, same⟩) (fun c => absurd q c), fun q => ?_⟩
      refine s_record hHc hA hC (fun old sz n0 f0 g0 t0 n1 f1 g1 t1 n2 f2 g2 t2 n3 f3 g3 t3 hH2 => ?_)
      unfold wp_X4_putSetting
      refine ⟨fun c => absurd c (by rw [show (0 : Int32) = nI 0 from rfl, z_lt (by omega) (by omega)]; omega), fun _ => ⟨fun c => absurd c (by rw [l3, z_le (by omega) (by omega)]; omega), fun _ => ⟨(z_in (by omega)).mpr hk, ?_⟩⟩⟩
      refine mgo _ (fun c => absurd c q) (fun _ states s2 before hM2 hHm2 => ?_)
      refine ⟨rfl, (n, num, row, chS st k v), b, _, _, len, T, ⟨hA.1, hA.2.1, chS_ok hA.2.2 hK2 v0 v1⟩, ⟨hC.1, hC.2.1, fun i hi => ?_⟩, hM2, hK, hH2, hHm2, hT1, hT2, hl1, hl2⟩
      show upd _ _ _ _ = nI (chS st k v i)
      rw [z_cl (show k < 2147483648 by omega), z_up]
      unfold chS
      by_cases he : i = k
      · rw [if_pos he, if_pos he]
      · rw [if_neg he, if_neg he]; exact hC.2.2 i hi
    · rcases hx with c | c
      · exact ⟨fun _ => m_setN hK2 (Or.inl c) ⟨rfl, same⟩, fun c2 => absurd c c2⟩
      · refine ⟨fun c2 => absurd c2 c.1, fun _ => ⟨(z_in (by omega)).mpr hk, fun c2 => ?_, fun _ => m_setN hK2 (Or.inr c) ⟨rfl, same⟩⟩⟩
        have c3 := c.2
        rw [Int32.lt_iff_toInt_lt, z_toInt (by omega)] at c3
        rw [Int32.le_iff_toInt_le, z_toInt (by omega)] at c2
        omega
