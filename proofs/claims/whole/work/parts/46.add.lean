/-! writing a card -/
theorem rng {x : Int32} {lo hi : Nat} (hhi : hi < 2147483647) (hlo : lo ≤ hi) : (∃ k, x = nI k ∧ lo ≤ k ∧ k ≤ hi) ∨ (x < nI lo ∨ (¬ x < nI lo ∧ nI hi < x)) := by
  rcases z_cases x (hi + 1) (by omega) with c | c | ⟨k, hk, rfl⟩
  · rw [Int32.lt_iff_toInt_lt, z_toInt (by omega)] at c
    refine Or.inr (Or.inl ?_)
    rw [Int32.lt_iff_toInt_lt, z_toInt (by omega)]; omega
  · have c2 := c.2
    rw [Int32.le_iff_toInt_le, z_toInt (by omega)] at c2
    refine Or.inr (Or.inr ⟨?_, ?_⟩)
    · rw [Int32.lt_iff_toInt_lt, z_toInt (by omega)]; omega
    · rw [Int32.lt_iff_toInt_lt, z_toInt (by omega)]; omega
  · by_cases hl : lo ≤ k
    · exact Or.inl ⟨k, rfl, hl, by omega⟩
    · refine Or.inr (Or.inl ?_)
      rw [z_lt (by omega) (by omega)]; omega
theorem m_inY {post : Int32 → Prop} {k lo hi : Nat} (hhi : hi < 2147483647) (h1 : lo ≤ k) (h2 : k ≤ hi) (h : post 1) : wp_X9_in (nI k) (nI lo) (nI hi) post := by
  unfold wp_X9_in
  exact ⟨fun q => absurd q (by rw [z_lt (by omega) (by omega)]; omega), fun _ => ⟨fun q => absurd q (by rw [z_lt (by omega) (by omega)]; omega), fun _ => h⟩⟩
theorem m_inN {post : Int32 → Prop} {x : Int32} {lo hi : Nat} (hx : x < nI lo ∨ (¬ x < nI lo ∧ nI hi < x)) (h : post 0) : wp_X9_in x (nI lo) (nI hi) post := by
  unfold wp_X9_in
  refine ⟨fun _ => h, fun q => ⟨fun _ => h, fun q2 => ?_⟩⟩
  rcases hx with c | c
  · exact absurd c q
  · exact absurd c.2 q2
theorem s_mayBeY {post : Int32 → Prop} {kind k lo hi : Nat} (hk : kind < 5) (hhi : hi < 2147483647) (hlo : gLEAST kind = nI lo) (hmo : gMOST kind = nI hi) (h1 : lo ≤ k) (h2 : k ≤ hi) (h : post 1) : wp_X8_mayBe (nI kind) (nI k) post := by
  unfold wp_X8_mayBe
  refine ⟨fun q => absurd q (by rw [show (0 : Int32) = nI 0 from rfl, z_lt (by omega) (by omega)]; omega), fun _ => ⟨fun q => absurd q (by rw [l5, z_le (by omega) (by omega)]; omega), fun _ => ⟨(z_in (by omega)).mpr hk, ?_⟩⟩⟩
  rw [z_cl (by omega), hlo, hmo, z_lt (by omega) (by omega), z_lt (by omega) (by omega)]
  exact ⟨fun q => absurd q (by omega), fun _ => ⟨(z_in (by omega)).mpr hk, fun q => absurd q (by omega), fun _ => h⟩⟩
theorem s_mayBeN {post : Int32 → Prop} {x : Int32} {kind lo hi : Nat} (hk : kind < 5) (hlo : gLEAST kind = nI lo) (hmo : gMOST kind = nI hi) (hx : x < nI lo ∨ (¬ x < nI lo ∧ nI hi < x)) (h : post 0) : wp_X8_mayBe (nI kind) x post := by
  unfold wp_X8_mayBe
  refine ⟨fun _ => h, fun _ => ⟨fun _ => h, fun _ => ⟨(z_in (by omega)).mpr hk, ?_⟩⟩⟩
  rw [z_cl (by omega), hlo, hmo]
  refine ⟨fun _ => h, fun q => ⟨(z_in (by omega)).mpr hk, fun _ => h, fun q2 => ?_⟩⟩
  rcases hx with c | c
  · exact absurd c q
  · exact absurd c.2 q2
theorem s_isThreadN {post : Int32 → Prop} {x : Int32} (hx : x < nI 0 ∨ (¬ x < nI 0 ∧ nI 5 < x)) (h : post 0) : wp_X8_isThread x post := by
  unfold wp_X8_isThread
  refine ⟨fun _ => h, fun q => ⟨fun _ => h, fun q2 => ?_⟩⟩
  rcases hx with c | c
  · exact absurd c q
  · refine absurd ?_ q2
    have c2 := c.2
    rw [Int32.lt_iff_toInt_lt, z_toInt (by omega)] at c2
    rw [l6, Int32.le_iff_toInt_le, z_toInt (by omega)]; omega
theorem num5_ok {n : Nat} {num : Nat → Nat → Nat} {a b c d e : Nat} (hN : numOk n num) (h : a ≤ 5 ∧ b ≤ 9999 ∧ 1 ≤ c ∧ c ≤ 999 ∧ d ≤ 100 ∧ e ≤ 1) : numOk (n + 1) (num5 num n a b c d e) := by
  intro i hi
  by_cases he : i = n
  · subst he
    simp only [mkC_num5]
    exact h
  · have := hN i (by omega)
    unfold num5
    simp only [if_neg he]
    exact this
theorem rowOk_up {n m : Nat} {row : Nat → List Nat} (hO : rowOk n row) (hnm : n ≤ m) (hm : m ≤ 40) : rowOk m row := ⟨hO.1, fun sc c hc => Nat.lt_of_lt_of_le (hO.2.1 sc c hc) hnm, hO.2.2.1, hm⟩
theorem sim_add : gSim_add simR := by
  intro y1 y2 y3 y4 xv_kept xv_now_cards_size xv_now_cards_numbers xv_now_wall_slots xv_now_settings xv_snapshot_cards_size xv_snapshot_cards_numbers xv_snapshot_wall_slots xv_snapshot_settings xv_history_oldest xv_history_size xv_history_states_0_cards_size xv_history_states_0_cards_numbers xv_history_states_0_wall_slots xv_history_states_0_settings xv_history_states_1_cards_size xv_history_states_1_cards_numbers xv_history_states_1_wall_slots xv_history_states_1_settings xv_history_states_2_cards_size xv_history_states_2_cards_numbers xv_history_states_2_wall_slots xv_history_states_2_settings xv_history_states_3_cards_size xv_history_states_3_cards_numbers xv_history_states_3_wall_slots xv_history_states_3_settings xv_text_length xv_text_position xv_text_faulty xv_text_signs xv_text_cards_size xv_text_cards_numbers xv_trial_slots xv_reading_mostScenesWithout xv_reading_mostHoursWithout xv_reading_size xv_reading_cards_size xv_reading_cards_numbers xv_reading_names xv_reading_slots xv_reading_ahead xv_reading_straightAhead xv_reading_last xv_reading_lastStraight xv_straightRow_size xv_straightRow_ranks xv_straightRow_cards xv_straightRow_hours xv_straightRow_slots xv_straightRow_sorted xv_straightRow_longest xv_tensions_values xv_tensions_climbs mv_onWall mv_straightMany mv_length mv_states mv_isKept mv_at mv_cards mv_s mv_before mv_kept mv_aside mv_order mv_rank mv_straight mv_sorted mv_longest mv_read mv_text hsim
  obtain ⟨a, b, hist, h, len, T, hA, hC, hM, hK, hHc, hHm, hT1, hT2, hl1, hl2⟩ := hsim
  have same : simR xv_kept xv_now_cards_size xv_now_cards_numbers xv_now_wall_slots xv_now_settings xv_snapshot_cards_size xv_snapshot_cards_numbers xv_snapshot_wall_slots xv_snapshot_settings xv_history_oldest xv_history_size xv_history_states_0_cards_size xv_history_states_0_cards_numbers xv_history_states_0_wall_slots xv_history_states_0_settings xv_history_states_1_cards_size xv_history_states_1_cards_numbers xv_history_states_1_wall_slots xv_history_states_1_settings xv_history_states_2_cards_size xv_history_states_2_cards_numbers xv_history_states_2_wall_slots xv_history_states_2_settings xv_history_states_3_cards_size xv_history_states_3_cards_numbers xv_history_states_3_wall_slots xv_history_states_3_settings xv_text_length xv_text_position xv_text_faulty xv_text_signs xv_text_cards_size xv_text_cards_numbers xv_trial_slots xv_reading_mostScenesWithout xv_reading_mostHoursWithout xv_reading_size xv_reading_cards_size xv_reading_cards_numbers xv_reading_names xv_reading_slots xv_reading_ahead xv_reading_straightAhead xv_reading_last xv_reading_lastStraight xv_straightRow_size xv_straightRow_ranks xv_straightRow_cards xv_straightRow_hours xv_straightRow_slots xv_straightRow_sorted xv_straightRow_longest xv_tensions_values xv_tensions_climbs mv_onWall mv_straightMany mv_length mv_states mv_isKept mv_at mv_cards mv_s mv_before mv_kept mv_aside mv_order mv_rank mv_straight mv_sorted mv_longest mv_read mv_text := ⟨a, b, hist, h, len, T, hA, hC, hM, hK, hHc, hHm, hT1, hT2, hl1, hl2⟩
  obtain ⟨n, num, row, st⟩ := a
  have hn : n ≤ 40 := hA.2.1.2.2.2
  have hsz : xv_now_cards_size = nI n := hC.1.1
  have hs0 : mv_s ((0 : Int32)).toNatClampNeg = nI n := hM.1
  unfold wp_X8_add wp_X9_add
  rw [hs0]
  rcases rng (x := y1) (lo := 0) (hi := 5) (by omega) (by omega) with ⟨t, rfl, ht0, ht⟩ | hx
  · refine s_isThread ?_ (by omega)
    refine ⟨fun c => absurd c (by decide), fun _ => ?_⟩
    rcases rng (x := y2) (lo := 0) (hi := 9999) (by omega) (by omega) with ⟨hh, rfl, hh0, hh1⟩ | hx
    · refine s_mayBeY (kind := 1) (lo := 0) (hi := 9999) (by omega) (by omega) rfl rfl hh0 hh1 ⟨fun c => absurd c (by decide), fun _ => ?_⟩
      rcases rng (x := y3) (lo := 1) (hi := 999) (by omega) (by omega) with ⟨w, rfl, w0, w1⟩ | hx
      · refine s_mayBeY (kind := 2) (lo := 1) (hi := 999) (by omega) (by omega) rfl rfl w0 w1 ⟨fun c => absurd c (by decide), fun _ => ?_⟩
        rcases rng (x := y4) (lo := 0) (hi := 100) (by omega) (by omega) with ⟨e, rfl, e0, e1⟩ | hx
        · refine s_mayBeY (kind := 3) (lo := 0) (hi := 100) (by omega) (by omega) rfl rfl e0 e1 ⟨fun c => absurd c (by decide), fun _ => ?_⟩
          unfold wp_X1_hasRoomFor
          rw [hsz, l40, z_sub hn, l1, z_lt (by omega) (by omega)]
          refine ⟨fun q => ⟨fun _ => ?_, fun c => absurd rfl c⟩, fun q => ⟨fun c => absurd c (by decide), fun _ => ?_⟩⟩
          · refine m_inY (lo := 0) (hi := 5) (by omega) ht0 ht ⟨fun c => absurd c (by decide), fun _ => m_inY (lo := 0) (hi := 9999) (by omega) hh0 hh1 ⟨fun c => absurd c (by decide), fun _ => m_inY (lo := 1) (hi := 999) (by omega) w0 w1 ⟨fun c => absurd c (by decide), fun _ => m_inY (lo := 0) (hi := 100) (by omega) e0 e1 ⟨fun c => absurd c (by decide), fun _ => ?_⟩⟩⟩⟩
            rw [z_eq (by omega) (by omega)]
            refine ⟨fun _ => ⟨rfl, by rw [hsz] at same; exact same⟩, fun c => absurd (by omega) c⟩
          · rw [hsz] at hC
            refine s_record hHc hA hC (fun old sz n0 f0 g0 t0 n1 f1 g1 t1 n2 f2 g2 t2 n3 f3 g3 t3 hH2 => ?_)
            refine s_append (e := 0) hC.1 (by omega) (fun f' hf' => ?_)
            unfold wp_X1_size
            refine m_inY (lo := 0) (hi := 5) (by omega) ht0 ht ⟨fun c => absurd c (by decide), fun _ => m_inY (lo := 0) (hi := 9999) (by omega) hh0 hh1 ⟨fun c => absurd c (by decide), fun _ => m_inY (lo := 1) (hi := 999) (by omega) w0 w1 ⟨fun c => absurd c (by decide), fun _ => m_inY (lo := 0) (hi := 100) (by omega) e0 e1 ⟨fun c => absurd c (by decide), fun _ => ?_⟩⟩⟩⟩
            rw [z_eq (by omega) (by omega)]
            refine ⟨fun c => absurd c (by omega), fun _ => m_record hHm hA hM (fun states before hHm2 => ?_)⟩
            refine m_write (e := 0) hM (by omega) (fun s2 hM2 _ => ?_)
            have es : s2 ((0 : Int32)).toNatClampNeg = nI (n + 1) := hM2.1
            rw [es]
            exact ⟨rfl, (n + 1, num5 num n t hh w e 0, row, st), b, _, _, len, T, ⟨num5_ok hA.1 ⟨ht, hh1, w0, w1, e1, by omega⟩, rowOk_up hA.2.1 (by omega) (by omega), hA.2.2⟩, ⟨hf', hC.2.1, hC.2.2⟩, hM2, hK, hH2, hHm2, hT1, hT2, hl1, hl2⟩
        · refine s_mayBeN (kind := 3) (lo := 0) (hi := 100) (by omega) rfl rfl hx ⟨fun _ => ?_, fun c => absurd rfl c⟩
          exact m_inY (lo := 0) (hi := 5) (by omega) ht0 ht ⟨fun c => absurd c (by decide), fun _ => m_inY (lo := 0) (hi := 9999) (by omega) hh0 hh1 ⟨fun c => absurd c (by decide), fun _ => m_inY (lo := 1) (hi := 999) (by omega) w0 w1 ⟨fun c => absurd c (by decide), fun _ => m_inN hx ⟨fun _ => ⟨rfl, same⟩, fun c => absurd rfl c⟩⟩⟩⟩
      · refine s_mayBeN (kind := 2) (lo := 1) (hi := 999) (by omega) rfl rfl hx ⟨fun _ => ?_, fun c => absurd rfl c⟩
        exact m_inY (lo := 0) (hi := 5) (by omega) ht0 ht ⟨fun c => absurd c (by decide), fun _ => m_inY (lo := 0) (hi := 9999) (by omega) hh0 hh1 ⟨fun c => absurd c (by decide), fun _ => m_inN hx ⟨fun _ => ⟨rfl, same⟩, fun c => absurd rfl c⟩⟩⟩
    · refine s_mayBeN (kind := 1) (lo := 0) (hi := 9999) (by omega) rfl rfl hx ⟨fun _ => ?_, fun c => absurd rfl c⟩
      exact m_inY (lo := 0) (hi := 5) (by omega) ht0 ht ⟨fun c => absurd c (by decide), fun _ => m_inN hx ⟨fun _ => ⟨rfl, same⟩, fun c => absurd rfl c⟩⟩
  · refine s_isThreadN hx ⟨fun _ => ?_, fun c => absurd rfl c⟩
    exact m_inN hx ⟨fun _ => ⟨rfl, same⟩, fun c => absurd rfl c⟩
