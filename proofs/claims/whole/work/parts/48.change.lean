/-! changing a card -/
section
variable {n : Nat} {num : Nat → Nat → Nat} {row : Nat → List Nat} {st : Nat → Nat} {s : Nat → Int32}
theorem m_isCardY {post : Int32 → Prop} {j : Nat} (hM : RM n num row st s) (hn : n ≤ 40) (hj : j < n) (h : post 1) : wp_X9_isCard (nI j) s post := by
  have hs0 : s ((0 : Int32)).toNatClampNeg = nI n := hM.1
  unfold wp_X9_isCard
  rw [hs0, l1, z_sub (by omega)]
  exact m_inY (lo := 0) (hi := n - 1) (by omega) (by omega) (by omega) ⟨Or.inr rfl, h⟩
theorem m_isCardN {post : Int32 → Prop} {x : Int32} (hM : RM n num row st s) (hn : n ≤ 40) (hx : x < nI 0 ∨ (¬ x < nI 0 ∧ nI n ≤ x)) (h : post 0) : wp_X9_isCard x s post := by
  have hs0 : s ((0 : Int32)).toNatClampNeg = nI n := hM.1
  unfold wp_X9_isCard wp_X9_in
  rw [hs0]
  refine ⟨fun _ => ⟨Or.inl rfl, h⟩, fun q => ⟨fun _ => ⟨Or.inl rfl, h⟩, fun q2 => ?_⟩⟩
  rcases hx with c | c
  · exact absurd c q
  · refine absurd ?_ q2
    have c2 := c.2
    rw [Int32.le_iff_toInt_le, z_toInt (by omega)] at c2
    rw [l1, Int32.lt_iff_toInt_lt, z_toIntSub (by omega) (by omega)]
    show (n : Int) - 1 < x.toInt
    omega
def kindR (k lo hi : Nat) : Prop := (k = 0 ∧ lo = 0 ∧ hi = 9999) ∨ (k = 1 ∧ lo = 1 ∧ hi = 999) ∨ (k = 2 ∧ lo = 0 ∧ hi = 100) ∨ (k = 3 ∧ lo = 0 ∧ hi = 1)
theorem kindR_ex {k : Nat} (hk : k < 4) : ∃ lo hi, kindR k lo hi ∧ lo ≤ hi ∧ hi ≤ 9999 ∧ gLEAST (k + 1) = nI lo ∧ gMOST (k + 1) = nI hi := by
  rcases (show k = 0 ∨ k = 1 ∨ k = 2 ∨ k = 3 by omega) with rfl | rfl | rfl | rfl
  · exact ⟨0, 9999, Or.inl ⟨rfl, rfl, rfl⟩, by omega, by omega, rfl, rfl⟩
  · exact ⟨1, 999, Or.inr (Or.inl ⟨rfl, rfl, rfl⟩), by omega, by omega, rfl, rfl⟩
  · exact ⟨0, 100, Or.inr (Or.inr (Or.inl ⟨rfl, rfl, rfl⟩)), by omega, by omega, rfl, rfl⟩
  · exact ⟨0, 1, Or.inr (Or.inr (Or.inr ⟨rfl, rfl, rfl⟩)), by omega, by omega, rfl, rfl⟩
theorem m_isValueY {post : Int32 → Prop} {k v lo hi : Nat} (hK : kindR k lo hi) (h1 : lo ≤ v) (h2 : v ≤ hi) (h : post 1) : wp_X9_isValue (nI k) (nI v) post := by
  unfold wp_X9_isValue
  rcases hK with ⟨rfl, rfl, rfl⟩ | ⟨rfl, rfl, rfl⟩ | ⟨rfl, rfl, rfl⟩ | ⟨rfl, rfl, rfl⟩
  · exact ⟨fun _ => m_inY (lo := 0) (hi := 9999) (by omega) h1 h2 ⟨Or.inr rfl, h⟩, fun c => absurd rfl c⟩
  · exact ⟨fun c => absurd c (by decide), fun _ => ⟨fun _ => m_inY (lo := 1) (hi := 999) (by omega) h1 h2 ⟨Or.inr rfl, h⟩, fun c => absurd rfl c⟩⟩
  · exact ⟨fun c => absurd c (by decide), fun _ => ⟨fun c => absurd c (by decide), fun _ => ⟨fun _ => m_inY (lo := 0) (hi := 100) (by omega) h1 h2 ⟨Or.inr rfl, h⟩, fun c => absurd rfl c⟩⟩⟩
  · exact ⟨fun c => absurd c (by decide), fun _ => ⟨fun c => absurd c (by decide), fun _ => ⟨fun c => absurd c (by decide), fun _ => ⟨fun _ => m_inY (lo := 0) (hi := 1) (by omega) h1 h2 ⟨fun c => absurd c (by decide), fun _ => h⟩, fun c => absurd rfl c⟩⟩⟩⟩
theorem m_isValueN {post : Int32 → Prop} {k lo hi : Nat} {x : Int32} (hK : kindR k lo hi) (hx : x < nI lo ∨ (¬ x < nI lo ∧ nI hi < x)) (h : post 0) : wp_X9_isValue (nI k) x post := by
  unfold wp_X9_isValue
  rcases hK with ⟨rfl, rfl, rfl⟩ | ⟨rfl, rfl, rfl⟩ | ⟨rfl, rfl, rfl⟩ | ⟨rfl, rfl, rfl⟩
  · exact ⟨fun _ => m_inN hx ⟨Or.inl rfl, h⟩, fun c => absurd rfl c⟩
  · exact ⟨fun c => absurd c (by decide), fun _ => ⟨fun _ => m_inN hx ⟨Or.inl rfl, h⟩, fun c => absurd rfl c⟩⟩
  · exact ⟨fun c => absurd c (by decide), fun _ => ⟨fun c => absurd c (by decide), fun _ => ⟨fun _ => m_inN hx ⟨Or.inl rfl, h⟩, fun c => absurd rfl c⟩⟩⟩
  · exact ⟨fun c => absurd c (by decide), fun _ => ⟨fun c => absurd c (by decide), fun _ => ⟨fun c => absurd c (by decide), fun _ => ⟨fun _ => m_inN hx ⟨fun _ => h, fun c => absurd rfl c⟩, fun c => absurd rfl c⟩⟩⟩⟩
theorem m_isValueX {post : Int32 → Prop} {x y : Int32} (hx : x < nI 0 ∨ (¬ x < nI 0 ∧ nI 4 ≤ x)) (h : post 0) : wp_X9_isValue x y post := by
  have ne : ∀ k, k < 4 → ¬ x = nI k := by
    intro k hk
    rcases hx with c | c
    · exact (z_neg c (by omega)).2.2.2.2.1
    · exact (z_big (by omega) c.2 hk).2.2.2.2.1
  unfold wp_X9_isValue
  exact ⟨fun c => absurd c (ne 0 (by omega)), fun _ => ⟨fun c => absurd c (ne 1 (by omega)), fun _ => ⟨fun c => absurd c (ne 2 (by omega)), fun _ => ⟨fun c => absurd c (ne 3 (by omega)), fun _ => h⟩⟩⟩⟩
end
def chg (num : Nat → Nat → Nat) (j k v : Nat) : Nat → Nat → Nat := fun c i => if c = j ∧ i = k then v else num c i
theorem chg_ok {n : Nat} {num : Nat → Nat → Nat} {j k v lo hi : Nat} (hN : numOk n num) (hK : kindR k lo hi) (h1 : lo ≤ v) (h2 : v ≤ hi) : numOk n (chg num j (k + 1) v) := by
  intro c hc
  have := hN c hc
  unfold chg
  by_cases hcj : c = j
  · rcases hK with ⟨rfl, rfl, rfl⟩ | ⟨rfl, rfl, rfl⟩ | ⟨rfl, rfl, rfl⟩ | ⟨rfl, rfl, rfl⟩ <;> simp [hcj] <;> subst hcj <;> omega
  · simp [hcj]; exact this
theorem sim_change : gSim_change simR := by
  intro y1 y2 y3 xv_kept xv_now_cards_size xv_now_cards_numbers xv_now_wall_slots xv_now_settings xv_snapshot_cards_size xv_snapshot_cards_numbers xv_snapshot_wall_slots xv_snapshot_settings xv_history_oldest xv_history_size xv_history_states_0_cards_size xv_history_states_0_cards_numbers xv_history_states_0_wall_slots xv_history_states_0_settings xv_history_states_1_cards_size xv_history_states_1_cards_numbers xv_history_states_1_wall_slots xv_history_states_1_settings xv_history_states_2_cards_size xv_history_states_2_cards_numbers xv_history_states_2_wall_slots xv_history_states_2_settings xv_history_states_3_cards_size xv_history_states_3_cards_numbers xv_history_states_3_wall_slots xv_history_states_3_settings xv_text_length xv_text_position xv_text_faulty xv_text_signs xv_text_cards_size xv_text_cards_numbers xv_trial_slots xv_reading_mostScenesWithout xv_reading_mostHoursWithout xv_reading_size xv_reading_cards_size xv_reading_cards_numbers xv_reading_names xv_reading_slots xv_reading_ahead xv_reading_straightAhead xv_reading_last xv_reading_lastStraight xv_straightRow_size xv_straightRow_ranks xv_straightRow_cards xv_straightRow_hours xv_straightRow_slots xv_straightRow_sorted xv_straightRow_longest xv_tensions_values xv_tensions_climbs mv_onWall mv_straightMany mv_length mv_states mv_isKept mv_at mv_cards mv_s mv_before mv_kept mv_aside mv_order mv_rank mv_straight mv_sorted mv_longest mv_read mv_text hsim
  obtain ⟨a, b, hist, h, len, T, hA, hC, hM, hK, hHc, hHm, hT1, hT2, hl1, hl2⟩ := hsim
  have same : simR xv_kept xv_now_cards_size xv_now_cards_numbers xv_now_wall_slots xv_now_settings xv_snapshot_cards_size xv_snapshot_cards_numbers xv_snapshot_wall_slots xv_snapshot_settings xv_history_oldest xv_history_size xv_history_states_0_cards_size xv_history_states_0_cards_numbers xv_history_states_0_wall_slots xv_history_states_0_settings xv_history_states_1_cards_size xv_history_states_1_cards_numbers xv_history_states_1_wall_slots xv_history_states_1_settings xv_history_states_2_cards_size xv_history_states_2_cards_numbers xv_history_states_2_wall_slots xv_history_states_2_settings xv_history_states_3_cards_size xv_history_states_3_cards_numbers xv_history_states_3_wall_slots xv_history_states_3_settings xv_text_length xv_text_position xv_text_faulty xv_text_signs xv_text_cards_size xv_text_cards_numbers xv_trial_slots xv_reading_mostScenesWithout xv_reading_mostHoursWithout xv_reading_size xv_reading_cards_size xv_reading_cards_numbers xv_reading_names xv_reading_slots xv_reading_ahead xv_reading_straightAhead xv_reading_last xv_reading_lastStraight xv_straightRow_size xv_straightRow_ranks xv_straightRow_cards xv_straightRow_hours xv_straightRow_slots xv_straightRow_sorted xv_straightRow_longest xv_tensions_values xv_tensions_climbs mv_onWall mv_straightMany mv_length mv_states mv_isKept mv_at mv_cards mv_s mv_before mv_kept mv_aside mv_order mv_rank mv_straight mv_sorted mv_longest mv_read mv_text := ⟨a, b, hist, h, len, T, hA, hC, hM, hK, hHc, hHm, hT1, hT2, hl1, hl2⟩
  obtain ⟨n, num, row, st⟩ := a
  have hn : n ≤ 40 := hA.2.1.2.2.2
  have hsz : xv_now_cards_size = nI n := hC.1.1
  unfold wp_X8_change
  rw [hsz] at hC same ⊢
  rcases z_cases y1 n (by omega) with c | c | ⟨j, hj, rfl⟩
  · exact s_has_no hn (Or.inl c) ⟨fun _ => m_isCardN hM hn (Or.inl c) ⟨fun _ => ⟨rfl, same⟩, fun c => absurd rfl c⟩, fun c => absurd rfl c⟩
  · exact s_has_no hn (Or.inr c.2) ⟨fun _ => m_isCardN hM hn (Or.inr c) ⟨fun _ => ⟨rfl, same⟩, fun c => absurd rfl c⟩, fun c => absurd rfl c⟩
  · refine s_has hn hj ⟨fun c => absurd c (by decide), fun _ => ?_⟩
    rcases z_cases y2 4 (by omega) with c | c | ⟨k, hk, rfl⟩
    · exact ⟨fun _ => m_isCardY hM hn hj ⟨fun c => absurd c (by decide), fun _ => m_isValueX (Or.inl c) ⟨fun _ => ⟨rfl, same⟩, fun c => absurd rfl c⟩⟩, fun c2 => absurd c c2⟩
    · refine ⟨fun c2 => absurd c2 c.1, fun _ => ⟨fun c2 => ?_, fun _ => m_isCardY hM hn hj ⟨fun c => absurd c (by decide), fun _ => m_isValueX (Or.inr c) ⟨fun _ => ⟨rfl, same⟩, fun c => absurd rfl c⟩⟩⟩⟩
      have c3 := c.2
      rw [Int32.le_iff_toInt_le, z_toInt (by omega)] at c3
      rw [l4, Int32.lt_iff_toInt_lt, z_toInt (by omega)] at c2
      omega
    · obtain ⟨lo, hi, hK2, hlh, hhi, g1, g2⟩ := kindR_ex hk
      refine ⟨fun c => absurd c (by rw [show (0 : Int32) = nI 0 from rfl, z_lt (by omega) (by omega)]; omega), fun _ => ⟨fun _ => ?_, fun c => absurd (by rw [l4, z_lt (by omega) (by omega)]; omega) c⟩⟩
      have ek : nI k + (1 : Int32) = nI (k + 1) := by rw [l1, z_add]
      have ek2 : (1 : Int32) + nI k = nI (k + 1) := by rw [l1, z_add, Nat.add_comm]
      rw [ek]
      rcases rng (x := y3) (lo := lo) (hi := hi) (by omega) hlh with ⟨v, rfl, v0, v1⟩ | hx
      · refine s_mayBeY (kind := k + 1) (lo := lo) (hi := hi) (by omega) (by omega) g1 g2 v0 v1 ⟨fun c => absurd c (by decide), fun _ => ?_⟩
        refine s_number (k := k + 1) hC.1 hn hj (by omega) ?_
        have hb := numB hA.1 hj (k + 1) (by omega)
        have mgo : ∀ (po : Int32 → Int32 → (Nat → Int32) → (Nat → Int32) → Prop), (num j (k + 1) = v → po (-5) mv_states mv_s mv_before) → (¬ num j (k + 1) = v → ∀ states s2 before, RM n (chg num j (k + 1) v) row st s2 → RHm (recH hist h (n, num, row, st)) (recN h) states before → po (nI (num j (k + 1))) states s2 before) → wp_X9_change (nI j) (nI k) (nI v) mv_states mv_s mv_before po := by
          intro po p1 p2
          unfold wp_X9_change
          refine m_isCardY hM hn hj ⟨fun c => absurd c (by decide), fun _ => m_isValueY hK2 v0 v1 ⟨fun c => absurd c (by decide), fun _ => ?_⟩⟩
          rw [ek2]
          refine m_of (k := k + 1) hM hn hj (by omega) ?_
          rw [z_eq (by omega) (by omega)]
          refine ⟨fun q => p1 q, fun q => m_record hHm hA hM (fun states before hHm2 => ?_)⟩
          have ei : (4 : Int32) + (5 : Int32) * nI j + (1 : Int32) + nI k = nI (4 + 5 * j + 1 + k) := by rw [l4, l5, z_mul, z_add, l1, z_add, z_add]
          rw [ei, z_cl (by omega)]
          refine ⟨(z_in (by omega)).mpr (by omega), p2 q _ _ _ ⟨?_, fun i hi => ?_, fun c hc i hi => ?_, fun sc hsc => ⟨?_, fun p hp => ?_⟩⟩ hHm2⟩
          · rw [z_up_n (by omega)]; exact hM.1
          · rw [z_up_n (by omega)]; exact hM.2.1 i hi
          · rw [z_up]
            unfold chg
            by_cases he : c = j ∧ i = k + 1
            · rw [if_pos he, if_pos (by omega)]
            · rw [if_neg he, if_neg (by omega)]; exact hM.2.2.1 c hc i hi
          · rw [z_up_n (by omega)]; exact (hM.2.2.2 sc hsc).1
          · rw [z_up_n (by omega)]; exact (hM.2.2.2 sc hsc).2 p hp
        rw [z_eq (by omega) (by omega)]
        refine ⟨fun q => mgo _ (fun _ => ⟨rfl, same⟩) (fun c => absurd q c), fun q => ?_⟩
        refine s_record hHc hA hC (fun old sz n0 f0 g0 t0 n1 f1 g1 t1 n2 f2 g2 t2 n3 f3 g3 t3 hH2 => ?_)
        refine s_put hn hj (by omega) ?_
        refine mgo _ (fun c => absurd c q) (fun _ states s2 before hM2 hHm2 => ?_)
        refine ⟨rfl, (n, chg num j (k + 1) v, row, st), b, _, _, len, T, ⟨chg_ok hA.1 hK2 v0 v1, hA.2⟩, ⟨⟨rfl, fun c hc i hi => ?_⟩, hC.2⟩, hM2, hK, hH2, hHm2, hT1, hT2, hl1, hl2⟩
        show upd _ _ _ _ = nI (chg num j (k + 1) v c i)
        rw [z_up]
        unfold chg
        by_cases he : c = j ∧ i = k + 1
        · rw [if_pos he, if_pos (by omega)]
        · rw [if_neg he, if_neg (by omega)]; exact hC.1.2 c hc i hi
      · refine s_mayBeN (kind := k + 1) (lo := lo) (hi := hi) (by omega) g1 g2 hx ⟨fun _ => ?_, fun c => absurd rfl c⟩
        exact m_isCardY hM hn hj ⟨fun c => absurd c (by decide), fun _ => m_isValueN hK2 hx ⟨fun _ => ⟨rfl, same⟩, fun c => absurd rfl c⟩⟩
