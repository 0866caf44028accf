/-! scenes exchanged, put in and taken out -/
theorem z_eq0 {a : Nat} (h : a < 2147483648) : (nI a = (0 : Int32)) ↔ a = 0 := by rw [l0]; exact z_eq h (by omega)
theorem z_le0 {a : Nat} (h : a < 2147483648) : (nI a ≤ (0 : Int32)) ↔ a = 0 := by rw [l0, z_le h (by omega)]; omega
section
variable {n : Nat} {num : Nat → Nat → Nat} {row : Nat → List Nat} {st : Nat → Nat} {s : Nat → Int32}
theorem RM_rows {row2 : Nat → List Nat} (h : RM n num row st s) (he : ∀ k, k < 16 → row2 k = row k) : RM n num row2 st s := ⟨h.1, h.2.1, h.2.2.1, fun k hk => by rw [he k hk]; exact h.2.2.2 k hk⟩
theorem m_swap61 {w sm states : Int32} {before order rank straight : Nat → Int32} {a b : Nat} {post : Int32 → Int32 → Int32 → Int32 → (Nat → Int32) → (Nat → Int32) → (Nat → Int32) → (Nat → Int32) → (Nat → Int32) → Prop} (hM : RM n num row st s) (hO : rowOk n row) (hN : numOk n num) (ha : a < 16) (hb : b < 16) (hab : a ≠ b) (h : ∀ w sm s2 order rank straight, RM n num (xRow row a b) st s2 → post (nI (tallyF num st (pre (xRow row a b) 96) 12 none none)) w sm states s2 before order rank straight) : wp_X9_swapScenes_l61 (nI a) (nI b) 0 w sm states s before order rank straight post := by
  have hn := hO.2.2.2
  unfold wp_X9_swapScenes_l61
  refine lf2_i (fun x3 s2 => ∃ k, k ≤ 7 ∧ x3 = nI k ∧ ∀ i, i < 316 → s2 i = if 204 + 7 * a ≤ i ∧ i < 204 + 7 * a + k then s (i - (204 + 7 * a) + (204 + 7 * b)) else if 204 + 7 * b ≤ i ∧ i < 204 + 7 * b + k then s (i - (204 + 7 * b) + (204 + 7 * a)) else s i) (fun x3 _ => 7 - x3.toNatClampNeg) ⟨0, by omega, rfl, fun i _ => by rw [if_neg (by omega), if_neg (by omega)]⟩ ?_
  rintro x3 s2 ⟨k, hk, rfl, hs⟩
  refine ⟨fun hx => ?_, fun hx => ?_⟩
  · have hk7 : k = 7 := by simp (disch := omega) only [l7, z_le] at hx; omega
    subst hk7
    have g : ∀ sc, sc < 16 → ∀ j, j < 7 → s2 (204 + 7 * sc + j) = s (204 + 7 * (if sc = a then b else if sc = b then a else sc) + j) := by
      intro sc hsc j hj
      rw [hs _ (by omega)]
      by_cases h1 : sc = a
      · subst h1; rw [if_pos (by omega), if_pos rfl]; congr 1; omega
      · rw [if_neg (by omega), if_neg h1]
        by_cases h2 : sc = b
        · subst h2; rw [if_pos (by omega), if_pos rfl]; congr 1; omega
        · rw [if_neg (by omega), if_neg h2]
    have hx2 : ∀ sc, xRow row a b sc = row (if sc = a then b else if sc = b then a else sc) := by
      intro sc; rw [x_perm]; rfl
    have hlow : ∀ i, i < 204 → s2 i = s i := fun i hi => by rw [hs _ (by omega), if_neg (by omega), if_neg (by omega)]
    have hM2 : RM n num (xRow row a b) st s2 := by
      refine ⟨by rw [hlow 0 (by omega)]; exact hM.1, fun i hi => by rw [hlow _ (by omega)]; exact hM.2.1 i hi, fun c hc j hj => by rw [hlow _ (by omega)]; exact hM.2.2.1 c hc j hj, fun sc hsc => ?_⟩
      have gs := g sc hsc
      rw [hx2]
      have hq : (if sc = a then b else if sc = b then a else sc) < 16 := by split <;> (try split) <;> omega
      generalize (if sc = a then b else if sc = b then a else sc) = q at gs hq ⊢
      have hm := hM.2.2.2 q hq
      have h6 := hO.1 q
      refine ⟨?_, fun p hp => ?_⟩
      · have e := gs 0 (by omega)
        rw [Nat.add_zero, Nat.add_zero] at e
        rw [e]; exact hm.1
      · have e := gs (1 + p) (by omega)
        rw [← Nat.add_assoc, ← Nat.add_assoc] at e
        rw [e]; exact hm.2 p hp
    exact m_allBreaks hM2 (x_ok hO ha hb) hN (fun w sm order rank straight => h _ _ _ _ _ _ hM2)
  · have hk7 : k < 7 := by simp (disch := omega) only [l7, z_le] at hx; omega
    have hin : ∀ c, c < 16 → vp_in (nI (204 + 7 * c) + nI k) 316 := fun c hc => by rw [z_add]; exact (z_in (by omega)).mpr (by omega)
    refine m_row ⟨hin a ha, m_row (m_row ⟨hin b hb, hin a ha, m_row ⟨hin b hb, ?_⟩⟩)⟩
    simp (disch := omega) only [l1, z_add, z_cl]
    have e1 : s2 (204 + 7 * b + k) = s (204 + 7 * b + k) := by rw [hs _ (by omega), if_neg (by omega), if_neg (by omega)]
    have e2 : s2 (204 + 7 * a + k) = s (204 + 7 * a + k) := by rw [hs _ (by omega), if_neg (by omega), if_neg (by omega)]
    refine ⟨⟨k + 1, by omega, rfl, fun i hi => ?_⟩, by omega⟩
    rw [z_up, z_up, e1, e2]
    by_cases c1 : i = 204 + 7 * b + k
    · rw [if_pos c1, if_neg (by omega), if_pos (by omega)]; congr 1; omega
    · rw [if_neg c1]
      by_cases c2 : i = 204 + 7 * a + k
      · rw [if_pos c2, if_pos (by omega)]; congr 1; omega
      · rw [if_neg c2, hs i hi]
        by_cases c3 : 204 + 7 * a ≤ i ∧ i < 204 + 7 * a + k
        · rw [if_pos c3, if_pos (by omega)]
        · rw [if_neg c3]
          by_cases c4 : 204 + 7 * b ≤ i ∧ i < 204 + 7 * b + k
          · rw [if_pos c4, if_neg (by omega), if_pos (by omega)]
          · rw [if_neg c4, if_neg (by omega), if_neg (by omega)]
/-- a row made empty -/
theorem m_empty {sc : Nat} (hM : RM n num row st s) (hn : n ≤ 40) (h6 : ∀ k, (row k).length ≤ 6) (hsc : sc < 16) : RM n num (fun k => if k = sc then [] else row k) st (upd s (204 + 7 * sc) 0) := by
  refine RM_row hM hn h6 hsc (fun i hi ho => z_up_n (by omega)) ?_ (fun p hp => ?_) (fun j hj => if_neg hj)
  · show _ = nI (if sc = sc then ([] : List Nat) else row sc).length
    rw [if_pos rfl, z_up_s]; rfl
  · have e : (if sc = sc then ([] : List Nat) else row sc) = [] := if_pos rfl
    rw [e] at hp; exact absurd hp (Nat.not_lt_zero _)
end
theorem sim_swapScenes : gSim_swapScenes simR := by
  intro y1 y2 xv_kept xv_now_cards_size xv_now_cards_numbers xv_now_wall_slots xv_now_settings xv_snapshot_cards_size xv_snapshot_cards_numbers xv_snapshot_wall_slots xv_snapshot_settings xv_history_oldest xv_history_size xv_history_states_0_cards_size xv_history_states_0_cards_numbers xv_history_states_0_wall_slots xv_history_states_0_settings xv_history_states_1_cards_size xv_history_states_1_cards_numbers xv_history_states_1_wall_slots xv_history_states_1_settings xv_history_states_2_cards_size xv_history_states_2_cards_numbers xv_history_states_2_wall_slots xv_history_states_2_settings xv_history_states_3_cards_size xv_history_states_3_cards_numbers xv_history_states_3_wall_slots xv_history_states_3_settings xv_text_length xv_text_position xv_text_faulty xv_text_signs xv_text_cards_size xv_text_cards_numbers xv_trial_slots xv_reading_mostScenesWithout xv_reading_mostHoursWithout xv_reading_size xv_reading_cards_size xv_reading_cards_numbers xv_reading_names xv_reading_slots xv_reading_ahead xv_reading_straightAhead xv_reading_last xv_reading_lastStraight xv_straightRow_size xv_straightRow_ranks xv_straightRow_cards xv_straightRow_hours xv_straightRow_slots xv_straightRow_sorted xv_straightRow_longest xv_tensions_values xv_tensions_climbs mv_onWall mv_straightMany mv_length mv_states mv_isKept mv_at mv_cards mv_s mv_before mv_kept mv_aside mv_order mv_rank mv_straight mv_sorted mv_longest mv_read mv_text hsim
  obtain ⟨a, b, hist, h, len, T, hA, hC, hM, hK, hHc, hHm, hT1, hT2, hl1, hl2⟩ := hsim
  have same : simR xv_kept xv_now_cards_size xv_now_cards_numbers xv_now_wall_slots xv_now_settings xv_snapshot_cards_size xv_snapshot_cards_numbers xv_snapshot_wall_slots xv_snapshot_settings xv_history_oldest xv_history_size xv_history_states_0_cards_size xv_history_states_0_cards_numbers xv_history_states_0_wall_slots xv_history_states_0_settings xv_history_states_1_cards_size xv_history_states_1_cards_numbers xv_history_states_1_wall_slots xv_history_states_1_settings xv_history_states_2_cards_size xv_history_states_2_cards_numbers xv_history_states_2_wall_slots xv_history_states_2_settings xv_history_states_3_cards_size xv_history_states_3_cards_numbers xv_history_states_3_wall_slots xv_history_states_3_settings xv_text_length xv_text_position xv_text_faulty xv_text_signs xv_text_cards_size xv_text_cards_numbers xv_trial_slots xv_reading_mostScenesWithout xv_reading_mostHoursWithout xv_reading_size xv_reading_cards_size xv_reading_cards_numbers xv_reading_names xv_reading_slots xv_reading_ahead xv_reading_straightAhead xv_reading_last xv_reading_lastStraight xv_straightRow_size xv_straightRow_ranks xv_straightRow_cards xv_straightRow_hours xv_straightRow_slots xv_straightRow_sorted xv_straightRow_longest xv_tensions_values xv_tensions_climbs mv_onWall mv_straightMany mv_length mv_states mv_isKept mv_at mv_cards mv_s mv_before mv_kept mv_aside mv_order mv_rank mv_straight mv_sorted mv_longest mv_read mv_text := ⟨a, b, hist, h, len, T, hA, hC, hM, hK, hHc, hHm, hT1, hT2, hl1, hl2⟩
  obtain ⟨n, num, row, st⟩ := a
  have hN : numOk n num := hA.1
  have hO : rowOk n row := hA.2.1
  have hn : n ≤ 40 := hO.2.2.2
  have hS : setOk st := hA.2.2
  replace hM : RM n num row st mv_s := hM
  replace hC : RCd n num xv_now_cards_size xv_now_cards_numbers ∧ RW row xv_now_wall_slots ∧ RS st xv_now_settings := hC
  unfold wp_X8_swapScenes
  rcases rng (x := y1) (lo := 0) (hi := 15) (by omega) (by omega) with ⟨p, rfl, _, hp⟩ | hx
  · have hp16 : p < 16 := by omega
    refine s_isSceneY hp16 ⟨fun c => absurd c (by decide), fun _ => ?_⟩
    rcases rng (x := y2) (lo := 0) (hi := 15) (by omega) (by omega) with ⟨q, rfl, _, hq⟩ | hx
    · have hq16 : q < 16 := by omega
      refine s_isSceneY hq16 ⟨fun c => absurd c (by decide), fun _ => ?_⟩
      by_cases hpq : p = q
      · subst hpq
        refine ⟨fun _ => ?_, fun c => absurd rfl c⟩
        unfold wp_X9_swapScenes
        exact m_inY (lo := 0) (hi := 15) (by omega) (by omega) hp ⟨fun c => absurd c (by decide), fun _ => m_inY (lo := 0) (hi := 15) (by omega) (by omega) hp ⟨fun c => absurd c (by decide), fun _ => ⟨fun _ => ⟨rfl, same⟩, fun c => absurd rfl c⟩⟩⟩
      · have hne : ¬ nI p = nI q := by rw [z_eq (by omega) (by omega)]; exact hpq
        refine ⟨fun c => absurd c hne, fun _ => ?_⟩
        have h6p := hO.1 p
        have h6q := hO.1 q
        have elen : ∀ z : Int32, z = 0 → ((mv_s (nI (204 + 7 * p)).toNatClampNeg + mv_s (nI (204 + 7 * q)).toNatClampNeg = z) ↔ (row p).length + (row q).length = 0) := by
          intro z hz
          rw [hz, m_len hM hp16, m_len hM hq16, z_add]; exact z_eq0 (by omega)
        refine s_sizeOf (row := row) hC.2.1 hO hp16 ?_
        rw [z_eq0 (by omega)]
        refine ⟨fun z1 => ?_, fun z1 => ?_⟩
        · refine s_sizeOf (row := row) hC.2.1 hO hq16 ?_
          rw [z_eq0 (by omega)]
          refine ⟨fun z2 => ?_, fun z2 => ?_⟩
          · unfold wp_X9_swapScenes
            refine m_inY (lo := 0) (hi := 15) (by omega) (by omega) hp ⟨fun c => absurd c (by decide), fun _ => m_inY (lo := 0) (hi := 15) (by omega) (by omega) hq ⟨fun c => absurd c (by decide), fun _ => ⟨fun c => absurd c hne, fun _ => m_row ⟨in_row hp16, m_row ⟨in_row hq16, ?_⟩⟩⟩⟩⟩
            rw [elen _ rfl]
            exact ⟨fun _ => ⟨rfl, same⟩, fun c => absurd (by omega) c⟩
          · unfold wp_X8_swapScenes_j55
            refine s_record hHc hA hC (fun old sz n0 f0 g0 t0 n1 f1 g1 t1 n2 f2 g2 t2 n3 f3 g3 t3 hH2 => ?_)
            refine s_exchangeScenes (row := row) hC.2.1 hp16 hq16 hpq (fun g' hg' => ?_)
            have hO2 : rowOk n (xRow row p q) := x_ok hO hp16 hq16
            refine s_breaksNow (t := none) hC.1 hN hC.2.2 hS hg' hO2 (fun u hu => by cases hu) (fun x y size csize cnum names slots ahead sAhead last lastS => ?_)
            unfold wp_X9_swapScenes
            refine m_inY (lo := 0) (hi := 15) (by omega) (by omega) hp ⟨fun c => absurd c (by decide), fun _ => m_inY (lo := 0) (hi := 15) (by omega) (by omega) hq ⟨fun c => absurd c (by decide), fun _ => ⟨fun c => absurd c hne, fun _ => m_row ⟨in_row hp16, m_row ⟨in_row hq16, ?_⟩⟩⟩⟩⟩
            rw [elen _ rfl]
            refine ⟨fun c => absurd c (by omega), fun _ => ?_⟩
            refine m_record hHm hA hM (fun states before hHm2 => ?_)
            refine m_swap61 hM hO hN hp16 hq16 hpq (fun w sm s2 order rank straight hM2 => ?_)
            exact ⟨rfl, (n, num, xRow row p q, st), b, _, _, len, T, ⟨hN, hO2, hS⟩, ⟨hC.1, hg', hC.2.2⟩, hM2, hK, hH2, hHm2, hT1, hT2, hl1, hl2⟩
        · unfold wp_X8_swapScenes_j55
          refine s_record hHc hA hC (fun old sz n0 f0 g0 t0 n1 f1 g1 t1 n2 f2 g2 t2 n3 f3 g3 t3 hH2 => ?_)
          refine s_exchangeScenes (row := row) hC.2.1 hp16 hq16 hpq (fun g' hg' => ?_)
          have hO2 : rowOk n (xRow row p q) := x_ok hO hp16 hq16
          refine s_breaksNow (t := none) hC.1 hN hC.2.2 hS hg' hO2 (fun u hu => by cases hu) (fun x y size csize cnum names slots ahead sAhead last lastS => ?_)
          unfold wp_X9_swapScenes
          refine m_inY (lo := 0) (hi := 15) (by omega) (by omega) hp ⟨fun c => absurd c (by decide), fun _ => m_inY (lo := 0) (hi := 15) (by omega) (by omega) hq ⟨fun c => absurd c (by decide), fun _ => ⟨fun c => absurd c hne, fun _ => m_row ⟨in_row hp16, m_row ⟨in_row hq16, ?_⟩⟩⟩⟩⟩
          rw [elen _ rfl]
          refine ⟨fun c => absurd c (by omega), fun _ => ?_⟩
          refine m_record hHm hA hM (fun states before hHm2 => ?_)
          refine m_swap61 hM hO hN hp16 hq16 hpq (fun w sm s2 order rank straight hM2 => ?_)
          exact ⟨rfl, (n, num, xRow row p q, st), b, _, _, len, T, ⟨hN, hO2, hS⟩, ⟨hC.1, hg', hC.2.2⟩, hM2, hK, hH2, hHm2, hT1, hT2, hl1, hl2⟩
    · refine s_isSceneN hx ⟨fun _ => ?_, fun c => absurd rfl c⟩
      unfold wp_X9_swapScenes
      exact m_inY (lo := 0) (hi := 15) (by omega) (by omega) hp ⟨fun c => absurd c (by decide), fun _ => m_inN (lo := 0) (hi := 15) hx ⟨fun _ => ⟨rfl, same⟩, fun c => absurd rfl c⟩⟩
  · refine s_isSceneN hx ⟨fun _ => ?_, fun c => absurd rfl c⟩
    unfold wp_X9_swapScenes
    exact m_inN (lo := 0) (hi := 15) hx ⟨fun _ => ⟨rfl, same⟩, fun c => absurd rfl c⟩
