/-! what a card tells -/
theorem pre_has {n : Nat} {row : Nat → List Nat} {t c : Nat} (hO : rowOk n row) (h : t < 96 ∧ (row (t / 6))[t % 6]? = some c) : ∃ k, k < (pre row 96).length ∧ cd (pre row 96) k = c := by
  have hm : (c, t) ∈ pre row 96 := (pre_mem row 96).mpr h
  obtain ⟨k, hk, he⟩ := List.mem_iff_getElem.mp hm
  refine ⟨k, hk, ?_⟩
  unfold cd
  rw [List.getD_eq_getElem?_getD, List.getElem?_eq_getElem hk, he]; rfl
theorem sim_card : gSim_card simR := by
  intro y1 y2 xv_kept xv_now_cards_size xv_now_cards_numbers xv_now_wall_slots xv_now_settings xv_snapshot_cards_size xv_snapshot_cards_numbers xv_snapshot_wall_slots xv_snapshot_settings xv_history_oldest xv_history_size xv_history_states_0_cards_size xv_history_states_0_cards_numbers xv_history_states_0_wall_slots xv_history_states_0_settings xv_history_states_1_cards_size xv_history_states_1_cards_numbers xv_history_states_1_wall_slots xv_history_states_1_settings xv_history_states_2_cards_size xv_history_states_2_cards_numbers xv_history_states_2_wall_slots xv_history_states_2_settings xv_history_states_3_cards_size xv_history_states_3_cards_numbers xv_history_states_3_wall_slots xv_history_states_3_settings xv_text_length xv_text_position xv_text_faulty xv_text_signs xv_text_cards_size xv_text_cards_numbers xv_trial_slots xv_reading_mostScenesWithout xv_reading_mostHoursWithout xv_reading_size xv_reading_cards_size xv_reading_cards_numbers xv_reading_names xv_reading_slots xv_reading_ahead xv_reading_straightAhead xv_reading_last xv_reading_lastStraight xv_straightRow_size xv_straightRow_ranks xv_straightRow_cards xv_straightRow_hours xv_straightRow_slots xv_straightRow_sorted xv_straightRow_longest xv_tensions_values xv_tensions_climbs mv_onWall mv_straightMany mv_length mv_states mv_isKept mv_at mv_cards mv_s mv_before mv_kept mv_aside mv_order mv_rank mv_straight mv_sorted mv_longest mv_read mv_text hsim
  obtain ⟨a, b, hist, h, len, T, hA, hC, hM, hK, hHc, hHm, hT1, hT2, hl1, hl2⟩ := hsim
  have same : simR xv_kept xv_now_cards_size xv_now_cards_numbers xv_now_wall_slots xv_now_settings xv_snapshot_cards_size xv_snapshot_cards_numbers xv_snapshot_wall_slots xv_snapshot_settings xv_history_oldest xv_history_size xv_history_states_0_cards_size xv_history_states_0_cards_numbers xv_history_states_0_wall_slots xv_history_states_0_settings xv_history_states_1_cards_size xv_history_states_1_cards_numbers xv_history_states_1_wall_slots xv_history_states_1_settings xv_history_states_2_cards_size xv_history_states_2_cards_numbers xv_history_states_2_wall_slots xv_history_states_2_settings xv_history_states_3_cards_size xv_history_states_3_cards_numbers xv_history_states_3_wall_slots xv_history_states_3_settings xv_text_length xv_text_position xv_text_faulty xv_text_signs xv_text_cards_size xv_text_cards_numbers xv_trial_slots xv_reading_mostScenesWithout xv_reading_mostHoursWithout xv_reading_size xv_reading_cards_size xv_reading_cards_numbers xv_reading_names xv_reading_slots xv_reading_ahead xv_reading_straightAhead xv_reading_last xv_reading_lastStraight xv_straightRow_size xv_straightRow_ranks xv_straightRow_cards xv_straightRow_hours xv_straightRow_slots xv_straightRow_sorted xv_straightRow_longest xv_tensions_values xv_tensions_climbs mv_onWall mv_straightMany mv_length mv_states mv_isKept mv_at mv_cards mv_s mv_before mv_kept mv_aside mv_order mv_rank mv_straight mv_sorted mv_longest mv_read mv_text := ⟨a, b, hist, h, len, T, hA, hC, hM, hK, hHc, hHm, hT1, hT2, hl1, hl2⟩
  obtain ⟨n, num, row, st⟩ := a
  have hN : numOk n num := hA.1
  have hO : rowOk n row := hA.2.1
  have hn : n ≤ 40 := hO.2.2.2
  have hS : setOk st := hA.2.2
  replace hM : RM n num row st mv_s := hM
  replace hC : RCd n num xv_now_cards_size xv_now_cards_numbers ∧ RW row xv_now_wall_slots ∧ RS st xv_now_settings := hC
  have hsz : xv_now_cards_size = nI n := hC.1.1
  unfold wp_X8_card
  rw [hsz] at hC same ⊢
  rcases z_cases y1 n (by omega) with c | c | ⟨i, hi, rfl⟩
  · refine s_has_no hn (Or.inl c) ⟨fun _ => ?_, fun c => absurd rfl c⟩
    unfold wp_X9_card
    exact m_isCardN hM hn (Or.inl c) ⟨fun _ => ⟨rfl, same⟩, fun c => absurd rfl c⟩
  · refine s_has_no hn (Or.inr c.2) ⟨fun _ => ?_, fun c => absurd rfl c⟩
    unfold wp_X9_card
    exact m_isCardN hM hn (Or.inr c) ⟨fun _ => ⟨rfl, same⟩, fun c => absurd rfl c⟩
  · refine s_has hn hi ⟨fun c => absurd c (by decide), fun _ => ?_⟩
    rcases z_cases y2 5 (by omega) with c | c | ⟨k, hk, rfl⟩
    · refine ⟨fun _ => ?_, fun q => absurd c q⟩
      have hlow : ∀ k, k < 5 → ¬ y2 = nI k := fun k hk => (z_neg c (by omega)).2.2.2.2.1
      unfold wp_X8_card_j38
      refine s_read3 (n := n) (num := num) (row := row) (st := st) hC.1 hN hC.2.2 hC.2.1 hO (fun size csize cnum names slots ahead sAhead last lastS hRR => ?_)
      have hD : RRd n num (pre row 96) := RRd_pre hO hN
      have mbr := fun w sm order rank straight post h hno => @m_breaksC n num row st mv_s w sm order rank straight i post hM hO hN hi h hno
      have mla := fun w order rank post h => @m_layOrder n num row st mv_s w order rank post hM hO h
      have mah := fun w order rank post h hno => @m_ahead n num row st mv_s w order rank i post hM hO hN hi h hno
      have hat : ∀ k, k < (pre row 96).length → cd (pre row 96) k = i → slotO row i = some (sl (pre row 96) k) := fun k hk he => by
        have h1 := (pre_at (row := row) (t := 96) hk).2
        rw [he] at h1
        exact slotO_at hO.2.2.1 (hD.1.2.1 k hk).2 h1
      have hoff : (∀ k, k < (pre row 96).length → cd (pre row 96) k ≠ i) → slotO row i = none := fun hne => by
        cases hs : slotO row i with
        | none => rfl
        | some t =>
          obtain ⟨k, hk, he⟩ := pre_has hO (slotO_some hs)
          exact absurd he (hne k hk)
      generalize pre row 96 = L at hRR hD mbr mla mah hat hoff
      refine s_rankOf hD hRR hi (fun k hk he => ?_) (fun hne => ?_)
      · have hso := hat k hk he
        clear hoff hat
        refine ⟨fun e => ?_, fun e => ?_, fun e => ?_, fun e => ?_, fun e => ?_, fun e5 e6 e7 e8 e9 => ?_⟩
        · subst e
          refine s_scene3 hD hRR hk ?_
          unfold wp_X9_card
          refine m_isCardY hM hn hi ⟨fun c => absurd c (by decide), fun _ => ⟨fun q => absurd q (by decide), fun q => absurd q (by decide), fun q => absurd q (by decide), fun q => absurd q (by decide), fun q => absurd q (by decide), fun _ => ?_, fun q => absurd q (by decide), fun q => absurd q (by decide), fun q => absurd q (by decide), fun q => absurd q (by decide), fun q0 q1 q2 q3 q4 q5 q6 q7 q8 q9 => absurd rfl q5⟩⟩
          refine m_sceneOf hM hO hi ?_
          rw [hso]
          exact ⟨rfl, (n, num, row, st), b, hist, h, len, T, hA, hC, hM, hK, hHc, hHm, hT1, hT2, hl1, hl2⟩
        · subst e
          refine s_place3 hD hRR hk ?_
          unfold wp_X9_card
          refine m_isCardY hM hn hi ⟨fun c => absurd c (by decide), fun _ => ⟨fun q => absurd q (by decide), fun q => absurd q (by decide), fun q => absurd q (by decide), fun q => absurd q (by decide), fun q => absurd q (by decide), fun q => absurd q (by decide), fun _ => ?_, fun q => absurd q (by decide), fun q => absurd q (by decide), fun q => absurd q (by decide), fun q0 q1 q2 q3 q4 q5 q6 q7 q8 q9 => absurd rfl q6⟩⟩
          refine m_placeOf hM hO hi ?_
          rw [hso]
          exact ⟨rfl, (n, num, row, st), b, hist, h, len, T, hA, hC, hM, hK, hHc, hHm, hT1, hT2, hl1, hl2⟩
        · subst e
          refine s_isBreak hD hRR hk ?_
          rw [bI_0]
          refine ⟨fun q => ?_, fun q => ?_⟩
          · unfold wp_X9_card
            refine m_isCardY hM hn hi ⟨fun c => absurd c (by decide), fun _ => ⟨fun q => absurd q (by decide), fun q => absurd q (by decide), fun q => absurd q (by decide), fun q => absurd q (by decide), fun q => absurd q (by decide), fun q => absurd q (by decide), fun q => absurd q (by decide), fun _ => ?_, fun q => absurd q (by decide), fun q => absurd q (by decide), fun q0 q1 q2 q3 q4 q5 q6 q7 q8 q9 => absurd rfl q7⟩⟩
            refine m_of (k := 0) hM hn hi (by omega) ?_
            refine mbr _ _ _ _ _ _ (fun j hj hje w sm order rank straight => ?_) (fun hne => absurd he (hne k hk))
            have hjk : j = k := hD.1.2.2.2 j k hj hk (hje.trans he.symm)
            subst hjk
            rw [q]
            exact ⟨rfl, (n, num, row, st), b, hist, h, len, T, hA, hC, hM, hK, hHc, hHm, hT1, hT2, hl1, hl2⟩
          · unfold wp_X9_card
            refine m_isCardY hM hn hi ⟨fun c => absurd c (by decide), fun _ => ⟨fun q => absurd q (by decide), fun q => absurd q (by decide), fun q => absurd q (by decide), fun q => absurd q (by decide), fun q => absurd q (by decide), fun q => absurd q (by decide), fun q => absurd q (by decide), fun _ => ?_, fun q => absurd q (by decide), fun q => absurd q (by decide), fun q0 q1 q2 q3 q4 q5 q6 q7 q8 q9 => absurd rfl q7⟩⟩
            refine m_of (k := 0) hM hn hi (by omega) ?_
            refine mbr _ _ _ _ _ _ (fun j hj hje w sm order rank straight => ?_) (fun hne => absurd he (hne k hk))
            have hjk : j = k := hD.1.2.2.2 j k hj hk (hje.trans he.symm)
            subst hjk
            rw [eq_true_of_ne_false q]
            exact ⟨rfl, (n, num, row, st), b, hist, h, len, T, hA, hC, hM, hK, hHc, hHm, hT1, hT2, hl1, hl2⟩
        · subst e
          unfold wp_X9_card
          refine m_isCardY hM hn hi ⟨fun c => absurd c (by decide), fun _ => ⟨fun q => absurd q (by decide), fun q => absurd q (by decide), fun q => absurd q (by decide), fun q => absurd q (by decide), fun q => absurd q (by decide), fun q => absurd q (by decide), fun q => absurd q (by decide), fun q => absurd q (by decide), fun _ => ?_, fun q => absurd q (by decide), fun q0 q1 q2 q3 q4 q5 q6 q7 q8 q9 => absurd rfl q8⟩⟩
          refine mla _ _ _ _ (fun order rank hR => ⟨(z_in (by omega)).mpr (by omega), ?_⟩)
          have hrk := (hR.1 k hk).2
          rw [he] at hrk
          rw [z_cl (show i < 2147483648 by omega), hrk]
          exact ⟨rfl, (n, num, row, st), b, hist, h, len, T, hA, hC, hM, hK, hHc, hHm, hT1, hT2, hl1, hl2⟩
        · subst e
          have hsz3 := hRR.1
          subst hsz3
          unfold wp_X3_rankAhead
          refine s_val3 hD.1.1 hk ?_
          rw [hRR.2.2.2.2.1 k hk]
          have mh : ∀ (w : Int32) (order rank : Nat → Int32) (po : Int32 → Int32 → (Nat → Int32) → (Nat → Int32) → Prop), (∀ w order rank, po (optI ((aA num L k).map (cd L))) w order rank) → wp_X9_ahead (nI i) w mv_s order rank po := by
            intro w order rank po hp
            refine mah _ _ _ _ (fun w order rank j hj hje => ?_) (fun hne => absurd he (hne k hk))
            have hjk : j = k := hD.1.2.2.2 j k hj hk (hje.trans he.symm)
            subst hjk
            exact hp _ _ _
          cases ha : aA num L k with
          | none =>
            unfold wp_X3_cardAt
            refine s_val3_no (Or.inl (by decide)) ?_
            rw [ha] at mh
            unfold wp_X9_card
            refine m_isCardY hM hn hi ⟨fun c => absurd c (by decide), fun _ => ⟨fun q => absurd q (by decide), fun q => absurd q (by decide), fun q => absurd q (by decide), fun q => absurd q (by decide), fun q => absurd q (by decide), fun q => absurd q (by decide), fun q => absurd q (by decide), fun q => absurd q (by decide), fun q => absurd q (by decide), fun _ => ?_, fun q0 q1 q2 q3 q4 q5 q6 q7 q8 q9 => absurd rfl q9⟩⟩
            exact mh _ _ _ _ (fun _ _ _ => ⟨rfl, (n, num, row, st), b, hist, h, len, T, hA, hC, hM, hK, hHc, hHm, hT1, hT2, hl1, hl2⟩)
          | some bb =>
            have hbk := aA_lt ha
            refine s_card3 (k := bb) hD hRR (by omega) ?_
            rw [ha] at mh
            unfold wp_X9_card
            refine m_isCardY hM hn hi ⟨fun c => absurd c (by decide), fun _ => ⟨fun q => absurd q (by decide), fun q => absurd q (by decide), fun q => absurd q (by decide), fun q => absurd q (by decide), fun q => absurd q (by decide), fun q => absurd q (by decide), fun q => absurd q (by decide), fun q => absurd q (by decide), fun q => absurd q (by decide), fun _ => ?_, fun q0 q1 q2 q3 q4 q5 q6 q7 q8 q9 => absurd rfl q9⟩⟩
            exact mh _ _ _ _ (fun _ _ _ => ⟨rfl, (n, num, row, st), b, hist, h, len, T, hA, hC, hM, hK, hHc, hHm, hT1, hT2, hl1, hl2⟩)
        · unfold wp_X9_card
          exact m_isCardY hM hn hi ⟨fun c => absurd c (by decide), fun _ => ⟨fun q => absurd q (hlow 0 (by omega)), fun q => absurd q (hlow 1 (by omega)), fun q => absurd q (hlow 2 (by omega)), fun q => absurd q (hlow 3 (by omega)), fun q => absurd q (hlow 4 (by omega)), fun q => absurd q e5, fun q => absurd q e6, fun q => absurd q e7, fun q => absurd q e8, fun q => absurd q e9, fun _ _ _ _ _ _ _ _ _ _ => ⟨rfl, (n, num, row, st), b, hist, h, len, T, hA, hC, hM, hK, hHc, hHm, hT1, hT2, hl1, hl2⟩⟩⟩
      · have hso := hoff hne
        clear hoff hat
        refine ⟨fun e => ?_, fun e => ?_, fun e => ?_, fun e => ?_, fun e => ?_, fun e5 e6 e7 e8 e9 => ?_⟩
        · subst e
          refine s_sceneNo hRR ?_
          unfold wp_X9_card
          refine m_isCardY hM hn hi ⟨fun c => absurd c (by decide), fun _ => ⟨fun q => absurd q (by decide), fun q => absurd q (by decide), fun q => absurd q (by decide), fun q => absurd q (by decide), fun q => absurd q (by decide), fun _ => ?_, fun q => absurd q (by decide), fun q => absurd q (by decide), fun q => absurd q (by decide), fun q => absurd q (by decide), fun q0 q1 q2 q3 q4 q5 q6 q7 q8 q9 => absurd rfl q5⟩⟩
          refine m_sceneOf hM hO hi ?_
          rw [hso]
          exact ⟨rfl, (n, num, row, st), b, hist, h, len, T, hA, hC, hM, hK, hHc, hHm, hT1, hT2, hl1, hl2⟩
        · subst e
          refine s_placeNo hRR ?_
          unfold wp_X9_card
          refine m_isCardY hM hn hi ⟨fun c => absurd c (by decide), fun _ => ⟨fun q => absurd q (by decide), fun q => absurd q (by decide), fun q => absurd q (by decide), fun q => absurd q (by decide), fun q => absurd q (by decide), fun q => absurd q (by decide), fun _ => ?_, fun q => absurd q (by decide), fun q => absurd q (by decide), fun q => absurd q (by decide), fun q0 q1 q2 q3 q4 q5 q6 q7 q8 q9 => absurd rfl q6⟩⟩
          refine m_placeOf hM hO hi ?_
          rw [hso]
          exact ⟨rfl, (n, num, row, st), b, hist, h, len, T, hA, hC, hM, hK, hHc, hHm, hT1, hT2, hl1, hl2⟩
        · subst e
          have hsz3 := hRR.1
          subst hsz3
          unfold wp_X3_isBreak
          refine s_val3_no (Or.inl (by decide)) ⟨fun _ => ⟨fun _ => ?_, fun c => absurd rfl c⟩, fun c => absurd rfl c⟩
          unfold wp_X9_card
          refine m_isCardY hM hn hi ⟨fun c => absurd c (by decide), fun _ => ⟨fun q => absurd q (by decide), fun q => absurd q (by decide), fun q => absurd q (by decide), fun q => absurd q (by decide), fun q => absurd q (by decide), fun q => absurd q (by decide), fun q => absurd q (by decide), fun _ => ?_, fun q => absurd q (by decide), fun q => absurd q (by decide), fun q0 q1 q2 q3 q4 q5 q6 q7 q8 q9 => absurd rfl q7⟩⟩
          refine m_of (k := 0) hM hn hi (by omega) ?_
          refine mbr _ _ _ _ _ _ (fun j hj hje w sm order rank straight => absurd hje (hne j hj)) (fun _ w sm order rank straight => ?_)
          exact ⟨rfl, (n, num, row, st), b, hist, h, len, T, hA, hC, hM, hK, hHc, hHm, hT1, hT2, hl1, hl2⟩
        · subst e
          unfold wp_X9_card
          refine m_isCardY hM hn hi ⟨fun c => absurd c (by decide), fun _ => ⟨fun q => absurd q (by decide), fun q => absurd q (by decide), fun q => absurd q (by decide), fun q => absurd q (by decide), fun q => absurd q (by decide), fun q => absurd q (by decide), fun q => absurd q (by decide), fun q => absurd q (by decide), fun _ => ?_, fun q => absurd q (by decide), fun q0 q1 q2 q3 q4 q5 q6 q7 q8 q9 => absurd rfl q8⟩⟩
          refine mla _ _ _ _ (fun order rank hR => ⟨(z_in (by omega)).mpr (by omega), ?_⟩)
          have hrk := hR.2 i (by omega) hne
          rw [z_cl (show i < 2147483648 by omega), hrk]
          exact ⟨rfl, (n, num, row, st), b, hist, h, len, T, hA, hC, hM, hK, hHc, hHm, hT1, hT2, hl1, hl2⟩
        · subst e
          have hsz3 := hRR.1
          subst hsz3
          unfold wp_X3_rankAhead wp_X3_cardAt
          refine s_val3_no (Or.inl (by decide)) ?_
          refine s_val3_no (Or.inl (by decide)) ?_
          unfold wp_X9_card
          refine m_isCardY hM hn hi ⟨fun c => absurd c (by decide), fun _ => ⟨fun q => absurd q (by decide), fun q => absurd q (by decide), fun q => absurd q (by decide), fun q => absurd q (by decide), fun q => absurd q (by decide), fun q => absurd q (by decide), fun q => absurd q (by decide), fun q => absurd q (by decide), fun q => absurd q (by decide), fun _ => ?_, fun q0 q1 q2 q3 q4 q5 q6 q7 q8 q9 => absurd rfl q9⟩⟩
          exact mah _ _ _ _ (fun w order rank j hj hje => absurd hje (hne j hj)) (fun _ _ _ _ => ⟨rfl, (n, num, row, st), b, hist, h, len, T, hA, hC, hM, hK, hHc, hHm, hT1, hT2, hl1, hl2⟩)
        · unfold wp_X9_card
          exact m_isCardY hM hn hi ⟨fun c => absurd c (by decide), fun _ => ⟨fun q => absurd q (hlow 0 (by omega)), fun q => absurd q (hlow 1 (by omega)), fun q => absurd q (hlow 2 (by omega)), fun q => absurd q (hlow 3 (by omega)), fun q => absurd q (hlow 4 (by omega)), fun q => absurd q e5, fun q => absurd q e6, fun q => absurd q e7, fun q => absurd q e8, fun q => absurd q e9, fun _ _ _ _ _ _ _ _ _ _ => ⟨rfl, (n, num, row, st), b, hist, h, len, T, hA, hC, hM, hK, hHc, hHm, hT1, hT2, hl1, hl2⟩⟩⟩
    · refine ⟨fun q => absurd q c.1, fun _ => ⟨fun _ => ?_, fun q => absurd c.2 q⟩⟩
      have hlow : ∀ k, k < 5 → ¬ y2 = nI k := fun k hk => (z_big (by omega) c.2 hk).2.2.2.2.1
      unfold wp_X8_card_j38
      refine s_read3 (n := n) (num := num) (row := row) (st := st) hC.1 hN hC.2.2 hC.2.1 hO (fun size csize cnum names slots ahead sAhead last lastS hRR => ?_)
      have hD : RRd n num (pre row 96) := RRd_pre hO hN
      have mbr := fun w sm order rank straight post h hno => @m_breaksC n num row st mv_s w sm order rank straight i post hM hO hN hi h hno
      have mla := fun w order rank post h => @m_layOrder n num row st mv_s w order rank post hM hO h
      have mah := fun w order rank post h hno => @m_ahead n num row st mv_s w order rank i post hM hO hN hi h hno
      have hat : ∀ k, k < (pre row 96).length → cd (pre row 96) k = i → slotO row i = some (sl (pre row 96) k) := fun k hk he => by
        have h1 := (pre_at (row := row) (t := 96) hk).2
        rw [he] at h1
        exact slotO_at hO.2.2.1 (hD.1.2.1 k hk).2 h1
      have hoff : (∀ k, k < (pre row 96).length → cd (pre row 96) k ≠ i) → slotO row i = none := fun hne => by
        cases hs : slotO row i with
        | none => rfl
        | some t =>
          obtain ⟨k, hk, he⟩ := pre_has hO (slotO_some hs)
          exact absurd he (hne k hk)
      generalize pre row 96 = L at hRR hD mbr mla mah hat hoff
      refine s_rankOf hD hRR hi (fun k hk he => ?_) (fun hne => ?_)
      · have hso := hat k hk he
        clear hoff hat
        refine ⟨fun e => ?_, fun e => ?_, fun e => ?_, fun e => ?_, fun e => ?_, fun e5 e6 e7 e8 e9 => ?_⟩
        · subst e
          refine s_scene3 hD hRR hk ?_
          unfold wp_X9_card
          refine m_isCardY hM hn hi ⟨fun c => absurd c (by decide), fun _ => ⟨fun q => absurd q (by decide), fun q => absurd q (by decide), fun q => absurd q (by decide), fun q => absurd q (by decide), fun q => absurd q (by decide), fun _ => ?_, fun q => absurd q (by decide), fun q => absurd q (by decide), fun q => absurd q (by decide), fun q => absurd q (by decide), fun q0 q1 q2 q3 q4 q5 q6 q7 q8 q9 => absurd rfl q5⟩⟩
          refine m_sceneOf hM hO hi ?_
          rw [hso]
          exact ⟨rfl, (n, num, row, st), b, hist, h, len, T, hA, hC, hM, hK, hHc, hHm, hT1, hT2, hl1, hl2⟩
        · subst e
          refine s_place3 hD hRR hk ?_
          unfold wp_X9_card
          refine m_isCardY hM hn hi ⟨fun c => absurd c (by decide), fun _ => ⟨fun q => absurd q (by decide), fun q => absurd q (by decide), fun q => absurd q (by decide), fun q => absurd q (by decide), fun q => absurd q (by decide), fun q => absurd q (by decide), fun _ => ?_, fun q => absurd q (by decide), fun q => absurd q (by decide), fun q => absurd q (by decide), fun q0 q1 q2 q3 q4 q5 q6 q7 q8 q9 => absurd rfl q6⟩⟩
          refine m_placeOf hM hO hi ?_
          rw [hso]
          exact ⟨rfl, (n, num, row, st), b, hist, h, len, T, hA, hC, hM, hK, hHc, hHm, hT1, hT2, hl1, hl2⟩
        · subst e
          refine s_isBreak hD hRR hk ?_
          rw [bI_0]
          refine ⟨fun q => ?_, fun q => ?_⟩
          · unfold wp_X9_card
            refine m_isCardY hM hn hi ⟨fun c => absurd c (by decide), fun _ => ⟨fun q => absurd q (by decide), fun q => absurd q (by decide), fun q => absurd q (by decide), fun q => absurd q (by decide), fun q => absurd q (by decide), fun q => absurd q (by decide), fun q => absurd q (by decide), fun _ => ?_, fun q => absurd q (by decide), fun q => absurd q (by decide), fun q0 q1 q2 q3 q4 q5 q6 q7 q8 q9 => absurd rfl q7⟩⟩
            refine m_of (k := 0) hM hn hi (by omega) ?_
            refine mbr _ _ _ _ _ _ (fun j hj hje w sm order rank straight => ?_) (fun hne => absurd he (hne k hk))
            have hjk : j = k := hD.1.2.2.2 j k hj hk (hje.trans he.symm)
            subst hjk
            rw [q]
            exact ⟨rfl, (n, num, row, st), b, hist, h, len, T, hA, hC, hM, hK, hHc, hHm, hT1, hT2, hl1, hl2⟩
          · unfold wp_X9_card
            refine m_isCardY hM hn hi ⟨fun c => absurd c (by decide), fun _ => ⟨fun q => absurd q (by decide), fun q => absurd q (by decide), fun q => absurd q (by decide), fun q => absurd q (by decide), fun q => absurd q (by decide), fun q => absurd q (by decide), fun q => absurd q (by decide), fun _ => ?_, fun q => absurd q (by decide), fun q => absurd q (by decide), fun q0 q1 q2 q3 q4 q5 q6 q7 q8 q9 => absurd rfl q7⟩⟩
            refine m_of (k := 0) hM hn hi (by omega) ?_
            refine mbr _ _ _ _ _ _ (fun j hj hje w sm order rank straight => ?_) (fun hne => absurd he (hne k hk))
            have hjk : j = k := hD.1.2.2.2 j k hj hk (hje.trans he.symm)
            subst hjk
            rw [eq_true_of_ne_false q]
            exact ⟨rfl, (n, num, row, st), b, hist, h, len, T, hA, hC, hM, hK, hHc, hHm, hT1, hT2, hl1, hl2⟩
        · subst e
          unfold wp_X9_card
          refine m_isCardY hM hn hi ⟨fun c => absurd c (by decide), fun _ => ⟨fun q => absurd q (by decide), fun q => absurd q (by decide), fun q => absurd q (by decide), fun q => absurd q (by decide), fun q => absurd q (by decide), fun q => absurd q (by decide), fun q => absurd q (by decide), fun q => absurd q (by decide), fun _ => ?_, fun q => absurd q (by decide), fun q0 q1 q2 q3 q4 q5 q6 q7 q8 q9 => absurd rfl q8⟩⟩
          refine mla _ _ _ _ (fun order rank hR => ⟨(z_in (by omega)).mpr (by omega), ?_⟩)
          have hrk := (hR.1 k hk).2
          rw [he] at hrk
          rw [z_cl (show i < 2147483648 by omega), hrk]
          exact ⟨rfl, (n, num, row, st), b, hist, h, len, T, hA, hC, hM, hK, hHc, hHm, hT1, hT2, hl1, hl2⟩
        · subst e
          have hsz3 := hRR.1
          subst hsz3
          unfold wp_X3_rankAhead
          refine s_val3 hD.1.1 hk ?_
          rw [hRR.2.2.2.2.1 k hk]
          have mh : ∀ (w : Int32) (order rank : Nat → Int32) (po : Int32 → Int32 → (Nat → Int32) → (Nat → Int32) → Prop), (∀ w order rank, po (optI ((aA num L k).map (cd L))) w order rank) → wp_X9_ahead (nI i) w mv_s order rank po := by
            intro w order rank po hp
            refine mah _ _ _ _ (fun w order rank j hj hje => ?_) (fun hne => absurd he (hne k hk))
            have hjk : j = k := hD.1.2.2.2 j k hj hk (hje.trans he.symm)
            subst hjk
            exact hp _ _ _
          cases ha : aA num L k with
          | none =>
            unfold wp_X3_cardAt
            refine s_val3_no (Or.inl (by decide)) ?_
            rw [ha] at mh
            unfold wp_X9_card
            refine m_isCardY hM hn hi ⟨fun c => absurd c (by decide), fun _ => ⟨fun q => absurd q (by decide), fun q => absurd q (by decide), fun q => absurd q (by decide), fun q => absurd q (by decide), fun q => absurd q (by decide), fun q => absurd q (by decide), fun q => absurd q (by decide), fun q => absurd q (by decide), fun q => absurd q (by decide), fun _ => ?_, fun q0 q1 q2 q3 q4 q5 q6 q7 q8 q9 => absurd rfl q9⟩⟩
            exact mh _ _ _ _ (fun _ _ _ => ⟨rfl, (n, num, row, st), b, hist, h, len, T, hA, hC, hM, hK, hHc, hHm, hT1, hT2, hl1, hl2⟩)
          | some bb =>
            have hbk := aA_lt ha
            refine s_card3 (k := bb) hD hRR (by omega) ?_
            rw [ha] at mh
            unfold wp_X9_card
            refine m_isCardY hM hn hi ⟨fun c => absurd c (by decide), fun _ => ⟨fun q => absurd q (by decide), fun q => absurd q (by decide), fun q => absurd q (by decide), fun q => absurd q (by decide), fun q => absurd q (by decide), fun q => absurd q (by decide), fun q => absurd q (by decide), fun q => absurd q (by decide), fun q => absurd q (by decide), fun _ => ?_, fun q0 q1 q2 q3 q4 q5 q6 q7 q8 q9 => absurd rfl q9⟩⟩
            exact mh _ _ _ _ (fun _ _ _ => ⟨rfl, (n, num, row, st), b, hist, h, len, T, hA, hC, hM, hK, hHc, hHm, hT1, hT2, hl1, hl2⟩)
        · unfold wp_X9_card
          exact m_isCardY hM hn hi ⟨fun c => absurd c (by decide), fun _ => ⟨fun q => absurd q (hlow 0 (by omega)), fun q => absurd q (hlow 1 (by omega)), fun q => absurd q (hlow 2 (by omega)), fun q => absurd q (hlow 3 (by omega)), fun q => absurd q (hlow 4 (by omega)), fun q => absurd q e5, fun q => absurd q e6, fun q => absurd q e7, fun q => absurd q e8, fun q => absurd q e9, fun _ _ _ _ _ _ _ _ _ _ => ⟨rfl, (n, num, row, st), b, hist, h, len, T, hA, hC, hM, hK, hHc, hHm, hT1, hT2, hl1, hl2⟩⟩⟩
      · have hso := hoff hne
        clear hoff hat
        refine ⟨fun e => ?_, fun e => ?_, fun e => ?_, fun e => ?_, fun e => ?_, fun e5 e6 e7 e8 e9 => ?_⟩
        · subst e
          refine s_sceneNo hRR ?_
          unfold wp_X9_card
          refine m_isCardY hM hn hi ⟨fun c => absurd c (by decide), fun _ => ⟨fun q => absurd q (by decide), fun q => absurd q (by decide), fun q => absurd q (by decide), fun q => absurd q (by decide), fun q => absurd q (by decide), fun _ => ?_, fun q => absurd q (by decide), fun q => absurd q (by decide), fun q => absurd q (by decide), fun q => absurd q (by decide), fun q0 q1 q2 q3 q4 q5 q6 q7 q8 q9 => absurd rfl q5⟩⟩
          refine m_sceneOf hM hO hi ?_
          rw [hso]
          exact ⟨rfl, (n, num, row, st), b, hist, h, len, T, hA, hC, hM, hK, hHc, hHm, hT1, hT2, hl1, hl2⟩
        · subst e
          refine s_placeNo hRR ?_
          unfold wp_X9_card
          refine m_isCardY hM hn hi ⟨fun c => absurd c (by decide), fun _ => ⟨fun q => absurd q (by decide), fun q => absurd q (by decide), fun q => absurd q (by decide), fun q => absurd q (by decide), fun q => absurd q (by decide), fun q => absurd q (by decide), fun _ => ?_, fun q => absurd q (by decide), fun q => absurd q (by decide), fun q => absurd q (by decide), fun q0 q1 q2 q3 q4 q5 q6 q7 q8 q9 => absurd rfl q6⟩⟩
          refine m_placeOf hM hO hi ?_
          rw [hso]
          exact ⟨rfl, (n, num, row, st), b, hist, h, len, T, hA, hC, hM, hK, hHc, hHm, hT1, hT2, hl1, hl2⟩
        · subst e
          have hsz3 := hRR.1
          subst hsz3
          unfold wp_X3_isBreak
          refine s_val3_no (Or.inl (by decide)) ⟨fun _ => ⟨fun _ => ?_, fun c => absurd rfl c⟩, fun c => absurd rfl c⟩
          unfold wp_X9_card
          refine m_isCardY hM hn hi ⟨fun c => absurd c (by decide), fun _ => ⟨fun q => absurd q (by decide), fun q => absurd q (by decide), fun q => absurd q (by decide), fun q => absurd q (by decide), fun q => absurd q (by decide), fun q => absurd q (by decide), fun q => absurd q (by decide), fun _ => ?_, fun q => absurd q (by decide), fun q => absurd q (by decide), fun q0 q1 q2 q3 q4 q5 q6 q7 q8 q9 => absurd rfl q7⟩⟩
          refine m_of (k := 0) hM hn hi (by omega) ?_
          refine mbr _ _ _ _ _ _ (fun j hj hje w sm order rank straight => absurd hje (hne j hj)) (fun _ w sm order rank straight => ?_)
          exact ⟨rfl, (n, num, row, st), b, hist, h, len, T, hA, hC, hM, hK, hHc, hHm, hT1, hT2, hl1, hl2⟩
        · subst e
          unfold wp_X9_card
          refine m_isCardY hM hn hi ⟨fun c => absurd c (by decide), fun _ => ⟨fun q => absurd q (by decide), fun q => absurd q (by decide), fun q => absurd q (by decide), fun q => absurd q (by decide), fun q => absurd q (by decide), fun q => absurd q (by decide), fun q => absurd q (by decide), fun q => absurd q (by decide), fun _ => ?_, fun q => absurd q (by decide), fun q0 q1 q2 q3 q4 q5 q6 q7 q8 q9 => absurd rfl q8⟩⟩
          refine mla _ _ _ _ (fun order rank hR => ⟨(z_in (by omega)).mpr (by omega), ?_⟩)
          have hrk := hR.2 i (by omega) hne
          rw [z_cl (show i < 2147483648 by omega), hrk]
          exact ⟨rfl, (n, num, row, st), b, hist, h, len, T, hA, hC, hM, hK, hHc, hHm, hT1, hT2, hl1, hl2⟩
        · subst e
          have hsz3 := hRR.1
          subst hsz3
          unfold wp_X3_rankAhead wp_X3_cardAt
          refine s_val3_no (Or.inl (by decide)) ?_
          refine s_val3_no (Or.inl (by decide)) ?_
          unfold wp_X9_card
          refine m_isCardY hM hn hi ⟨fun c => absurd c (by decide), fun _ => ⟨fun q => absurd q (by decide), fun q => absurd q (by decide), fun q => absurd q (by decide), fun q => absurd q (by decide), fun q => absurd q (by decide), fun q => absurd q (by decide), fun q => absurd q (by decide), fun q => absurd q (by decide), fun q => absurd q (by decide), fun _ => ?_, fun q0 q1 q2 q3 q4 q5 q6 q7 q8 q9 => absurd rfl q9⟩⟩
          exact mah _ _ _ _ (fun w order rank j hj hje => absurd hje (hne j hj)) (fun _ _ _ _ => ⟨rfl, (n, num, row, st), b, hist, h, len, T, hA, hC, hM, hK, hHc, hHm, hT1, hT2, hl1, hl2⟩)
        · unfold wp_X9_card
          exact m_isCardY hM hn hi ⟨fun c => absurd c (by decide), fun _ => ⟨fun q => absurd q (hlow 0 (by omega)), fun q => absurd q (hlow 1 (by omega)), fun q => absurd q (hlow 2 (by omega)), fun q => absurd q (hlow 3 (by omega)), fun q => absurd q (hlow 4 (by omega)), fun q => absurd q e5, fun q => absurd q e6, fun q => absurd q e7, fun q => absurd q e8, fun q => absurd q e9, fun _ _ _ _ _ _ _ _ _ _ => ⟨rfl, (n, num, row, st), b, hist, h, len, T, hA, hC, hM, hK, hHc, hHm, hT1, hT2, hl1, hl2⟩⟩⟩
    · refine ⟨fun c => absurd c (by rw [l0, z_lt (by omega) (by omega)]; omega), fun _ => ⟨fun c => absurd c (by rw [l5, z_le (by omega) (by omega)]; omega), fun _ => ?_⟩⟩
      refine s_number (n := n) (num := num) (k := k) hC.1 hn hi hk ?_
      rcases (show k = 0 ∨ k = 1 ∨ k = 2 ∨ k = 3 ∨ k = 4 by omega) with rfl | rfl | rfl | rfl | rfl
      · unfold wp_X9_card
        refine m_isCardY hM hn hi ⟨fun c => absurd c (by decide), fun _ => ⟨fun _ => ?_, fun q => absurd q (by decide), fun q => absurd q (by decide), fun q => absurd q (by decide), fun q => absurd q (by decide), fun q => absurd q (by decide), fun q => absurd q (by decide), fun q => absurd q (by decide), fun q => absurd q (by decide), fun q => absurd q (by decide), fun q0 q1 q2 q3 q4 q5 q6 q7 q8 q9 => absurd rfl q0⟩⟩
        exact m_of (k := 0) hM hn hi (by omega) ⟨rfl, (n, num, row, st), b, hist, h, len, T, hA, hC, hM, hK, hHc, hHm, hT1, hT2, hl1, hl2⟩
      · unfold wp_X9_card
        refine m_isCardY hM hn hi ⟨fun c => absurd c (by decide), fun _ => ⟨fun q => absurd q (by decide), fun _ => ?_, fun q => absurd q (by decide), fun q => absurd q (by decide), fun q => absurd q (by decide), fun q => absurd q (by decide), fun q => absurd q (by decide), fun q => absurd q (by decide), fun q => absurd q (by decide), fun q => absurd q (by decide), fun q0 q1 q2 q3 q4 q5 q6 q7 q8 q9 => absurd rfl q1⟩⟩
        exact m_of (k := 1) hM hn hi (by omega) ⟨rfl, (n, num, row, st), b, hist, h, len, T, hA, hC, hM, hK, hHc, hHm, hT1, hT2, hl1, hl2⟩
      · unfold wp_X9_card
        refine m_isCardY hM hn hi ⟨fun c => absurd c (by decide), fun _ => ⟨fun q => absurd q (by decide), fun q => absurd q (by decide), fun _ => ?_, fun q => absurd q (by decide), fun q => absurd q (by decide), fun q => absurd q (by decide), fun q => absurd q (by decide), fun q => absurd q (by decide), fun q => absurd q (by decide), fun q => absurd q (by decide), fun q0 q1 q2 q3 q4 q5 q6 q7 q8 q9 => absurd rfl q2⟩⟩
        exact m_of (k := 2) hM hn hi (by omega) ⟨rfl, (n, num, row, st), b, hist, h, len, T, hA, hC, hM, hK, hHc, hHm, hT1, hT2, hl1, hl2⟩
      · unfold wp_X9_card
        refine m_isCardY hM hn hi ⟨fun c => absurd c (by decide), fun _ => ⟨fun q => absurd q (by decide), fun q => absurd q (by decide), fun q => absurd q (by decide), fun _ => ?_, fun q => absurd q (by decide), fun q => absurd q (by decide), fun q => absurd q (by decide), fun q => absurd q (by decide), fun q => absurd q (by decide), fun q => absurd q (by decide), fun q0 q1 q2 q3 q4 q5 q6 q7 q8 q9 => absurd rfl q3⟩⟩
        exact m_of (k := 3) hM hn hi (by omega) ⟨rfl, (n, num, row, st), b, hist, h, len, T, hA, hC, hM, hK, hHc, hHm, hT1, hT2, hl1, hl2⟩
      · unfold wp_X9_card
        refine m_isCardY hM hn hi ⟨fun c => absurd c (by decide), fun _ => ⟨fun q => absurd q (by decide), fun q => absurd q (by decide), fun q => absurd q (by decide), fun q => absurd q (by decide), fun _ => ?_, fun q => absurd q (by decide), fun q => absurd q (by decide), fun q => absurd q (by decide), fun q => absurd q (by decide), fun q => absurd q (by decide), fun q0 q1 q2 q3 q4 q5 q6 q7 q8 q9 => absurd rfl q4⟩⟩
        exact m_of (k := 4) hM hn hi (by omega) ⟨rfl, (n, num, row, st), b, hist, h, len, T, hA, hC, hM, hK, hHc, hHm, hT1, hT2, hl1, hl2⟩
