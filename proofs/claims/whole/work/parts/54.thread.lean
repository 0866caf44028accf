/-! what a thread tells -/
theorem flt_cnt {p : Nat → Bool} : ∀ m, (flt p m).length = cnt p m
  | 0 => rfl
  | m + 1 => by
    rw [cnt, ← flt_cnt m]
    cases h : p m with
    | true => rw [flt_y h, List.length_append, List.length_singleton]; rfl
    | false => rw [flt_n h]; rfl
theorem sRow_len {num : Nat → Nat → Nat} {st : Nat → Nat} {L : List (Nat × Nat)} {t : Nat} : (flt (pS num L t) L.length).length = tallyF num st L 11 (some t) none := by
  rw [flt_cnt, cnt_sumN]
  unfold tallyF
  refine sumN_congr _ (fun k _ => ?_)
  show b2n ((num (cd L k) 0 == t) && (num (cd L k) 4 == 0)) = if (num (cd L k) 0 == t) && true then b2n (num (cd L k) 4 == 0) else 0
  cases (num (cd L k) 0 == t) <;> cases (num (cd L k) 4 == 0) <;> rfl
theorem sim_thread : gSim_thread simR := by
  intro y1 y2 xv_kept xv_now_cards_size xv_now_cards_numbers xv_now_wall_slots xv_now_settings xv_snapshot_cards_size xv_snapshot_cards_numbers xv_snapshot_wall_slots xv_snapshot_settings xv_history_oldest xv_history_size xv_history_states_0_cards_size xv_history_states_0_cards_numbers xv_history_states_0_wall_slots xv_history_states_0_settings xv_history_states_1_cards_size xv_history_states_1_cards_numbers xv_history_states_1_wall_slots xv_history_states_1_settings xv_history_states_2_cards_size xv_history_states_2_cards_numbers xv_history_states_2_wall_slots xv_history_states_2_settings xv_history_states_3_cards_size xv_history_states_3_cards_numbers xv_history_states_3_wall_slots xv_history_states_3_settings xv_text_length xv_text_position xv_text_faulty xv_text_signs xv_text_cards_size xv_text_cards_numbers xv_trial_slots xv_reading_mostScenesWithout xv_reading_mostHoursWithout xv_reading_size xv_reading_cards_size xv_reading_cards_numbers xv_reading_names xv_reading_slots xv_reading_ahead xv_reading_straightAhead xv_reading_last xv_reading_lastStraight xv_straightRow_size xv_straightRow_ranks xv_straightRow_cards xv_straightRow_hours xv_straightRow_slots xv_straightRow_sorted xv_straightRow_longest xv_tensions_values xv_tensions_climbs mv_onWall mv_straightMany mv_length mv_states mv_isKept mv_at mv_cards mv_s mv_before mv_kept mv_aside mv_order mv_rank mv_straight mv_sorted mv_longest mv_read mv_text hsim
  obtain ⟨a, b, hist, h, len, T, hA, hC, hM, hK, hHc, hHm, hT1, hT2, hl1, hl2⟩ := hsim
  obtain ⟨n, num, row, st⟩ := a
  have hN : numOk n num := hA.1
  have hO : rowOk n row := hA.2.1
  have hn : n ≤ 40 := hO.2.2.2
  have hS : setOk st := hA.2.2
  have hsz : xv_now_cards_size = nI n := hC.1.1
  unfold wp_X8_thread
  rcases rng (x := y1) (lo := 0) (hi := 5) (by omega) (by omega) with ⟨t, rfl, _, ht⟩ | hx
  · have ht6 : t < 6 := by omega
    refine s_isThread ?_ ht6
    refine ⟨fun c => absurd c (by decide), fun _ => ?_⟩
    refine s_read3 hC.1 hN hC.2.2 hC.2.1 hO (fun size csize cnum names slots ahead sAhead last lastS hRR => ?_)
    have hD : RRd n num (pre row 96) := RRd_pre hO hN
    have hLO : LOk n (pre row 96) := hD.1
    have mco := fun w order rank k post hk hp => @m_cardsOf0 n num row st mv_s w order rank t k post hM hO hN ht6 hk hp
    have mls : ∀ w sm order rank straight (post : Int32 → Int32 → (Nat → Int32) → (Nat → Int32) → (Nat → Int32) → Prop), (∀ w o r s, post w (nI (flt (pS num (pre row 96) t) (pre row 96).length).length) o r s) → wp_X9_layStraight (nI t) w sm mv_s order rank straight post := fun w sm order rank straight post hp => m_layStraight hM hO hN ht6 (fun _ _ _ _ _ => hp _ _ _ _)
    have mbr := fun w sm order rank straight post hp => @m_breaksT n num row st mv_s w sm order rank straight t none post hM hO hN ht6 (fun u hu => by cases hu) hp
    have mfe := fun w sm order rank straight lo post hp => @m_fewest n num row st mv_s w sm order rank straight lo t post hM hO hN ht6 hp
    have mth := fun w order rank post hp => @m_threadHoles n num row st mv_s w order rank t post hM hO hN hS ht6 hp
    have mti := fun w sm order rank straight post hp => @m_timeHoles n num row st mv_s w sm order rank straight t post hM hO hN hS ht6 hp
    unfold sRow at mfe
    generalize pre row 96 = L at hRR hD hLO mco mls mbr mfe mth mti
    refine ⟨fun e => ?_, fun e => ?_, fun e => ?_, fun e => ?_, fun e => ?_, fun e => ?_, fun e => ?_, fun e => ?_, fun e0 e1 e2 e3 e4 e5 e6 e7 => ?_⟩
    · subst e
      refine s_tally (w := 10) (t := some t) (sc := none) hD hRR hS (by omega) (fun u hu => by cases hu; exact ht6) (fun u hu => by cases hu) ?_
      unfold wp_X9_thread
      refine m_inY (lo := 0) (hi := 5) (by omega) (by omega) ht ⟨fun c => absurd c (by decide), fun _ => ⟨fun _ => ?_, fun q => absurd q (by decide), fun q => absurd q (by decide), fun q => absurd q (by decide), fun q => absurd q (by decide), fun q => absurd q (by decide), fun q => absurd q (by decide), fun q => absurd q (by decide), fun q0 q1 q2 q3 q4 q5 q6 q7 => absurd rfl q0⟩⟩
      refine mco _ _ _ 0 _ (by omega) (fun _ _ _ => ?_)
      rw [coF_10 hLO]
      exact ⟨rfl, (n, num, row, st), b, hist, h, len, T, hA, hC, hM, hK, hHc, hHm, hT1, hT2, hl1, hl2⟩
    · subst e
      rw [hsz] at hC ⊢
      refine s_ofThread hC.1 hn hN ht6 ?_
      refine s_tally (w := 10) (t := some t) (sc := none) hD hRR hS (by omega) (fun u hu => by cases hu; exact ht6) (fun u hu => by cases hu) ?_
      have h1 := coF_1 (num := num) (st := st) (t := t) hLO
      have e1 : cntT num t n - tallyF num st L 10 (some t) none = sumN (coF num L t 1) n := by omega
      have e3 : nI (cntT num t n) - nI (tallyF num st L 10 (some t) none) = nI (sumN (coF num L t 1) n) := by rw [z_sub (by omega), e1]
      dsimp only
      rw [e3]
      unfold wp_X9_thread
      refine m_inY (lo := 0) (hi := 5) (by omega) (by omega) ht ⟨fun c => absurd c (by decide), fun _ => ⟨fun q => absurd q (by decide), fun _ => ?_, fun q => absurd q (by decide), fun q => absurd q (by decide), fun q => absurd q (by decide), fun q => absurd q (by decide), fun q => absurd q (by decide), fun q => absurd q (by decide), fun q0 q1 q2 q3 q4 q5 q6 q7 => absurd rfl q1⟩⟩
      refine mco _ _ _ 1 _ (by omega) (fun _ _ _ => ?_)
      exact ⟨rfl, (n, num, row, st), b, hist, h, len, T, hA, hC, hM, hK, hHc, hHm, hT1, hT2, hl1, hl2⟩
    · subst e
      refine s_tally (w := 11) (t := some t) (sc := none) hD hRR hS (by omega) (fun u hu => by cases hu; exact ht6) (fun u hu => by cases hu) ?_
      rw [← sRow_len]
      unfold wp_X9_thread
      refine m_inY (lo := 0) (hi := 5) (by omega) (by omega) ht ⟨fun c => absurd c (by decide), fun _ => ⟨fun q => absurd q (by decide), fun q => absurd q (by decide), fun _ => ?_, fun q => absurd q (by decide), fun q => absurd q (by decide), fun q => absurd q (by decide), fun q => absurd q (by decide), fun q => absurd q (by decide), fun q0 q1 q2 q3 q4 q5 q6 q7 => absurd rfl q2⟩⟩
      exact mls _ _ _ _ _ _ (fun _ _ _ _ => ⟨rfl, (n, num, row, st), b, hist, h, len, T, hA, hC, hM, hK, hHc, hHm, hT1, hT2, hl1, hl2⟩)
    · subst e
      refine s_tally (w := 12) (t := some t) (sc := none) hD hRR hS (by omega) (fun u hu => by cases hu; exact ht6) (fun u hu => by cases hu) ?_
      unfold wp_X9_thread
      refine m_inY (lo := 0) (hi := 5) (by omega) (by omega) ht ⟨fun c => absurd c (by decide), fun _ => ⟨fun q => absurd q (by decide), fun q => absurd q (by decide), fun q => absurd q (by decide), fun _ => ?_, fun q => absurd q (by decide), fun q => absurd q (by decide), fun q => absurd q (by decide), fun q => absurd q (by decide), fun q0 q1 q2 q3 q4 q5 q6 q7 => absurd rfl q3⟩⟩
      exact mbr _ _ _ _ _ _ (fun _ _ _ _ _ => ⟨rfl, (n, num, row, st), b, hist, h, len, T, hA, hC, hM, hK, hHc, hHm, hT1, hT2, hl1, hl2⟩)
    · subst e
      refine s_gather hD hRR ht6 (fun gz ra ca ho so hG => ?_)
      refine s_fewest (RGo_flt hD) hG (fun lo => ?_)
      unfold wp_X9_thread
      refine m_inY (lo := 0) (hi := 5) (by omega) (by omega) ht ⟨fun c => absurd c (by decide), fun _ => ⟨fun q => absurd q (by decide), fun q => absurd q (by decide), fun q => absurd q (by decide), fun q => absurd q (by decide), fun _ => ?_, fun q => absurd q (by decide), fun q => absurd q (by decide), fun q => absurd q (by decide), fun q0 q1 q2 q3 q4 q5 q6 q7 => absurd rfl q4⟩⟩
      exact mfe _ _ _ _ _ _ _ (fun _ _ _ _ _ _ => ⟨rfl, (n, num, row, st), b, hist, h, len, T, hA, hC, hM, hK, hHc, hHm, hT1, hT2, hl1, hl2⟩)
    · subst e
      refine s_tally (w := 13) (t := some t) (sc := none) hD hRR hS (by omega) (fun u hu => by cases hu; exact ht6) (fun u hu => by cases hu) ?_
      unfold wp_X9_thread
      refine m_inY (lo := 0) (hi := 5) (by omega) (by omega) ht ⟨fun c => absurd c (by decide), fun _ => ⟨fun q => absurd q (by decide), fun q => absurd q (by decide), fun q => absurd q (by decide), fun q => absurd q (by decide), fun q => absurd q (by decide), fun _ => ?_, fun q => absurd q (by decide), fun q => absurd q (by decide), fun q0 q1 q2 q3 q4 q5 q6 q7 => absurd rfl q5⟩⟩
      exact mth _ _ _ _ (fun _ _ _ => ⟨rfl, (n, num, row, st), b, hist, h, len, T, hA, hC, hM, hK, hHc, hHm, hT1, hT2, hl1, hl2⟩)
    · subst e
      refine s_tally (w := 14) (t := some t) (sc := none) hD hRR hS (by omega) (fun u hu => by cases hu; exact ht6) (fun u hu => by cases hu) ?_
      unfold wp_X9_thread
      refine m_inY (lo := 0) (hi := 5) (by omega) (by omega) ht ⟨fun c => absurd c (by decide), fun _ => ⟨fun q => absurd q (by decide), fun q => absurd q (by decide), fun q => absurd q (by decide), fun q => absurd q (by decide), fun q => absurd q (by decide), fun q => absurd q (by decide), fun _ => ?_, fun q => absurd q (by decide), fun q0 q1 q2 q3 q4 q5 q6 q7 => absurd rfl q6⟩⟩
      exact mti _ _ _ _ _ _ (fun _ _ _ _ _ => ⟨rfl, (n, num, row, st), b, hist, h, len, T, hA, hC, hM, hK, hHc, hHm, hT1, hT2, hl1, hl2⟩)
    · subst e
      refine s_tally (w := 2) (t := some t) (sc := none) hD hRR hS (by omega) (fun u hu => by cases hu; exact ht6) (fun u hu => by cases hu) ?_
      unfold wp_X9_thread
      refine m_inY (lo := 0) (hi := 5) (by omega) (by omega) ht ⟨fun c => absurd c (by decide), fun _ => ⟨fun q => absurd q (by decide), fun q => absurd q (by decide), fun q => absurd q (by decide), fun q => absurd q (by decide), fun q => absurd q (by decide), fun q => absurd q (by decide), fun q => absurd q (by decide), fun _ => ?_, fun q0 q1 q2 q3 q4 q5 q6 q7 => absurd rfl q7⟩⟩
      refine mco _ _ _ 7 _ (by omega) (fun _ _ _ => ?_)
      rw [coF_7 hLO]
      exact ⟨rfl, (n, num, row, st), b, hist, h, len, T, hA, hC, hM, hK, hHc, hHm, hT1, hT2, hl1, hl2⟩
    · unfold wp_X9_thread
      exact m_inY (lo := 0) (hi := 5) (by omega) (by omega) ht ⟨fun c => absurd c (by decide), fun _ => ⟨fun q => absurd q e0, fun q => absurd q e1, fun q => absurd q e2, fun q => absurd q e3, fun q => absurd q e4, fun q => absurd q e5, fun q => absurd q e6, fun q => absurd q e7, fun _ _ _ _ _ _ _ _ => ⟨rfl, (n, num, row, st), b, hist, h, len, T, hA, hC, hM, hK, hHc, hHm, hT1, hT2, hl1, hl2⟩⟩⟩
  · refine s_isThreadN hx ⟨fun _ => ?_, fun c => absurd rfl c⟩
    unfold wp_X9_thread
    exact m_inN (lo := 0) (hi := 5) hx ⟨fun _ => ⟨rfl, (n, num, row, st), b, hist, h, len, T, hA, hC, hM, hK, hHc, hHm, hT1, hT2, hl1, hl2⟩, fun c => absurd rfl c⟩
