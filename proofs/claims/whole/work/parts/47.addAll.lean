/-! the cards of a text, written -/
def addN (num : Nat → Nat → Nat) (n : Nat) (cs : List (Nat → Nat)) : Nat → Nat → Nat := fun i k => if i < n then num i k else cN cs (i - n) k
theorem addN_ok {n : Nat} {num : Nat → Nat → Nat} {cs : List (Nat → Nat)} (hN : numOk n num) (hc : csOk cs) : numOk (n + cs.length) (addN num n cs) := by
  intro i hi
  unfold addN
  by_cases h : i < n
  · simp only [if_pos h]; exact hN i h
  · simp only [if_neg h]; exact hc (i - n) (by omega)
theorem RCd_congr {n : Nat} {num num2 : Nat → Nat → Nat} {size : Int32} {f : Nat → Int32} (h : RCd n num size f) (he : ∀ c, c < n → ∀ k, k < 5 → num2 c k = num c k) : RCd n num2 size f := ⟨h.1, fun c hc k hk => by rw [he c hc k hk]; exact h.2 c hc k hk⟩
theorem RM_congr {n : Nat} {num num2 : Nat → Nat → Nat} {row : Nat → List Nat} {st : Nat → Nat} {s : Nat → Int32} (h : RM n num row st s) (he : ∀ c, c < n → ∀ k, k < 5 → num2 c k = num c k) : RM n num2 row st s := ⟨h.1, h.2.1, fun c hc k hk => by rw [he c hc k hk]; exact h.2.2.1 c hc k hk, h.2.2.2⟩
theorem m_addAll39 {n : Nat} {num : Nat → Nat → Nat} {row : Nat → List Nat} {st : Nat → Nat} {s before rd text : Nat → Int32} {len states at_ : Int32} {cs : List (Nat → Nat)} {post : Int32 → Int32 → Int32 → Int32 → (Nat → Int32) → (Nat → Int32) → (Nat → Int32) → Prop} (hM : RM n num row st s) (hRe : RRe cs rd) (hl : cs.length ≤ 8) (h40 : n + cs.length ≤ 40) (h : ∀ s2, RM (n + cs.length) (addN num n cs) row st s2 → post (nI cs.length) states at_ (nI cs.length) s2 before rd) : wp_X9_addAll_l39 0 len states at_ (nI cs.length) s before rd text post := by
  unfold wp_X9_addAll_l39
  refine lf2_i (fun x2 s2 => ∃ j, j ≤ cs.length ∧ x2 = nI j ∧ RM (n + j) (addN num n cs) row st s2) (fun x2 _ => cs.length - x2.toNatClampNeg) ⟨0, by omega, rfl, RM_congr hM (fun c hc k hk => by unfold addN; rw [if_pos (by omega)])⟩ ?_
  rintro x2 s2 ⟨j, hj, rfl, hM2⟩
  rw [z_le (by omega) (by omega)]
  refine ⟨fun q => ?_, fun q => ?_⟩
  · have : j = cs.length := by omega
    subst this; exact h s2 hM2
  · have hjl : j < cs.length := by omega
    simp (disch := omega) only [l1, l2, l3, l4, l5, z_mul, z_add, z_cl, z_in]
    have r0 := hRe j hjl 0 (by omega)
    have r1 := hRe j hjl 1 (by omega)
    have r2 := hRe j hjl 2 (by omega)
    have r3 := hRe j hjl 3 (by omega)
    have r4 := hRe j hjl 4 (by omega)
    rw [Nat.add_zero] at r0
    rw [r0, r1, r2, r3, r4]
    refine ⟨by omega, by omega, by omega, by omega, by omega, m_write hM2 (by omega) (fun s3 hM3 _ => ⟨⟨j + 1, by omega, rfl, ?_⟩, by omega⟩)⟩
    refine RM_congr hM3 (fun c hc k hk => ?_)
    by_cases he : c = n + j
    · subst he
      rw [mkC_num5]
      unfold addN
      rw [if_neg (by omega), Nat.add_sub_cancel_left]
      rcases (show k = 0 ∨ k = 1 ∨ k = 2 ∨ k = 3 ∨ k = 4 by omega) with rfl | rfl | rfl | rfl | rfl <;> rfl
    · unfold num5; rw [if_neg he]
theorem sim_addAll : gSim_addAll simR := by
  intro  xv_kept xv_now_cards_size xv_now_cards_numbers xv_now_wall_slots xv_now_settings xv_snapshot_cards_size xv_snapshot_cards_numbers xv_snapshot_wall_slots xv_snapshot_settings xv_history_oldest xv_history_size xv_history_states_0_cards_size xv_history_states_0_cards_numbers xv_history_states_0_wall_slots xv_history_states_0_settings xv_history_states_1_cards_size xv_history_states_1_cards_numbers xv_history_states_1_wall_slots xv_history_states_1_settings xv_history_states_2_cards_size xv_history_states_2_cards_numbers xv_history_states_2_wall_slots xv_history_states_2_settings xv_history_states_3_cards_size xv_history_states_3_cards_numbers xv_history_states_3_wall_slots xv_history_states_3_settings xv_text_length xv_text_position xv_text_faulty xv_text_signs xv_text_cards_size xv_text_cards_numbers xv_trial_slots xv_reading_mostScenesWithout xv_reading_mostHoursWithout xv_reading_size xv_reading_cards_size xv_reading_cards_numbers xv_reading_names xv_reading_slots xv_reading_ahead xv_reading_straightAhead xv_reading_last xv_reading_lastStraight xv_straightRow_size xv_straightRow_ranks xv_straightRow_cards xv_straightRow_hours xv_straightRow_slots xv_straightRow_sorted xv_straightRow_longest xv_tensions_values xv_tensions_climbs mv_onWall mv_straightMany mv_length mv_states mv_isKept mv_at mv_cards mv_s mv_before mv_kept mv_aside mv_order mv_rank mv_straight mv_sorted mv_longest mv_read mv_text hsim
  obtain ⟨a, b, hist, h, len, T, hA, hC, hM, hK, hHc, hHm, hT1, hT2, hl1, hl2⟩ := hsim
  obtain ⟨n, num, row, st⟩ := a
  have hn : n ≤ 40 := hA.2.1.2.2.2
  have hsz : xv_now_cards_size = nI n := hC.1.1
  have hs0 : mv_s ((0 : Int32)).toNatClampNeg = nI n := hM.1
  unfold wp_X8_addAll
  subst hl1
  rw [hsz] at hC ⊢
  refine s_readAll hT1 (fun cs q y z size f hcs hok h8 hR => ?_) (fun q y z size f hcs hq => ?_)
  · refine ⟨fun _ => ?_, fun c => absurd rfl c⟩
    unfold wp_X1_size wp_X1_hasRoomFor
    have hsize : size = nI cs.length := hR.1
    rw [hsize] at hR ⊢
    rw [l40, z_sub hn]
    dsimp only
    rw [z_lt (by omega) (by omega)]
    have mfault : ∀ (po : Int32 → Int32 → Int32 → Int32 → (Nat → Int32) → (Nat → Int32) → (Nat → Int32) → Prop), (40 < n + cs.length → ∀ y rd, po (-3) mv_states y (nI cs.length) mv_s mv_before rd) → (n + cs.length ≤ 40 → ∀ states before y s2 rd, RM (n + cs.length) (addN num n cs) row st s2 → RHm (recH hist h (n, num, row, st)) (recN h) states before → po (nI cs.length) states y (nI cs.length) s2 before rd) → wp_X9_addAll mv_length mv_states mv_at mv_cards mv_s mv_before mv_read mv_text po := by
      intro po hp1 hp2
      rw [hl2]
      unfold wp_X9_addAll
      refine m_faultOf hT2 (fun cs2 q2 y rd hcs2 hRe => ?_) (fun q2 y z rd hcs2 => ?_)
      · rw [hcs] at hcs2
        have e : cs = cs2 := by injection hcs2 with e1 e2; exact Option.some.inj e1
        subst e
        refine ⟨fun _ => ?_, fun c => absurd (by decide) c⟩
        rw [hs0, z_add, l40, z_le (by omega) (by omega)]
        refine ⟨fun c => m_record hHm hA hM (fun states before hHm2 => m_addAll39 hM hRe h8 c (fun s2 hM2 => hp2 c _ _ _ _ _ hM2 hHm2)), fun c => hp1 (by omega) _ _⟩
      · rw [hcs] at hcs2; cases hcs2
    refine ⟨fun c => ⟨fun _ => mfault _ (fun _ y rd => ?_) (fun c2 => absurd c2 (by omega)), fun c2 => absurd rfl c2⟩, fun c => ⟨fun c2 => absurd c2 (by decide), fun _ => ?_⟩⟩
    · exact ⟨rfl, (n, num, row, st), b, hist, h, len, T, hA, hC, hM, hK, hHc, hHm, hT1, hT2, rfl, hl2⟩
    · refine s_record hHc hA hC (fun old sz n0 f0 g0 t0 n1 f1 g1 t1 n2 f2 g2 t2 n3 f3 g3 t3 hH2 => ?_)
      unfold wp_X8_addAll_l60 wp_X1_size
      refine lf3_i (fun x3 size2 f2 => ∃ j, j ≤ cs.length ∧ x3 = nI j ∧ RCd (n + j) (addN num n cs) size2 f2) (fun x3 _ _ => cs.length - x3.toNatClampNeg) ⟨0, by omega, rfl, RCd_congr hC.1 (fun c hc k hk => by unfold addN; rw [if_pos (show c < n from hc)])⟩ ?_
      rintro x3 size2 f2 ⟨j, hj, rfl, hR2⟩
      rw [z_le (by omega) (by omega)]
      refine ⟨fun q2 => mfault _ (fun c2 => absurd c2 (by omega)) (fun _ states before y s2 rd hM2 hHm2 => ?_), fun q2 => ?_⟩
      · have : j = cs.length := by omega
        subst this
        have e2 : size2 = nI (n + cs.length) := hR2.1
        exact ⟨rfl, (n + cs.length, addN num n cs, row, st), b, _, _, len, T, ⟨addN_ok hA.1 hok, rowOk_up hA.2.1 (by omega) (by omega), hA.2.2⟩, ⟨hR2, hC.2.1, hC.2.2⟩, hM2, hK, hH2, hHm2, hT1, hT2, rfl, hl2⟩
      · refine s_appendFrom hR2 (by omega) hR (by omega) (show j < cs.length by omega) (fun f' hf' => ?_)
        rw [l1, z_add]
        refine ⟨⟨j + 1, by omega, rfl, ?_⟩, by simp (disch := omega) only [z_cl]; omega⟩
        refine RCd_congr hf' (fun c hc k hk => ?_)
        show addN num n cs c k = if c = n + j then cN cs j k else addN num n cs c k
        by_cases he : c = n + j
        · rw [if_pos he]; subst he; unfold addN; rw [if_neg (by omega), Nat.add_sub_cancel_left]
        · rw [if_neg he]
  · refine ⟨fun c => absurd c (by have hl := hT1.1; have e5 : (-5 : Int32) = -nI 5 := rfl; rw [e5, z_en (by omega) (by omega) (by omega)]; exact id), fun _ => ?_⟩
    rw [hl2]
    unfold wp_X9_addAll
    have hlen := hT1.1
    refine m_faultOf hT2 (fun cs2 q2 y rd hcs2 hRe => ?_) (fun q2 y z rd hcs2 => ?_)
    · rw [hcs] at hcs2; cases hcs2
    · rw [hcs] at hcs2
      have e : q = q2 := by injection hcs2
      subst e
      refine ⟨fun c => absurd c (by rw [show (0 : Int32) = nI 0 from rfl, z_lt (by omega) (by omega)]; omega), fun _ => ?_⟩
      exact ⟨rfl, (n, num, row, st), b, hist, h, len, T, hA, hC, hM, hK, hHc, hHm, hT1, hT2, rfl, rfl⟩
