/-! history and snapshot: the calls tied; the start -/
theorem RHc_less {hist : Nat → AS} {h k : Nat} {old sz : Int32} {n0 : Int32} {f0 g0 t0 : Nat → Int32} {n1 : Int32} {f1 g1 t1 : Nat → Int32} {n2 : Int32} {f2 g2 t2 : Nat → Int32} {n3 : Int32} {f3 g3 t3 : Nat → Int32} (hH : RHc hist h old sz n0 f0 g0 t0 n1 f1 g1 t1 n2 f2 g2 t2 n3 f3 g3 t3) (hk : k ≤ h) : RHc hist k old (nI k) n0 f0 g0 t0 n1 f1 g1 t1 n2 f2 g2 t2 n3 f3 g3 t3 := by
  obtain ⟨o, ho, h4, e1, e2, hh⟩ := hH
  exact ⟨o, ho, by omega, e1, rfl, fun j hj => hh j (by omega)⟩
theorem m_undo {hist : Nat → AS} {h : Nat} {states : Int32} {s before : Nat → Int32} {post : Int32 → Int32 → (Nat → Int32) → Prop} (hH : RHm hist h states before) (h0 : h = 0 → post (-5) (nI 0) s) (hp : 0 < h → ∀ s, RMs (hist (h - 1)) s → post (nI (h - 1)) (nI (h - 1)) s) : wp_X9_undo states s before post := by
  obtain ⟨h4, rfl, hh⟩ := hH
  unfold wp_X9_undo
  have z : (nI h = (0 : Int32)) ↔ h = 0 := by rw [l0]; exact z_eq (by omega) (by omega)
  rw [z]
  refine ⟨fun q => by subst q; exact h0 rfl, fun q => ?_⟩
  have hpos : 0 < h := by omega
  have hl := hh (h - 1) (by omega)
  unfold wp_X9_undo_l22
  rw [l1, z_sub (by omega)]
  refine lf2_i (fun x1 s2 => ∃ k, k ≤ 316 ∧ x1 = nI k ∧ ∀ i, i < k → s2 i = before (316 * (h - 1) + i)) (fun x1 _ => 316 - x1.toNatClampNeg) ⟨0, by omega, rfl, fun i hi => absurd hi (Nat.not_lt_zero _)⟩ ?_
  rintro x1 s2 ⟨k, hk, rfl, h1⟩
  refine ⟨fun hx => ?_, fun hx => ?_⟩
  · have hk6 : k = 316 := by simp (disch := omega) only [l316, z_le] at hx; omega
    subst hk6
    exact hp hpos s2 (RMs_eq hl.2 hl.1 h1)
  · have hk6 : k < 316 := by simp (disch := omega) only [l316, z_le] at hx; omega
    have ek : (nI k).toNatClampNeg = k := z_cl (by omega)
    rw [l316, z_mul, z_add, z_cl (show 316 * (h - 1) + k < 2147483648 by omega), ek, z_add]
    refine ⟨(z_in (by omega)).mpr (by omega), (z_in (by omega)).mpr (by omega), ⟨k + 1, by omega, rfl, fun i hi => ?_⟩, by simp (disch := omega) only [z_cl]; omega⟩
    rw [z_up]
    by_cases he : i = k
    · subst he; rw [if_pos rfl]
    · rw [if_neg he]; exact h1 i (by omega)
theorem m_wallMany {n : Nat} {num : Nat → Nat → Nat} {row : Nat → List Nat} {st : Nat → Nat} {s : Nat → Int32} {w : Int32} {order rank : Nat → Int32} {post : Int32 → Int32 → (Nat → Int32) → (Nat → Int32) → Prop} (hM : RM n num row st s) (hO : rowOk n row) (h : ∀ w order rank, post (nI (pre row 96).length) w order rank) : wp_X9_wallMany w s order rank post := by
  unfold wp_X9_wallMany
  exact m_layOrder hM hO (fun order rank _ => h _ order rank)
theorem m_keep {a : AS} {w k0 : Int32} {s kept order rank : Nat → Int32} {post : Int32 → Int32 → Int32 → (Nat → Int32) → (Nat → Int32) → (Nat → Int32) → Prop} (hM : RMs a s) (hA : OkS a) (hp : ∀ w kept order rank, RMs a kept → post (nI (pre a.2.2.1 96).length) w 1 kept order rank) : wp_X9_keep w k0 s kept order rank post := by
  unfold wp_X9_keep wp_X9_keep_l2
  have hp2 : ∀ kept2, RMs a kept2 → wp_X9_wallMany w s order rank (fun (r_1 : Int32) (v_onWall_2 : Int32) (v_order_3 : Nat → Int32) (v_rank_4 : Nat → Int32) => post r_1 v_onWall_2 (1 : Int32) kept2 v_order_3 v_rank_4) := fun kept2 hk => m_wallMany hM hA.2.1 (fun w order rank => hp w kept2 order rank hk)
  clear hp
  refine lf2_i (fun x1 s2 => ∃ k, k ≤ 316 ∧ x1 = nI k ∧ ∀ i, i < k → s2 i = s i) (fun x1 _ => 316 - x1.toNatClampNeg) ⟨0, by omega, rfl, fun i hi => absurd hi (Nat.not_lt_zero _)⟩ ?_
  rintro x1 s2 ⟨k, hk, rfl, h1⟩
  refine ⟨fun hx => ?_, fun hx => ?_⟩
  · have hk6 : k = 316 := by simp (disch := omega) only [l316, z_le] at hx; omega
    subst hk6
    exact hp2 s2 (RMs_eq hM hA h1)
  · have hk6 : k < 316 := by simp (disch := omega) only [l316, z_le] at hx; omega
    have ek : (nI k).toNatClampNeg = k := z_cl (by omega)
    rw [ek, l1, z_add]
    refine ⟨(z_in (by omega)).mpr (by omega), (z_in (by omega)).mpr (by omega), ⟨k + 1, by omega, rfl, fun i hi => ?_⟩, by simp (disch := omega) only [z_cl]; omega⟩
    rw [z_up]
    by_cases he : i = k
    · subst he; rw [if_pos rfl]
    · rw [if_neg he]; exact h1 i (by omega)
theorem m_restore {hist : Nat → AS} {h : Nat} {a b : AS} {w states : Int32} {s before kept order rank : Nat → Int32} {post : Int32 → Int32 → Int32 → (Nat → Int32) → (Nat → Int32) → (Nat → Int32) → (Nat → Int32) → Prop} (hH : RHm hist h states before) (hA : OkS a) (hM : RMs a s) (hB : OkS b) (hK : RMs b kept) (hp : ∀ w states s before order rank, RMs b s → RHm (recH hist h a) (recN h) states before → post (nI (pre b.2.2.1 96).length) w states s before order rank) : wp_X9_restore w states 1 s before kept order rank post := by
  unfold wp_X9_restore
  refine ⟨fun c => absurd c (by decide), fun _ => m_record hH hA hM (fun states before hH2 => ?_)⟩
  unfold wp_X9_restore_l16
  have hp2 : ∀ s2, RMs b s2 → wp_X9_wallMany w s2 order rank (fun (r_4 : Int32) (v_onWall_5 : Int32) (v_order_6 : Nat → Int32) (v_rank_7 : Nat → Int32) => post r_4 v_onWall_5 states s2 before v_order_6 v_rank_7) := fun s2 hs => m_wallMany hs hB.2.1 (fun w order rank => hp w states s2 before order rank hs hH2)
  clear hp
  refine lf2_i (fun x1 s2 => ∃ k, k ≤ 316 ∧ x1 = nI k ∧ ∀ i, i < k → s2 i = kept i) (fun x1 _ => 316 - x1.toNatClampNeg) ⟨0, by omega, rfl, fun i hi => absurd hi (Nat.not_lt_zero _)⟩ ?_
  rintro x1 s2 ⟨k, hk, rfl, h1⟩
  refine ⟨fun hx => ?_, fun hx => ?_⟩
  · have hk6 : k = 316 := by simp (disch := omega) only [l316, z_le] at hx; omega
    subst hk6
    exact hp2 s2 (RMs_eq hK hB h1)
  · have hk6 : k < 316 := by simp (disch := omega) only [l316, z_le] at hx; omega
    have ek : (nI k).toNatClampNeg = k := z_cl (by omega)
    rw [ek, l1, z_add]
    refine ⟨(z_in (by omega)).mpr (by omega), (z_in (by omega)).mpr (by omega), ⟨k + 1, by omega, rfl, fun i hi => ?_⟩, by simp (disch := omega) only [z_cl]; omega⟩
    rw [z_up]
    by_cases he : i = k
    · subst he; rw [if_pos rfl]
    · rw [if_neg he]; exact h1 i (by omega)
theorem sim_undo : gSim_undo simR := by
  intro  xv_kept xv_now_cards_size xv_now_cards_numbers xv_now_wall_slots xv_now_settings xv_snapshot_cards_size xv_snapshot_cards_numbers xv_snapshot_wall_slots xv_snapshot_settings xv_history_oldest xv_history_size xv_history_states_0_cards_size xv_history_states_0_cards_numbers xv_history_states_0_wall_slots xv_history_states_0_settings xv_history_states_1_cards_size xv_history_states_1_cards_numbers xv_history_states_1_wall_slots xv_history_states_1_settings xv_history_states_2_cards_size xv_history_states_2_cards_numbers xv_history_states_2_wall_slots xv_history_states_2_settings xv_history_states_3_cards_size xv_history_states_3_cards_numbers xv_history_states_3_wall_slots xv_history_states_3_settings xv_text_length xv_text_position xv_text_faulty xv_text_signs xv_text_cards_size xv_text_cards_numbers xv_trial_slots xv_reading_mostScenesWithout xv_reading_mostHoursWithout xv_reading_size xv_reading_cards_size xv_reading_cards_numbers xv_reading_names xv_reading_slots xv_reading_ahead xv_reading_straightAhead xv_reading_last xv_reading_lastStraight xv_straightRow_size xv_straightRow_ranks xv_straightRow_cards xv_straightRow_hours xv_straightRow_slots xv_straightRow_sorted xv_straightRow_longest xv_tensions_values xv_tensions_climbs mv_onWall mv_straightMany mv_length mv_states mv_isKept mv_at mv_cards mv_s mv_before mv_kept mv_aside mv_order mv_rank mv_straight mv_sorted mv_longest mv_read mv_text hsim
  obtain ⟨a, b, hist, h, len, T, hA, hC, hM, hK, hHc, hHm, hT1, hT2, hl1, hl2⟩ := hsim
  unfold wp_X8_undo
  refine s_takeBack hHc (fun h0 => ?_) (fun h0 n f g t hR => ?_)
  · subst h0
    refine ⟨fun _ => m_undo hHm (fun _ => ?_) (fun c => absurd c (Nat.lt_irrefl _)), fun c => absurd rfl c⟩
    exact ⟨rfl, a, b, hist, 0, len, T, hA, hC, hM, hK, RHc_less hHc (Nat.le_refl _), ⟨by omega, rfl, fun j hj => absurd hj (Nat.not_lt_zero _)⟩, hT1, hT2, hl1, hl2⟩
  · have hok := (hHm.2.2 (h - 1) (by omega)).1
    have h4 := hHm.1
    unfold wp_X2_size
    refine ⟨fun c => absurd c (by decide), fun _ => m_undo hHm (fun c => by omega) (fun _ s hs => ?_)⟩
    exact ⟨rfl, hist (h - 1), b, hist, h - 1, len, T, hok, hR, hs, hK, RHc_less hHc (by omega), ⟨by omega, rfl, fun j hj => hHm.2.2 j (by omega)⟩, hT1, hT2, hl1, hl2⟩
theorem sim_keep : gSim_keep simR := by
  intro  xv_kept xv_now_cards_size xv_now_cards_numbers xv_now_wall_slots xv_now_settings xv_snapshot_cards_size xv_snapshot_cards_numbers xv_snapshot_wall_slots xv_snapshot_settings xv_history_oldest xv_history_size xv_history_states_0_cards_size xv_history_states_0_cards_numbers xv_history_states_0_wall_slots xv_history_states_0_settings xv_history_states_1_cards_size xv_history_states_1_cards_numbers xv_history_states_1_wall_slots xv_history_states_1_settings xv_history_states_2_cards_size xv_history_states_2_cards_numbers xv_history_states_2_wall_slots xv_history_states_2_settings xv_history_states_3_cards_size xv_history_states_3_cards_numbers xv_history_states_3_wall_slots xv_history_states_3_settings xv_text_length xv_text_position xv_text_faulty xv_text_signs xv_text_cards_size xv_text_cards_numbers xv_trial_slots xv_reading_mostScenesWithout xv_reading_mostHoursWithout xv_reading_size xv_reading_cards_size xv_reading_cards_numbers xv_reading_names xv_reading_slots xv_reading_ahead xv_reading_straightAhead xv_reading_last xv_reading_lastStraight xv_straightRow_size xv_straightRow_ranks xv_straightRow_cards xv_straightRow_hours xv_straightRow_slots xv_straightRow_sorted xv_straightRow_longest xv_tensions_values xv_tensions_climbs mv_onWall mv_straightMany mv_length mv_states mv_isKept mv_at mv_cards mv_s mv_before mv_kept mv_aside mv_order mv_rank mv_straight mv_sorted mv_longest mv_read mv_text hsim
  obtain ⟨a, b, hist, h, len, T, hA, hC, hM, hK, hHc, hHm, hT1, hT2, hl1, hl2⟩ := hsim
  unfold wp_X8_keep
  refine s_copyState hC hA.2.1.2.2.2 (fun n f g t hR => ?_)
  refine s_cards7 hC.2.1 hA.2.1 ?_
  refine m_keep hM hA (fun w kept order rank hk => ?_)
  exact ⟨rfl, a, a, hist, h, len, T, hA, hC, hM, Or.inr ⟨rfl, rfl, hA, hR, hk⟩, hHc, hHm, hT1, hT2, hl1, hl2⟩
theorem sim_restore : gSim_restore simR := by
  intro  xv_kept xv_now_cards_size xv_now_cards_numbers xv_now_wall_slots xv_now_settings xv_snapshot_cards_size xv_snapshot_cards_numbers xv_snapshot_wall_slots xv_snapshot_settings xv_history_oldest xv_history_size xv_history_states_0_cards_size xv_history_states_0_cards_numbers xv_history_states_0_wall_slots xv_history_states_0_settings xv_history_states_1_cards_size xv_history_states_1_cards_numbers xv_history_states_1_wall_slots xv_history_states_1_settings xv_history_states_2_cards_size xv_history_states_2_cards_numbers xv_history_states_2_wall_slots xv_history_states_2_settings xv_history_states_3_cards_size xv_history_states_3_cards_numbers xv_history_states_3_wall_slots xv_history_states_3_settings xv_text_length xv_text_position xv_text_faulty xv_text_signs xv_text_cards_size xv_text_cards_numbers xv_trial_slots xv_reading_mostScenesWithout xv_reading_mostHoursWithout xv_reading_size xv_reading_cards_size xv_reading_cards_numbers xv_reading_names xv_reading_slots xv_reading_ahead xv_reading_straightAhead xv_reading_last xv_reading_lastStraight xv_straightRow_size xv_straightRow_ranks xv_straightRow_cards xv_straightRow_hours xv_straightRow_slots xv_straightRow_sorted xv_straightRow_longest xv_tensions_values xv_tensions_climbs mv_onWall mv_straightMany mv_length mv_states mv_isKept mv_at mv_cards mv_s mv_before mv_kept mv_aside mv_order mv_rank mv_straight mv_sorted mv_longest mv_read mv_text hsim
  obtain ⟨a, b, hist, h, len, T, hA, hC, hM, hK, hHc, hHm, hT1, hT2, hl1, hl2⟩ := hsim
  unfold wp_X8_restore
  rcases hK with ⟨k1, k2⟩ | ⟨k1, k2, hB, hCb, hMb⟩
  · subst k1 k2
    refine ⟨fun _ => ?_, fun c => absurd rfl c⟩
    unfold wp_X9_restore
    refine ⟨fun _ => ?_, fun c => absurd rfl c⟩
    exact ⟨rfl, a, b, hist, h, len, T, hA, hC, hM, Or.inl ⟨rfl, rfl⟩, hHc, hHm, hT1, hT2, hl1, hl2⟩
  · subst k1 k2
    refine ⟨fun c => absurd c (by decide), fun _ => ?_⟩
    refine s_record hHc hA hC (fun old sz n0 f0 g0 t0 n1 f1 g1 t1 n2 f2 g2 t2 n3 f3 g3 t3 hH2 => ?_)
    refine s_copyState hCb hB.2.1.2.2.2 (fun n f g t hR => ?_)
    refine s_cards7 hR.2.1 hB.2.1 ?_
    refine m_restore hHm hA hM hB hMb (fun w states s before order rank hs hHm2 => ?_)
    exact ⟨rfl, b, b, _, _, len, T, hB, hR, hs, Or.inr ⟨rfl, rfl, hB, hCb, hMb⟩, hH2, hHm2, hT1, hT2, hl1, hl2⟩
/-- the new object -/
def aS : AS := (0, fun _ _ => 0, fun _ => [], fun i => if i = 0 then 3 else 100)
theorem once_nil : once (fun _ => ([] : List Nat)) := fun c s t _ _ h _ => by simp at h
theorem aS_ok : OkS aS := ⟨fun c hc => absurd hc (Nat.not_lt_zero _), ⟨fun _ => Nat.zero_le _, fun _ c hc => (List.not_mem_nil hc).elim, once_nil, Nat.zero_le _⟩, by unfold setOk aS; decide⟩
theorem aS_RC {g : Nat → Int32} (hg : gW96 g) : RC aS (0 : Int32) (fun _ => 0) g (upd (upd (upd (fun _ => 0) ((0 : Int32)).toNatClampNeg (3 : Int32)) ((1 : Int32)).toNatClampNeg (100 : Int32)) ((2 : Int32)).toNatClampNeg (100 : Int32)) := by
  refine ⟨⟨rfl, fun c hc => absurd hc (Nat.not_lt_zero _)⟩, fun sc hsc p hp => ?_, fun i hi => ?_⟩
  · rw [hg _ (by omega)]; rfl
  · have e0 : ((0 : Int32)).toNatClampNeg = 0 := rfl
    have e1 : ((1 : Int32)).toNatClampNeg = 1 := rfl
    have e2 : ((2 : Int32)).toNatClampNeg = 2 := rfl
    rw [e0, e1, e2]
    rcases (show i = 0 ∨ i = 1 ∨ i = 2 by omega) with rfl | rfl | rfl
    · rw [z_up_n (by omega), z_up_n (by omega), z_up_s]; rfl
    · rw [z_up_n (by omega), z_up_s]; rfl
    · rw [z_up_s]; rfl
theorem sim_init : gInit simR := by
  intro f0 f1 f2 f3 f4 f5 f6 h0 h1 h2 h3 h4 h5 h6
  refine ⟨aS, aS, fun _ => aS, 0, 0, fun _ => 0, aS_ok, aS_RC h0, ?_, Or.inl ⟨rfl, rfl⟩, ⟨0, by omega, by omega, rfl, rfl, fun j hj => absurd hj (Nat.not_lt_zero _)⟩, ⟨by omega, rfl, fun j hj => absurd hj (Nat.not_lt_zero _)⟩, ⟨by omega, fun _ => (by decide : 0 < 65536), fun k hk => absurd hk (Nat.not_lt_zero _)⟩, ⟨by omega, fun _ => (by decide : 0 < 65536), fun k hk => absurd hk (Nat.not_lt_zero _)⟩, rfl, rfl⟩
  have e1 : ((1 : Int32)).toNatClampNeg = 1 := rfl
  have e2 : ((2 : Int32)).toNatClampNeg = 2 := rfl
  have e3 : ((3 : Int32)).toNatClampNeg = 3 := rfl
  rw [e1, e2, e3]
  refine ⟨?_, fun i hi => ?_, fun c hc => absurd hc (Nat.not_lt_zero _), fun sc hsc => ⟨?_, fun p hp => absurd hp (Nat.not_lt_zero _)⟩⟩
  · rw [z_up_n (by omega), z_up_n (by omega), z_up_n (by omega)]; rfl
  · rcases (show i = 0 ∨ i = 1 ∨ i = 2 by omega) with rfl | rfl | rfl
    · rw [z_up_n (by omega), z_up_n (by omega), z_up_s]; rfl
    · rw [z_up_n (by omega), z_up_s]; rfl
    · rw [z_up_s]; rfl
  · rw [z_up_n (by omega), z_up_n (by omega), z_up_n (by omega)]; rfl
