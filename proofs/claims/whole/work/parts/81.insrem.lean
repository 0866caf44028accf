/-! a scene put in, a scene taken out -/
/-- a hole that wanders on -/
def mvS (sc h : Nat) : Nat → Nat := fun j => if j < sc then j else if j < h then j + 1 else if j = h then sc else j
section
variable {n : Nat} {num : Nat → Nat → Nat} {row : Nat → List Nat} {st : Nat → Nat} {s : Nat → Int32}
theorem x_at {r : Nat → List Nat} {a b k : Nat} : xRow r a b k = r (if k = a then b else if k = b then a else k) := by rw [x_perm]; rfl
theorem ins_step {k j : Nat} (hk : 0 < k) (hk2 : k ≤ 15) (hj : j < 16) : permRow row (insS (k - 1)) j = xRow (permRow row (insS k)) (k - 1) k j := by
  rw [x_at]
  unfold permRow insS
  congr 1
  first | omega | ((repeat' split) <;> omega)
theorem ins_15 {j : Nat} (hj : j < 16) : permRow row (insS 15) j = row j := by
  unfold permRow insS
  by_cases h : j < 15
  · rw [if_pos h]
  · rw [if_neg h, if_pos (by omega)]; congr 1; omega
theorem mv_step {sc h j : Nat} (h1 : sc ≤ h) (h2 : h < 15) (hj : j < 16) : permRow row (mvS sc (h + 1)) j = xRow (permRow row (mvS sc h)) h (h + 1) j := by
  rw [x_at]
  unfold permRow mvS
  congr 1
  first | omega | ((repeat' split) <;> omega)
theorem mv_0 {sc j : Nat} : permRow row (mvS sc sc) j = row j := by
  unfold permRow mvS
  by_cases c1 : j < sc
  · rw [if_pos c1]
  · rw [if_neg c1, if_neg c1]
    by_cases c2 : j = sc
    · rw [if_pos c2, c2]
    · rw [if_neg c2]
theorem mv_15 {sc j : Nat} (hsc : sc < 16) (hj : j < 16) : permRow row (remS sc) j = permRow row (mvS sc 15) j := by
  unfold permRow remS mvS
  congr 1
/-- the wall of the class with a scene put in -/
theorem s_ins {g : Nat → Int32} {I : Int32 → (Nat → Int32) → Prop} {sc k : Nat} (hW : RW (permRow row (insS k)) g) (hk : sc < k) (hk2 : k ≤ 15) (h : ∀ g', RW (permRow row (insS (k - 1))) g' → I (nI (k - 1)) g') : wp_X7_exchangeScenes (nI k - 1) (nI k) g (fun u => I (nI k + -1) u) := by
  have e1 : nI k - (1 : Int32) = nI (k - 1) := by rw [l1, z_sub (by omega)]
  have e2 : nI k + (-1 : Int32) = nI (k - 1) := by rw [show (-1 : Int32) = -nI 1 from rfl, z_addn (by omega)]
  rw [e1]
  refine s_exchangeScenes hW (by omega) (by omega) (by omega) (fun g' hg' => ?_)
  rw [e2]
  exact h g' (RW_congr hg' (fun j hj => ins_step (by omega) hk2 hj))
theorem s_rem {g : Nat → Int32} {I : Int32 → (Nat → Int32) → Prop} {sc k : Nat} (hW : RW (permRow row (mvS sc k)) g) (hk : sc ≤ k) (hk2 : k < 15) (h : ∀ g', RW (permRow row (mvS sc (k + 1))) g' → I (nI (k + 2)) g') : wp_X7_exchangeScenes (nI (k + 1) - 1) (nI (k + 1)) g (fun u => I (nI (k + 1) + 1) u) := by
  have e1 : nI (k + 1) - (1 : Int32) = nI k := by rw [l1, z_sub (by omega), Nat.add_sub_cancel]
  have e2 : nI (k + 1) + (1 : Int32) = nI (k + 2) := by rw [l1, z_add]
  rw [e1]
  refine s_exchangeScenes hW (by omega) (by omega) (by omega) (fun g' hg' => ?_)
  rw [e2]
  exact h g' (RW_congr hg' (fun j hj => mv_step hk hk2 hj))
/-- the model -/
theorem m_ins35 {states : Int32} {before : Nat → Int32} {sc : Nat} {post : Int32 → Int32 → (Nat → Int32) → (Nat → Int32) → Prop} (hM : RM n num row st s) (hO : rowOk n row) (hsc : sc < 16) (h15 : row 15 = []) (h : ∀ s2, RM n num (permRow row (insS sc)) st s2 → post (nI (cnt (full (permRow row (insS sc))) 16)) states s2 before) : wp_X9_insertScene_l35 (nI sc) 15 states s before post := by
  have hn := hO.2.2.2
  unfold wp_X9_insertScene_l35
  refine lf2_i (fun x2 s2 => ∃ k, sc ≤ k ∧ k ≤ 15 ∧ x2 = nI k ∧ RM n num (fun j => if j ≤ k then row j else row (j - 1)) st s2) (fun x2 _ => x2.toNatClampNeg) ⟨15, by omega, by omega, rfl, RM_rows hM (fun j hj => if_pos (by omega))⟩ ?_
  rintro x2 s2 ⟨k, hk, hk2, rfl, hM2⟩
  rw [z_le (by omega) (by omega)]
  have h6 : ∀ j, ((fun j => if j ≤ k then row j else row (j - 1)) j).length ≤ 6 := by
    intro j
    show (if j ≤ k then row j else row (j - 1)).length ≤ 6
    split <;> exact hO.1 _
  refine ⟨fun hx => ?_, fun hx => ?_⟩
  · have hke : k = sc := by omega
    subst hke
    refine m_row ⟨in_row hsc, ?_⟩
    have hM3 := m_empty hM2 hn h6 hsc
    have hM4 : RM n num (permRow row (insS k)) st (upd s2 (204 + 7 * k) 0) := by
      refine RM_rows hM3 (fun j hj => ?_)
      show row (insS k j) = if j = k then [] else if j ≤ k then row j else row (j - 1)
      unfold insS
      by_cases c1 : j < k
      · rw [if_pos c1, if_neg (by omega), if_pos (by omega)]
      · rw [if_neg c1]
        by_cases c2 : j = k
        · rw [if_pos c2, if_pos c2]; exact h15
        · rw [if_neg c2, if_pos hj, if_neg c2, if_neg (by omega)]
    have ec : (nI (204 + 7 * k)).toNatClampNeg = 204 + 7 * k := z_cl (by omega)
    rw [ec]
    exact m_scenes hM4 (ins_ok hO hsc) (h _ hM4)
  · have e1 : nI k - (1 : Int32) = nI (k - 1) := by rw [l1, z_sub (by omega)]
    have e2 : nI k + (-1 : Int32) = nI (k - 1) := by rw [show (-1 : Int32) = -nI 1 from rfl, z_addn (by omega)]
    rw [e1]
    refine m_copyRow hM2 hn h6 (by omega) (by omega) (by omega) (fun s3 hM3 _ => ?_)
    rw [e2]
    refine ⟨⟨k - 1, by omega, by omega, rfl, RM_rows hM3 (fun j hj => ?_)⟩, by simp (disch := omega) only [z_cl]; omega⟩
    show (if j ≤ k - 1 then row j else row (j - 1)) = if j = k then (if k - 1 ≤ k then row (k - 1) else row (k - 1 - 1)) else if j ≤ k then row j else row (j - 1)
    by_cases c1 : j = k
    · rw [if_pos c1, if_neg (by omega), if_pos (by omega), c1]
    · rw [if_neg c1]
      by_cases c2 : j ≤ k
      · rw [if_pos c2, if_pos (by omega)]
      · rw [if_neg c2, if_neg (by omega)]
theorem m_rem70 {states : Int32} {before : Nat → Int32} {sc : Nat} {post : Int32 → Int32 → (Nat → Int32) → (Nat → Int32) → Prop} (hM : RM n num row st s) (hO : rowOk n row) (hsc : sc < 16) (h0 : row sc = []) (h : ∀ s2, RM n num (permRow row (remS sc)) st s2 → post (nI (cnt (full (permRow row (remS sc))) 16)) states s2 before) : wp_X9_removeScene_l70 (nI sc) states s before post := by
  have hn := hO.2.2.2
  unfold wp_X9_removeScene_l70
  refine lf2_i (fun x2 s2 => ∃ k, sc ≤ k ∧ k ≤ 15 ∧ x2 = nI k ∧ RM n num (fun j => if sc ≤ j ∧ j < k then row (j + 1) else row j) st s2) (fun x2 _ => 15 - x2.toNatClampNeg) ⟨sc, by omega, by omega, rfl, RM_rows hM (fun j hj => if_neg (by omega))⟩ ?_
  rintro x2 s2 ⟨k, hk, hk2, rfl, hM2⟩
  rw [l15, z_le (by omega) (by omega)]
  have h6 : ∀ j, ((fun j => if sc ≤ j ∧ j < k then row (j + 1) else row j) j).length ≤ 6 := by
    intro j
    show (if sc ≤ j ∧ j < k then row (j + 1) else row j).length ≤ 6
    split <;> exact hO.1 _
  refine ⟨fun hx => ?_, fun hx => ?_⟩
  · have hke : k = 15 := by omega
    subst hke
    refine m_row ⟨in_row (by omega), ?_⟩
    have hM3 := m_empty (sc := 15) hM2 hn h6 (by omega)
    have hM4 : RM n num (permRow row (remS sc)) st (upd s2 (204 + 7 * 15) 0) := by
      refine RM_rows hM3 (fun j hj => ?_)
      show row (remS sc j) = if j = 15 then [] else if sc ≤ j ∧ j < 15 then row (j + 1) else row j
      unfold remS
      by_cases c1 : j < sc
      · rw [if_pos c1, if_neg (by omega), if_neg (by omega)]
      · rw [if_neg c1]
        by_cases c2 : j = 15
        · rw [if_neg (by omega), if_pos c2, if_pos c2]; exact h0
        · rw [if_pos (by omega), if_neg c2, if_pos (by omega)]
    have ec : (nI (204 + 7 * 15)).toNatClampNeg = 204 + 7 * 15 := z_cl (by omega)
    rw [ec]
    exact m_scenes hM4 (rem_ok hO hsc) (h _ hM4)
  · have e1 : nI k + (1 : Int32) = nI (k + 1) := by rw [l1, z_add]
    rw [e1]
    refine m_copyRow hM2 hn h6 (by omega) (by omega) (by omega) (fun s3 hM3 _ => ?_)
    refine ⟨⟨k + 1, by omega, by omega, rfl, RM_rows hM3 (fun j hj => ?_)⟩, by simp (disch := omega) only [z_cl]; omega⟩
    show (if sc ≤ j ∧ j < k + 1 then row (j + 1) else row j) = if j = k then (if sc ≤ k + 1 ∧ k + 1 < k then row (k + 1 + 1) else row (k + 1)) else if sc ≤ j ∧ j < k then row (j + 1) else row j
    by_cases c1 : j = k
    · rw [if_pos c1, if_pos (by omega), if_neg (by omega), c1]
    · rw [if_neg c1]
      by_cases c2 : sc ≤ j ∧ j < k
      · rw [if_pos c2, if_pos (by omega)]
      · rw [if_neg c2, if_neg (by omega)]
theorem m_rem33 {states : Int32} {before : Nat → Int32} {sc : Nat} {post : Int32 → Int32 → (Nat → Int32) → (Nat → Int32) → Prop} (hM : RM n num row st s) (hO : rowOk n row) (hsc : sc < 16) (h0 : anyS row (sc + 1) 16 = false → post (-5) states s before) (h1 : anyS row (sc + 1) 16 = true → wp_X9_record states s before (fun states_6 before_7 => wp_X9_removeScene_l70 (nI sc) states_6 s before_7 post)) : wp_X9_removeScene_l33 (nI sc) 0 (nI (sc + 1)) states s before post := by
  unfold wp_X9_removeScene_l33
  refine lf2_i (fun x2 x3 => ∃ k m, sc + 1 ≤ k ∧ k ≤ 16 ∧ x3 = nI k ∧ x2 = nI m ∧ m ≤ 6 * k ∧ (m = 0 ↔ ∀ j, sc + 1 ≤ j → j < k → (row j).length = 0)) (fun _ x3 => 16 - x3.toNatClampNeg) ⟨sc + 1, 0, by omega, by omega, rfl, rfl, by omega, ⟨fun _ j h1 h2 => absurd h1 (by omega), fun _ => rfl⟩⟩ ?_
  rintro x2 x3 ⟨k, m, hk, hk2, rfl, rfl, hm, hiff⟩
  rw [l16, z_le (by omega) (by omega)]
  refine ⟨fun hx => ?_, fun hx => ?_⟩
  · have hke : k = 16 := by omega
    subst hke
    rw [z_eq0 (by omega)]
    refine ⟨fun q => h0 ?_, fun q => h1 ?_⟩
    · refine eq_false_of_ne_true (fun e => ?_)
      obtain ⟨j, j1, j2, j3⟩ := anyS_iff.mp e
      have := hiff.mp q j j2 j1
      omega
    · by_cases ha : anyS row (sc + 1) 16 = true
      · exact ha
      · exfalso
        refine q (hiff.mpr (fun j j1 j2 => ?_))
        rcases Nat.eq_zero_or_pos (row j).length with c | c
        · exact c
        · exact absurd (anyS_iff.mpr ⟨j, j2, j1, c⟩) ha
  · have h6 := hO.1 k
    refine m_row ⟨in_row (by omega), ?_⟩
    rw [m_len hM (by omega), z_add, l1, z_add]
    refine ⟨⟨k + 1, m + (row k).length, by omega, by omega, rfl, rfl, by omega, ?_⟩, by simp (disch := omega) only [z_cl]; omega⟩
    constructor
    · intro e j j1 j2
      rcases Nat.lt_or_ge j k with c | c
      · exact hiff.mp (by omega) j j1 c
      · rw [show j = k by omega]; omega
    · intro e
      have e1 := e k (by omega) (by omega)
      have e2 := hiff.mpr (fun j j1 j2 => e j j1 (by omega))
      omega
end
theorem sim_insertScene : gSim_insertScene simR := by
  intro y1 xv_kept xv_now_cards_size xv_now_cards_numbers xv_now_wall_slots xv_now_settings xv_snapshot_cards_size xv_snapshot_cards_numbers xv_snapshot_wall_slots xv_snapshot_settings xv_history_oldest xv_history_size xv_history_states_0_cards_size xv_history_states_0_cards_numbers xv_history_states_0_wall_slots xv_history_states_0_settings xv_history_states_1_cards_size xv_history_states_1_cards_numbers xv_history_states_1_wall_slots xv_history_states_1_settings xv_history_states_2_cards_size xv_history_states_2_cards_numbers xv_history_states_2_wall_slots xv_history_states_2_settings xv_history_states_3_cards_size xv_history_states_3_cards_numbers xv_history_states_3_wall_slots xv_history_states_3_settings xv_text_length xv_text_position xv_text_faulty xv_text_signs xv_text_cards_size xv_text_cards_numbers xv_trial_slots xv_reading_mostScenesWithout xv_reading_mostHoursWithout xv_reading_size xv_reading_cards_size xv_reading_cards_numbers xv_reading_names xv_reading_slots xv_reading_ahead xv_reading_straightAhead xv_reading_last xv_reading_lastStraight xv_straightRow_size xv_straightRow_ranks xv_straightRow_cards xv_straightRow_hours xv_straightRow_slots xv_straightRow_sorted xv_straightRow_longest xv_tensions_values xv_tensions_climbs mv_onWall mv_straightMany mv_length mv_states mv_isKept mv_at mv_cards mv_s mv_before mv_kept mv_aside mv_order mv_rank mv_straight mv_sorted mv_longest mv_read mv_text hsim
  obtain ⟨a, b, hist, h, len, T, hA, hC, hM, hK, hHc, hHm, hT1, hT2, hl1, hl2⟩ := hsim
  have same : simR xv_kept xv_now_cards_size xv_now_cards_numbers xv_now_wall_slots xv_now_settings xv_snapshot_cards_size xv_snapshot_cards_numbers xv_snapshot_wall_slots xv_snapshot_settings xv_history_oldest xv_history_size xv_history_states_0_cards_size xv_history_states_0_cards_numbers xv_history_states_0_wall_slots xv_history_states_0_settings xv_history_states_1_cards_size xv_history_states_1_cards_numbers xv_history_states_1_wall_slots xv_history_states_1_settings xv_history_states_2_cards_size xv_history_states_2_cards_numbers xv_history_states_2_wall_slots xv_history_states_2_settings xv_history_states_3_cards_size xv_history_states_3_cards_numbers xv_history_states_3_wall_slots xv_history_states_3_settings xv_text_length xv_text_position xv_text_faulty xv_text_signs xv_text_cards_size xv_text_cards_numbers xv_trial_slots xv_reading_mostScenesWithout xv_reading_mostHoursWithout xv_reading_size xv_reading_cards_size xv_reading_cards_numbers xv_reading_names xv_reading_slots xv_reading_ahead xv_reading_straightAhead xv_reading_last xv_reading_lastStraight xv_straightRow_size xv_straightRow_ranks xv_straightRow_cards xv_straightRow_hours xv_straightRow_slots xv_straightRow_sorted xv_straightRow_longest xv_tensions_values xv_tensions_climbs mv_onWall mv_straightMany mv_length mv_states mv_isKept mv_at mv_cards mv_s mv_before mv_kept mv_aside mv_order mv_rank mv_straight mv_sorted mv_longest mv_read mv_text := ⟨a, b, hist, h, len, T, hA, hC, hM, hK, hHc, hHm, hT1, hT2, hl1, hl2⟩
  obtain ⟨n, num, row, st⟩ := a
  have hN : numOk n num := hA.1
  have hO : rowOk n row := hA.2.1
  have hn : n ≤ 40 := hO.2.2.2
  have hS : setOk st := hA.2.2
  replace hM : RM n num row st mv_s := hM
  replace hC : RCd n num xv_now_cards_size xv_now_cards_numbers ∧ RW row xv_now_wall_slots ∧ RS st xv_now_settings := hC
  unfold wp_X8_insertScene
  rcases rng (x := y1) (lo := 0) (hi := 15) (by omega) (by omega) with ⟨p, rfl, _, hp⟩ | hx
  · have hp16 : p < 16 := by omega
    refine s_isSceneY hp16 ⟨fun c => absurd c (by decide), fun _ => ?_⟩
    have h6 := hO.1 15
    have mgo : ∀ (po : Int32 → Int32 → (Nat → Int32) → (Nat → Int32) → Prop), (¬ (row 15).length = 0 → po (-3) mv_states mv_s mv_before) → ((row 15).length = 0 → ∀ states s2 before, RM n num (permRow row (insS p)) st s2 → RHm (recH hist h (n, num, row, st)) (recN h) states before → po (nI (cnt (full (permRow row (insS p))) 16)) states s2 before) → wp_X9_insertScene (nI p) mv_states mv_s mv_before po := by
      intro po p1 p2
      unfold wp_X9_insertScene
      refine m_inY (lo := 0) (hi := 15) (by omega) (by omega) hp ⟨fun c => absurd c (by decide), fun _ => m_row (sc := 15) ⟨in_row (by omega), ?_⟩⟩
      rw [m_len hM (show 15 < 16 by omega), z_le0 (by omega)]
      refine ⟨fun q => ?_, fun q => p1 q⟩
      refine m_record hHm hA hM (fun states before hHm2 => ?_)
      exact m_ins35 hM hO hp16 (List.length_eq_zero_iff.mp q) (fun s2 hM2 => p2 q _ _ _ hM2 hHm2)
    refine s_sizeOf (row := row) (sc := 15) hC.2.1 hO (by omega) ?_
    rw [z_le0 (by omega)]
    refine ⟨fun q => ?_, fun q => mgo _ (fun _ => ⟨rfl, same⟩) (fun c => absurd c q)⟩
    refine s_record hHc hA hC (fun old sz n0 f0 g0 t0 n1 f1 g1 t1 n2 f2 g2 t2 n3 f3 g3 t3 hH2 => ?_)
    unfold wp_X8_insertScene_l41
    refine lf2_i (fun x2 g => ∃ k, p ≤ k ∧ k ≤ 15 ∧ x2 = nI k ∧ RW (permRow row (insS k)) g) (fun x2 _ => x2.toNatClampNeg) ⟨15, by omega, by omega, rfl, RW_congr hC.2.1 (fun j hj => ins_15 hj)⟩ ?_
    rintro x2 g ⟨k, hk, hk2, rfl, hg⟩
    rw [z_le (by omega) (by omega)]
    refine ⟨fun hx => ?_, fun hx => ?_⟩
    · have hke : k = p := by omega
      subst hke
      have hO2 : rowOk n (permRow row (insS k)) := ins_ok hO hp16
      refine s_scenes hg hO2 ?_
      refine mgo _ (fun c => absurd q c) (fun _ states s2 before hM2 hHm2 => ?_)
      exact ⟨rfl, (n, num, permRow row (insS k), st), b, _, _, len, T, ⟨hN, hO2, hS⟩, ⟨hC.1, hg, hC.2.2⟩, hM2, hK, hH2, hHm2, hT1, hT2, hl1, hl2⟩
    · refine s_ins (sc := p) (I := fun u0 u1 => (∃ k, p ≤ k ∧ k ≤ 15 ∧ u0 = nI k ∧ RW (permRow row (insS k)) u1) ∧ u0.toNatClampNeg < (nI k).toNatClampNeg) hg (by omega) hk2 (fun g' hg' => ?_)
      exact ⟨⟨k - 1, by omega, by omega, rfl, hg'⟩, by simp (disch := omega) only [z_cl]; omega⟩
  · refine s_isSceneN hx ⟨fun _ => ?_, fun c => absurd rfl c⟩
    unfold wp_X9_insertScene
    exact m_inN (lo := 0) (hi := 15) hx ⟨fun _ => ⟨rfl, same⟩, fun c => absurd rfl c⟩
theorem sim_removeScene : gSim_removeScene simR := by
  intro y1 xv_kept xv_now_cards_size xv_now_cards_numbers xv_now_wall_slots xv_now_settings xv_snapshot_cards_size xv_snapshot_cards_numbers xv_snapshot_wall_slots xv_snapshot_settings xv_history_oldest xv_history_size xv_history_states_0_cards_size xv_history_states_0_cards_numbers xv_history_states_0_wall_slots xv_history_states_0_settings xv_history_states_1_cards_size xv_history_states_1_cards_numbers xv_history_states_1_wall_slots xv_history_states_1_settings xv_history_states_2_cards_size xv_history_states_2_cards_numbers xv_history_states_2_wall_slots xv_history_states_2_settings xv_history_states_3_cards_size xv_history_states_3_cards_numbers xv_history_states_3_wall_slots xv_history_states_3_settings xv_text_length xv_text_position xv_text_faulty xv_text_signs xv_text_cards_size xv_text_cards_numbers xv_trial_slots xv_reading_mostScenesWithout xv_reading_mostHoursWithout xv_reading_size xv_reading_cards_size xv_reading_cards_numbers xv_reading_names xv_reading_slots xv_reading_ahead xv_reading_straightAhead xv_reading_last xv_reading_lastStraight xv_straightRow_size xv_straightRow_ranks xv_straightRow_cards xv_straightRow_hours xv_straightRow_slots xv_straightRow_sorted xv_straightRow_longest xv_tensions_values xv_tensions_climbs mv_onWall mv_straightMany mv_length mv_states mv_isKept mv_at mv_cards mv_s mv_before mv_kept mv_aside mv_order mv_rank mv_straight mv_sorted mv_longest mv_read mv_text hsim
  obtain ⟨a, b, hist, h, len, T, hA, hC, hM, hK, hHc, hHm, hT1, hT2, hl1, hl2⟩ := hsim
  have same : simR xv_kept xv_now_cards_size xv_now_cards_numbers xv_now_wall_slots xv_now_settings xv_snapshot_cards_size xv_snapshot_cards_numbers xv_snapshot_wall_slots xv_snapshot_settings xv_history_oldest xv_history_size xv_history_states_0_cards_size xv_history_states_0_cards_numbers xv_history_states_0_wall_slots xv_history_states_0_settings xv_history_states_1_cards_size xv_history_states_1_cards_numbers xv_history_states_1_wall_slots xv_history_states_1_settings xv_history_states_2_cards_size xv_history_states_2_cards_numbers xv_history_states_2_wall_slots xv_history_states_2_settings xv_history_states_3_cards_size xv_history_states_3_cards_numbers xv_history_states_3_wall_slots xv_history_states_3_settings xv_text_length xv_text_position xv_text_faulty xv_text_signs xv_text_cards_size xv_text_cards_numbers xv_trial_slots xv_reading_mostScenesWithout xv_reading_mostHoursWithout xv_reading_size xv_reading_cards_size xv_reading_cards_numbers xv_reading_names xv_reading_slots xv_reading_ahead xv_reading_straightAhead xv_reading_last xv_reading_lastStraight xv_straightRow_size xv_straightRow_ranks xv_straightRow_cards xv_straightRow_hours xv_straightRow_slots xv_straightRow_sorted xv_straightRow_longest xv_tensions_values xv_tensions_climbs mv_onWall mv_straightMany mv_length mv_states mv_isKept mv_at mv_cards mv_s mv_before mv_kept mv_aside mv_order mv_rank mv_straight mv_sorted mv_longest mv_read mv_text := ⟨a, b, hist, h, len, T, hA, hC, hM, hK, hHc, hHm, hT1, hT2, hl1, hl2⟩
  obtain ⟨n, num, row, st⟩ := a
  have hN : numOk n num := hA.1
  have hO : rowOk n row := hA.2.1
  have hn : n ≤ 40 := hO.2.2.2
  have hS : setOk st := hA.2.2
  replace hM : RM n num row st mv_s := hM
  replace hC : RCd n num xv_now_cards_size xv_now_cards_numbers ∧ RW row xv_now_wall_slots ∧ RS st xv_now_settings := hC
  unfold wp_X8_removeScene
  rcases rng (x := y1) (lo := 0) (hi := 15) (by omega) (by omega) with ⟨p, rfl, _, hp⟩ | hx
  · have hp16 : p < 16 := by omega
    refine s_isSceneY hp16 ⟨fun c => absurd c (by decide), fun _ => ?_⟩
    have h6 := hO.1 p
    have e1 : nI p + (1 : Int32) = nI (p + 1) := by rw [l1, z_add]
    have mgo : ∀ (po : Int32 → Int32 → (Nat → Int32) → (Nat → Int32) → Prop), (¬ (row p).length = 0 → po (-4) mv_states mv_s mv_before) → ((row p).length = 0 → anyS row (p + 1) 16 = false → po (-5) mv_states mv_s mv_before) → ((row p).length = 0 → anyS row (p + 1) 16 = true → ∀ states s2 before, RM n num (permRow row (remS p)) st s2 → RHm (recH hist h (n, num, row, st)) (recN h) states before → po (nI (cnt (full (permRow row (remS p))) 16)) states s2 before) → wp_X9_removeScene (nI p) mv_states mv_s mv_before po := by
      intro po p1 p2 p3
      unfold wp_X9_removeScene
      refine m_inY (lo := 0) (hi := 15) (by omega) (by omega) hp ⟨fun c => absurd c (by decide), fun _ => m_row ⟨in_row hp16, ?_⟩⟩
      rw [m_len hM hp16, z_le0 (by omega), e1]
      refine ⟨fun q => ?_, fun q => p1 q⟩
      refine m_rem33 hM hO hp16 (fun q2 => p2 q q2) (fun q2 => ?_)
      refine m_record hHm hA hM (fun states before hHm2 => ?_)
      exact m_rem70 hM hO hp16 (List.length_eq_zero_iff.mp q) (fun s2 hM2 => p3 q q2 _ _ _ hM2 hHm2)
    refine s_sizeOf (row := row) hC.2.1 hO hp16 ?_
    rw [z_le0 (by omega), e1]
    refine ⟨fun q => ?_, fun q => mgo _ (fun _ => ⟨rfl, same⟩) (fun c => absurd c q) (fun c => absurd c q)⟩
    refine s_hasCards (row := row) (a := p + 1) (b := 16) hC.2.1 hO (by omega) (by omega) ?_
    cases hany : anyS row (p + 1) 16 with
    | false => exact ⟨fun _ => mgo _ (fun c => absurd q c) (fun _ _ => ⟨rfl, same⟩) (fun _ c => by rw [hany] at c; cases c), fun c => absurd rfl c⟩
    | true =>
      refine ⟨fun c => absurd c (by decide), fun _ => ?_⟩
      refine s_record hHc hA hC (fun old sz n0 f0 g0 t0 n1 f1 g1 t1 n2 f2 g2 t2 n3 f3 g3 t3 hH2 => ?_)
      unfold wp_X8_removeScene_l62
      refine lf2_i (fun x2 g => ∃ k, p ≤ k ∧ k ≤ 15 ∧ x2 = nI (k + 1) ∧ RW (permRow row (mvS p k)) g) (fun x2 _ => 16 - x2.toNatClampNeg) ⟨p, by omega, by omega, rfl, RW_congr hC.2.1 (fun j hj => mv_0)⟩ ?_
      rintro x2 g ⟨k, hk, hk2, rfl, hg⟩
      rw [l16, z_le (by omega) (by omega)]
      refine ⟨fun hx => ?_, fun hx => ?_⟩
      · have hke : k = 15 := by omega
        subst hke
        have hO2 : rowOk n (permRow row (remS p)) := rem_ok hO hp16
        have hg2 : RW (permRow row (remS p)) g := RW_congr hg (fun j hj => mv_15 hp16 hj)
        refine s_scenes hg2 hO2 ?_
        refine mgo _ (fun c => absurd q c) (fun _ c => by rw [hany] at c; cases c) (fun _ _ states s2 before hM2 hHm2 => ?_)
        exact ⟨rfl, (n, num, permRow row (remS p), st), b, _, _, len, T, ⟨hN, hO2, hS⟩, ⟨hC.1, hg2, hC.2.2⟩, hM2, hK, hH2, hHm2, hT1, hT2, hl1, hl2⟩
      · refine s_rem (I := fun u0 u1 => (∃ k, p ≤ k ∧ k ≤ 15 ∧ u0 = nI (k + 1) ∧ RW (permRow row (mvS p k)) u1) ∧ 16 - u0.toNatClampNeg < 16 - (nI (k + 1)).toNatClampNeg) hg hk (by omega) (fun g' hg' => ?_)
        exact ⟨⟨k + 1, by omega, by omega, rfl, hg'⟩, by simp (disch := omega) only [z_cl]; omega⟩
  · refine s_isSceneN hx ⟨fun _ => ?_, fun c => absurd rfl c⟩
    unfold wp_X9_removeScene
    exact m_inN (lo := 0) (hi := 15) hx ⟨fun _ => ⟨rfl, same⟩, fun c => absurd rfl c⟩
