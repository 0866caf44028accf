/-! two cards exchanged -/
def crd (row : Nat → List Nat) (u : Nat) : Nat := gd (row (u / 6)) (u % 6)
def tr2 (a b : Nat) : Nat → Nat := fun u => if u = a then b else if u = b then a else u
section
variable {n : Nat} {num : Nat → Nat → Nat} {row : Nat → List Nat} {st : Nat → Nat} {s : Nat → Int32}
theorem occ_some {u : Nat} (h : occ row u) : (row (u / 6))[u % 6]? = some (crd row u) := getD_some h
theorem occ_of {u c : Nat} (h : (row (u / 6))[u % 6]? = some c) : occ row u ∧ crd row u = c := by
  have h1 := (List.getElem?_eq_some_iff.mp h).1
  refine ⟨h1, ?_⟩
  have h2 := occ_some (row := row) (u := u) h1
  rw [h] at h2
  exact (Option.some.inj h2).symm
theorem crd_lt {u : Nat} (hO : rowOk n row) (h : occ row u) : crd row u < n := gd_lt (rowS_of hO _) h
theorem crd_inj {u v : Nat} (hO : rowOk n row) (hu : u < 96) (hv : v < 96) (h1 : occ row u) (h2 : occ row v) (he : crd row u = crd row v) : u = v := by
  have e1 := occ_some h1
  have e2 := occ_some h2
  rw [← he] at e2
  exact hO.2.2.1 _ u v hu hv e1 e2
theorem sw_ok {a b : Nat} (hO : rowOk n row) (ha : a < 96) (hb : b < 96) (oa : occ row a) (ob : occ row b) : rowOk n (reRow row (fun u => crd row (tr2 a b u))) := by
  have ho : ∀ u, occ row u → occ row (tr2 a b u) := by
    intro u hu
    unfold tr2
    split
    · exact ob
    · split
      · exact oa
      · exact hu
  have hl : ∀ u, u < 96 → tr2 a b u < 96 := by
    intro u hu
    unfold tr2
    split
    · exact hb
    · split
      · exact ha
      · exact hu
  refine re_ok hO (fun sc p hp => ?_) (fun u v hu hv h1 h2 he => ?_)
  · refine crd_lt hO (ho _ ?_)
    have h6 := hO.1 sc
    unfold occ
    rw [show (6 * sc + p) / 6 = sc by omega, show (6 * sc + p) % 6 = p by omega]; exact hp
  · have e := crd_inj hO (hl u hu) (hl v hv) (ho u h1) (ho v h2) he
    unfold tr2 at e
    split at e <;> split at e <;> (try split at e) <;> (try split at e) <;> omega
theorem sw_RW {g g' : Nat → Int32} {a b : Nat} (hO : rowOk n row) (hW : RW row g) (ha : a < 96) (hb : b < 96) (oa : occ row a) (ob : occ row b) (hg : ∀ j, g' j = if j = b then g a else if j = a then g b else g j) : RW (reRow row (fun u => crd row (tr2 a b u))) g' := by
  have hs : ∀ u, u < 96 → occ row u → g u = nI (crd row u) := fun u hu h => by rw [RW_at hW hu]; exact slotv_gd h
  refine re_RW (fun sc hsc p hp => ?_)
  have e1 : (6 * sc + p) / 6 = sc := by omega
  have e2 : (6 * sc + p) % 6 = p := by omega
  have hx : sc * 6 + p = 6 * sc + p := by omega
  have hocc : occ row (6 * sc + p) ↔ p < (row sc).length := by unfold occ; rw [e1, e2]
  have hrw := RW_at hW (t := 6 * sc + p) (by omega)
  show g' (sc * 6 + p) = if p < (row sc).length then nI (crd row (tr2 a b (6 * sc + p))) else -nI 5
  rw [e1, e2] at hrw
  rw [hx, hg]
  unfold tr2
  have hu : 6 * sc + p < 96 := by omega
  clear hx e1 e2
  generalize 6 * sc + p = u at hocc hrw hu
  by_cases h1 : u = b
  · subst h1
    rw [if_pos rfl, if_pos (hocc.mp ob), hs a ha oa]
    by_cases h2 : u = a
    · rw [if_pos h2, h2]
    · rw [if_neg h2, if_pos rfl]
  · rw [if_neg h1]
    by_cases h2 : u = a
    · subst h2
      rw [if_pos rfl, if_pos (hocc.mp oa), if_pos rfl, hs b hb ob]
    · rw [if_neg h2, if_neg h2, if_neg h1, hrw]
      by_cases h3 : p < (row sc).length
      · rw [if_pos h3, ← hrw]
        exact hs u hu (hocc.mpr h3)
      · rw [if_neg h3, slotv_ge (by omega)]
theorem sw_RM {a b : Nat} (hM : RM n num row st s) (hO : rowOk n row) (ha : a < 96) (hb : b < 96) (oa : occ row a) (ob : occ row b) (hab : a ≠ b) : RM n num (reRow row (fun u => crd row (tr2 a b u))) st (upd (upd s (204 + 7 * (a / 6) + 1 + a % 6) (nI (crd row b))) (204 + 7 * (b / 6) + 1 + b % 6) (nI (crd row a))) := by
  have hn := hO.2.2.2
  refine ⟨by rw [z_up_n (by omega), z_up_n (by omega)]; exact hM.1, fun i hi => by rw [z_up_n (by omega), z_up_n (by omega)]; exact hM.2.1 i hi, fun c hc k hk => by rw [z_up_n (by omega), z_up_n (by omega)]; exact hM.2.2.1 c hc k hk, fun sc hsc => ?_⟩
  have hm := hM.2.2.2 sc hsc
  have h6 := hO.1 sc
  rw [re_len]
  refine ⟨by rw [z_up_n (by omega), z_up_n (by omega)]; exact hm.1, fun p hp => ?_⟩
  rw [re_gd hp, z_up, z_up, hm.2 p hp]
  show _ = nI (crd row (tr2 a b (6 * sc + p)))
  unfold tr2
  by_cases h1 : 6 * sc + p = b
  · rw [if_pos (by omega), if_neg (by omega), if_pos h1]
  · rw [if_neg (by omega)]
    by_cases h2 : 6 * sc + p = a
    · rw [if_pos (by omega), if_pos h2]
    · rw [if_neg (by omega), if_neg h2, if_neg h1]
      unfold crd
      rw [show (6 * sc + p) / 6 = sc by omega, show (6 * sc + p) % 6 = p by omega]
end
theorem sim_swap : gSim_swap simR := by
  intro y1 y2 xv_kept xv_now_cards_size xv_now_cards_numbers xv_now_wall_slots xv_now_settings xv_snapshot_cards_size xv_snapshot_cards_numbers xv_snapshot_wall_slots xv_snapshot_settings xv_history_oldest xv_history_size xv_history_states_0_cards_size xv_history_states_0_cards_numbers xv_history_states_0_wall_slots xv_history_states_0_settings xv_history_states_1_cards_size xv_history_states_1_cards_numbers xv_history_states_1_wall_slots xv_history_states_1_settings xv_history_states_2_cards_size xv_history_states_2_cards_numbers xv_history_states_2_wall_slots xv_history_states_2_settings xv_history_states_3_cards_size xv_history_states_3_cards_numbers xv_history_states_3_wall_slots xv_history_states_3_settings xv_text_length xv_text_position xv_text_faulty xv_text_signs xv_text_cards_size xv_text_cards_numbers xv_trial_slots xv_reading_mostScenesWithout xv_reading_mostHoursWithout xv_reading_size xv_reading_cards_size xv_reading_cards_numbers xv_reading_names xv_reading_slots xv_reading_ahead xv_reading_straightAhead xv_reading_last xv_reading_lastStraight xv_straightRow_size xv_straightRow_ranks xv_straightRow_cards xv_straightRow_hours xv_straightRow_slots xv_straightRow_sorted xv_straightRow_longest xv_tensions_values xv_tensions_climbs mv_onWall mv_straightMany mv_length mv_states mv_isKept mv_at mv_cards mv_s mv_before mv_kept mv_aside mv_order mv_rank mv_straight mv_sorted mv_longest mv_read mv_text hsim
  obtain ⟨a, b, hist, h, len, T, hA, hC, hM, hK, hHc, hHm, hT1, hT2, hl1, hl2⟩ := hsim
  have same : simR xv_kept xv_now_cards_size xv_now_cards_numbers xv_now_wall_slots xv_now_settings xv_snapshot_cards_size xv_snapshot_cards_numbers xv_snapshot_wall_slots xv_snapshot_settings xv_history_oldest xv_history_size xv_history_states_0_cards_size xv_history_states_0_cards_numbers xv_history_states_0_wall_slots xv_history_states_0_settings xv_history_states_1_cards_size xv_history_states_1_cards_numbers xv_history_states_1_wall_slots xv_history_states_1_settings xv_history_states_2_cards_size xv_history_states_2_cards_numbers xv_history_states_2_wall_slots xv_history_states_2_settings xv_history_states_3_cards_size xv_history_states_3_cards_numbers xv_history_states_3_wall_slots xv_history_states_3_settings xv_text_length xv_text_position xv_text_faulty xv_text_signs xv_text_cards_size xv_text_cards_numbers xv_trial_slots xv_reading_mostScenesWithout xv_reading_mostHoursWithout xv_reading_size xv_reading_cards_size xv_reading_cards_numbers xv_reading_names xv_reading_slots xv_reading_ahead xv_reading_straightAhead xv_reading_last xv_reading_lastStraight xv_straightRow_size xv_straightRow_ranks xv_straightRow_cards xv_straightRow_hours xv_straightRow_slots xv_straightRow_sorted xv_straightRow_longest xv_tensions_values xv_tensions_climbs mv_onWall mv_straightMany mv_length mv_states mv_isKept mv_at mv_cards mv_s mv_before mv_kept mv_aside mv_order mv_rank mv_straight mv_sorted mv_longest mv_read mv_text := ⟨a, b, hist, h, len, T, hA, hC, hM, hK, hHc, hHm, hT1, hT2, hl1, hl2⟩
  obtain ⟨n, num, row, st⟩ := a
  have hN : numOk n num := hA.1
  have hO : rowOk n row := hA.2.1
  have hn : n ≤ 40 := hO.2.2.2
  have hS : setOk st := hA.2.2
  replace hM : RM n num row st mv_s := hM
  replace hC : RCd n num xv_now_cards_size xv_now_cards_numbers ∧ RW row xv_now_wall_slots ∧ RS st xv_now_settings := hC
  have hsz : xv_now_cards_size = nI n := hC.1.1
  unfold wp_X8_swap
  rw [hsz] at hC same ⊢
  have bad1 : ∀ (po : Int32 → Int32 → Int32 → Int32 → (Nat → Int32) → (Nat → Int32) → (Nat → Int32) → (Nat → Int32) → (Nat → Int32) → Prop), (y1 < nI 0 ∨ (¬ y1 < nI 0 ∧ nI n ≤ y1)) → po (-1) mv_onWall mv_straightMany mv_states mv_s mv_before mv_order mv_rank mv_straight → wp_X9_swap y1 y2 mv_onWall mv_straightMany mv_states mv_s mv_before mv_order mv_rank mv_straight po := by
    intro po c hp
    unfold wp_X9_swap
    exact m_isCardN hM hn c ⟨fun _ => hp, fun c => absurd rfl c⟩
  rcases z_cases y1 n (by omega) with c | c | ⟨i, hi, rfl⟩
  · exact s_has_no hn (Or.inl c) ⟨fun _ => bad1 _ (Or.inl c) ⟨rfl, same⟩, fun c => absurd rfl c⟩
  · exact s_has_no hn (Or.inr c.2) ⟨fun _ => bad1 _ (Or.inr c) ⟨rfl, same⟩, fun c => absurd rfl c⟩
  · clear bad1
    refine s_has hn hi ⟨fun c => absurd c (by decide), fun _ => ?_⟩
    have bad2 : ∀ (po : Int32 → Int32 → Int32 → Int32 → (Nat → Int32) → (Nat → Int32) → (Nat → Int32) → (Nat → Int32) → (Nat → Int32) → Prop), (y2 < nI 0 ∨ (¬ y2 < nI 0 ∧ nI n ≤ y2)) → po (-1) mv_onWall mv_straightMany mv_states mv_s mv_before mv_order mv_rank mv_straight → wp_X9_swap (nI i) y2 mv_onWall mv_straightMany mv_states mv_s mv_before mv_order mv_rank mv_straight po := by
      intro po c hp
      unfold wp_X9_swap
      exact m_isCardY hM hn hi ⟨fun c => absurd c (by decide), fun _ => m_isCardN hM hn c ⟨fun _ => hp, fun c => absurd rfl c⟩⟩
    rcases z_cases y2 n (by omega) with c | c | ⟨j, hj, rfl⟩
    · exact s_has_no hn (Or.inl c) ⟨fun _ => bad2 _ (Or.inl c) ⟨rfl, same⟩, fun c => absurd rfl c⟩
    · exact s_has_no hn (Or.inr c.2) ⟨fun _ => bad2 _ (Or.inr c) ⟨rfl, same⟩, fun c => absurd rfl c⟩
    · clear bad2
      refine s_has hn hj ⟨fun c => absurd c (by decide), fun _ => ?_⟩
      by_cases hij : i = j
      · subst hij
        refine ⟨fun _ => ?_, fun c => absurd rfl c⟩
        unfold wp_X9_swap
        exact m_isCardY hM hn hi ⟨fun c => absurd c (by decide), fun _ => m_isCardY hM hn hi ⟨fun c => absurd c (by decide), fun _ => ⟨fun _ => ⟨rfl, same⟩, fun c => absurd rfl c⟩⟩⟩
      · have hne : ¬ nI i = nI j := by rw [z_eq (by omega) (by omega)]; exact hij
        refine ⟨fun c => absurd c hne, fun _ => ?_⟩
        have e5 : (-5 : Int32) = -nI 5 := rfl
        have nn : ∀ k : Nat, k < 1000 → ¬ nI k = (-5 : Int32) := fun k hk => by rw [e5, z_en (by omega) (by omega) (by omega)]; exact id
        cases hsi : slotO row i with
        | none =>
          refine s_slotOf_no hC.2.1 hO hi (slotO_none hsi) ?_
          cases hsj : slotO row j with
          | none =>
            refine s_slotOf_no hC.2.1 hO hj (slotO_none hsj) ⟨fun _ => ?_, fun c => absurd rfl c⟩
            unfold wp_X9_swap
            refine m_isCardY hM hn hi ⟨fun c => absurd c (by decide), fun _ => m_isCardY hM hn hj ⟨fun c => absurd c (by decide), fun _ => ⟨fun c => absurd c hne, fun _ => m_sceneOf hM hO hi ?_⟩⟩⟩
            rw [hsi]
            exact ⟨fun _ => ⟨rfl, same⟩, fun c => absurd rfl c⟩
          | some u =>
            have hus := slotO_some hsj
            refine s_slotOf hC.2.1 hO hj hus.1 hus.2 (fun v hv hx => hO.2.2.1 j v u hv hus.1 hx hus.2) ⟨fun _ => ?_, fun c => absurd rfl c⟩
            unfold wp_X9_swap
            refine m_isCardY hM hn hi ⟨fun c => absurd c (by decide), fun _ => m_isCardY hM hn hj ⟨fun c => absurd c (by decide), fun _ => ⟨fun c => absurd c hne, fun _ => m_sceneOf hM hO hi ?_⟩⟩⟩
            rw [hsi]
            exact ⟨fun _ => ⟨rfl, same⟩, fun c => absurd rfl c⟩
        | some t =>
          have hts := slotO_some hsi
          refine s_slotOf hC.2.1 hO hi hts.1 hts.2 (fun v hv hx => hO.2.2.1 i v t hv hts.1 hx hts.2) ?_
          cases hsj : slotO row j with
          | none =>
            refine s_slotOf_no hC.2.1 hO hj (slotO_none hsj) ⟨fun c => absurd c (nn t (by omega)), fun _ => ⟨fun _ => ?_, fun c => absurd rfl c⟩⟩
            unfold wp_X9_swap
            refine m_isCardY hM hn hi ⟨fun c => absurd c (by decide), fun _ => m_isCardY hM hn hj ⟨fun c => absurd c (by decide), fun _ => ⟨fun c => absurd c hne, fun _ => m_sceneOf hM hO hi ?_⟩⟩⟩
            rw [hsi]
            refine ⟨fun c => absurd c (nn (t / 6) (by omega)), fun _ => m_sceneOf hM hO hj ?_⟩
            rw [hsj]
            exact ⟨fun _ => ⟨rfl, same⟩, fun c => absurd rfl c⟩
          | some u =>
            have hus := slotO_some hsj
            have hti := occ_of hts.2
            have huj := occ_of hus.2
            have htu : t ≠ u := by
              rintro rfl
              exact hij (hti.2.symm.trans huj.2)
            refine s_slotOf hC.2.1 hO hj hus.1 hus.2 (fun v hv hx => hO.2.2.1 j v u hv hus.1 hx hus.2) ⟨fun c => absurd c (nn t (by omega)), fun _ => ⟨fun c => absurd c (nn u (by omega)), fun _ => ?_⟩⟩
            refine s_record hHc hA hC (fun old sz n0 f0 g0 t0 n1 f1 g1 t1 n2 f2 g2 t2 n3 f3 g3 t3 hH2 => ?_)
            refine s_exchange hts.1 hus.1 (fun g' hg' => ?_)
            have hO2 := sw_ok hO hts.1 hus.1 hti.1 huj.1
            have hg2 := sw_RW hO hC.2.1 hts.1 hus.1 hti.1 huj.1 hg'
            have hM2 := sw_RM hM hO hts.1 hus.1 hti.1 huj.1 htu
            rw [hti.2, huj.2] at hM2
            generalize reRow row (fun v => crd row (tr2 t u v)) = row2 at hO2 hg2 hM2
            refine s_breaksNow (t := none) hC.1 hN hC.2.2 hS hg2 hO2 (fun u hu => by cases hu) (fun x y size csize cnum names slots ahead sAhead last lastS => ?_)
            unfold wp_X9_swap
            refine m_isCardY hM hn hi ⟨fun c => absurd c (by decide), fun _ => m_isCardY hM hn hj ⟨fun c => absurd c (by decide), fun _ => ⟨fun c => absurd c hne, fun _ => m_sceneOf hM hO hi ?_⟩⟩⟩
            rw [hsi]
            refine ⟨fun c => absurd c (nn (t / 6) (by omega)), fun _ => m_sceneOf hM hO hj ?_⟩
            rw [hsj]
            refine ⟨fun c => absurd c (nn (u / 6) (by omega)), fun _ => ?_⟩
            refine m_record hHm hA hM (fun states before hHm2 => ?_)
            refine m_sceneOf hM hO hi ?_
            rw [hsi]
            refine m_row (sc := t / 6) (m_placeOf hM hO hi ?_)
            rw [hsi]
            refine m_sceneOf hM hO hj ?_
            rw [hsj]
            refine m_row (sc := u / 6) (m_placeOf hM hO hj ?_)
            rw [hsj]
            have i1 : nI (204 + 7 * (t / 6)) + 1 + optI (Option.map (· % 6) (some t)) = nI (204 + 7 * (t / 6) + 1 + t % 6) := by
              show nI (204 + 7 * (t / 6)) + 1 + nI (t % 6) = _
              rw [l1, z_add, z_add]
            have i2 : nI (204 + 7 * (u / 6)) + 1 + optI (Option.map (· % 6) (some u)) = nI (204 + 7 * (u / 6) + 1 + u % 6) := by
              show nI (204 + 7 * (u / 6)) + 1 + nI (u % 6) = _
              rw [l1, z_add, z_add]
            rw [i1, i2, z_cl (show 204 + 7 * (t / 6) + 1 + t % 6 < 2147483648 by omega), z_cl (show 204 + 7 * (u / 6) + 1 + u % 6 < 2147483648 by omega)]
            refine ⟨(z_in (by omega)).mpr (by omega), (z_in (by omega)).mpr (by omega), ?_⟩
            refine m_allBreaks hM2 hO2 hN (fun w sm order rank straight => ?_)
            exact ⟨rfl, (n, num, row2, st), b, _, _, len, T, ⟨hN, hO2, hS⟩, ⟨hC.1, hg2, hC.2.2⟩, hM2, hK, hH2, hHm2, hT1, hT2, hl1, hl2⟩
