/-! what a move would make -/
section
variable {n : Nat} {num : Nat → Nat → Nat} {row : Nat → List Nat} {st : Nat → Nat} {s : Nat → Int32} {c : Nat}
/-- all breaks -/
def tB (num : Nat → Nat → Nat) (st : Nat → Nat) (row : Nat → List Nat) : Nat := tallyF num st (pre row 96) 12 none none
theorem tB_le (hO : rowOk n row) (hN : numOk n num) : tB num st row ≤ 40 := by
  have hD := RRd_pre hO hN
  have hl := hD.1.1
  unfold tB
  generalize pre row 96 = L at hD hl
  have h := sumN_le (b := 1) (f := fun k => if fits none (num (cd L k) 0) && fits none (sl L k / 6) then worthF num st L 12 k else 0) L.length (fun k hk => by
    show (if _ then b2n (isBrk num L k) else 0) ≤ 1
    have := b2n_le (isBrk num L k)
    split <;> omega)
  show sumN _ _ ≤ 40
  omega
theorem s_made_eq {sc p : Nat} (hN : numOk n num) (hO : rowOk n row) (hO2 : rowOk n (onRow row sc p c)) (hc : c < n) (hsc : sc < 16) (hp : p ≤ (row sc).length) : (num c 4 ≠ 0 → tB num st (onRow row sc p c) = tB num st row) ∧ (num c 4 = 0 → ∀ e, e ≤ (flt (pS num (pre row 96) (num c 0)) (pre row 96).length).length → (∀ i, i < e → (flt (pS num (pre row 96) (num c 0)) (pre row 96).length).getD i 0 < (pre row (6 * sc + p)).length) → (∀ i, e ≤ i → i < (flt (pS num (pre row 96) (num c 0)) (pre row 96).length).length → (pre row (6 * sc + p)).length ≤ (flt (pS num (pre row 96) (num c 0)) (pre row 96).length).getD i 0) → tB num st (onRow row sc p c) + dltM (HR num (pre row 96) (flt (pS num (pre row 96) (num c 0)) (pre row 96).length)) (flt (pS num (pre row 96) (num c 0)) (pre row 96).length).length e = tB num st row + dltP (HR num (pre row 96) (flt (pS num (pre row 96) (num c 0)) (pre row 96).length)) (flt (pS num (pre row 96) (num c 0)) (pre row 96).length).length e (num c 1)) := by
  have hD := RRd_pre hO hN
  have hD2 := RRd_pre hO2 hN
  obtain ⟨A, B, hA, e1, e2, e3⟩ := pre_on hO hO2 hsc hp
  have hcc := hN c hc
  have key := tally_in (st := st) (T6_of hD) (T6_of hD2) (show num c 0 < 6 by omega) e1 e2
  unfold tB
  generalize (pre row (6 * sc + p)).length = r at hA e3 ⊢
  generalize pre row 96 = L at hD e1 e3 key ⊢
  generalize pre (onRow row sc p c) 96 = L2 at e2 key ⊢
  have hr : r ≤ L.length := by
    have q := congrArg List.length e1
    rw [List.length_map, List.length_append] at q; omega
  refine ⟨key.1, fun q e he h1 h2 => ?_⟩
  have hcut := flt_cut hr he h1 h2
  have hA2 : (FL num (num c 0) A).length = e := by
    rw [hcut, e3, ← flt_map r hr, List.length_map]
  have k2 := key.2 q
  have dc := dlt_congr (h := num c 1) he (fun i hi => HF_HR (num := num) (L := L) (t := num c 0) hi)
  rw [← e1, FL_len, hA2, ← dc.1, ← dc.2] at k2
  exact k2
theorem flt_lt_of {q : Nat → Bool} {m r : Nat} (hr : r ≤ m) : (flt q r).length ≤ (flt q m).length ∧ (∀ i, i < (flt q r).length → (flt q m).getD i 0 < r) ∧ (∀ i, (flt q r).length ≤ i → i < (flt q m).length → r ≤ (flt q m).getD i 0) := by
  obtain ⟨X, hX, hx⟩ := flt_app (p := q) (r := r) (m - r)
  rw [show r + (m - r) = m by omega] at hX
  rw [hX, List.length_append]
  refine ⟨by omega, fun i hi => ?_, fun i h1 h2 => ?_⟩
  · rw [getD_l hi]; exact (flt_at hi).1
  · rw [List.getD_eq_getElem?_getD, List.getElem?_append_right h1, getD_some (d := 0) (show i - (flt q r).length < X.length by omega)]
    exact hx _ (getD_mem (by omega))
theorem s_made_ge {sc p : Nat} (hN : numOk n num) (hO : rowOk n row) (hO2 : rowOk n (onRow row sc p c)) (hc : c < n) (hsc : sc < 16) (hp : p ≤ (row sc).length) : tB num st row ≤ tB num st (onRow row sc p c) := by
  have key := s_made_eq (st := st) hN hO hO2 hc hsc hp
  have hr : (pre row (6 * sc + p)).length ≤ (pre row 96).length := by
    obtain ⟨X, hX⟩ := pre_pref (row := row) (t := 6 * sc + p) (96 - (6 * sc + p))
    have h6 := hO.1 sc
    rw [show 6 * sc + p + (96 - (6 * sc + p)) = 96 by omega] at hX
    have q := congrArg List.length hX
    rw [List.length_append] at q; omega
  generalize (pre row (6 * sc + p)).length = r at hr key
  generalize pre row 96 = L at hr key
  by_cases h4 : num c 4 = 0
  · obtain ⟨a, b, d⟩ := flt_lt_of (q := pS num L (num c 0)) hr
    have k := key.2 h4 _ a b d
    have dl := dlt_le (HR num L (flt (pS num L (num c 0)) L.length)) (flt (pS num L (num c 0)) L.length).length (flt (pS num L (num c 0)) r).length (num c 1)
    omega
  · have k := key.1 h4
    omega
theorem s_made8 {f : Nat → Int32} {gz : Int32} {ra ca ho so : Nat → Int32} {sc p : Nat} {post : Int32 → Prop} (hP : RCd n num (nI n) f) (hN : numOk n num) (hO : rowOk n row) (hO2 : rowOk n (onRow row sc p c)) (hc : c < n) (hsc : sc < 16) (hp : p ≤ (row sc).length) (hG : RG num (pre row 96) (flt (pS num (pre row 96) (num c 0)) (pre row 96).length) gz ra ca ho so) (h : tB num st row ≤ tB num st (onRow row sc p c) → post (nI (tB num st (onRow row sc p c) - tB num st row))) : wp_X8_breaksMadeBy (nI c) (nI (pre row (6 * sc + p)).length) (nI n) f gz ra ho post := by
  have hn := hO.2.2.2
  have hD := RRd_pre hO hN
  have hcc := hN c hc
  have key := s_made_eq (st := st) hN hO hO2 hc hsc hp
  have h1 := h (s_made_ge hN hO hO2 hc hsc hp)
  have hRGo := RGo_flt (t := num c 0) hD
  have hr := pre_le (t := 6 * sc + p) hO (by have h6 := hO.1 sc; omega)
  clear h
  generalize (pre row (6 * sc + p)).length = r at key hr ⊢
  generalize pre row 96 = L at hD hG key hRGo
  unfold wp_X8_breaksMadeBy
  refine s_number (k := 4) hP hn hc (by omega) ?_
  rw [l1, z_eq (by omega) (by omega)]
  refine ⟨fun q => ?_, fun q => ?_⟩
  · have e := key.1 (by omega)
    rw [e, Nat.sub_self] at h1
    exact h1
  · refine s_number (k := 1) hP hn hc (by omega) ?_
    refine s_made (h := num c 1) (r := r) hRGo hG hcc.2.1 (by omega) (fun e he a b => ?_)
    have k2 := key.2 (by omega) e he a b
    have dl := dlt_le (HR num L (flt (pS num L (num c 0)) L.length)) (flt (pS num L (num c 0)) L.length).length e (num c 1)
    have k4 : tB num st (onRow row sc p c) - tB num st row = dltP (HR num L (flt (pS num L (num c 0)) L.length)) (flt (pS num L (num c 0)) L.length).length e (num c 1) - dltM (HR num L (flt (pS num L (num c 0)) L.length)) (flt (pS num L (num c 0)) L.length).length e := by omega
    rw [k4] at h1
    exact h1
theorem s_readW {f g t tr : Nat → Int32} {x y size csize gz : Int32} {cnum names slots ahead sAhead last lastS ra ca ho so : Nat → Int32} {post : (Nat → Int32) → Int32 → Int32 → Int32 → Int32 → (Nat → Int32) → (Nat → Int32) → (Nat → Int32) → (Nat → Int32) → (Nat → Int32) → (Nat → Int32) → (Nat → Int32) → Int32 → (Nat → Int32) → (Nat → Int32) → (Nat → Int32) → (Nat → Int32) → Prop} (hP : RCd n num (nI n) f) (hN : numOk n num) (hS : RS st t) (hW : RW row g) (hO : rowOk n row) (hc : c < n) (h : ∀ tr size csize cnum names slots ahead sAhead last lastS gz ra ca ho so, RW (rowW row c) tr → RR num (pre (rowW row c) 96) size csize cnum names slots ahead sAhead → RG num (pre (rowW row c) 96) (flt (pS num (pre (rowW row c) 96) (num c 0)) (pre (rowW row c) 96).length) gz ra ca ho so → post tr (nI (st 0)) (nI (st 1)) size csize cnum names slots ahead sAhead last lastS gz ra ca ho so) : wp_X8_readWithout (nI c) (nI n) f g t tr x y size csize cnum names slots ahead sAhead last lastS gz ra ca ho so post := by
  have hn := hO.2.2.2
  have hcc := hN c hc
  have hD := RRd_pre (rowW_ok (c := c) hO) hN
  unfold wp_X8_readWithout
  refine s_copyWall hW (fun g1 hg1 => s_takeOffW hg1 hO hc (fun g2 hg2 => ?_))
  refine s_read3 hP hN hS hg2 (rowW_ok hO) (fun size csize cnum names slots ahead sAhead last lastS hRR => ?_)
  have h2 := h g2
  clear h
  generalize pre (rowW row c) 96 = L at h2 hD hRR
  refine s_number (k := 0) hP hn hc (by omega) ?_
  refine s_gather hD hRR (show num c 0 < 6 by omega) (fun gz ra ca ho so hG => ?_)
  exact h2 _ _ _ _ _ _ _ _ _ _ _ _ _ _ hg2 hRR hG
/-- the model tries it -/
theorem m_tried {w sm : Int32} {aside order rank straight : Nat → Int32} {sc p : Nat} {post : Int32 → Int32 → Int32 → (Nat → Int32) → (Nat → Int32) → (Nat → Int32) → (Nat → Int32) → (Nat → Int32) → Prop} (hM : RM n num row st s) (hO : rowOk n row) (hN : numOk n num) (hc : c < n) (hsc : sc < 16) (hp : p ≤ (rowW row c sc).length) (h5 : (rowW row c sc).length ≤ 5) (h : ∀ w sm s2 aside order rank straight, RM n num row st s2 → post (nI (tB num st (onRow (rowW row c) sc p c))) w sm s2 aside order rank straight) : wp_X9_tried (nI c) (nI sc) (nI p) w sm s aside order rank straight post := by
  have hn := hO.2.2.2
  have hOW : rowOk n (rowW row c) := rowW_ok hO
  have hO2 : rowOk n (onRow (rowW row c) sc p c) := on_ok hOW hsc hp h5 hc (rowW_no hO)
  unfold wp_X9_tried wp_X9_tried_l5
  refine lf2_i (fun x4 as => ∃ k, 204 ≤ k ∧ k ≤ 316 ∧ x4 = nI k ∧ ∀ i, 204 ≤ i → i < k → as i = s i) (fun x4 _ => 316 - x4.toNatClampNeg) ⟨204, by omega, by omega, rfl, fun i h1 h2 => absurd h2 (by omega)⟩ ?_
  rintro x4 as ⟨k, hk, hk2, rfl, has⟩
  refine ⟨fun hx => ?_, fun hx => ?_⟩
  · have hke : k = 316 := by simp (disch := omega) only [l316, z_le] at hx; omega
    subst hke
    refine m_takeOffW hM hO hc (fun s1 hM1 _ => ?_)
    refine m_putAt hM1 hn hOW.1 hsc hp h5 (fun s2 hM2 _ => ?_)
    refine m_allBreaks hM2 hO2 hN (fun w sm order rank straight => ?_)
    unfold wp_X9_tried_l56
    refine lf2_i (fun x5 s3 => ∃ k, 204 ≤ k ∧ k ≤ 316 ∧ x5 = nI k ∧ (∀ i, i < 204 → s3 i = s2 i) ∧ ∀ i, 204 ≤ i → i < k → s3 i = s i) (fun x5 _ => 316 - x5.toNatClampNeg) ⟨204, by omega, by omega, rfl, fun _ _ => rfl, fun i h1 h2 => absurd h2 (by omega)⟩ ?_
    rintro x5 s3 ⟨k, hk, hk2, rfl, h1, h2⟩
    refine ⟨fun hx => ?_, fun hx => ?_⟩
    · have hke : k = 316 := by simp (disch := omega) only [l316, z_le] at hx; omega
      subst hke
      refine h _ _ _ _ _ _ _ ⟨by rw [h1 0 (by omega)]; exact hM2.1, fun i hi => by rw [h1 _ (by omega)]; exact hM2.2.1 i hi, fun d hd j hj => by rw [h1 _ (by omega)]; exact hM2.2.2.1 d hd j hj, fun k hk => ?_⟩
      have h6 := hO.1 k
      have hm := hM.2.2.2 k hk
      exact ⟨by rw [h2 _ (by omega) (by omega)]; exact hm.1, fun q hq => by rw [h2 _ (by omega) (by omega)]; exact hm.2 q hq⟩
    · have hke : k < 316 := by simp (disch := omega) only [l316, z_le] at hx; omega
      have ek : (nI k).toNatClampNeg = k := z_cl (by omega)
      rw [ek, l1, z_add]
      refine ⟨(z_in (by omega)).mpr (by omega), (z_in (by omega)).mpr (by omega), ⟨k + 1, by omega, by omega, rfl, fun i hi => ?_, fun i i1 i2 => ?_⟩, by simp (disch := omega) only [z_cl]; omega⟩
      · rw [z_up_n (by omega)]; exact h1 i hi
      · rw [z_up]
        by_cases he : i = k
        · rw [if_pos he, he]; exact has k hk hke
        · rw [if_neg he]; exact h2 i i1 (by omega)
  · have hke : k < 316 := by simp (disch := omega) only [l316, z_le] at hx; omega
    have ek : (nI k).toNatClampNeg = k := z_cl (by omega)
    rw [ek, l1, z_add]
    refine ⟨(z_in (by omega)).mpr (by omega), (z_in (by omega)).mpr (by omega), ⟨k + 1, by omega, by omega, rfl, fun i i1 i2 => ?_⟩, by simp (disch := omega) only [z_cl]; omega⟩
    rw [z_up]
    by_cases he : i = k
    · rw [if_pos he, he]
    · rw [if_neg he]; exact has i i1 (by omega)
end
theorem sim_would : gSim_would simR := by
  intro y1 y2 y3 xv_kept xv_now_cards_size xv_now_cards_numbers xv_now_wall_slots xv_now_settings xv_snapshot_cards_size xv_snapshot_cards_numbers xv_snapshot_wall_slots xv_snapshot_settings xv_history_oldest xv_history_size xv_history_states_0_cards_size xv_history_states_0_cards_numbers xv_history_states_0_wall_slots xv_history_states_0_settings xv_history_states_1_cards_size xv_history_states_1_cards_numbers xv_history_states_1_wall_slots xv_history_states_1_settings xv_history_states_2_cards_size xv_history_states_2_cards_numbers xv_history_states_2_wall_slots xv_history_states_2_settings xv_history_states_3_cards_size xv_history_states_3_cards_numbers xv_history_states_3_wall_slots xv_history_states_3_settings xv_text_length xv_text_position xv_text_faulty xv_text_signs xv_text_cards_size xv_text_cards_numbers xv_trial_slots xv_reading_mostScenesWithout xv_reading_mostHoursWithout xv_reading_size xv_reading_cards_size xv_reading_cards_numbers xv_reading_names xv_reading_slots xv_reading_ahead xv_reading_straightAhead xv_reading_last xv_reading_lastStraight xv_straightRow_size xv_straightRow_ranks xv_straightRow_cards xv_straightRow_hours xv_straightRow_slots xv_straightRow_sorted xv_straightRow_longest xv_tensions_values xv_tensions_climbs mv_onWall mv_straightMany mv_length mv_states mv_isKept mv_at mv_cards mv_s mv_before mv_kept mv_aside mv_order mv_rank mv_straight mv_sorted mv_longest mv_read mv_text hsim
  obtain ⟨a, b, hist, h, len, T, hA, hC, hM, hK, hHc, hHm, hT1, hT2, hl1, hl2⟩ := hsim
  have same : simR xv_kept xv_now_cards_size xv_now_cards_numbers xv_now_wall_slots xv_now_settings xv_snapshot_cards_size xv_snapshot_cards_numbers xv_snapshot_wall_slots xv_snapshot_settings xv_history_oldest xv_history_size xv_history_states_0_cards_size xv_history_states_0_cards_numbers xv_history_states_0_wall_slots xv_history_states_0_settings xv_history_states_1_cards_size xv_history_states_1_cards_numbers xv_history_states_1_wall_slots xv_history_states_1_settings xv_history_states_2_cards_size xv_history_states_2_cards_numbers xv_history_states_2_wall_slots xv_history_states_2_settings xv_history_states_3_cards_size xv_history_states_3_cards_numbers xv_history_states_3_wall_slots xv_history_states_3_settings xv_text_length xv_text_position xv_text_faulty xv_text_signs xv_text_cards_size xv_text_cards_numbers xv_trial_slots xv_reading_mostScenesWithout xv_reading_mostHoursWithout xv_reading_size xv_reading_cards_size xv_reading_cards_numbers xv_reading_names xv_reading_slots xv_reading_ahead xv_reading_straightAhead xv_reading_last xv_reading_lastStraight xv_straightRow_size xv_straightRow_ranks xv_straightRow_cards xv_straightRow_hours xv_straightRow_slots xv_straightRow_sorted xv_straightRow_longest xv_tensions_values xv_tensions_climbs mv_onWall mv_straightMany mv_length mv_states mv_isKept mv_at mv_cards mv_s mv_before mv_kept mv_aside mv_order mv_rank mv_straight mv_sorted mv_longest mv_read mv_text := ⟨a, b, hist, h, len, T, hA, hC, hM, hK, hHc, hHm, hT1, hT2, hl1, hl2⟩
  obtain ⟨n, num, row, st⟩ := a
  have hN : numOk n num := hA.1
  have hO : rowOk n row := hA.2.1
  have hn : n ≤ 40 := hO.2.2.2
  have hS : setOk st := hA.2.2
  replace hM : RM n num row st mv_s := hM
  replace hC : RCd n num xv_now_cards_size xv_now_cards_numbers ∧ RW row xv_now_wall_slots ∧ RS st xv_now_settings := hC
  have hsz : xv_now_cards_size = nI n := hC.1.1
  unfold wp_X8_would
  rw [hsz] at hC same ⊢
  rcases z_cases y1 n (by omega) with c | c | ⟨i, hi, rfl⟩
  · refine s_pinFaultN1 hn (Or.inl c) ⟨fun c => absurd c (by decide), fun _ => ?_⟩
    unfold wp_X9_would
    exact m_errorN1 hM hn (Or.inl c) ⟨fun c => absurd c (by decide), fun _ => ⟨rfl, same⟩⟩
  · refine s_pinFaultN1 hn (Or.inr c) ⟨fun c => absurd c (by decide), fun _ => ?_⟩
    unfold wp_X9_would
    exact m_errorN1 hM hn (Or.inr c) ⟨fun c => absurd c (by decide), fun _ => ⟨rfl, same⟩⟩
  · rcases rng (x := y2) (lo := 0) (hi := 15) (by omega) (by omega) with ⟨k, rfl, _, hk⟩ | hx
    · have hk16 : k < 16 := by omega
      have hOW : rowOk n (rowW row i) := rowW_ok hO
      refine s_pinFault (row := row) hC.2.1 hO hi hk16 (fun q3 => ?_) (fun q5 qx => ?_) (fun q5 p hp e => ?_)
      · refine ⟨fun c => absurd c (by decide), fun _ => ?_⟩
        unfold wp_X9_would
        exact m_errorOf hM hO hi hk16 (fun _ => ⟨fun c => absurd c (by decide), fun _ => ⟨rfl, same⟩⟩) (fun c _ => absurd q3 (by omega)) (fun c _ _ _ => absurd q3 (by omega))
      · refine ⟨fun c => absurd c (by decide), fun _ => ?_⟩
        unfold wp_X9_would
        exact m_errorOf hM hO hi hk16 (fun c => absurd q5 (by omega)) (fun _ _ => ⟨fun c => absurd c (by decide), fun _ => ⟨rfl, same⟩⟩) (fun _ p hp e => by rw [e] at qx; exact absurd qx (rng_no hp (by omega)))
      · subst e
        have hO2 : rowOk n (onRow (rowW row i) k p i) := on_ok hOW hk16 hp q5 hi (rowW_no hO)
        refine ⟨fun _ => ?_, fun c => absurd rfl c⟩
        refine s_readW (n := n) (num := num) (row := row) (st := st) hC.1 hN hC.2.2 hC.2.1 hO hi (fun tr size csize cnum names slots ahead sAhead last lastS gz ra ca ho so htr hRR hG => ?_)
        refine s_slot ?_
        rw [show k * 6 + p = 6 * k + p by omega]
        refine s_ahead (t := 6 * k + p) htr hOW (by omega) ?_
        have hD := RRd_pre hOW hN
        have mk : ∀ po : Int32 → Prop, (tB num st (rowW row i) ≤ tB num st (onRow (rowW row i) k p i) → po (nI (tB num st (onRow (rowW row i) k p i) - tB num st (rowW row i)))) → wp_X8_breaksMadeBy (nI i) (nI (pre (rowW row i) (6 * k + p)).length) (nI n) xv_now_cards_numbers gz ra ho po := fun po hpo => s_made8 hC.1 hN hOW hO2 hi hk16 hp hG hpo
        have mt := fun w sm aside order rank straight post hpo => @m_tried n num row st mv_s i w sm aside order rank straight k p post hM hO hN hi hk16 hp q5 hpo
        generalize hT2e : tB num st (onRow (rowW row i) k p i) = t2 at mk mt
        generalize hT1e : tB num st (rowW row i) = t1 at mk
        unfold tB at hT1e
        generalize pre (rowW row i) 96 = L at hRR hG hD hT1e
        refine s_tally (w := 12) (t := none) (sc := none) hD hRR hS (by omega) (fun u hu => by cases hu) (fun u hu => by cases hu) ?_
        rw [hT1e]
        refine mk _ (fun hle => ?_)
        rw [z_add, show t1 + (t2 - t1) = t2 by omega]
        unfold wp_X9_would
        refine m_errorOf hM hO hi hk16 (fun c => absurd q5 (by omega)) (fun _ c => absurd c (rng_no hp (by omega))) (fun _ p2 hp2 e => ?_)
        refine ⟨fun _ => mt _ _ _ _ _ _ _ (fun w sm s2 aside order rank straight hM2 => ?_), fun c => absurd rfl c⟩
        exact ⟨rfl, (n, num, row, st), b, hist, h, len, T, hA, hC, hM2, hK, hHc, hHm, hT1, hT2, hl1, hl2⟩
    · refine s_pinFaultN2 hn hi hx ⟨fun c => absurd c (by decide), fun _ => ?_⟩
      unfold wp_X9_would
      exact m_errorN2 hM hn hi hx ⟨fun c => absurd c (by decide), fun _ => ⟨rfl, same⟩⟩
