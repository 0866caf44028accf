theorem p_swap {n : Nat} {num : Nat → Nat → Nat} {row : Nat → List Nat} {st : Nat → Nat} {v_now_cards_size : Int32} {v_now_cards_numbers : Nat → Int32} {v_now_wall_slots : Nat → Int32} {v_now_settings : Nat → Int32} {v_history_oldest : Int32} {v_history_size : Int32} {v_history_states_0_cards_size : Int32} {v_history_states_0_cards_numbers : Nat → Int32} {v_history_states_0_wall_slots : Nat → Int32} {v_history_states_0_settings : Nat → Int32} {v_history_states_1_cards_size : Int32} {v_history_states_1_cards_numbers : Nat → Int32} {v_history_states_1_wall_slots : Nat → Int32} {v_history_states_1_settings : Nat → Int32} {v_history_states_2_cards_size : Int32} {v_history_states_2_cards_numbers : Nat → Int32} {v_history_states_2_wall_slots : Nat → Int32} {v_history_states_2_settings : Nat → Int32} {v_history_states_3_cards_size : Int32} {v_history_states_3_cards_numbers : Nat → Int32} {v_history_states_3_wall_slots : Nat → Int32} {v_history_states_3_settings : Nat → Int32} {v_reading_mostScenesWithout : Int32} {v_reading_mostHoursWithout : Int32} {v_reading_size : Int32} {v_reading_cards_size : Int32} {v_reading_cards_numbers : Nat → Int32} {v_reading_names : Nat → Int32} {v_reading_slots : Nat → Int32} {v_reading_ahead : Nat → Int32} {v_reading_straightAhead : Nat → Int32} {v_reading_last : Nat → Int32} {v_reading_lastStraight : Nat → Int32} {post : Int32 → (Nat → Int32) → Int32 → Int32 → Int32 → (Nat → Int32) → (Nat → Int32) → (Nat → Int32) → Int32 → (Nat → Int32) → (Nat → Int32) → (Nat → Int32) → Int32 → (Nat → Int32) → (Nat → Int32) → (Nat → Int32) → Int32 → (Nat → Int32) → (Nat → Int32) → (Nat → Int32) → Int32 → Int32 → Int32 → Int32 → (Nat → Int32) → (Nat → Int32) → (Nat → Int32) → (Nat → Int32) → (Nat → Int32) → (Nat → Int32) → (Nat → Int32) → Prop} {i j : Nat} (hN : numOk n num) (hO : rowOk n row) (hS : setOk st) (hC : RCd n num v_now_cards_size v_now_cards_numbers) (hW : RW row v_now_wall_slots) (hT : RS st v_now_settings) (hH : RHx v_history_oldest v_history_size v_history_states_0_cards_size v_history_states_0_cards_numbers v_history_states_0_wall_slots v_history_states_0_settings v_history_states_1_cards_size v_history_states_1_cards_numbers v_history_states_1_wall_slots v_history_states_1_settings v_history_states_2_cards_size v_history_states_2_cards_numbers v_history_states_2_wall_slots v_history_states_2_settings v_history_states_3_cards_size v_history_states_3_cards_numbers v_history_states_3_wall_slots v_history_states_3_settings) (hi : i < n) (hj : j < n) (h0 : i = j → post (-2) v_now_wall_slots v_history_oldest v_history_size v_history_states_0_cards_size v_history_states_0_cards_numbers v_history_states_0_wall_slots v_history_states_0_settings v_history_states_1_cards_size v_history_states_1_cards_numbers v_history_states_1_wall_slots v_history_states_1_settings v_history_states_2_cards_size v_history_states_2_cards_numbers v_history_states_2_wall_slots v_history_states_2_settings v_history_states_3_cards_size v_history_states_3_cards_numbers v_history_states_3_wall_slots v_history_states_3_settings v_reading_mostScenesWithout v_reading_mostHoursWithout v_reading_size v_reading_cards_size v_reading_cards_numbers v_reading_names v_reading_slots v_reading_ahead v_reading_straightAhead v_reading_last v_reading_lastStraight) (h1 : i ≠ j → (slotO row i = none ∨ slotO row j = none) → post (-4) v_now_wall_slots v_history_oldest v_history_size v_history_states_0_cards_size v_history_states_0_cards_numbers v_history_states_0_wall_slots v_history_states_0_settings v_history_states_1_cards_size v_history_states_1_cards_numbers v_history_states_1_wall_slots v_history_states_1_settings v_history_states_2_cards_size v_history_states_2_cards_numbers v_history_states_2_wall_slots v_history_states_2_settings v_history_states_3_cards_size v_history_states_3_cards_numbers v_history_states_3_wall_slots v_history_states_3_settings v_reading_mostScenesWithout v_reading_mostHoursWithout v_reading_size v_reading_cards_size v_reading_cards_numbers v_reading_names v_reading_slots v_reading_ahead v_reading_straightAhead v_reading_last v_reading_lastStraight) (h2 : i ≠ j → slotO row i ≠ none → slotO row j ≠ none → ∀ (m0 : Nat → Int32) (m1 : Int32) (m2 : Int32) (m3 : Int32) (m4 : Nat → Int32) (m5 : Nat → Int32) (m6 : Nat → Int32) (m7 : Int32) (m8 : Nat → Int32) (m9 : Nat → Int32) (m10 : Nat → Int32) (m11 : Int32) (m12 : Nat → Int32) (m13 : Nat → Int32) (m14 : Nat → Int32) (m15 : Int32) (m16 : Nat → Int32) (m17 : Nat → Int32) (m18 : Nat → Int32) (m19 : Int32) (m20 : Int32) (m21 : Int32) (m22 : Int32) (m23 : Nat → Int32) (m24 : Nat → Int32) (m25 : Nat → Int32) (m26 : Nat → Int32) (m27 : Nat → Int32) (m28 : Nat → Int32) (m29 : Nat → Int32), OkS (n, num, reRow row (fun v => crd row (tr2 ((slotO row i).getD 0) ((slotO row j).getD 0) v)), st) → RC (n, num, reRow row (fun v => crd row (tr2 ((slotO row i).getD 0) ((slotO row j).getD 0) v)), st) v_now_cards_size v_now_cards_numbers m0 v_now_settings → RHx m1 m2 m3 m4 m5 m6 m7 m8 m9 m10 m11 m12 m13 m14 m15 m16 m17 m18 → post (nI (tallyF num st (pre (reRow row (fun v => crd row (tr2 ((slotO row i).getD 0) ((slotO row j).getD 0) v))) 96) 12 none none)) m0 m1 m2 m3 m4 m5 m6 m7 m8 m9 m10 m11 m12 m13 m14 m15 m16 m17 m18 m19 m20 m21 m22 m23 m24 m25 m26 m27 m28 m29) : wp_X8_swap (nI i) (nI j) v_now_cards_size v_now_cards_numbers v_now_wall_slots v_now_settings v_history_oldest v_history_size v_history_states_0_cards_size v_history_states_0_cards_numbers v_history_states_0_wall_slots v_history_states_0_settings v_history_states_1_cards_size v_history_states_1_cards_numbers v_history_states_1_wall_slots v_history_states_1_settings v_history_states_2_cards_size v_history_states_2_cards_numbers v_history_states_2_wall_slots v_history_states_2_settings v_history_states_3_cards_size v_history_states_3_cards_numbers v_history_states_3_wall_slots v_history_states_3_settings v_reading_mostScenesWithout v_reading_mostHoursWithout v_reading_size v_reading_cards_size v_reading_cards_numbers v_reading_names v_reading_slots v_reading_ahead v_reading_straightAhead v_reading_last v_reading_lastStraight post := by
  obtain ⟨hist, hh, hH⟩ := hH
  have hn : n ≤ 40 := hO.2.2.2
  have hsz := hC.1
  subst hsz
  have hA : OkS (n, num, row, st) := ⟨hN, hO, hS⟩
  have hR0 : RC (n, num, row, st) (nI n) v_now_cards_numbers v_now_wall_slots v_now_settings := ⟨hC, hW, hT⟩
  unfold wp_X8_swap
  refine s_has hn hi ⟨fun c => absurd c (by decide), fun _ => ?_⟩
  refine s_has hn hj ⟨fun c => absurd c (by decide), fun _ => ?_⟩
  rw [z_eq (by omega) (by omega)]
  refine ⟨fun q => h0 q, fun hij => ?_⟩
  have e5 : (-5 : Int32) = -nI 5 := rfl
  have nn : ∀ k : Nat, k < 1000 → ¬ nI k = (-5 : Int32) := fun k hk => by rw [e5, z_en (by omega) (by omega) (by omega)]; exact id
  cases hsi : slotO row i with
  | none =>
    refine s_slotOf_no hW hO hi (slotO_none hsi) ?_
    cases hsj : slotO row j with
    | none => exact s_slotOf_no hW hO hj (slotO_none hsj) ⟨fun _ => h1 hij (Or.inl hsi), fun c => absurd rfl c⟩
    | some u =>
      have hus := slotO_some hsj
      exact s_slotOf hW hO hj hus.1 hus.2 (fun v hv hx => hO.2.2.1 j v u hv hus.1 hx hus.2) ⟨fun _ => h1 hij (Or.inl hsi), fun c => absurd rfl c⟩
  | some t =>
    have hts := slotO_some hsi
    refine s_slotOf hW hO hi hts.1 hts.2 (fun v hv hx => hO.2.2.1 i v t hv hts.1 hx hts.2) ?_
    cases hsj : slotO row j with
    | none => exact s_slotOf_no hW hO hj (slotO_none hsj) ⟨fun c => absurd c (nn t (by omega)), fun _ => ⟨fun _ => h1 hij (Or.inr hsj), fun c => absurd rfl c⟩⟩
    | some u =>
      have hus := slotO_some hsj
      have hti := occ_of hts.2
      have huj := occ_of hus.2
      refine s_slotOf hW hO hj hus.1 hus.2 (fun v hv hx => hO.2.2.1 j v u hv hus.1 hx hus.2) ⟨fun c => absurd c (nn t (by omega)), fun _ => ⟨fun c => absurd c (nn u (by omega)), fun _ => ?_⟩⟩
      refine s_record hH hA hR0 (fun old sz n0 f0 g0 t0 n1 f1 g1 t1 n2 f2 g2 t2 n3 f3 g3 t3 hH2 => ?_)
      refine s_exchange hts.1 hus.1 (fun g' hg' => ?_)
      have hO2 := sw_ok hO hts.1 hus.1 hti.1 huj.1
      have hg2 := sw_RW hO hW hts.1 hus.1 hti.1 huj.1 hg'
      have h3 := h2 hij (by rw [hsi]; exact fun q => by cases q) (by rw [hsj]; exact fun q => by cases q)
      rw [hsi, hsj] at h3
      have eg : ∀ x : Nat, (some x).getD 0 = x := fun _ => rfl
      simp only [eg] at h3
      generalize reRow row (fun v => crd row (tr2 t u v)) = row2 at hO2 hg2 h3
      refine s_breaksNow (t := none) hC hN hT hS hg2 hO2 (fun u hu => by cases hu) (fun x y size csize cnum names slots ahead sAhead last lastS => ?_)
      exact h3 _ _ _ _ _ _ _ _ _ _ _ _ _ _ _ _ _ _ _ _ _ _ _ _ _ _ _ _ _ _ ⟨hN, hO2, hS⟩ ⟨hC, hg2, hT⟩ ⟨_, _, hH2⟩
theorem q_swap {n : Nat} {num : Nat → Nat → Nat} {row : Nat → List Nat} {st : Nat → Nat} {b : Option AS} {v : VT} {post : Int32 → VT → Prop} {i j : Nat} (hV : SV (n, num, row, st) b v) (hi : i < n) (hj : j < n) (h0 : i = j → ∀ v, SV (n, num, row, st) b v → post (-2) v) (h1 : i ≠ j → (slotO row i = none ∨ slotO row j = none) → ∀ v, SV (n, num, row, st) b v → post (-4) v) (h2 : i ≠ j → slotO row i ≠ none → slotO row j ≠ none → ∀ v, SV (n, num, reRow row (fun v => crd row (tr2 ((slotO row i).getD 0) ((slotO row j).getD 0) v)), st) b v → post (nI (tallyF num st (pre (reRow row (fun v => crd row (tr2 ((slotO row i).getD 0) ((slotO row j).getD 0) v))) 96) 12 none none)) v) : wv_swap (nI i) (nI j) v post := by
  unfold wv_swap
  exact p_swap hV.1.1 hV.1.2.1 hV.1.2.2 hV.2.1.1 hV.2.1.2.1 hV.2.1.2.2 hV.2.2.2 hi hj (fun e0 => by refine h0 e0 _ ?_; exact hV) (fun e0 e1 => by refine h1 e0 e1 _ ?_; exact hV) (fun e0 e1 e2 m0 m1 m2 m3 m4 m5 m6 m7 m8 m9 m10 m11 m12 m13 m14 m15 m16 m17 m18 m19 m20 m21 m22 m23 m24 m25 m26 m27 m28 m29 hA2 hC2 hH2 => by refine h2 e0 e1 e2 _ ?_; exact ⟨hA2, hC2, hV.2.2.1, hH2⟩)
theorem SF_row {n : Nat} {num : Nat → Nat → Nat} {row : Nat → List Nat} {t : Nat} (hN : numOk n num) (hO : rowOk n row) : SF row (CR (pre row 96) (sRow num row t)) (fun i => sl (pre row 96) ((sRow num row t).getD i 0)) (sRow num row t).length := by
  have hD : RRd n num (pre row 96) := RRd_pre hO hN
  have hG0 : RGo num (pre row 96) (sRow num row t) := RGo_flt (t := t) hD
  refine ⟨injC_R hG0 (Nat.le_refl _), fun i hi => ?_, fun i j hij hj => ?_⟩
  · have a := hG0.2.2.1 i hi
    have c := occ_of (pre_at (row := row) (t := 96) a.1).2
    exact ⟨a.2.2.2, c.1, c.2⟩
  · exact hD.1.2.2.1 _ _ (hG0.2.2.2.1 i j hij hj) (hG0.2.2.1 j hj).1
theorem p_straighten {n : Nat} {num : Nat → Nat → Nat} {row : Nat → List Nat} {st : Nat → Nat} {v_now_cards_size : Int32} {v_now_cards_numbers : Nat → Int32} {v_now_wall_slots : Nat → Int32} {v_now_settings : Nat → Int32} {v_history_oldest : Int32} {v_history_size : Int32} {v_history_states_0_cards_size : Int32} {v_history_states_0_cards_numbers : Nat → Int32} {v_history_states_0_wall_slots : Nat → Int32} {v_history_states_0_settings : Nat → Int32} {v_history_states_1_cards_size : Int32} {v_history_states_1_cards_numbers : Nat → Int32} {v_history_states_1_wall_slots : Nat → Int32} {v_history_states_1_settings : Nat → Int32} {v_history_states_2_cards_size : Int32} {v_history_states_2_cards_numbers : Nat → Int32} {v_history_states_2_wall_slots : Nat → Int32} {v_history_states_2_settings : Nat → Int32} {v_history_states_3_cards_size : Int32} {v_history_states_3_cards_numbers : Nat → Int32} {v_history_states_3_wall_slots : Nat → Int32} {v_history_states_3_settings : Nat → Int32} {v_reading_mostScenesWithout : Int32} {v_reading_mostHoursWithout : Int32} {v_reading_size : Int32} {v_reading_cards_size : Int32} {v_reading_cards_numbers : Nat → Int32} {v_reading_names : Nat → Int32} {v_reading_slots : Nat → Int32} {v_reading_ahead : Nat → Int32} {v_reading_straightAhead : Nat → Int32} {v_reading_last : Nat → Int32} {v_reading_lastStraight : Nat → Int32} {v_straightRow_size : Int32} {v_straightRow_ranks : Nat → Int32} {v_straightRow_cards : Nat → Int32} {v_straightRow_hours : Nat → Int32} {v_straightRow_slots : Nat → Int32} {v_straightRow_sorted : Nat → Int32} {post : Int32 → (Nat → Int32) → Int32 → Int32 → Int32 → (Nat → Int32) → (Nat → Int32) → (Nat → Int32) → Int32 → (Nat → Int32) → (Nat → Int32) → (Nat → Int32) → Int32 → (Nat → Int32) → (Nat → Int32) → (Nat → Int32) → Int32 → (Nat → Int32) → (Nat → Int32) → (Nat → Int32) → Int32 → Int32 → Int32 → Int32 → (Nat → Int32) → (Nat → Int32) → (Nat → Int32) → (Nat → Int32) → (Nat → Int32) → (Nat → Int32) → (Nat → Int32) → Int32 → (Nat → Int32) → (Nat → Int32) → (Nat → Int32) → (Nat → Int32) → (Nat → Int32) → Prop} {t : Nat} (hN : numOk n num) (hO : rowOk n row) (hS : setOk st) (hC : RCd n num v_now_cards_size v_now_cards_numbers) (hW : RW row v_now_wall_slots) (hT : RS st v_now_settings) (hH : RHx v_history_oldest v_history_size v_history_states_0_cards_size v_history_states_0_cards_numbers v_history_states_0_wall_slots v_history_states_0_settings v_history_states_1_cards_size v_history_states_1_cards_numbers v_history_states_1_wall_slots v_history_states_1_settings v_history_states_2_cards_size v_history_states_2_cards_numbers v_history_states_2_wall_slots v_history_states_2_settings v_history_states_3_cards_size v_history_states_3_cards_numbers v_history_states_3_wall_slots v_history_states_3_settings) (ht : t < 6) (h0 : mvd num (pre row 96) (sRow num row t) (sRow num row t).length = 0 → ∀ (m0 : Nat → Int32) (m1 : Int32) (m2 : Int32) (m3 : Int32) (m4 : Nat → Int32) (m5 : Nat → Int32) (m6 : Nat → Int32) (m7 : Int32) (m8 : Nat → Int32) (m9 : Nat → Int32) (m10 : Nat → Int32) (m11 : Int32) (m12 : Nat → Int32) (m13 : Nat → Int32) (m14 : Nat → Int32) (m15 : Int32) (m16 : Nat → Int32) (m17 : Nat → Int32) (m18 : Nat → Int32) (m19 : Int32) (m20 : Int32) (m21 : Int32) (m22 : Int32) (m23 : Nat → Int32) (m24 : Nat → Int32) (m25 : Nat → Int32) (m26 : Nat → Int32) (m27 : Nat → Int32) (m28 : Nat → Int32) (m29 : Nat → Int32) (m30 : Int32) (m31 : Nat → Int32) (m32 : Nat → Int32) (m33 : Nat → Int32) (m34 : Nat → Int32) (m35 : Nat → Int32), RC (n, num, row, st) v_now_cards_size v_now_cards_numbers m0 v_now_settings → RHx m1 m2 m3 m4 m5 m6 m7 m8 m9 m10 m11 m12 m13 m14 m15 m16 m17 m18 → post (-5) m0 m1 m2 m3 m4 m5 m6 m7 m8 m9 m10 m11 m12 m13 m14 m15 m16 m17 m18 m19 m20 m21 m22 m23 m24 m25 m26 m27 m28 m29 m30 m31 m32 m33 m34 m35) (h1 : ¬ mvd num (pre row 96) (sRow num row t) (sRow num row t).length = 0 → ∀ (m0 : Nat → Int32) (m1 : Int32) (m2 : Int32) (m3 : Int32) (m4 : Nat → Int32) (m5 : Nat → Int32) (m6 : Nat → Int32) (m7 : Int32) (m8 : Nat → Int32) (m9 : Nat → Int32) (m10 : Nat → Int32) (m11 : Int32) (m12 : Nat → Int32) (m13 : Nat → Int32) (m14 : Nat → Int32) (m15 : Int32) (m16 : Nat → Int32) (m17 : Nat → Int32) (m18 : Nat → Int32) (m19 : Int32) (m20 : Int32) (m21 : Int32) (m22 : Int32) (m23 : Nat → Int32) (m24 : Nat → Int32) (m25 : Nat → Int32) (m26 : Nat → Int32) (m27 : Nat → Int32) (m28 : Nat → Int32) (m29 : Nat → Int32) (m30 : Int32) (m31 : Nat → Int32) (m32 : Nat → Int32) (m33 : Nat → Int32) (m34 : Nat → Int32) (m35 : Nat → Int32), OkS (n, num, reRow row (stF row (HR num (pre row 96) (sRow num row t)) (CR (pre row 96) (sRow num row t)) (fun i => sl (pre row 96) ((sRow num row t).getD i 0)) (sRow num row t).length), st) → RC (n, num, reRow row (stF row (HR num (pre row 96) (sRow num row t)) (CR (pre row 96) (sRow num row t)) (fun i => sl (pre row 96) ((sRow num row t).getD i 0)) (sRow num row t).length), st) v_now_cards_size v_now_cards_numbers m0 v_now_settings → RHx m1 m2 m3 m4 m5 m6 m7 m8 m9 m10 m11 m12 m13 m14 m15 m16 m17 m18 → post (nI (mvd num (pre row 96) (sRow num row t) (sRow num row t).length)) m0 m1 m2 m3 m4 m5 m6 m7 m8 m9 m10 m11 m12 m13 m14 m15 m16 m17 m18 m19 m20 m21 m22 m23 m24 m25 m26 m27 m28 m29 m30 m31 m32 m33 m34 m35) : wp_X8_straighten (nI t) v_now_cards_size v_now_cards_numbers v_now_wall_slots v_now_settings v_history_oldest v_history_size v_history_states_0_cards_size v_history_states_0_cards_numbers v_history_states_0_wall_slots v_history_states_0_settings v_history_states_1_cards_size v_history_states_1_cards_numbers v_history_states_1_wall_slots v_history_states_1_settings v_history_states_2_cards_size v_history_states_2_cards_numbers v_history_states_2_wall_slots v_history_states_2_settings v_history_states_3_cards_size v_history_states_3_cards_numbers v_history_states_3_wall_slots v_history_states_3_settings v_reading_mostScenesWithout v_reading_mostHoursWithout v_reading_size v_reading_cards_size v_reading_cards_numbers v_reading_names v_reading_slots v_reading_ahead v_reading_straightAhead v_reading_last v_reading_lastStraight v_straightRow_size v_straightRow_ranks v_straightRow_cards v_straightRow_hours v_straightRow_slots v_straightRow_sorted post := by
  obtain ⟨hist, hh, hH⟩ := hH
  have hn : n ≤ 40 := hO.2.2.2
  have hsz := hC.1
  subst hsz
  have hA : OkS (n, num, row, st) := ⟨hN, hO, hS⟩
  have hR0 : RC (n, num, row, st) (nI n) v_now_cards_numbers v_now_wall_slots v_now_settings := ⟨hC, hW, hT⟩
  unfold wp_X8_straighten
  refine s_isThread ⟨fun c => absurd c (by decide), fun _ => ?_⟩ ht
  refine s_read3 (n := n) (num := num) (row := row) (st := st) hC hN hT hW hO (fun size csize cnum names slots ahead sAhead last lastS hRR => ?_)
  have hD : RRd n num (pre row 96) := RRd_pre hO hN
  have hG0 : RGo num (pre row 96) (sRow num row t) := RGo_flt (t := t) hD
  have hSF := SF_row (t := t) hN hO
  have hO2 := st_ok (H := HR num (pre row 96) (sRow num row t)) hO hSF
  have hW2 := fun g' hy hno => @st_RW n row (HR num (pre row 96) (sRow num row t)) (CR (pre row 96) (sRow num row t)) (fun i => sl (pre row 96) ((sRow num row t).getD i 0)) (sRow num row t).length v_now_wall_slots g' hO hW hSF hy hno
  have hex := fun i hi => @srtC_ex (HR num (pre row 96) (sRow num row t)) (CR (pre row 96) (sRow num row t)) (sRow num row t).length i hSF.1 hi
  unfold sRow at hO2 hW2 h0 h1 hex hG0
  clear hSF
  generalize pre row 96 = L at hRR hD hO2 hW2 h0 h1 hex hG0
  refine s_gather hD hRR ht (fun gz ra ca ho so hG => ?_)
  refine s_sort hG0 hG (fun sd hsd => ?_)
  refine s_moved hG0 hG hsd ?_
  have hmv : mvd num L (flt (pS num L t) L.length) (flt (pS num L t) L.length).length ≤ (flt (pS num L t) L.length).length := cnt_le _ _
  have hRl := hG0.2.1
  rw [z_eq0 (by omega)]
  refine ⟨fun q => ?_, fun q => ?_⟩
  · exact h0 q _ _ _ _ _ _ _ _ _ _ _ _ _ _ _ _ _ _ _ _ _ _ _ _ _ _ _ _ _ _ _ _ _ _ _ _ hR0 ⟨_, _, hH⟩
  · refine s_record hH hA hR0 (fun old sz n0 f0 g0 t0 n1 f1 g1 t1 n2 f2 g2 t2 n3 f3 g3 t3 hH2 => ?_)
    refine s_putOn hG0 hD.1.2.2.1 hG hsd (fun g' hg' => ?_)
    have hW3 := hW2 g' (fun i hi => ?_) (fun u hu hno => (hg' u hu).2 hno)
    · exact h1 q _ _ _ _ _ _ _ _ _ _ _ _ _ _ _ _ _ _ _ _ _ _ _ _ _ _ _ _ _ _ _ _ _ _ _ _ ⟨hN, hO2, hS⟩ ⟨hC, hW3, hT⟩ ⟨_, _, hH2⟩
    · have a := hG0.2.2.1 i hi
      obtain ⟨k, hk, hr, e⟩ := (hg' _ a.2.2.2).1 i hi rfl
      obtain ⟨k2, hk2, hr2, e2⟩ := hex i hi
      have hkk : k = k2 := rk_inj (H := HR num L (flt (pS num L t) L.length)) (injC_R hG0 (Nat.le_refl _)) hk hk2 (hr.trans hr2.symm)
      subst hkk
      rw [e2]; exact e
theorem q_straighten {n : Nat} {num : Nat → Nat → Nat} {row : Nat → List Nat} {st : Nat → Nat} {b : Option AS} {v : VT} {post : Int32 → VT → Prop} {t : Nat} (hV : SV (n, num, row, st) b v) (ht : t < 6) (h0 : mvd num (pre row 96) (sRow num row t) (sRow num row t).length = 0 → ∀ v, SV (n, num, row, st) b v → post (-5) v) (h1 : ¬ mvd num (pre row 96) (sRow num row t) (sRow num row t).length = 0 → ∀ v, SV (n, num, reRow row (stF row (HR num (pre row 96) (sRow num row t)) (CR (pre row 96) (sRow num row t)) (fun i => sl (pre row 96) ((sRow num row t).getD i 0)) (sRow num row t).length), st) b v → post (nI (mvd num (pre row 96) (sRow num row t) (sRow num row t).length)) v) : wv_straighten (nI t) v post := by
  unfold wv_straighten
  exact p_straighten hV.1.1 hV.1.2.1 hV.1.2.2 hV.2.1.1 hV.2.1.2.1 hV.2.1.2.2 hV.2.2.2 ht (fun e0 m0 m1 m2 m3 m4 m5 m6 m7 m8 m9 m10 m11 m12 m13 m14 m15 m16 m17 m18 m19 m20 m21 m22 m23 m24 m25 m26 m27 m28 m29 m30 m31 m32 m33 m34 m35 hC2 hH2 => by refine h0 e0 _ ?_; exact ⟨hV.1, hC2, hV.2.2.1, hH2⟩) (fun e0 m0 m1 m2 m3 m4 m5 m6 m7 m8 m9 m10 m11 m12 m13 m14 m15 m16 m17 m18 m19 m20 m21 m22 m23 m24 m25 m26 m27 m28 m29 m30 m31 m32 m33 m34 m35 hA2 hC2 hH2 => by refine h1 e0 _ ?_; exact ⟨hA2, hC2, hV.2.2.1, hH2⟩)
theorem p_swapScenes {n : Nat} {num : Nat → Nat → Nat} {row : Nat → List Nat} {st : Nat → Nat} {v_now_cards_size : Int32} {v_now_cards_numbers : Nat → Int32} {v_now_wall_slots : Nat → Int32} {v_now_settings : Nat → Int32} {v_history_oldest : Int32} {v_history_size : Int32} {v_history_states_0_cards_size : Int32} {v_history_states_0_cards_numbers : Nat → Int32} {v_history_states_0_wall_slots : Nat → Int32} {v_history_states_0_settings : Nat → Int32} {v_history_states_1_cards_size : Int32} {v_history_states_1_cards_numbers : Nat → Int32} {v_history_states_1_wall_slots : Nat → Int32} {v_history_states_1_settings : Nat → Int32} {v_history_states_2_cards_size : Int32} {v_history_states_2_cards_numbers : Nat → Int32} {v_history_states_2_wall_slots : Nat → Int32} {v_history_states_2_settings : Nat → Int32} {v_history_states_3_cards_size : Int32} {v_history_states_3_cards_numbers : Nat → Int32} {v_history_states_3_wall_slots : Nat → Int32} {v_history_states_3_settings : Nat → Int32} {v_reading_mostScenesWithout : Int32} {v_reading_mostHoursWithout : Int32} {v_reading_size : Int32} {v_reading_cards_size : Int32} {v_reading_cards_numbers : Nat → Int32} {v_reading_names : Nat → Int32} {v_reading_slots : Nat → Int32} {v_reading_ahead : Nat → Int32} {v_reading_straightAhead : Nat → Int32} {v_reading_last : Nat → Int32} {v_reading_lastStraight : Nat → Int32} {post : Int32 → (Nat → Int32) → Int32 → Int32 → Int32 → (Nat → Int32) → (Nat → Int32) → (Nat → Int32) → Int32 → (Nat → Int32) → (Nat → Int32) → (Nat → Int32) → Int32 → (Nat → Int32) → (Nat → Int32) → (Nat → Int32) → Int32 → (Nat → Int32) → (Nat → Int32) → (Nat → Int32) → Int32 → Int32 → Int32 → Int32 → (Nat → Int32) → (Nat → Int32) → (Nat → Int32) → (Nat → Int32) → (Nat → Int32) → (Nat → Int32) → (Nat → Int32) → Prop} {i j : Nat} (hN : numOk n num) (hO : rowOk n row) (hS : setOk st) (hC : RCd n num v_now_cards_size v_now_cards_numbers) (hW : RW row v_now_wall_slots) (hT : RS st v_now_settings) (hH : RHx v_history_oldest v_history_size v_history_states_0_cards_size v_history_states_0_cards_numbers v_history_states_0_wall_slots v_history_states_0_settings v_history_states_1_cards_size v_history_states_1_cards_numbers v_history_states_1_wall_slots v_history_states_1_settings v_history_states_2_cards_size v_history_states_2_cards_numbers v_history_states_2_wall_slots v_history_states_2_settings v_history_states_3_cards_size v_history_states_3_cards_numbers v_history_states_3_wall_slots v_history_states_3_settings) (hi : i < 16) (hj : j < 16) (hij : i ≠ j) (h0 : post (-5) v_now_wall_slots v_history_oldest v_history_size v_history_states_0_cards_size v_history_states_0_cards_numbers v_history_states_0_wall_slots v_history_states_0_settings v_history_states_1_cards_size v_history_states_1_cards_numbers v_history_states_1_wall_slots v_history_states_1_settings v_history_states_2_cards_size v_history_states_2_cards_numbers v_history_states_2_wall_slots v_history_states_2_settings v_history_states_3_cards_size v_history_states_3_cards_numbers v_history_states_3_wall_slots v_history_states_3_settings v_reading_mostScenesWithout v_reading_mostHoursWithout v_reading_size v_reading_cards_size v_reading_cards_numbers v_reading_names v_reading_slots v_reading_ahead v_reading_straightAhead v_reading_last v_reading_lastStraight) (h1 : ∀ (m0 : Nat → Int32) (m1 : Int32) (m2 : Int32) (m3 : Int32) (m4 : Nat → Int32) (m5 : Nat → Int32) (m6 : Nat → Int32) (m7 : Int32) (m8 : Nat → Int32) (m9 : Nat → Int32) (m10 : Nat → Int32) (m11 : Int32) (m12 : Nat → Int32) (m13 : Nat → Int32) (m14 : Nat → Int32) (m15 : Int32) (m16 : Nat → Int32) (m17 : Nat → Int32) (m18 : Nat → Int32) (m19 : Int32) (m20 : Int32) (m21 : Int32) (m22 : Int32) (m23 : Nat → Int32) (m24 : Nat → Int32) (m25 : Nat → Int32) (m26 : Nat → Int32) (m27 : Nat → Int32) (m28 : Nat → Int32) (m29 : Nat → Int32), OkS (n, num, xRow row i j, st) → RC (n, num, xRow row i j, st) v_now_cards_size v_now_cards_numbers m0 v_now_settings → RHx m1 m2 m3 m4 m5 m6 m7 m8 m9 m10 m11 m12 m13 m14 m15 m16 m17 m18 → post (nI (tallyF num st (pre (xRow row i j) 96) 12 none none)) m0 m1 m2 m3 m4 m5 m6 m7 m8 m9 m10 m11 m12 m13 m14 m15 m16 m17 m18 m19 m20 m21 m22 m23 m24 m25 m26 m27 m28 m29) : wp_X8_swapScenes (nI i) (nI j) v_now_cards_size v_now_cards_numbers v_now_wall_slots v_now_settings v_history_oldest v_history_size v_history_states_0_cards_size v_history_states_0_cards_numbers v_history_states_0_wall_slots v_history_states_0_settings v_history_states_1_cards_size v_history_states_1_cards_numbers v_history_states_1_wall_slots v_history_states_1_settings v_history_states_2_cards_size v_history_states_2_cards_numbers v_history_states_2_wall_slots v_history_states_2_settings v_history_states_3_cards_size v_history_states_3_cards_numbers v_history_states_3_wall_slots v_history_states_3_settings v_reading_mostScenesWithout v_reading_mostHoursWithout v_reading_size v_reading_cards_size v_reading_cards_numbers v_reading_names v_reading_slots v_reading_ahead v_reading_straightAhead v_reading_last v_reading_lastStraight post := by
  obtain ⟨hist, hh, hH⟩ := hH
  have hn : n ≤ 40 := hO.2.2.2
  have hsz := hC.1
  subst hsz
  have hA : OkS (n, num, row, st) := ⟨hN, hO, hS⟩
  have hR0 : RC (n, num, row, st) (nI n) v_now_cards_numbers v_now_wall_slots v_now_settings := ⟨hC, hW, hT⟩
  unfold wp_X8_swapScenes
  refine s_isSceneY hi ⟨fun c => absurd c (by decide), fun _ => ?_⟩
  refine s_isSceneY hj ⟨fun c => absurd c (by decide), fun _ => ?_⟩
  have hne : ¬ nI i = nI j := by rw [z_eq (by omega) (by omega)]; exact hij
  refine ⟨fun c => absurd c hne, fun _ => ?_⟩
  have h6p := hO.1 i
  have h6q := hO.1 j
  refine s_sizeOf (row := row) hW hO hi ?_
  rw [z_eq0 (by omega)]
  refine ⟨fun z1 => ?_, fun z1 => ?_⟩
  · refine s_sizeOf (row := row) hW hO hj ?_
    rw [z_eq0 (by omega)]
    refine ⟨fun z2 => h0, fun z2 => ?_⟩
    unfold wp_X8_swapScenes_j55
    refine s_record hH hA hR0 (fun old sz n0 f0 g0 t0 n1 f1 g1 t1 n2 f2 g2 t2 n3 f3 g3 t3 hH2 => ?_)
    refine s_exchangeScenes (row := row) hW hi hj hij (fun g' hg' => ?_)
    have hO2 : rowOk n (xRow row i j) := x_ok hO hi hj
    refine s_breaksNow (t := none) hC hN hT hS hg' hO2 (fun u hu => by cases hu) (fun x y size csize cnum names slots ahead sAhead last lastS => ?_)
    exact h1 _ _ _ _ _ _ _ _ _ _ _ _ _ _ _ _ _ _ _ _ _ _ _ _ _ _ _ _ _ _ ⟨hN, hO2, hS⟩ ⟨hC, hg', hT⟩ ⟨_, _, hH2⟩
  · unfold wp_X8_swapScenes_j55
    refine s_record hH hA hR0 (fun old sz n0 f0 g0 t0 n1 f1 g1 t1 n2 f2 g2 t2 n3 f3 g3 t3 hH2 => ?_)
    refine s_exchangeScenes (row := row) hW hi hj hij (fun g' hg' => ?_)
    have hO2 : rowOk n (xRow row i j) := x_ok hO hi hj
    refine s_breaksNow (t := none) hC hN hT hS hg' hO2 (fun u hu => by cases hu) (fun x y size csize cnum names slots ahead sAhead last lastS => ?_)
    exact h1 _ _ _ _ _ _ _ _ _ _ _ _ _ _ _ _ _ _ _ _ _ _ _ _ _ _ _ _ _ _ ⟨hN, hO2, hS⟩ ⟨hC, hg', hT⟩ ⟨_, _, hH2⟩
theorem q_swapScenes {n : Nat} {num : Nat → Nat → Nat} {row : Nat → List Nat} {st : Nat → Nat} {b : Option AS} {v : VT} {post : Int32 → VT → Prop} {i j : Nat} (hV : SV (n, num, row, st) b v) (hi : i < 16) (hj : j < 16) (hij : i ≠ j) (h0 : ∀ v, SV (n, num, row, st) b v → post (-5) v) (h1 : ∀ v, SV (n, num, xRow row i j, st) b v → post (nI (tallyF num st (pre (xRow row i j) 96) 12 none none)) v) : wv_swapScenes (nI i) (nI j) v post := by
  unfold wv_swapScenes
  exact p_swapScenes hV.1.1 hV.1.2.1 hV.1.2.2 hV.2.1.1 hV.2.1.2.1 hV.2.1.2.2 hV.2.2.2 hi hj hij (by refine h0  _ ?_; exact hV) (fun  m0 m1 m2 m3 m4 m5 m6 m7 m8 m9 m10 m11 m12 m13 m14 m15 m16 m17 m18 m19 m20 m21 m22 m23 m24 m25 m26 m27 m28 m29 hA2 hC2 hH2 => by refine h1  _ ?_; exact ⟨hA2, hC2, hV.2.2.1, hH2⟩)
theorem q_keep {a : AS} {b : Option AS} {v : VT} {post : Int32 → VT → Prop} (hV : SV a b v) (h : ∀ v, SV a (some a) v → post (nI (pre a.2.2.1 96).length) v) : wv_keep v post := by
  obtain ⟨hA, hC, hK, hH⟩ := hV
  unfold wv_keep wp_X8_keep
  refine s_copyState hC hA.2.1.2.2.2 (fun n f g t hR => ?_)
  refine s_cards7 hC.2.1 hA.2.1 ?_
  exact h _ ⟨hA, hC, ⟨rfl, hA, hR⟩, hH⟩
theorem q_restore0 {a : AS} {v : VT} {post : Int32 → VT → Prop} (hV : SV a none v) (h : ∀ v, SV a none v → post (-5) v) : wv_restore v post := by
  have hK : v.1 = 0 := hV.2.2.1
  unfold wv_restore wp_X8_restore
  refine ⟨fun _ => by refine h _ ?_; exact hV, fun c => absurd hK c⟩
theorem q_restore {a b : AS} {v : VT} {post : Int32 → VT → Prop} (hV : SV a (some b) v) (h : ∀ v, SV b (some b) v → post (nI (pre b.2.2.1 96).length) v) : wv_restore v post := by
  obtain ⟨hA, hC, ⟨hk, hB, hCb⟩, hist, hh, hH⟩ := hV
  unfold wv_restore wp_X8_restore
  refine ⟨fun c => absurd (hk.symm.trans c) (by decide), fun _ => ?_⟩
  refine s_record hH hA hC (fun old sz n0 f0 g0 t0 n1 f1 g1 t1 n2 f2 g2 t2 n3 f3 g3 t3 hH2 => ?_)
  refine s_copyState hCb hB.2.1.2.2.2 (fun n f g t hR => ?_)
  refine s_cards7 hR.2.1 hB.2.1 ?_
  exact h _ ⟨hB, hR, ⟨hk, hB, hCb⟩, _, _, hH2⟩
theorem q_undo0 {a : AS} {b : Option AS} {v : VT} {post : Int32 → VT → Prop} (hV : SV a b v) (hz : v.2.2.2.2.2.2.2.2.2.2.1 = 0) (h : ∀ v, SV a b v → post (-5) v) : wv_undo v post := by
  obtain ⟨hA, hC, hK, hist, hh, hH⟩ := hV
  have hz0 : hh = 0 := by
    obtain ⟨o, _, h4, _, e, _⟩ := hH
    rw [hz, l0, z_eq (by omega) (by omega)] at e; exact e.symm
  subst hz0
  unfold wv_undo wp_X8_undo
  refine s_takeBack hH (fun _ => ?_) (fun c => absurd c (Nat.lt_irrefl _))
  exact ⟨fun _ => h _ ⟨hA, hC, hK, hist, 0, RHc_less hH (Nat.le_refl _)⟩, fun c => absurd rfl c⟩
