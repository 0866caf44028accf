/-! contracts (by program): X9_count X9_spanBits -/
theorem mc_X9_count_9 : ∀ w ∈ u_ws RX9 TX9 18, w ∈ wsX9_count := fun w h => List.mem_cons_of_mem _ (List.mem_append_right _ h)
theorem ml_X9_count_1 : (.fieldLink RX9 7 "StoryWallModel" "s" "[I" : Cond) ∈ wsX9_count := List.mem_of_getElem? (i := 1) rfl
theorem ml_X9_count_2 : (.fieldLink RX9 44 "StoryWallModel" "states" "I" : Cond) ∈ wsX9_count := List.mem_of_getElem? (i := 2) rfl
theorem ml_X9_count_3 : (.fieldLink RX9 87 "StoryWallModel" "length" "I" : Cond) ∈ wsX9_count := List.mem_of_getElem? (i := 3) rfl
abbrev rm_X9_count : Room := { frames := 6, cells := 0, slots := 0, locals := 138 }
set_option maxHeartbeats 4000000 in
set_option maxRecDepth 100000 in
theorem c_X9_count (l : Launch) (D : va_G) (cI cC cF cO : ClassId) (a_this a_s a_order a_rank a_straight a_before a_kept a_aside a_sorted a_longest a_read a_text : Nat) (v_isKept : Int32) (v_at : Int32) (v_cards : Int32) (sz : Nat) (x1 : Int32) (v_onWall : Int32) (v_straightMany : Int32) (v_length : Int32) (v_states : Int32) (v_s : Nat → Int32) (v_order : Nat → Int32) (v_rank : Nat → Int32) (v_straight : Nat → Int32) (post : Int32 → Int32 → Int32 → (Nat → Int32) → (Nat → Int32) → (Nat → Int32) → Prop) (hwp : wp_X9_count x1 v_onWall v_straightMany v_length v_states v_s v_order v_rank v_straight post) : Met l yX9_count wsX9_count rm_X9_count (gPre D (gT cI cC cF cO) [.ref a_this, .int x1] [(a_this, .inr (9, [.ref a_s, .ref a_before, .ref a_kept, .ref a_aside, .ref a_order, .ref a_rank, .int v_onWall, .ref a_straight, .ref a_sorted, .ref a_longest, .int v_straightMany, .ref a_read, .ref a_text, .int v_length, .int v_states, .int v_isKept, .int v_at, .int v_cards])), (a_s, .inl (cI, 316, .inl v_s)), (a_order, .inl (cI, 40, .inl v_order)), (a_rank, .inl (cI, 40, .inl v_rank)), (a_straight, .inl (cI, 40, .inl v_straight))] sz) (va_Qi (S := Int32 × Int32 × (Nat → Int32) × (Nat → Int32) × (Nat → Int32)) (fun (r : Int32) (u : Int32 × Int32 × (Nat → Int32) × (Nat → Int32) × (Nat → Int32)) => post r u.1 u.2.1 u.2.2.1 u.2.2.2.1 u.2.2.2.2) (gB D (gT cI cC cF cO) (fun (u : Int32 × Int32 × (Nat → Int32) × (Nat → Int32) × (Nat → Int32)) => [(a_this, .inr (9, [.ref a_s, .ref a_before, .ref a_kept, .ref a_aside, .ref a_order, .ref a_rank, .int u.1, .ref a_straight, .ref a_sorted, .ref a_longest, .int u.2.1, .ref a_read, .ref a_text, .int v_length, .int v_states, .int v_isKept, .int v_at, .int v_cards])), (a_s, .inl (cI, 316, .inl v_s)), (a_order, .inl (cI, 40, .inl u.2.2.1)), (a_rank, .inl (cI, 40, .inl u.2.2.2.1)), (a_straight, .inl (cI, 40, .inl u.2.2.2.2))]) [(a_this, .inr (9, [.ref a_s, .ref a_before, .ref a_kept, .ref a_aside, .ref a_order, .ref a_rank, .int v_onWall, .ref a_straight, .ref a_sorted, .ref a_longest, .int v_straightMany, .ref a_read, .ref a_text, .int v_length, .int v_states, .int v_isKept, .int v_at, .int v_cards])), (a_s, .inl (cI, 316, .inl v_s)), (a_order, .inl (cI, 40, .inl v_order)), (a_rank, .inl (cI, 40, .inl v_rank)), (a_straight, .inl (cI, 40, .inl v_straight))] sz) (va_A [(a_this, .inr (9, [.ref a_s, .ref a_before, .ref a_kept, .ref a_aside, .ref a_order, .ref a_rank, .int v_onWall, .ref a_straight, .ref a_sorted, .ref a_longest, .int v_straightMany, .ref a_read, .ref a_text, .int v_length, .int v_states, .int v_isKept, .int v_at, .int v_cards])), (a_s, .inl (cI, 316, .inl v_s)), (a_order, .inl (cI, 40, .inl v_order)), (a_rank, .inl (cI, 40, .inl v_rank)), (a_straight, .inl (cI, 40, .inl v_straight))] sz)) 0 0 (va_A [(a_this, .inr (9, [.ref a_s, .ref a_before, .ref a_kept, .ref a_aside, .ref a_order, .ref a_rank, .int v_onWall, .ref a_straight, .ref a_sorted, .ref a_longest, .int v_straightMany, .ref a_read, .ref a_text, .int v_length, .int v_states, .int v_isKept, .int v_at, .int v_cards])), (a_s, .inl (cI, 316, .inl v_s)), (a_order, .inl (cI, 40, .inl v_order)), (a_rank, .inl (cI, 40, .inl v_rank)), (a_straight, .inl (cI, 40, .inl v_straight))] sz) := by
  refine gOfi (own := RX9) (cc := cX9_count) (maxL := 2) (ret := (some .int)) rfl (by decide) rfl (Nat.le_of_ble_eq_true rfl) rfl ?_
  intro p e s m below meth c A args Q hAe hx hb hr hts hown hml hlocks hname hA hK hX hT hP hD hS hret ls hl
  have hl : lv_has ls 2 [(0, .ref a_this), (1, .int x1)] := hl
  unfold wp_X9_count at hwp
  refine lv_iload_n hx hb dX9_count_0 rfl (lv_at hl 1 rfl) ?_
  by_cases hc0 : x1 = (0 : Int32)
  · have hwp := hwp.1 hc0
    refine lv_tableIn (off := 75) (tgt := 76) hx hb dX9_count_1 (by rw [hc0]; decide) (by rw [hc0]; decide) (by rw [hc0]; decide) (by decide) ?_
    refine lv_aload_n hx hb dX9_count_76 rfl (lv_at hl 0 rfl) ?_
    refine va_get (D := D) (ci := 9) (v := .ref a_s) (C := RX9) (T := TX9) (N := 18) hx hb hts mc_X9_count_9 hown hK hP 0 rfl rfl 0 (by decide) (hts _ ml_X9_count_1) (fun _ h9 => h9) rfl dX9_count_77 ?_
    refine lv_iconst (v := 0) hx hb dX9_count_80 (by decide) ?_
    refine va_iald (D := D) hx hb hK hP 1 0 rfl rfl (gIn rfl) dX9_count_81 ?_
    exact hret (v_onWall, v_straightMany, v_order, v_rank, v_straight) [0, 1, 2, 3, 4] dX9_count_82 hwp rfl rfl hP hD hS
  have hwp := hwp.2
  by_cases hc1 : x1 = (1 : Int32)
  · have hwp := hwp.1 hc1
    refine lv_tableIn (off := 82) (tgt := 83) hx hb dX9_count_1 (by rw [hc1]; decide) (by rw [hc1]; decide) (by rw [hc1]; decide) (by decide) ?_
    refine lv_aload_n hx hb dX9_count_83 rfl (lv_at hl 0 rfl) ?_
    refine gBacki (D := D) (tys := gT cI cC cF cO) (A := A) (wr := [(a_straight, .inl (cI, 40, .inl v_straight))]) (w1 := (fun u_5 : Int32 × (Nat → Int32) × (Nat → Int32) => [(a_this, .inr (9, [.ref a_s, .ref a_before, .ref a_kept, .ref a_aside, .ref a_order, .ref a_rank, .int u_5.1, .ref a_straight, .ref a_sorted, .ref a_longest, .int v_straightMany, .ref a_read, .ref a_text, .int v_length, .int v_states, .int v_isKept, .int v_at, .int v_cards])), (a_s, .inl (cI, 316, .inl v_s)), (a_order, .inl (cI, 40, .inl u_5.2.1)), (a_rank, .inl (cI, 40, .inl u_5.2.2))])) (va_runV (As := []) (rest := []) ⟨hx, hb, hml, hown, hts⟩ (c_X9_wallMany l D cI cC cF cO a_this a_s a_order a_rank a_before a_kept a_aside a_straight a_sorted a_longest a_read a_text v_straightMany v_length v_states v_isKept v_at v_cards _ _ _ _ _ _ hwp) (cwV 0 hts gX9_count_X9_wallMany rfl rfl rfl (by decide +kernel) ⟨Nat.le_of_ble_eq_true rfl, Nat.le_of_ble_eq_true rfl⟩) (gPreV (C := RX9) (T := TX9) (N := 18) (ci := 9) hK hX hT hP hD hS hA [0, 1, 2, 3] rfl rfl rfl (qb := 0) rfl) rfl rfl hl.1 rfl (lv_room (Nat.le_of_ble_eq_true rfl)) dX9_count_84 ⟨Nat.le_of_ble_eq_true rfl, Nat.le_of_ble_eq_true rfl⟩) hP hD hS hA [0, 1, 2, 3] [4] rfl rfl rfl (by decide) (fun r_1 u_5 H locs hwp hP hD hS => ?_)
    obtain ⟨v_onWall_2, v_order_3, v_rank_4⟩ := u_5
    have hP : va_P D vwCl [(a_straight, .inl (cI, 40, .inl v_straight)), (a_this, .inr (9, [.ref a_s, .ref a_before, .ref a_kept, .ref a_aside, .ref a_order, .ref a_rank, .int v_onWall_2, .ref a_straight, .ref a_sorted, .ref a_longest, .int v_straightMany, .ref a_read, .ref a_text, .int v_length, .int v_states, .int v_isKept, .int v_at, .int v_cards])), (a_s, .inl (cI, 316, .inl v_s)), (a_order, .inl (cI, 40, .inl v_order_3)), (a_rank, .inl (cI, 40, .inl v_rank_4))] H := hP
    have hD : va_D A [(a_straight, .inl (cI, 40, .inl v_straight)), (a_this, .inr (9, [.ref a_s, .ref a_before, .ref a_kept, .ref a_aside, .ref a_order, .ref a_rank, .int v_onWall_2, .ref a_straight, .ref a_sorted, .ref a_longest, .int v_straightMany, .ref a_read, .ref a_text, .int v_length, .int v_states, .int v_isKept, .int v_at, .int v_cards])), (a_s, .inl (cI, 316, .inl v_s)), (a_order, .inl (cI, 40, .inl v_order_3)), (a_rank, .inl (cI, 40, .inl v_rank_4))] := hD
    exact hret (v_onWall_2, v_straightMany, v_order_3, v_rank_4, v_straight) [1, 2, 3, 4, 0] dX9_count_87 hwp rfl rfl hP hD hS
  have hwp := hwp.2
  by_cases hc2 : x1 = (2 : Int32)
  · have hwp := hwp.1 hc2
    refine lv_tableIn (off := 87) (tgt := 88) hx hb dX9_count_1 (by rw [hc2]; decide) (by rw [hc2]; decide) (by rw [hc2]; decide) (by decide) ?_
    refine lv_aload_n hx hb dX9_count_88 rfl (lv_at hl 0 rfl) ?_
    refine gBacki (D := D) (tys := gT cI cC cF cO) (A := A) (wr := [(a_order, .inl (cI, 40, .inl v_order)), (a_rank, .inl (cI, 40, .inl v_rank)), (a_straight, .inl (cI, 40, .inl v_straight))]) (w1 := (fun u_7 : Unit => [(a_this, .inr (9, [.ref a_s, .ref a_before, .ref a_kept, .ref a_aside, .ref a_order, .ref a_rank, .int v_onWall, .ref a_straight, .ref a_sorted, .ref a_longest, .int v_straightMany, .ref a_read, .ref a_text, .int v_length, .int v_states, .int v_isKept, .int v_at, .int v_cards])), (a_s, .inl (cI, 316, .inl v_s))])) (va_runV (As := []) (rest := []) ⟨hx, hb, hml, hown, hts⟩ (c_X9_scenes l D cI cC cF cO a_this a_s a_before a_kept a_aside a_order a_rank a_straight a_sorted a_longest a_read a_text v_onWall v_straightMany v_length v_states v_isKept v_at v_cards _ _ _ hwp) (cwV 0 hts gX9_count_X9_scenes rfl rfl rfl (by decide +kernel) ⟨Nat.le_of_ble_eq_true rfl, Nat.le_of_ble_eq_true rfl⟩) (gPreV (C := RX9) (T := TX9) (N := 18) (ci := 9) hK hX hT hP hD hS hA [0, 1] rfl rfl rfl (qb := 0) rfl) rfl rfl hl.1 rfl (lv_room (Nat.le_of_ble_eq_true rfl)) dX9_count_89 ⟨Nat.le_of_ble_eq_true rfl, Nat.le_of_ble_eq_true rfl⟩) hP hD hS hA [0, 1] [2, 3, 4] rfl rfl rfl (by decide) (fun r_6 u_7 H locs hwp hP hD hS => ?_)
    have hP : va_P D vwCl [(a_order, .inl (cI, 40, .inl v_order)), (a_rank, .inl (cI, 40, .inl v_rank)), (a_straight, .inl (cI, 40, .inl v_straight)), (a_this, .inr (9, [.ref a_s, .ref a_before, .ref a_kept, .ref a_aside, .ref a_order, .ref a_rank, .int v_onWall, .ref a_straight, .ref a_sorted, .ref a_longest, .int v_straightMany, .ref a_read, .ref a_text, .int v_length, .int v_states, .int v_isKept, .int v_at, .int v_cards])), (a_s, .inl (cI, 316, .inl v_s))] H := hP
    have hD : va_D A [(a_order, .inl (cI, 40, .inl v_order)), (a_rank, .inl (cI, 40, .inl v_rank)), (a_straight, .inl (cI, 40, .inl v_straight)), (a_this, .inr (9, [.ref a_s, .ref a_before, .ref a_kept, .ref a_aside, .ref a_order, .ref a_rank, .int v_onWall, .ref a_straight, .ref a_sorted, .ref a_longest, .int v_straightMany, .ref a_read, .ref a_text, .int v_length, .int v_states, .int v_isKept, .int v_at, .int v_cards])), (a_s, .inl (cI, 316, .inl v_s))] := hD
    exact hret (v_onWall, v_straightMany, v_order, v_rank, v_straight) [3, 4, 0, 1, 2] dX9_count_92 hwp rfl rfl hP hD hS
  have hwp := hwp.2
  by_cases hc3 : x1 = (3 : Int32)
  · have hwp := hwp.1 hc3
    refine lv_tableIn (off := 92) (tgt := 93) hx hb dX9_count_1 (by rw [hc3]; decide) (by rw [hc3]; decide) (by rw [hc3]; decide) (by decide) ?_
    refine lv_aload_n hx hb dX9_count_93 rfl (lv_at hl 0 rfl) ?_
    refine gBacki (D := D) (tys := gT cI cC cF cO) (A := A) (wr := []) (w1 := (fun u_14 : Int32 × Int32 × (Nat → Int32) × (Nat → Int32) × (Nat → Int32) => [(a_this, .inr (9, [.ref a_s, .ref a_before, .ref a_kept, .ref a_aside, .ref a_order, .ref a_rank, .int u_14.1, .ref a_straight, .ref a_sorted, .ref a_longest, .int u_14.2.1, .ref a_read, .ref a_text, .int v_length, .int v_states, .int v_isKept, .int v_at, .int v_cards])), (a_s, .inl (cI, 316, .inl v_s)), (a_order, .inl (cI, 40, .inl u_14.2.2.1)), (a_rank, .inl (cI, 40, .inl u_14.2.2.2.1)), (a_straight, .inl (cI, 40, .inl u_14.2.2.2.2))])) (va_runV (As := []) (rest := []) ⟨hx, hb, hml, hown, hts⟩ (c_X9_allBreaks l D cI cC cF cO a_this a_s a_order a_rank a_straight a_before a_kept a_aside a_sorted a_longest a_read a_text v_length v_states v_isKept v_at v_cards _ _ _ _ _ _ _ _ hwp) (cwV 0 hts gX9_count_X9_allBreaks rfl rfl rfl (by decide +kernel) ⟨Nat.le_of_ble_eq_true rfl, Nat.le_of_ble_eq_true rfl⟩) (gPreV (C := RX9) (T := TX9) (N := 18) (ci := 9) hK hX hT hP hD hS hA [0, 1, 2, 3, 4] rfl rfl rfl (qb := 0) rfl) rfl rfl hl.1 rfl (lv_room (Nat.le_of_ble_eq_true rfl)) dX9_count_94 ⟨Nat.le_of_ble_eq_true rfl, Nat.le_of_ble_eq_true rfl⟩) hP hD hS hA [0, 1, 2, 3, 4] [] rfl rfl rfl (by decide) (fun r_8 u_14 H locs hwp hP hD hS => ?_)
    obtain ⟨v_onWall_9, v_straightMany_10, v_order_11, v_rank_12, v_straight_13⟩ := u_14
    have hP : va_P D vwCl [(a_this, .inr (9, [.ref a_s, .ref a_before, .ref a_kept, .ref a_aside, .ref a_order, .ref a_rank, .int v_onWall_9, .ref a_straight, .ref a_sorted, .ref a_longest, .int v_straightMany_10, .ref a_read, .ref a_text, .int v_length, .int v_states, .int v_isKept, .int v_at, .int v_cards])), (a_s, .inl (cI, 316, .inl v_s)), (a_order, .inl (cI, 40, .inl v_order_11)), (a_rank, .inl (cI, 40, .inl v_rank_12)), (a_straight, .inl (cI, 40, .inl v_straight_13))] H := hP
    have hD : va_D A [(a_this, .inr (9, [.ref a_s, .ref a_before, .ref a_kept, .ref a_aside, .ref a_order, .ref a_rank, .int v_onWall_9, .ref a_straight, .ref a_sorted, .ref a_longest, .int v_straightMany_10, .ref a_read, .ref a_text, .int v_length, .int v_states, .int v_isKept, .int v_at, .int v_cards])), (a_s, .inl (cI, 316, .inl v_s)), (a_order, .inl (cI, 40, .inl v_order_11)), (a_rank, .inl (cI, 40, .inl v_rank_12)), (a_straight, .inl (cI, 40, .inl v_straight_13))] := hD
    exact hret (v_onWall_9, v_straightMany_10, v_order_11, v_rank_12, v_straight_13) [0, 1, 2, 3, 4] dX9_count_97 hwp rfl rfl hP hD hS
  have hwp := hwp.2
  by_cases hc4 : x1 = (4 : Int32)
  · have hwp := hwp.1 hc4
    refine lv_tableIn (off := 97) (tgt := 98) hx hb dX9_count_1 (by rw [hc4]; decide) (by rw [hc4]; decide) (by rw [hc4]; decide) (by decide) ?_
    refine lv_aload_n hx hb dX9_count_98 rfl (lv_at hl 0 rfl) ?_
    refine lv_iconst (v := 0) hx hb dX9_count_99 (by decide) ?_
    refine gBacki (D := D) (tys := gT cI cC cF cO) (A := A) (wr := []) (w1 := (fun u_21 : Int32 × Int32 × (Nat → Int32) × (Nat → Int32) × (Nat → Int32) => [(a_this, .inr (9, [.ref a_s, .ref a_before, .ref a_kept, .ref a_aside, .ref a_order, .ref a_rank, .int u_21.1, .ref a_straight, .ref a_sorted, .ref a_longest, .int u_21.2.1, .ref a_read, .ref a_text, .int v_length, .int v_states, .int v_isKept, .int v_at, .int v_cards])), (a_s, .inl (cI, 316, .inl v_s)), (a_order, .inl (cI, 40, .inl u_21.2.2.1)), (a_rank, .inl (cI, 40, .inl u_21.2.2.2.1)), (a_straight, .inl (cI, 40, .inl u_21.2.2.2.2))])) (va_runV (As := [.int (0 : Int32)]) (rest := []) ⟨hx, hb, hml, hown, hts⟩ (c_X9_holes l D cI cC cF cO a_this a_s a_order a_rank a_straight a_before a_kept a_aside a_sorted a_longest a_read a_text v_length v_states v_isKept v_at v_cards _ _ _ _ _ _ _ _ _ hwp) (cwV 1 hts gX9_count_X9_holes rfl rfl rfl (by decide +kernel) ⟨Nat.le_of_ble_eq_true rfl, Nat.le_of_ble_eq_true rfl⟩) (gPreV (C := RX9) (T := TX9) (N := 18) (ci := 9) hK hX hT hP hD hS hA [0, 1, 2, 3, 4] rfl rfl rfl (qb := 0) rfl) rfl rfl hl.1 rfl (lv_room (Nat.le_of_ble_eq_true rfl)) dX9_count_100 ⟨Nat.le_of_ble_eq_true rfl, Nat.le_of_ble_eq_true rfl⟩) hP hD hS hA [0, 1, 2, 3, 4] [] rfl rfl rfl (by decide) (fun r_15 u_21 H locs hwp hP hD hS => ?_)
    obtain ⟨v_onWall_16, v_straightMany_17, v_order_18, v_rank_19, v_straight_20⟩ := u_21
    have hP : va_P D vwCl [(a_this, .inr (9, [.ref a_s, .ref a_before, .ref a_kept, .ref a_aside, .ref a_order, .ref a_rank, .int v_onWall_16, .ref a_straight, .ref a_sorted, .ref a_longest, .int v_straightMany_17, .ref a_read, .ref a_text, .int v_length, .int v_states, .int v_isKept, .int v_at, .int v_cards])), (a_s, .inl (cI, 316, .inl v_s)), (a_order, .inl (cI, 40, .inl v_order_18)), (a_rank, .inl (cI, 40, .inl v_rank_19)), (a_straight, .inl (cI, 40, .inl v_straight_20))] H := hP
    have hD : va_D A [(a_this, .inr (9, [.ref a_s, .ref a_before, .ref a_kept, .ref a_aside, .ref a_order, .ref a_rank, .int v_onWall_16, .ref a_straight, .ref a_sorted, .ref a_longest, .int v_straightMany_17, .ref a_read, .ref a_text, .int v_length, .int v_states, .int v_isKept, .int v_at, .int v_cards])), (a_s, .inl (cI, 316, .inl v_s)), (a_order, .inl (cI, 40, .inl v_order_18)), (a_rank, .inl (cI, 40, .inl v_rank_19)), (a_straight, .inl (cI, 40, .inl v_straight_20))] := hD
    exact hret (v_onWall_16, v_straightMany_17, v_order_18, v_rank_19, v_straight_20) [0, 1, 2, 3, 4] dX9_count_103 hwp rfl rfl hP hD hS
  have hwp := hwp.2
  by_cases hc5 : x1 = (5 : Int32)
  · have hwp := hwp.1 hc5
    refine lv_tableIn (off := 103) (tgt := 104) hx hb dX9_count_1 (by rw [hc5]; decide) (by rw [hc5]; decide) (by rw [hc5]; decide) (by decide) ?_
    refine lv_aload_n hx hb dX9_count_104 rfl (lv_at hl 0 rfl) ?_
    refine lv_iconst (v := 1) hx hb dX9_count_105 (by decide) ?_
    refine gBacki (D := D) (tys := gT cI cC cF cO) (A := A) (wr := []) (w1 := (fun u_28 : Int32 × Int32 × (Nat → Int32) × (Nat → Int32) × (Nat → Int32) => [(a_this, .inr (9, [.ref a_s, .ref a_before, .ref a_kept, .ref a_aside, .ref a_order, .ref a_rank, .int u_28.1, .ref a_straight, .ref a_sorted, .ref a_longest, .int u_28.2.1, .ref a_read, .ref a_text, .int v_length, .int v_states, .int v_isKept, .int v_at, .int v_cards])), (a_s, .inl (cI, 316, .inl v_s)), (a_order, .inl (cI, 40, .inl u_28.2.2.1)), (a_rank, .inl (cI, 40, .inl u_28.2.2.2.1)), (a_straight, .inl (cI, 40, .inl u_28.2.2.2.2))])) (va_runV (As := [.int (1 : Int32)]) (rest := []) ⟨hx, hb, hml, hown, hts⟩ (c_X9_holes l D cI cC cF cO a_this a_s a_order a_rank a_straight a_before a_kept a_aside a_sorted a_longest a_read a_text v_length v_states v_isKept v_at v_cards _ _ _ _ _ _ _ _ _ hwp) (cwV 1 hts gX9_count_X9_holes rfl rfl rfl (by decide +kernel) ⟨Nat.le_of_ble_eq_true rfl, Nat.le_of_ble_eq_true rfl⟩) (gPreV (C := RX9) (T := TX9) (N := 18) (ci := 9) hK hX hT hP hD hS hA [0, 1, 2, 3, 4] rfl rfl rfl (qb := 0) rfl) rfl rfl hl.1 rfl (lv_room (Nat.le_of_ble_eq_true rfl)) dX9_count_106 ⟨Nat.le_of_ble_eq_true rfl, Nat.le_of_ble_eq_true rfl⟩) hP hD hS hA [0, 1, 2, 3, 4] [] rfl rfl rfl (by decide) (fun r_22 u_28 H locs hwp hP hD hS => ?_)
    obtain ⟨v_onWall_23, v_straightMany_24, v_order_25, v_rank_26, v_straight_27⟩ := u_28
    have hP : va_P D vwCl [(a_this, .inr (9, [.ref a_s, .ref a_before, .ref a_kept, .ref a_aside, .ref a_order, .ref a_rank, .int v_onWall_23, .ref a_straight, .ref a_sorted, .ref a_longest, .int v_straightMany_24, .ref a_read, .ref a_text, .int v_length, .int v_states, .int v_isKept, .int v_at, .int v_cards])), (a_s, .inl (cI, 316, .inl v_s)), (a_order, .inl (cI, 40, .inl v_order_25)), (a_rank, .inl (cI, 40, .inl v_rank_26)), (a_straight, .inl (cI, 40, .inl v_straight_27))] H := hP
    have hD : va_D A [(a_this, .inr (9, [.ref a_s, .ref a_before, .ref a_kept, .ref a_aside, .ref a_order, .ref a_rank, .int v_onWall_23, .ref a_straight, .ref a_sorted, .ref a_longest, .int v_straightMany_24, .ref a_read, .ref a_text, .int v_length, .int v_states, .int v_isKept, .int v_at, .int v_cards])), (a_s, .inl (cI, 316, .inl v_s)), (a_order, .inl (cI, 40, .inl v_order_25)), (a_rank, .inl (cI, 40, .inl v_rank_26)), (a_straight, .inl (cI, 40, .inl v_straight_27))] := hD
    exact hret (v_onWall_23, v_straightMany_24, v_order_25, v_rank_26, v_straight_27) [0, 1, 2, 3, 4] dX9_count_109 hwp rfl rfl hP hD hS
  have hwp := hwp.2
  by_cases hc6 : x1 = (6 : Int32)
  · have hwp := hwp.1 hc6
    refine lv_tableIn (off := 109) (tgt := 110) hx hb dX9_count_1 (by rw [hc6]; decide) (by rw [hc6]; decide) (by rw [hc6]; decide) (by decide) ?_
    refine lv_aload_n hx hb dX9_count_110 rfl (lv_at hl 0 rfl) ?_
    refine lv_iconst (v := 0) hx hb dX9_count_111 (by decide) ?_
    refine gBacki (D := D) (tys := gT cI cC cF cO) (A := A) (wr := [(a_order, .inl (cI, 40, .inl v_order)), (a_rank, .inl (cI, 40, .inl v_rank)), (a_straight, .inl (cI, 40, .inl v_straight))]) (w1 := (fun u_30 : Unit => [(a_this, .inr (9, [.ref a_s, .ref a_before, .ref a_kept, .ref a_aside, .ref a_order, .ref a_rank, .int v_onWall, .ref a_straight, .ref a_sorted, .ref a_longest, .int v_straightMany, .ref a_read, .ref a_text, .int v_length, .int v_states, .int v_isKept, .int v_at, .int v_cards])), (a_s, .inl (cI, 316, .inl v_s))])) (va_runV (As := [.int (0 : Int32)]) (rest := []) ⟨hx, hb, hml, hown, hts⟩ (c_X9_ofScenes l D cI cC cF cO a_this a_s a_before a_kept a_aside a_order a_rank a_straight a_sorted a_longest a_read a_text v_onWall v_straightMany v_length v_states v_isKept v_at v_cards _ _ _ _ hwp) (cwV 1 hts gX9_count_X9_ofScenes rfl rfl rfl (by decide +kernel) ⟨Nat.le_of_ble_eq_true rfl, Nat.le_of_ble_eq_true rfl⟩) (gPreV (C := RX9) (T := TX9) (N := 18) (ci := 9) hK hX hT hP hD hS hA [0, 1] rfl rfl rfl (qb := 0) rfl) rfl rfl hl.1 rfl (lv_room (Nat.le_of_ble_eq_true rfl)) dX9_count_112 ⟨Nat.le_of_ble_eq_true rfl, Nat.le_of_ble_eq_true rfl⟩) hP hD hS hA [0, 1] [2, 3, 4] rfl rfl rfl (by decide) (fun r_29 u_30 H locs hwp hP hD hS => ?_)
    have hP : va_P D vwCl [(a_order, .inl (cI, 40, .inl v_order)), (a_rank, .inl (cI, 40, .inl v_rank)), (a_straight, .inl (cI, 40, .inl v_straight)), (a_this, .inr (9, [.ref a_s, .ref a_before, .ref a_kept, .ref a_aside, .ref a_order, .ref a_rank, .int v_onWall, .ref a_straight, .ref a_sorted, .ref a_longest, .int v_straightMany, .ref a_read, .ref a_text, .int v_length, .int v_states, .int v_isKept, .int v_at, .int v_cards])), (a_s, .inl (cI, 316, .inl v_s))] H := hP
    have hD : va_D A [(a_order, .inl (cI, 40, .inl v_order)), (a_rank, .inl (cI, 40, .inl v_rank)), (a_straight, .inl (cI, 40, .inl v_straight)), (a_this, .inr (9, [.ref a_s, .ref a_before, .ref a_kept, .ref a_aside, .ref a_order, .ref a_rank, .int v_onWall, .ref a_straight, .ref a_sorted, .ref a_longest, .int v_straightMany, .ref a_read, .ref a_text, .int v_length, .int v_states, .int v_isKept, .int v_at, .int v_cards])), (a_s, .inl (cI, 316, .inl v_s))] := hD
    exact hret (v_onWall, v_straightMany, v_order, v_rank, v_straight) [3, 4, 0, 1, 2] dX9_count_115 hwp rfl rfl hP hD hS
  have hwp := hwp.2
  by_cases hc7 : x1 = (7 : Int32)
  · have hwp := hwp.1 hc7
    refine lv_tableIn (off := 115) (tgt := 116) hx hb dX9_count_1 (by rw [hc7]; decide) (by rw [hc7]; decide) (by rw [hc7]; decide) (by decide) ?_
    refine lv_aload_n hx hb dX9_count_116 rfl (lv_at hl 0 rfl) ?_
    refine lv_iconst (v := 1) hx hb dX9_count_117 (by decide) ?_
    refine gBacki (D := D) (tys := gT cI cC cF cO) (A := A) (wr := [(a_order, .inl (cI, 40, .inl v_order)), (a_rank, .inl (cI, 40, .inl v_rank)), (a_straight, .inl (cI, 40, .inl v_straight))]) (w1 := (fun u_32 : Unit => [(a_this, .inr (9, [.ref a_s, .ref a_before, .ref a_kept, .ref a_aside, .ref a_order, .ref a_rank, .int v_onWall, .ref a_straight, .ref a_sorted, .ref a_longest, .int v_straightMany, .ref a_read, .ref a_text, .int v_length, .int v_states, .int v_isKept, .int v_at, .int v_cards])), (a_s, .inl (cI, 316, .inl v_s))])) (va_runV (As := [.int (1 : Int32)]) (rest := []) ⟨hx, hb, hml, hown, hts⟩ (c_X9_ofScenes l D cI cC cF cO a_this a_s a_before a_kept a_aside a_order a_rank a_straight a_sorted a_longest a_read a_text v_onWall v_straightMany v_length v_states v_isKept v_at v_cards _ _ _ _ hwp) (cwV 1 hts gX9_count_X9_ofScenes rfl rfl rfl (by decide +kernel) ⟨Nat.le_of_ble_eq_true rfl, Nat.le_of_ble_eq_true rfl⟩) (gPreV (C := RX9) (T := TX9) (N := 18) (ci := 9) hK hX hT hP hD hS hA [0, 1] rfl rfl rfl (qb := 0) rfl) rfl rfl hl.1 rfl (lv_room (Nat.le_of_ble_eq_true rfl)) dX9_count_118 ⟨Nat.le_of_ble_eq_true rfl, Nat.le_of_ble_eq_true rfl⟩) hP hD hS hA [0, 1] [2, 3, 4] rfl rfl rfl (by decide) (fun r_31 u_32 H locs hwp hP hD hS => ?_)
    have hP : va_P D vwCl [(a_order, .inl (cI, 40, .inl v_order)), (a_rank, .inl (cI, 40, .inl v_rank)), (a_straight, .inl (cI, 40, .inl v_straight)), (a_this, .inr (9, [.ref a_s, .ref a_before, .ref a_kept, .ref a_aside, .ref a_order, .ref a_rank, .int v_onWall, .ref a_straight, .ref a_sorted, .ref a_longest, .int v_straightMany, .ref a_read, .ref a_text, .int v_length, .int v_states, .int v_isKept, .int v_at, .int v_cards])), (a_s, .inl (cI, 316, .inl v_s))] H := hP
    have hD : va_D A [(a_order, .inl (cI, 40, .inl v_order)), (a_rank, .inl (cI, 40, .inl v_rank)), (a_straight, .inl (cI, 40, .inl v_straight)), (a_this, .inr (9, [.ref a_s, .ref a_before, .ref a_kept, .ref a_aside, .ref a_order, .ref a_rank, .int v_onWall, .ref a_straight, .ref a_sorted, .ref a_longest, .int v_straightMany, .ref a_read, .ref a_text, .int v_length, .int v_states, .int v_isKept, .int v_at, .int v_cards])), (a_s, .inl (cI, 316, .inl v_s))] := hD
    exact hret (v_onWall, v_straightMany, v_order, v_rank, v_straight) [3, 4, 0, 1, 2] dX9_count_121 hwp rfl rfl hP hD hS
  have hwp := hwp.2
  by_cases hc8 : x1 = (8 : Int32)
  · have hwp := hwp.1 hc8
    refine lv_tableIn (off := 121) (tgt := 122) hx hb dX9_count_1 (by rw [hc8]; decide) (by rw [hc8]; decide) (by rw [hc8]; decide) (by decide) ?_
    refine lv_aload_n hx hb dX9_count_122 rfl (lv_at hl 0 rfl) ?_
    refine lv_iconst (v := 2) hx hb dX9_count_123 (by decide) ?_
    refine gBacki (D := D) (tys := gT cI cC cF cO) (A := A) (wr := [(a_order, .inl (cI, 40, .inl v_order)), (a_rank, .inl (cI, 40, .inl v_rank)), (a_straight, .inl (cI, 40, .inl v_straight))]) (w1 := (fun u_34 : Unit => [(a_this, .inr (9, [.ref a_s, .ref a_before, .ref a_kept, .ref a_aside, .ref a_order, .ref a_rank, .int v_onWall, .ref a_straight, .ref a_sorted, .ref a_longest, .int v_straightMany, .ref a_read, .ref a_text, .int v_length, .int v_states, .int v_isKept, .int v_at, .int v_cards])), (a_s, .inl (cI, 316, .inl v_s))])) (va_runV (As := [.int (2 : Int32)]) (rest := []) ⟨hx, hb, hml, hown, hts⟩ (c_X9_ofScenes l D cI cC cF cO a_this a_s a_before a_kept a_aside a_order a_rank a_straight a_sorted a_longest a_read a_text v_onWall v_straightMany v_length v_states v_isKept v_at v_cards _ _ _ _ hwp) (cwV 1 hts gX9_count_X9_ofScenes rfl rfl rfl (by decide +kernel) ⟨Nat.le_of_ble_eq_true rfl, Nat.le_of_ble_eq_true rfl⟩) (gPreV (C := RX9) (T := TX9) (N := 18) (ci := 9) hK hX hT hP hD hS hA [0, 1] rfl rfl rfl (qb := 0) rfl) rfl rfl hl.1 rfl (lv_room (Nat.le_of_ble_eq_true rfl)) dX9_count_124 ⟨Nat.le_of_ble_eq_true rfl, Nat.le_of_ble_eq_true rfl⟩) hP hD hS hA [0, 1] [2, 3, 4] rfl rfl rfl (by decide) (fun r_33 u_34 H locs hwp hP hD hS => ?_)
    have hP : va_P D vwCl [(a_order, .inl (cI, 40, .inl v_order)), (a_rank, .inl (cI, 40, .inl v_rank)), (a_straight, .inl (cI, 40, .inl v_straight)), (a_this, .inr (9, [.ref a_s, .ref a_before, .ref a_kept, .ref a_aside, .ref a_order, .ref a_rank, .int v_onWall, .ref a_straight, .ref a_sorted, .ref a_longest, .int v_straightMany, .ref a_read, .ref a_text, .int v_length, .int v_states, .int v_isKept, .int v_at, .int v_cards])), (a_s, .inl (cI, 316, .inl v_s))] H := hP
    have hD : va_D A [(a_order, .inl (cI, 40, .inl v_order)), (a_rank, .inl (cI, 40, .inl v_rank)), (a_straight, .inl (cI, 40, .inl v_straight)), (a_this, .inr (9, [.ref a_s, .ref a_before, .ref a_kept, .ref a_aside, .ref a_order, .ref a_rank, .int v_onWall, .ref a_straight, .ref a_sorted, .ref a_longest, .int v_straightMany, .ref a_read, .ref a_text, .int v_length, .int v_states, .int v_isKept, .int v_at, .int v_cards])), (a_s, .inl (cI, 316, .inl v_s))] := hD
    exact hret (v_onWall, v_straightMany, v_order, v_rank, v_straight) [3, 4, 0, 1, 2] dX9_count_127 hwp rfl rfl hP hD hS
  have hwp := hwp.2
  by_cases hc9 : x1 = (9 : Int32)
  · have hwp := hwp.1 hc9
    refine lv_tableIn (off := 127) (tgt := 128) hx hb dX9_count_1 (by rw [hc9]; decide) (by rw [hc9]; decide) (by rw [hc9]; decide) (by decide) ?_
    refine lv_aload_n hx hb dX9_count_128 rfl (lv_at hl 0 rfl) ?_
    refine gBacki (D := D) (tys := gT cI cC cF cO) (A := A) (wr := []) (w1 := (fun u_41 : Int32 × Int32 × (Nat → Int32) × (Nat → Int32) × (Nat → Int32) => [(a_this, .inr (9, [.ref a_s, .ref a_before, .ref a_kept, .ref a_aside, .ref a_order, .ref a_rank, .int u_41.1, .ref a_straight, .ref a_sorted, .ref a_longest, .int u_41.2.1, .ref a_read, .ref a_text, .int v_length, .int v_states, .int v_isKept, .int v_at, .int v_cards])), (a_s, .inl (cI, 316, .inl v_s)), (a_order, .inl (cI, 40, .inl u_41.2.2.1)), (a_rank, .inl (cI, 40, .inl u_41.2.2.2.1)), (a_straight, .inl (cI, 40, .inl u_41.2.2.2.2))])) (va_runV (As := []) (rest := []) ⟨hx, hb, hml, hown, hts⟩ (c_X9_standing l D cI cC cF cO a_this a_s a_order a_rank a_straight a_before a_kept a_aside a_sorted a_longest a_read a_text v_length v_states v_isKept v_at v_cards _ _ _ _ _ _ _ _ hwp) (cwV 0 hts gX9_count_X9_standing rfl rfl rfl (by decide +kernel) ⟨Nat.le_of_ble_eq_true rfl, Nat.le_of_ble_eq_true rfl⟩) (gPreV (C := RX9) (T := TX9) (N := 18) (ci := 9) hK hX hT hP hD hS hA [0, 1, 2, 3, 4] rfl rfl rfl (qb := 0) rfl) rfl rfl hl.1 rfl (lv_room (Nat.le_of_ble_eq_true rfl)) dX9_count_129 ⟨Nat.le_of_ble_eq_true rfl, Nat.le_of_ble_eq_true rfl⟩) hP hD hS hA [0, 1, 2, 3, 4] [] rfl rfl rfl (by decide) (fun r_35 u_41 H locs hwp hP hD hS => ?_)
    obtain ⟨v_onWall_36, v_straightMany_37, v_order_38, v_rank_39, v_straight_40⟩ := u_41
    have hP : va_P D vwCl [(a_this, .inr (9, [.ref a_s, .ref a_before, .ref a_kept, .ref a_aside, .ref a_order, .ref a_rank, .int v_onWall_36, .ref a_straight, .ref a_sorted, .ref a_longest, .int v_straightMany_37, .ref a_read, .ref a_text, .int v_length, .int v_states, .int v_isKept, .int v_at, .int v_cards])), (a_s, .inl (cI, 316, .inl v_s)), (a_order, .inl (cI, 40, .inl v_order_38)), (a_rank, .inl (cI, 40, .inl v_rank_39)), (a_straight, .inl (cI, 40, .inl v_straight_40))] H := hP
    have hD : va_D A [(a_this, .inr (9, [.ref a_s, .ref a_before, .ref a_kept, .ref a_aside, .ref a_order, .ref a_rank, .int v_onWall_36, .ref a_straight, .ref a_sorted, .ref a_longest, .int v_straightMany_37, .ref a_read, .ref a_text, .int v_length, .int v_states, .int v_isKept, .int v_at, .int v_cards])), (a_s, .inl (cI, 316, .inl v_s)), (a_order, .inl (cI, 40, .inl v_order_38)), (a_rank, .inl (cI, 40, .inl v_rank_39)), (a_straight, .inl (cI, 40, .inl v_straight_40))] := hD
    exact hret (v_onWall_36, v_straightMany_37, v_order_38, v_rank_39, v_straight_40) [0, 1, 2, 3, 4] dX9_count_132 hwp rfl rfl hP hD hS
  have hwp := hwp.2
  by_cases hc10 : x1 = (10 : Int32)
  · have hwp := hwp.1 hc10
    refine lv_tableIn (off := 132) (tgt := 133) hx hb dX9_count_1 (by rw [hc10]; decide) (by rw [hc10]; decide) (by rw [hc10]; decide) (by decide) ?_
    refine lv_aload_n hx hb dX9_count_133 rfl (lv_at hl 0 rfl) ?_
    refine va_get (D := D) (ci := 9) (v := .ref a_s) (C := RX9) (T := TX9) (N := 18) hx hb hts mc_X9_count_9 hown hK hP 0 rfl rfl 0 (by decide) (hts _ ml_X9_count_1) (fun _ h9 => h9) rfl dX9_count_134 ?_
    refine lv_iconst (v := 1) hx hb dX9_count_137 (by decide) ?_
    refine lv_iload_n hx hb dX9_count_138 rfl (lv_at hl 1 rfl) ?_
    refine lv_iadd hx hb dX9_count_139 ?_
    refine lv_bipush (v := 10) hx hb dX9_count_140 (by decide) ?_
    refine lv_isub hx hb dX9_count_142 ?_
    have hn_42 := hwp.1
    have hwp := hwp.2
    refine va_iald (D := D) hx hb hK hP 1 0 rfl rfl hn_42 dX9_count_143 ?_
    exact hret (v_onWall, v_straightMany, v_order, v_rank, v_straight) [0, 1, 2, 3, 4] dX9_count_144 hwp rfl rfl hP hD hS
  have hwp := hwp.2
  by_cases hc11 : x1 = (11 : Int32)
  · have hwp := hwp.1 hc11
    refine lv_tableIn (off := 132) (tgt := 133) hx hb dX9_count_1 (by rw [hc11]; decide) (by rw [hc11]; decide) (by rw [hc11]; decide) (by decide) ?_
    refine lv_aload_n hx hb dX9_count_133 rfl (lv_at hl 0 rfl) ?_
    refine va_get (D := D) (ci := 9) (v := .ref a_s) (C := RX9) (T := TX9) (N := 18) hx hb hts mc_X9_count_9 hown hK hP 0 rfl rfl 0 (by decide) (hts _ ml_X9_count_1) (fun _ h9 => h9) rfl dX9_count_134 ?_
    refine lv_iconst (v := 1) hx hb dX9_count_137 (by decide) ?_
    refine lv_iload_n hx hb dX9_count_138 rfl (lv_at hl 1 rfl) ?_
    refine lv_iadd hx hb dX9_count_139 ?_
    refine lv_bipush (v := 10) hx hb dX9_count_140 (by decide) ?_
    refine lv_isub hx hb dX9_count_142 ?_
    have hn_43 := hwp.1
    have hwp := hwp.2
    refine va_iald (D := D) hx hb hK hP 1 0 rfl rfl hn_43 dX9_count_143 ?_
    exact hret (v_onWall, v_straightMany, v_order, v_rank, v_straight) [0, 1, 2, 3, 4] dX9_count_144 hwp rfl rfl hP hD hS
  have hwp := hwp.2
  by_cases hc12 : x1 = (12 : Int32)
  · have hwp := hwp.1 hc12
    refine lv_tableIn (off := 132) (tgt := 133) hx hb dX9_count_1 (by rw [hc12]; decide) (by rw [hc12]; decide) (by rw [hc12]; decide) (by decide) ?_
    refine lv_aload_n hx hb dX9_count_133 rfl (lv_at hl 0 rfl) ?_
    refine va_get (D := D) (ci := 9) (v := .ref a_s) (C := RX9) (T := TX9) (N := 18) hx hb hts mc_X9_count_9 hown hK hP 0 rfl rfl 0 (by decide) (hts _ ml_X9_count_1) (fun _ h9 => h9) rfl dX9_count_134 ?_
    refine lv_iconst (v := 1) hx hb dX9_count_137 (by decide) ?_
    refine lv_iload_n hx hb dX9_count_138 rfl (lv_at hl 1 rfl) ?_
    refine lv_iadd hx hb dX9_count_139 ?_
    refine lv_bipush (v := 10) hx hb dX9_count_140 (by decide) ?_
    refine lv_isub hx hb dX9_count_142 ?_
    have hn_44 := hwp.1
    have hwp := hwp.2
    refine va_iald (D := D) hx hb hK hP 1 0 rfl rfl hn_44 dX9_count_143 ?_
    exact hret (v_onWall, v_straightMany, v_order, v_rank, v_straight) [0, 1, 2, 3, 4] dX9_count_144 hwp rfl rfl hP hD hS
  have hwp := hwp.2
  by_cases hc13 : x1 = (13 : Int32)
  · have hwp := hwp.1 hc13
    refine lv_tableIn (off := 144) (tgt := 145) hx hb dX9_count_1 (by rw [hc13]; decide) (by rw [hc13]; decide) (by rw [hc13]; decide) (by decide) ?_
    refine lv_aload_n hx hb dX9_count_145 rfl (lv_at hl 0 rfl) ?_
    refine va_get (D := D) (ci := 9) (v := .int v_states) (C := RX9) (T := TX9) (N := 18) hx hb hts mc_X9_count_9 hown hK hP 0 rfl rfl 14 (by decide) (hts _ ml_X9_count_2) (fun _ h9 => h9) rfl dX9_count_146 ?_
    exact hret (v_onWall, v_straightMany, v_order, v_rank, v_straight) [0, 1, 2, 3, 4] dX9_count_149 hwp rfl rfl hP hD hS
  have hwp := hwp.2
  by_cases hc14 : x1 = (14 : Int32)
  · have hwp := hwp.1 hc14
    refine lv_tableIn (off := 149) (tgt := 150) hx hb dX9_count_1 (by rw [hc14]; decide) (by rw [hc14]; decide) (by rw [hc14]; decide) (by decide) ?_
    refine lv_aload_n hx hb dX9_count_150 rfl (lv_at hl 0 rfl) ?_
    refine va_get (D := D) (ci := 9) (v := .int v_length) (C := RX9) (T := TX9) (N := 18) hx hb hts mc_X9_count_9 hown hK hP 0 rfl rfl 13 (by decide) (hts _ ml_X9_count_3) (fun _ h9 => h9) rfl dX9_count_151 ?_
    exact hret (v_onWall, v_straightMany, v_order, v_rank, v_straight) [0, 1, 2, 3, 4] dX9_count_154 hwp rfl rfl hP hD hS
  have hwp := hwp.2
  have hwp := hwp hc0 hc1 hc2 hc3 hc4 hc5 hc6 hc7 hc8 hc9 hc10 hc11 hc12 hc13 hc14
  refine lv_tableOut (tgt := 155) hx hb dX9_count_1 (gSwOut [(0 : Int32), (1 : Int32), (2 : Int32), (3 : Int32), (4 : Int32), (5 : Int32), (6 : Int32), (7 : Int32), (8 : Int32), (9 : Int32), (10 : Int32), (11 : Int32), (12 : Int32), (13 : Int32), (14 : Int32)] (by decide) (by decide) (List.forall_mem_cons.mpr ⟨hc0, List.forall_mem_cons.mpr ⟨hc1, List.forall_mem_cons.mpr ⟨hc2, List.forall_mem_cons.mpr ⟨hc3, List.forall_mem_cons.mpr ⟨hc4, List.forall_mem_cons.mpr ⟨hc5, List.forall_mem_cons.mpr ⟨hc6, List.forall_mem_cons.mpr ⟨hc7, List.forall_mem_cons.mpr ⟨hc8, List.forall_mem_cons.mpr ⟨hc9, List.forall_mem_cons.mpr ⟨hc10, List.forall_mem_cons.mpr ⟨hc11, List.forall_mem_cons.mpr ⟨hc12, List.forall_mem_cons.mpr ⟨hc13, List.forall_mem_cons.mpr ⟨hc14, fun _ h => absurd h List.not_mem_nil⟩⟩⟩⟩⟩⟩⟩⟩⟩⟩⟩⟩⟩⟩⟩)) (by decide) ?_
  refine lv_bipush (v := -2) hx hb dX9_count_155 (by decide) ?_
  exact hret (v_onWall, v_straightMany, v_order, v_rank, v_straight) [0, 1, 2, 3, 4] dX9_count_157 hwp rfl rfl hP hD hS
theorem ml_X9_spanBits_0 : (.constantFloat RX9 193 (3212836864) : Cond) ∈ wsX9_spanBits := List.mem_of_getElem? (i := 1) rfl
theorem ml_X9_spanBits_1 : (.constantFloat RX9 207 (1120534528) : Cond) ∈ wsX9_spanBits := List.mem_of_getElem? (i := 2) rfl
theorem mc_X9_spanBits_9 : ∀ w ∈ u_ws RX9 TX9 18, w ∈ wsX9_spanBits := fun w h => List.mem_cons_of_mem _ (List.mem_append_right _ h)
theorem ml_X9_spanBits_3 : (.fieldLink RX9 7 "StoryWallModel" "s" "[I" : Cond) ∈ wsX9_spanBits := List.mem_of_getElem? (i := 3) rfl
abbrev rm_X9_spanBits : Room := { frames := 3, cells := 0, slots := 0, locals := 69 }
set_option maxHeartbeats 4000000 in
set_option maxRecDepth 100000 in
theorem c_X9_spanBits (l : Launch) (D : va_G) (cI cC cF cO : ClassId) (a_this a_s a_before a_kept a_aside a_order a_rank a_straight a_sorted a_longest a_read a_text : Nat) (v_onWall : Int32) (v_straightMany : Int32) (v_length : Int32) (v_states : Int32) (v_isKept : Int32) (v_at : Int32) (v_cards : Int32) (sz : Nat)  (v_s : Nat → Int32) (post : Int32 → Prop) (hwp : wp_X9_spanBits v_s post) : Met l yX9_spanBits wsX9_spanBits rm_X9_spanBits (gPre D (gT cI cC cF cO) [.ref a_this] [(a_this, .inr (9, [.ref a_s, .ref a_before, .ref a_kept, .ref a_aside, .ref a_order, .ref a_rank, .int v_onWall, .ref a_straight, .ref a_sorted, .ref a_longest, .int v_straightMany, .ref a_read, .ref a_text, .int v_length, .int v_states, .int v_isKept, .int v_at, .int v_cards])), (a_s, .inl (cI, 316, .inl v_s))] sz) (va_Qi (S := Unit) (fun (r : Int32) (u : Unit) => post r ) (gB D (gT cI cC cF cO) (fun (u : Unit) => [(a_this, .inr (9, [.ref a_s, .ref a_before, .ref a_kept, .ref a_aside, .ref a_order, .ref a_rank, .int v_onWall, .ref a_straight, .ref a_sorted, .ref a_longest, .int v_straightMany, .ref a_read, .ref a_text, .int v_length, .int v_states, .int v_isKept, .int v_at, .int v_cards])), (a_s, .inl (cI, 316, .inl v_s))]) [(a_this, .inr (9, [.ref a_s, .ref a_before, .ref a_kept, .ref a_aside, .ref a_order, .ref a_rank, .int v_onWall, .ref a_straight, .ref a_sorted, .ref a_longest, .int v_straightMany, .ref a_read, .ref a_text, .int v_length, .int v_states, .int v_isKept, .int v_at, .int v_cards])), (a_s, .inl (cI, 316, .inl v_s))] sz) (va_A [(a_this, .inr (9, [.ref a_s, .ref a_before, .ref a_kept, .ref a_aside, .ref a_order, .ref a_rank, .int v_onWall, .ref a_straight, .ref a_sorted, .ref a_longest, .int v_straightMany, .ref a_read, .ref a_text, .int v_length, .int v_states, .int v_isKept, .int v_at, .int v_cards])), (a_s, .inl (cI, 316, .inl v_s))] sz)) 0 0 (va_A [(a_this, .inr (9, [.ref a_s, .ref a_before, .ref a_kept, .ref a_aside, .ref a_order, .ref a_rank, .int v_onWall, .ref a_straight, .ref a_sorted, .ref a_longest, .int v_straightMany, .ref a_read, .ref a_text, .int v_length, .int v_states, .int v_isKept, .int v_at, .int v_cards])), (a_s, .inl (cI, 316, .inl v_s))] sz) := by
  refine gOfi (own := RX9) (cc := cX9_spanBits) (maxL := 5) (ret := (some .int)) rfl (by decide) rfl (Nat.le_of_ble_eq_true rfl) rfl ?_
  intro p e s m below meth c A args Q hAe hx hb hr hts hown hml hlocks hname hA hK hX hT hP hD hS hret ls hl
  have hl : lv_has ls 5 [(0, .ref a_this)] := hl
  unfold wp_X9_spanBits at hwp
  refine lv_ldcf (v := 3212836864) hx hb hown (hts _ ml_X9_spanBits_0) dX9_spanBits_0 ?_
  refine lv_fstore_n (lv' := [(1, .float (3212836864 : UInt32)), (0, .ref a_this)]) hx hb dX9_spanBits_2 rfl hl (by decide) rfl (fun ls hl => ?_)
  refine lv_ldcf (v := 1120534528) hx hb hown (hts _ ml_X9_spanBits_1) dX9_spanBits_3 ?_
  refine lv_fstore_n (lv' := [(2, .float (1120534528 : UInt32)), (1, .float (3212836864 : UInt32)), (0, .ref a_this)]) hx hb dX9_spanBits_5 rfl hl (by decide) rfl (fun ls hl => ?_)
  refine lv_iconst (v := 0) hx hb dX9_spanBits_6 (by decide) ?_
  refine lv_istore_n (lv' := [(3, .int (0 : Int32)), (2, .float (1120534528 : UInt32)), (1, .float (3212836864 : UInt32)), (0, .ref a_this)]) hx hb dX9_spanBits_7 rfl hl (by decide) rfl (fun ls hl => ?_)
  have hl : lv_has ls 5 [(0, .ref a_this), (1, .float (3212836864 : UInt32)), (2, .float (1120534528 : UInt32)), (3, .int (0 : Int32))] := lv_sub hl [3, 2, 1, 0] rfl
  unfold wp_X9_spanBits_l8 at hwp
  obtain ⟨J8, μ8, hJ, hst8⟩ := hwp
  have hL8 : ∀ (n : Nat) (x1_8 : UInt32) (x2_8 : UInt32) (x3_8 : Int32), μ8 x1_8 x2_8 x3_8 < n → J8 x1_8 x2_8 x3_8 → ∀ (H : Heap) (locs : List Loc), va_P D vwCl [(a_this, .inr (9, [.ref a_s, .ref a_before, .ref a_kept, .ref a_aside, .ref a_order, .ref a_rank, .int v_onWall, .ref a_straight, .ref a_sorted, .ref a_longest, .int v_straightMany, .ref a_read, .ref a_text, .int v_length, .int v_states, .int v_isKept, .int v_at, .int v_cards])), (a_s, .inl (cI, 316, .inl v_s))] H → va_D A [(a_this, .inr (9, [.ref a_s, .ref a_before, .ref a_kept, .ref a_aside, .ref a_order, .ref a_rank, .int v_onWall, .ref a_straight, .ref a_sorted, .ref a_longest, .int v_straightMany, .ref a_read, .ref a_text, .int v_length, .int v_states, .int v_isKept, .int v_at, .int v_cards])), (a_s, .inl (cI, 316, .inl v_s))] → va_S A s.heap H locs → ∀ ls : Array Slot, lv_has ls 5 [(0, .ref a_this), (1, .float x1_8), (2, .float x2_8), (3, .int x3_8)] → W p l e rm_X9_spanBits s m args below meth c H locs 0 0 Q (F0 m 8 ls []) := by
    intro n
    induction n with
    | zero => intro x1_8 x2_8 x3_8 h; exact absurd h (Nat.not_lt_zero _)
    | succ n ih8 =>
      intro x1_8 x2_8 x3_8 hμ8 hJ H locs hP hD hS ls hl
      have hwp := hst8 x1_8 x2_8 x3_8 hJ
      have hj46 : ∀ (x2_46 : UInt32) (x3_46 : Int32) (x4_46 : UInt32) (k0_46 : UInt32) (H : Heap) (locs : List Loc), wp_X9_spanBits_j46 x2_46 x3_46 x4_46 k0_46 v_s (fun u0 u1 u2 => J8 u0 u1 u2 ∧ μ8 u0 u1 u2 < μ8 x1_8 x2_8 x3_8) post → va_P D vwCl [(a_this, .inr (9, [.ref a_s, .ref a_before, .ref a_kept, .ref a_aside, .ref a_order, .ref a_rank, .int v_onWall, .ref a_straight, .ref a_sorted, .ref a_longest, .int v_straightMany, .ref a_read, .ref a_text, .int v_length, .int v_states, .int v_isKept, .int v_at, .int v_cards])), (a_s, .inl (cI, 316, .inl v_s))] H → va_D A [(a_this, .inr (9, [.ref a_s, .ref a_before, .ref a_kept, .ref a_aside, .ref a_order, .ref a_rank, .int v_onWall, .ref a_straight, .ref a_sorted, .ref a_longest, .int v_straightMany, .ref a_read, .ref a_text, .int v_length, .int v_states, .int v_isKept, .int v_at, .int v_cards])), (a_s, .inl (cI, 316, .inl v_s))] → va_S A s.heap H locs → ∀ ls : Array Slot, lv_has ls 5 [(0, .ref a_this), (2, .float x2_46), (3, .int x3_46), (4, .float x4_46)] → W p l e rm_X9_spanBits s m args below meth c H locs 0 0 Q (F0 m 46 ls [.float k0_46]) := by
        intro x2_46 x3_46 x4_46 k0_46 H locs hwp hP hD hS ls hl
        unfold wp_X9_spanBits_j46 at hwp
        refine lv_fstore_n (lv' := [(1, .float k0_46), (0, .ref a_this), (2, .float x2_46), (3, .int x3_46), (4, .float x4_46)]) hx hb dX9_spanBits_46 rfl hl (by decide) rfl (fun ls hl => ?_)
        refine lv_fload hx hb dX9_spanBits_47 (lv_at hl 4 rfl) ?_
        refine lv_fload_n hx hb dX9_spanBits_49 rfl (lv_at hl 2 rfl) ?_
        refine lv_fcmp hx hb dX9_spanBits_50 ?_
        refine lv_if_ge (tgt := 59) hx hb dX9_spanBits_51 (by decide) (fun hc => ?_) (fun hc => ?_)
        · have hwp := hwp.1 hc
          refine lv_fload_n hx hb dX9_spanBits_59 rfl (lv_at hl 2 rfl) ?_
          refine lv_fstore_n (lv' := [(2, .float x2_46), (1, .float k0_46), (0, .ref a_this), (3, .int x3_46), (4, .float x4_46)]) hx hb dX9_spanBits_60 rfl hl (by decide) rfl (fun ls hl => ?_)
          refine lv_iinc (v := (x3_46 + (1 : Int32))) (lv' := [(3, .int (x3_46 + (1 : Int32))), (2, .float x2_46), (1, .float k0_46), (0, .ref a_this), (4, .float x4_46)]) hx hb dX9_spanBits_61 hl (k := 3) rfl rfl (by decide) rfl (fun ls hl => ?_)
          refine lv_goto (tgt := 8) hx hb dX9_spanBits_64 (by decide) ?_
          have hl : lv_has ls 5 [(0, .ref a_this), (1, .float k0_46), (2, .float x2_46), (3, .int (x3_46 + (1 : Int32)))] := lv_sub hl [3, 2, 1, 0] rfl
          exact ih8 k0_46 x2_46 (x3_46 + (1 : Int32)) (Nat.lt_of_lt_of_le hwp.2 (Nat.le_of_lt_succ hμ8)) hwp.1 _ _ hP hD hS ls hl
        · have hwp := hwp.2 hc
          refine lv_fload hx hb dX9_spanBits_54 (lv_at hl 4 rfl) ?_
          refine lv_goto (tgt := 60) hx hb dX9_spanBits_56 (by decide) ?_
          refine lv_fstore_n (lv' := [(2, .float x4_46), (1, .float k0_46), (0, .ref a_this), (3, .int x3_46), (4, .float x4_46)]) hx hb dX9_spanBits_60 rfl hl (by decide) rfl (fun ls hl => ?_)
          refine lv_iinc (v := (x3_46 + (1 : Int32))) (lv' := [(3, .int (x3_46 + (1 : Int32))), (2, .float x4_46), (1, .float k0_46), (0, .ref a_this), (4, .float x4_46)]) hx hb dX9_spanBits_61 hl (k := 3) rfl rfl (by decide) rfl (fun ls hl => ?_)
          refine lv_goto (tgt := 8) hx hb dX9_spanBits_64 (by decide) ?_
          have hl : lv_has ls 5 [(0, .ref a_this), (1, .float k0_46), (2, .float x4_46), (3, .int (x3_46 + (1 : Int32)))] := lv_sub hl [3, 2, 1, 0] rfl
          exact ih8 k0_46 x4_46 (x3_46 + (1 : Int32)) (Nat.lt_of_lt_of_le hwp.2 (Nat.le_of_lt_succ hμ8)) hwp.1 _ _ hP hD hS ls hl
      refine lv_iload_n hx hb dX9_spanBits_8 rfl (lv_at hl 3 rfl) ?_
      refine lv_bipush (v := 16) hx hb dX9_spanBits_9 (by decide) ?_
      refine lv_icmp_ge (tgt := 67) hx hb dX9_spanBits_11 (by decide) (fun hc => ?_) (fun hc => ?_)
      · have hwp := hwp.1 hc
        refine lv_aload_n hx hb dX9_spanBits_67 rfl (lv_at hl 0 rfl) ?_
        refine gBacki (D := D) (tys := gT cI cC cF cO) (A := A) (wr := []) (w1 := (fun u_2 : Unit => [(a_this, .inr (9, [.ref a_s, .ref a_before, .ref a_kept, .ref a_aside, .ref a_order, .ref a_rank, .int v_onWall, .ref a_straight, .ref a_sorted, .ref a_longest, .int v_straightMany, .ref a_read, .ref a_text, .int v_length, .int v_states, .int v_isKept, .int v_at, .int v_cards])), (a_s, .inl (cI, 316, .inl v_s))])) (va_runV (As := []) (rest := []) ⟨hx, hb, hml, hown, hts⟩ (c_X9_scenes l D cI cC cF cO a_this a_s a_before a_kept a_aside a_order a_rank a_straight a_sorted a_longest a_read a_text v_onWall v_straightMany v_length v_states v_isKept v_at v_cards _ _ _ hwp) (cwV 0 hts gX9_spanBits_X9_scenes rfl rfl rfl (by decide +kernel) ⟨Nat.le_of_ble_eq_true rfl, Nat.le_of_ble_eq_true rfl⟩) (gPreV (C := RX9) (T := TX9) (N := 18) (ci := 9) hK hX hT hP hD hS hA [0, 1] rfl rfl rfl (qb := 0) rfl) rfl rfl hl.1 rfl (lv_room (Nat.le_of_ble_eq_true rfl)) dX9_spanBits_68 ⟨Nat.le_of_ble_eq_true rfl, Nat.le_of_ble_eq_true rfl⟩) hP hD hS hA [0, 1] [] rfl rfl rfl (by decide) (fun r_1 u_2 H locs hwp hP hD hS => ?_)
        have hP : va_P D vwCl [(a_this, .inr (9, [.ref a_s, .ref a_before, .ref a_kept, .ref a_aside, .ref a_order, .ref a_rank, .int v_onWall, .ref a_straight, .ref a_sorted, .ref a_longest, .int v_straightMany, .ref a_read, .ref a_text, .int v_length, .int v_states, .int v_isKept, .int v_at, .int v_cards])), (a_s, .inl (cI, 316, .inl v_s))] H := hP
        have hD : va_D A [(a_this, .inr (9, [.ref a_s, .ref a_before, .ref a_kept, .ref a_aside, .ref a_order, .ref a_rank, .int v_onWall, .ref a_straight, .ref a_sorted, .ref a_longest, .int v_straightMany, .ref a_read, .ref a_text, .int v_length, .int v_states, .int v_isKept, .int v_at, .int v_cards])), (a_s, .inl (cI, 316, .inl v_s))] := hD
        refine lv_if_ne (tgt := 78) hx hb dX9_spanBits_71 (by decide) (fun hc => ?_) (fun hc => ?_)
        · have hwp := hwp.2 hc
          refine lv_fload_n hx hb dX9_spanBits_78 rfl (lv_at hl 1 rfl) ?_
          refine lv_fload_n hx hb dX9_spanBits_79 rfl (lv_at hl 2 rfl) ?_
          have hn_3 := hwp.1
          have hwp := hwp.2
          refine lv_fsub hx hb dX9_spanBits_80 hn_3 ?_
          have hnn_r_4 := hwp.1
          have hwp := hwp.2
          refine gBacki (D := D) (tys := gT cI cC cF cO) (A := A) (wr := [(a_this, .inr (9, [.ref a_s, .ref a_before, .ref a_kept, .ref a_aside, .ref a_order, .ref a_rank, .int v_onWall, .ref a_straight, .ref a_sorted, .ref a_longest, .int v_straightMany, .ref a_read, .ref a_text, .int v_length, .int v_states, .int v_isKept, .int v_at, .int v_cards])), (a_s, .inl (cI, 316, .inl v_s))]) (w1 := fun _ : Unit => []) (va_runS (As := [.float (FP.fsub x1_8 x2_8)]) (rest := []) ⟨hx, hb, hml, hown, hts⟩ (c_fti l D cI cC cF cO _ (FP.fsub x1_8 x2_8) hnn_r_4) (va_cwS 1 hts gX9_spanBits_Jxf58ca_floatToIntBits_5c35a rfl rfl rfl (by decide +kernel) ⟨Nat.le_of_ble_eq_true rfl, Nat.le_of_ble_eq_true rfl⟩) (gPreS hK hX hT hP hD hS hA [] rfl rfl) rfl rfl hl.1 rfl (lv_room (Nat.le_of_ble_eq_true rfl)) dX9_spanBits_81 ⟨Nat.le_of_ble_eq_true rfl, Nat.le_of_ble_eq_true rfl⟩) hP hD hS hA [] [0, 1] rfl rfl rfl (by decide) (fun r_4 u H locs hrr hP hD hS => ?_)
          subst hrr
          have hP : va_P D vwCl [(a_this, .inr (9, [.ref a_s, .ref a_before, .ref a_kept, .ref a_aside, .ref a_order, .ref a_rank, .int v_onWall, .ref a_straight, .ref a_sorted, .ref a_longest, .int v_straightMany, .ref a_read, .ref a_text, .int v_length, .int v_states, .int v_isKept, .int v_at, .int v_cards])), (a_s, .inl (cI, 316, .inl v_s))] H := hP
          have hD : va_D A [(a_this, .inr (9, [.ref a_s, .ref a_before, .ref a_kept, .ref a_aside, .ref a_order, .ref a_rank, .int v_onWall, .ref a_straight, .ref a_sorted, .ref a_longest, .int v_straightMany, .ref a_read, .ref a_text, .int v_length, .int v_states, .int v_isKept, .int v_at, .int v_cards])), (a_s, .inl (cI, 316, .inl v_s))] := hD
          exact hret () [0, 1] dX9_spanBits_84 hwp rfl rfl hP hD hS
        · have hwp := hwp.1 hc
          refine lv_iconst (v := 0) hx hb dX9_spanBits_74 (by decide) ?_
          refine lv_goto (tgt := 84) hx hb dX9_spanBits_75 (by decide) ?_
          exact hret () [0, 1] dX9_spanBits_84 hwp rfl rfl hP hD hS
      · have hwp := hwp.2 hc
        refine lv_aload_n hx hb dX9_spanBits_14 rfl (lv_at hl 0 rfl) ?_
        refine va_get (D := D) (ci := 9) (v := .ref a_s) (C := RX9) (T := TX9) (N := 18) hx hb hts mc_X9_spanBits_9 hown hK hP 0 rfl rfl 0 (by decide) (hts _ ml_X9_spanBits_3) (fun _ h9 => h9) rfl dX9_spanBits_15 ?_
        refine lv_iload_n hx hb dX9_spanBits_18 rfl (lv_at hl 3 rfl) ?_
        refine gBacki (D := D) (tys := gT cI cC cF cO) (A := A) (wr := [(a_this, .inr (9, [.ref a_s, .ref a_before, .ref a_kept, .ref a_aside, .ref a_order, .ref a_rank, .int v_onWall, .ref a_straight, .ref a_sorted, .ref a_longest, .int v_straightMany, .ref a_read, .ref a_text, .int v_length, .int v_states, .int v_isKept, .int v_at, .int v_cards])), (a_s, .inl (cI, 316, .inl v_s))]) (w1 := (fun u_6 : Unit => [])) (va_runS (As := [.int x3_8]) (rest := [.ref a_s]) ⟨hx, hb, hml, hown, hts⟩ (c_X9_row l D cI cC cF cO  _ _ _ hwp) (va_cwS 1 hts gX9_spanBits_X9_row rfl rfl rfl (by decide +kernel) ⟨Nat.le_of_ble_eq_true rfl, Nat.le_of_ble_eq_true rfl⟩) (gPreS hK hX hT hP hD hS hA [] rfl rfl) rfl rfl hl.1 rfl (lv_room (Nat.le_of_ble_eq_true rfl)) dX9_spanBits_19 ⟨Nat.le_of_ble_eq_true rfl, Nat.le_of_ble_eq_true rfl⟩) hP hD hS hA [] [0, 1] rfl rfl rfl (by decide) (fun r_5 u_6 H locs hwp hP hD hS => ?_)
        have hP : va_P D vwCl [(a_this, .inr (9, [.ref a_s, .ref a_before, .ref a_kept, .ref a_aside, .ref a_order, .ref a_rank, .int v_onWall, .ref a_straight, .ref a_sorted, .ref a_longest, .int v_straightMany, .ref a_read, .ref a_text, .int v_length, .int v_states, .int v_isKept, .int v_at, .int v_cards])), (a_s, .inl (cI, 316, .inl v_s))] H := hP
        have hD : va_D A [(a_this, .inr (9, [.ref a_s, .ref a_before, .ref a_kept, .ref a_aside, .ref a_order, .ref a_rank, .int v_onWall, .ref a_straight, .ref a_sorted, .ref a_longest, .int v_straightMany, .ref a_read, .ref a_text, .int v_length, .int v_states, .int v_isKept, .int v_at, .int v_cards])), (a_s, .inl (cI, 316, .inl v_s))] := hD
        have hn_7 := hwp.1
        have hwp := hwp.2
        refine va_iald (D := D) hx hb hK hP 1 0 rfl rfl hn_7 dX9_spanBits_22 ?_
        refine lv_if_le (tgt := 61) hx hb dX9_spanBits_23 (by decide) (fun hc => ?_) (fun hc => ?_)
        · have hwp := hwp.1 hc
          refine lv_iinc (v := (x3_8 + (1 : Int32))) (lv' := [(3, .int (x3_8 + (1 : Int32))), (0, .ref a_this), (1, .float x1_8), (2, .float x2_8)]) hx hb dX9_spanBits_61 hl (k := 3) rfl rfl (by decide) rfl (fun ls hl => ?_)
          refine lv_goto (tgt := 8) hx hb dX9_spanBits_64 (by decide) ?_
          have hl : lv_has ls 5 [(0, .ref a_this), (1, .float x1_8), (2, .float x2_8), (3, .int (x3_8 + (1 : Int32)))] := lv_sub hl [1, 2, 3, 0] rfl
          exact ih8 x1_8 x2_8 (x3_8 + (1 : Int32)) (Nat.lt_of_lt_of_le hwp.2 (Nat.le_of_lt_succ hμ8)) hwp.1 _ _ hP hD hS ls hl
        · have hwp := hwp.2 hc
          refine lv_aload_n hx hb dX9_spanBits_26 rfl (lv_at hl 0 rfl) ?_
          refine lv_iload_n hx hb dX9_spanBits_27 rfl (lv_at hl 3 rfl) ?_
          refine gBackf (D := D) (tys := gT cI cC cF cO) (A := A) (wr := []) (w1 := (fun u_9 : Unit => [(a_this, .inr (9, [.ref a_s, .ref a_before, .ref a_kept, .ref a_aside, .ref a_order, .ref a_rank, .int v_onWall, .ref a_straight, .ref a_sorted, .ref a_longest, .int v_straightMany, .ref a_read, .ref a_text, .int v_length, .int v_states, .int v_isKept, .int v_at, .int v_cards])), (a_s, .inl (cI, 316, .inl v_s))])) (va_runV (As := [.int x3_8]) (rest := []) ⟨hx, hb, hml, hown, hts⟩ (c_X9_tensionIn l D cI cC cF cO a_this a_s a_before a_kept a_aside a_order a_rank a_straight a_sorted a_longest a_read a_text v_onWall v_straightMany v_length v_states v_isKept v_at v_cards _ _ _ _ hwp) (cwV 1 hts gX9_spanBits_X9_tensionIn rfl rfl rfl (by decide +kernel) ⟨Nat.le_of_ble_eq_true rfl, Nat.le_of_ble_eq_true rfl⟩) (gPreV (C := RX9) (T := TX9) (N := 18) (ci := 9) hK hX hT hP hD hS hA [0, 1] rfl rfl rfl (qb := 0) rfl) rfl rfl hl.1 rfl (lv_room (Nat.le_of_ble_eq_true rfl)) dX9_spanBits_28 ⟨Nat.le_of_ble_eq_true rfl, Nat.le_of_ble_eq_true rfl⟩) hP hD hS hA [0, 1] [] rfl rfl rfl (by decide) (fun r_8 u_9 H locs hwp hP hD hS => ?_)
          have hP : va_P D vwCl [(a_this, .inr (9, [.ref a_s, .ref a_before, .ref a_kept, .ref a_aside, .ref a_order, .ref a_rank, .int v_onWall, .ref a_straight, .ref a_sorted, .ref a_longest, .int v_straightMany, .ref a_read, .ref a_text, .int v_length, .int v_states, .int v_isKept, .int v_at, .int v_cards])), (a_s, .inl (cI, 316, .inl v_s))] H := hP
          have hD : va_D A [(a_this, .inr (9, [.ref a_s, .ref a_before, .ref a_kept, .ref a_aside, .ref a_order, .ref a_rank, .int v_onWall, .ref a_straight, .ref a_sorted, .ref a_longest, .int v_straightMany, .ref a_read, .ref a_text, .int v_length, .int v_states, .int v_isKept, .int v_at, .int v_cards])), (a_s, .inl (cI, 316, .inl v_s))] := hD
          refine lv_fstore (lv' := [(4, .float r_8), (0, .ref a_this), (1, .float x1_8), (2, .float x2_8), (3, .int x3_8)]) hx hb dX9_spanBits_31 hl (by decide) rfl (fun ls hl => ?_)
          refine lv_fload hx hb dX9_spanBits_33 (lv_at hl 0 rfl) ?_
          refine lv_fload_n hx hb dX9_spanBits_35 rfl (lv_at hl 2 rfl) ?_
          refine lv_fcmp hx hb dX9_spanBits_36 ?_
          refine lv_if_le (tgt := 45) hx hb dX9_spanBits_37 (by decide) (fun hc => ?_) (fun hc => ?_)
          · have hwp := hwp.1 hc
            refine lv_fload_n hx hb dX9_spanBits_45 rfl (lv_at hl 2 rfl) ?_
            have hl : lv_has ls 5 [(0, .ref a_this), (2, .float x2_8), (3, .int x3_8), (4, .float r_8)] := lv_sub hl [1, 3, 4, 0] rfl
            exact hj46 x2_8 x3_8 r_8 x1_8 _ _ hwp hP hD hS ls hl
          · have hwp := hwp.2 hc
            refine lv_fload hx hb dX9_spanBits_40 (lv_at hl 0 rfl) ?_
            refine lv_goto (tgt := 46) hx hb dX9_spanBits_42 (by decide) ?_
            have hl : lv_has ls 5 [(0, .ref a_this), (2, .float x2_8), (3, .int x3_8), (4, .float r_8)] := lv_sub hl [1, 3, 4, 0] rfl
            exact hj46 x2_8 x3_8 r_8 r_8 _ _ hwp hP hD hS ls hl
  exact hL8 _ (3212836864 : UInt32) (1120534528 : UInt32) (0 : Int32) (Nat.lt_succ_self _) hJ _ _ hP hD hS ls hl
