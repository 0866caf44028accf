/-! contracts (by program): X9_addAll X9_isValue X9_change X9_takeOff X9_putAt X9_errorOf -/
theorem mc_X9_addAll_9 : ∀ w ∈ u_ws RX9 TX9 18, w ∈ wsX9_addAll := fun w h => List.mem_cons_of_mem _ (List.mem_append_right _ h)
theorem ml_X9_addAll_1 : (.fieldLink RX9 7 "StoryWallModel" "s" "[I" : Cond) ∈ wsX9_addAll := List.mem_of_getElem? (i := 1) rfl
theorem ml_X9_addAll_2 : (.fieldLink RX9 97 "StoryWallModel" "cards" "I" : Cond) ∈ wsX9_addAll := List.mem_of_getElem? (i := 2) rfl
theorem ml_X9_addAll_3 : (.fieldLink RX9 37 "StoryWallModel" "read" "[I" : Cond) ∈ wsX9_addAll := List.mem_of_getElem? (i := 3) rfl
abbrev rm_X9_addAll : Room := { frames := 4, cells := 0, slots := 0, locals := 88 }
set_option maxHeartbeats 4000000 in
set_option maxRecDepth 100000 in
theorem c_X9_addAll (l : Launch) (D : va_G) (cI cC cF cO : ClassId) (a_this a_s a_before a_read a_text a_kept a_aside a_order a_rank a_straight a_sorted a_longest : Nat) (v_onWall : Int32) (v_straightMany : Int32) (v_isKept : Int32) (sz : Nat)  (v_length : Int32) (v_states : Int32) (v_at : Int32) (v_cards : Int32) (v_s : Nat → Int32) (v_before : Nat → Int32) (v_read : Nat → Int32) (v_text : Nat → Int32) (post : Int32 → Int32 → Int32 → Int32 → (Nat → Int32) → (Nat → Int32) → (Nat → Int32) → Prop) (hwp : wp_X9_addAll v_length v_states v_at v_cards v_s v_before v_read v_text post) : Met l yX9_addAll wsX9_addAll rm_X9_addAll (gPre D (gT cI cC cF cO) [.ref a_this] [(a_this, .inr (9, [.ref a_s, .ref a_before, .ref a_kept, .ref a_aside, .ref a_order, .ref a_rank, .int v_onWall, .ref a_straight, .ref a_sorted, .ref a_longest, .int v_straightMany, .ref a_read, .ref a_text, .int v_length, .int v_states, .int v_isKept, .int v_at, .int v_cards])), (a_s, .inl (cI, 316, .inl v_s)), (a_before, .inl (cI, 1264, .inl v_before)), (a_read, .inl (cI, 160, .inl v_read)), (a_text, .inl (cC, 60, .inl v_text))] sz) (va_Qi (S := Int32 × Int32 × Int32 × (Nat → Int32) × (Nat → Int32) × (Nat → Int32)) (fun (r : Int32) (u : Int32 × Int32 × Int32 × (Nat → Int32) × (Nat → Int32) × (Nat → Int32)) => post r u.1 u.2.1 u.2.2.1 u.2.2.2.1 u.2.2.2.2.1 u.2.2.2.2.2) (gB D (gT cI cC cF cO) (fun (u : Int32 × Int32 × Int32 × (Nat → Int32) × (Nat → Int32) × (Nat → Int32)) => [(a_this, .inr (9, [.ref a_s, .ref a_before, .ref a_kept, .ref a_aside, .ref a_order, .ref a_rank, .int v_onWall, .ref a_straight, .ref a_sorted, .ref a_longest, .int v_straightMany, .ref a_read, .ref a_text, .int v_length, .int u.1, .int v_isKept, .int u.2.1, .int u.2.2.1])), (a_s, .inl (cI, 316, .inl u.2.2.2.1)), (a_before, .inl (cI, 1264, .inl u.2.2.2.2.1)), (a_read, .inl (cI, 160, .inl u.2.2.2.2.2)), (a_text, .inl (cC, 60, .inl v_text))]) [(a_this, .inr (9, [.ref a_s, .ref a_before, .ref a_kept, .ref a_aside, .ref a_order, .ref a_rank, .int v_onWall, .ref a_straight, .ref a_sorted, .ref a_longest, .int v_straightMany, .ref a_read, .ref a_text, .int v_length, .int v_states, .int v_isKept, .int v_at, .int v_cards])), (a_s, .inl (cI, 316, .inl v_s)), (a_before, .inl (cI, 1264, .inl v_before)), (a_read, .inl (cI, 160, .inl v_read)), (a_text, .inl (cC, 60, .inl v_text))] sz) (va_A [(a_this, .inr (9, [.ref a_s, .ref a_before, .ref a_kept, .ref a_aside, .ref a_order, .ref a_rank, .int v_onWall, .ref a_straight, .ref a_sorted, .ref a_longest, .int v_straightMany, .ref a_read, .ref a_text, .int v_length, .int v_states, .int v_isKept, .int v_at, .int v_cards])), (a_s, .inl (cI, 316, .inl v_s)), (a_before, .inl (cI, 1264, .inl v_before)), (a_read, .inl (cI, 160, .inl v_read)), (a_text, .inl (cC, 60, .inl v_text))] sz)) 0 0 (va_A [(a_this, .inr (9, [.ref a_s, .ref a_before, .ref a_kept, .ref a_aside, .ref a_order, .ref a_rank, .int v_onWall, .ref a_straight, .ref a_sorted, .ref a_longest, .int v_straightMany, .ref a_read, .ref a_text, .int v_length, .int v_states, .int v_isKept, .int v_at, .int v_cards])), (a_s, .inl (cI, 316, .inl v_s)), (a_before, .inl (cI, 1264, .inl v_before)), (a_read, .inl (cI, 160, .inl v_read)), (a_text, .inl (cC, 60, .inl v_text))] sz) := by
  refine gOfi (own := RX9) (cc := cX9_addAll) (maxL := 3) (ret := (some .int)) rfl (by decide) rfl (Nat.le_of_ble_eq_true rfl) rfl ?_
  intro p e s m below meth c A args Q hAe hx hb hr hts hown hml hlocks hname hA hK hX hT hP hD hS hret ls hl
  have hl : lv_has ls 3 [(0, .ref a_this)] := hl
  unfold wp_X9_addAll at hwp
  refine lv_aload_n hx hb dX9_addAll_0 rfl (lv_at hl 0 rfl) ?_
  refine gBacki (D := D) (tys := gT cI cC cF cO) (A := A) (wr := [(a_s, .inl (cI, 316, .inl v_s)), (a_before, .inl (cI, 1264, .inl v_before))]) (w1 := (fun u_5 : Int32 × Int32 × (Nat → Int32) => [(a_this, .inr (9, [.ref a_s, .ref a_before, .ref a_kept, .ref a_aside, .ref a_order, .ref a_rank, .int v_onWall, .ref a_straight, .ref a_sorted, .ref a_longest, .int v_straightMany, .ref a_read, .ref a_text, .int v_length, .int v_states, .int v_isKept, .int u_5.1, .int u_5.2.1])), (a_read, .inl (cI, 160, .inl u_5.2.2)), (a_text, .inl (cC, 60, .inl v_text))])) (va_runV (As := []) (rest := []) ⟨hx, hb, hml, hown, hts⟩ (c_X9_faultOf l D cI cC cF cO a_this a_read a_text a_s a_before a_kept a_aside a_order a_rank a_straight a_sorted a_longest v_onWall v_straightMany v_states v_isKept _ _ _ _ _ _ _ hwp) (cwV 0 hts gX9_addAll_X9_faultOf rfl rfl rfl (by decide +kernel) ⟨Nat.le_of_ble_eq_true rfl, Nat.le_of_ble_eq_true rfl⟩) (gPreV (C := RX9) (T := TX9) (N := 18) (ci := 9) hK hX hT hP hD hS hA [0, 3, 4] rfl rfl rfl (qb := 0) rfl) rfl rfl hl.1 rfl (lv_room (Nat.le_of_ble_eq_true rfl)) dX9_addAll_1 ⟨Nat.le_of_ble_eq_true rfl, Nat.le_of_ble_eq_true rfl⟩) hP hD hS hA [0, 3, 4] [1, 2] rfl rfl rfl (by decide) (fun r_1 u_5 H locs hwp hP hD hS => ?_)
  obtain ⟨v_at_2, v_cards_3, v_read_4⟩ := u_5
  have hP : va_P D vwCl [(a_s, .inl (cI, 316, .inl v_s)), (a_before, .inl (cI, 1264, .inl v_before)), (a_this, .inr (9, [.ref a_s, .ref a_before, .ref a_kept, .ref a_aside, .ref a_order, .ref a_rank, .int v_onWall, .ref a_straight, .ref a_sorted, .ref a_longest, .int v_straightMany, .ref a_read, .ref a_text, .int v_length, .int v_states, .int v_isKept, .int v_at_2, .int v_cards_3])), (a_read, .inl (cI, 160, .inl v_read_4)), (a_text, .inl (cC, 60, .inl v_text))] H := hP
  have hD : va_D A [(a_s, .inl (cI, 316, .inl v_s)), (a_before, .inl (cI, 1264, .inl v_before)), (a_this, .inr (9, [.ref a_s, .ref a_before, .ref a_kept, .ref a_aside, .ref a_order, .ref a_rank, .int v_onWall, .ref a_straight, .ref a_sorted, .ref a_longest, .int v_straightMany, .ref a_read, .ref a_text, .int v_length, .int v_states, .int v_isKept, .int v_at_2, .int v_cards_3])), (a_read, .inl (cI, 160, .inl v_read_4)), (a_text, .inl (cC, 60, .inl v_text))] := hD
  refine lv_istore_n (lv' := [(1, .int r_1), (0, .ref a_this)]) hx hb dX9_addAll_4 rfl hl (by decide) rfl (fun ls hl => ?_)
  refine lv_iload_n hx hb dX9_addAll_5 rfl (lv_at hl 0 rfl) ?_
  refine lv_if_lt (tgt := 14) hx hb dX9_addAll_6 (by decide) (fun hc => ?_) (fun hc => ?_)
  · have hwp := hwp.1 hc
    refine lv_aload_n hx hb dX9_addAll_14 rfl (lv_at hl 1 rfl) ?_
    refine va_get (D := D) (ci := 9) (v := .ref a_s) (C := RX9) (T := TX9) (N := 18) hx hb hts mc_X9_addAll_9 hown hK hP 2 rfl rfl 0 (by decide) (hts _ ml_X9_addAll_1) (fun _ h9 => h9) rfl dX9_addAll_15 ?_
    refine lv_iconst (v := 0) hx hb dX9_addAll_18 (by decide) ?_
    refine va_iald (D := D) hx hb hK hP 0 0 rfl rfl (gIn rfl) dX9_addAll_19 ?_
    refine lv_aload_n hx hb dX9_addAll_20 rfl (lv_at hl 1 rfl) ?_
    refine va_get (D := D) (ci := 9) (v := .int v_cards_3) (C := RX9) (T := TX9) (N := 18) hx hb hts mc_X9_addAll_9 hown hK hP 2 rfl rfl 17 (by decide) (hts _ ml_X9_addAll_2) (fun _ h9 => h9) rfl dX9_addAll_21 ?_
    refine lv_iadd hx hb dX9_addAll_24 ?_
    refine lv_bipush (v := 40) hx hb dX9_addAll_25 (by decide) ?_
    refine lv_icmp_le (tgt := 33) hx hb dX9_addAll_27 (by decide) (fun hc => ?_) (fun hc => ?_)
    · have hwp := hwp.1 hc
      refine lv_aload_n hx hb dX9_addAll_33 rfl (lv_at hl 1 rfl) ?_
      refine gBackv (D := D) (tys := gT cI cC cF cO) (A := A) (wr := [(a_read, .inl (cI, 160, .inl v_read_4)), (a_text, .inl (cC, 60, .inl v_text))]) (w1 := (fun u_8 : Int32 × (Nat → Int32) => [(a_this, .inr (9, [.ref a_s, .ref a_before, .ref a_kept, .ref a_aside, .ref a_order, .ref a_rank, .int v_onWall, .ref a_straight, .ref a_sorted, .ref a_longest, .int v_straightMany, .ref a_read, .ref a_text, .int v_length, .int u_8.1, .int v_isKept, .int v_at_2, .int v_cards_3])), (a_s, .inl (cI, 316, .inl v_s)), (a_before, .inl (cI, 1264, .inl u_8.2))])) (va_runV (As := []) (rest := []) ⟨hx, hb, hml, hown, hts⟩ (c_X9_record l D cI cC cF cO a_this a_s a_before a_kept a_aside a_order a_rank a_straight a_sorted a_longest a_read a_text v_onWall v_straightMany v_length v_isKept v_at_2 v_cards_3 _ _ _ _ _ hwp) (cwV 0 hts gX9_addAll_X9_record rfl rfl rfl (by decide +kernel) ⟨Nat.le_of_ble_eq_true rfl, Nat.le_of_ble_eq_true rfl⟩) (gPreV (C := RX9) (T := TX9) (N := 18) (ci := 9) hK hX hT hP hD hS hA [2, 0, 1] rfl rfl rfl (qb := 2) rfl) rfl rfl hl.1 rfl (lv_room (Nat.le_of_ble_eq_true rfl)) dX9_addAll_34 ⟨Nat.le_of_ble_eq_true rfl, Nat.le_of_ble_eq_true rfl⟩) hP hD hS hA [2, 0, 1] [3, 4] rfl rfl rfl (by decide) (fun u_8 H locs hwp hP hD hS => ?_)
      obtain ⟨v_states_6, v_before_7⟩ := u_8
      have hP : va_P D vwCl [(a_read, .inl (cI, 160, .inl v_read_4)), (a_text, .inl (cC, 60, .inl v_text)), (a_this, .inr (9, [.ref a_s, .ref a_before, .ref a_kept, .ref a_aside, .ref a_order, .ref a_rank, .int v_onWall, .ref a_straight, .ref a_sorted, .ref a_longest, .int v_straightMany, .ref a_read, .ref a_text, .int v_length, .int v_states_6, .int v_isKept, .int v_at_2, .int v_cards_3])), (a_s, .inl (cI, 316, .inl v_s)), (a_before, .inl (cI, 1264, .inl v_before_7))] H := hP
      have hD : va_D A [(a_read, .inl (cI, 160, .inl v_read_4)), (a_text, .inl (cC, 60, .inl v_text)), (a_this, .inr (9, [.ref a_s, .ref a_before, .ref a_kept, .ref a_aside, .ref a_order, .ref a_rank, .int v_onWall, .ref a_straight, .ref a_sorted, .ref a_longest, .int v_straightMany, .ref a_read, .ref a_text, .int v_length, .int v_states_6, .int v_isKept, .int v_at_2, .int v_cards_3])), (a_s, .inl (cI, 316, .inl v_s)), (a_before, .inl (cI, 1264, .inl v_before_7))] := hD
      refine lv_iconst (v := 0) hx hb dX9_addAll_37 (by decide) ?_
      refine lv_istore_n (lv' := [(2, .int (0 : Int32)), (1, .int r_1), (0, .ref a_this)]) hx hb dX9_addAll_38 rfl hl (by decide) rfl (fun ls hl => ?_)
      have hP : va_P D vwCl [(a_this, .inr (9, [.ref a_s, .ref a_before, .ref a_kept, .ref a_aside, .ref a_order, .ref a_rank, .int v_onWall, .ref a_straight, .ref a_sorted, .ref a_longest, .int v_straightMany, .ref a_read, .ref a_text, .int v_length, .int v_states_6, .int v_isKept, .int v_at_2, .int v_cards_3])), (a_s, .inl (cI, 316, .inl v_s)), (a_before, .inl (cI, 1264, .inl v_before_7)), (a_read, .inl (cI, 160, .inl v_read_4)), (a_text, .inl (cC, 60, .inl v_text))] H := hP.sub [2, 3, 4, 0, 1] rfl
      have hD : va_D A [(a_this, .inr (9, [.ref a_s, .ref a_before, .ref a_kept, .ref a_aside, .ref a_order, .ref a_rank, .int v_onWall, .ref a_straight, .ref a_sorted, .ref a_longest, .int v_straightMany, .ref a_read, .ref a_text, .int v_length, .int v_states_6, .int v_isKept, .int v_at_2, .int v_cards_3])), (a_s, .inl (cI, 316, .inl v_s)), (a_before, .inl (cI, 1264, .inl v_before_7)), (a_read, .inl (cI, 160, .inl v_read_4)), (a_text, .inl (cC, 60, .inl v_text))] := hD.sub [2, 3, 4, 0, 1] (by decide) rfl
      have hl : lv_has ls 3 [(0, .ref a_this), (2, .int (0 : Int32))] := lv_sub hl [2, 0] rfl
      unfold wp_X9_addAll_l39 at hwp
      obtain ⟨J39, μ39, hJ, hst39⟩ := hwp
      have hL39 : ∀ (n : Nat) (x2_39 : Int32) (v_s_39 : Nat → Int32), μ39 x2_39 v_s_39 < n → J39 x2_39 v_s_39 → ∀ (H : Heap) (locs : List Loc), va_P D vwCl [(a_this, .inr (9, [.ref a_s, .ref a_before, .ref a_kept, .ref a_aside, .ref a_order, .ref a_rank, .int v_onWall, .ref a_straight, .ref a_sorted, .ref a_longest, .int v_straightMany, .ref a_read, .ref a_text, .int v_length, .int v_states_6, .int v_isKept, .int v_at_2, .int v_cards_3])), (a_s, .inl (cI, 316, .inl v_s_39)), (a_before, .inl (cI, 1264, .inl v_before_7)), (a_read, .inl (cI, 160, .inl v_read_4)), (a_text, .inl (cC, 60, .inl v_text))] H → va_D A [(a_this, .inr (9, [.ref a_s, .ref a_before, .ref a_kept, .ref a_aside, .ref a_order, .ref a_rank, .int v_onWall, .ref a_straight, .ref a_sorted, .ref a_longest, .int v_straightMany, .ref a_read, .ref a_text, .int v_length, .int v_states_6, .int v_isKept, .int v_at_2, .int v_cards_3])), (a_s, .inl (cI, 316, .inl v_s_39)), (a_before, .inl (cI, 1264, .inl v_before_7)), (a_read, .inl (cI, 160, .inl v_read_4)), (a_text, .inl (cC, 60, .inl v_text))] → va_S A s.heap H locs → ∀ ls : Array Slot, lv_has ls 3 [(0, .ref a_this), (2, .int x2_39)] → W p l e rm_X9_addAll s m args below meth c H locs 0 0 Q (F0 m 39 ls []) := by
        intro n
        induction n with
        | zero => intro x2_39 v_s_39 h; exact absurd h (Nat.not_lt_zero _)
        | succ n ih39 =>
          intro x2_39 v_s_39 hμ39 hJ H locs hP hD hS ls hl
          have hwp := hst39 x2_39 v_s_39 hJ
          refine lv_iload_n hx hb dX9_addAll_39 rfl (lv_at hl 1 rfl) ?_
          refine lv_aload_n hx hb dX9_addAll_40 rfl (lv_at hl 0 rfl) ?_
          refine va_get (D := D) (ci := 9) (v := .int v_cards_3) (C := RX9) (T := TX9) (N := 18) hx hb hts mc_X9_addAll_9 hown hK hP 0 rfl rfl 17 (by decide) (hts _ ml_X9_addAll_2) (fun _ h9 => h9) rfl dX9_addAll_41 ?_
          refine lv_icmp_ge (tgt := 105) hx hb dX9_addAll_44 (by decide) (fun hc => ?_) (fun hc => ?_)
          · have hwp := hwp.1 hc
            refine lv_aload_n hx hb dX9_addAll_105 rfl (lv_at hl 0 rfl) ?_
            refine va_get (D := D) (ci := 9) (v := .int v_cards_3) (C := RX9) (T := TX9) (N := 18) hx hb hts mc_X9_addAll_9 hown hK hP 0 rfl rfl 17 (by decide) (hts _ ml_X9_addAll_2) (fun _ h9 => h9) rfl dX9_addAll_106 ?_
            exact hret (v_states_6, v_at_2, v_cards_3, v_s_39, v_before_7, v_read_4) [0, 1, 2, 3, 4] dX9_addAll_109 hwp rfl rfl hP hD hS
          · have hwp := hwp.2 hc
            refine lv_aload_n hx hb dX9_addAll_47 rfl (lv_at hl 0 rfl) ?_
            refine lv_aload_n hx hb dX9_addAll_48 rfl (lv_at hl 0 rfl) ?_
            refine va_get (D := D) (ci := 9) (v := .ref a_read) (C := RX9) (T := TX9) (N := 18) hx hb hts mc_X9_addAll_9 hown hK hP 0 rfl rfl 11 (by decide) (hts _ ml_X9_addAll_3) (fun _ h9 => h9) rfl dX9_addAll_49 ?_
            refine lv_iconst (v := 5) hx hb dX9_addAll_52 (by decide) ?_
            refine lv_iload_n hx hb dX9_addAll_53 rfl (lv_at hl 1 rfl) ?_
            refine lv_imul hx hb dX9_addAll_54 ?_
            have hn_9 := hwp.1
            have hwp := hwp.2
            refine va_iald (D := D) hx hb hK hP 3 0 rfl rfl hn_9 dX9_addAll_55 ?_
            refine lv_aload_n hx hb dX9_addAll_56 rfl (lv_at hl 0 rfl) ?_
            refine va_get (D := D) (ci := 9) (v := .ref a_read) (C := RX9) (T := TX9) (N := 18) hx hb hts mc_X9_addAll_9 hown hK hP 0 rfl rfl 11 (by decide) (hts _ ml_X9_addAll_3) (fun _ h9 => h9) rfl dX9_addAll_57 ?_
            refine lv_iconst (v := 5) hx hb dX9_addAll_60 (by decide) ?_
            refine lv_iload_n hx hb dX9_addAll_61 rfl (lv_at hl 1 rfl) ?_
            refine lv_imul hx hb dX9_addAll_62 ?_
            refine lv_iconst (v := 1) hx hb dX9_addAll_63 (by decide) ?_
            refine lv_iadd hx hb dX9_addAll_64 ?_
            have hn_10 := hwp.1
            have hwp := hwp.2
            refine va_iald (D := D) hx hb hK hP 3 0 rfl rfl hn_10 dX9_addAll_65 ?_
            refine lv_aload_n hx hb dX9_addAll_66 rfl (lv_at hl 0 rfl) ?_
            refine va_get (D := D) (ci := 9) (v := .ref a_read) (C := RX9) (T := TX9) (N := 18) hx hb hts mc_X9_addAll_9 hown hK hP 0 rfl rfl 11 (by decide) (hts _ ml_X9_addAll_3) (fun _ h9 => h9) rfl dX9_addAll_67 ?_
            refine lv_iconst (v := 5) hx hb dX9_addAll_70 (by decide) ?_
            refine lv_iload_n hx hb dX9_addAll_71 rfl (lv_at hl 1 rfl) ?_
            refine lv_imul hx hb dX9_addAll_72 ?_
            refine lv_iconst (v := 2) hx hb dX9_addAll_73 (by decide) ?_
            refine lv_iadd hx hb dX9_addAll_74 ?_
            have hn_11 := hwp.1
            have hwp := hwp.2
            refine va_iald (D := D) hx hb hK hP 3 0 rfl rfl hn_11 dX9_addAll_75 ?_
            refine lv_aload_n hx hb dX9_addAll_76 rfl (lv_at hl 0 rfl) ?_
            refine va_get (D := D) (ci := 9) (v := .ref a_read) (C := RX9) (T := TX9) (N := 18) hx hb hts mc_X9_addAll_9 hown hK hP 0 rfl rfl 11 (by decide) (hts _ ml_X9_addAll_3) (fun _ h9 => h9) rfl dX9_addAll_77 ?_
            refine lv_iconst (v := 5) hx hb dX9_addAll_80 (by decide) ?_
            refine lv_iload_n hx hb dX9_addAll_81 rfl (lv_at hl 1 rfl) ?_
            refine lv_imul hx hb dX9_addAll_82 ?_
            refine lv_iconst (v := 3) hx hb dX9_addAll_83 (by decide) ?_
            refine lv_iadd hx hb dX9_addAll_84 ?_
            have hn_12 := hwp.1
            have hwp := hwp.2
            refine va_iald (D := D) hx hb hK hP 3 0 rfl rfl hn_12 dX9_addAll_85 ?_
            refine lv_aload_n hx hb dX9_addAll_86 rfl (lv_at hl 0 rfl) ?_
            refine va_get (D := D) (ci := 9) (v := .ref a_read) (C := RX9) (T := TX9) (N := 18) hx hb hts mc_X9_addAll_9 hown hK hP 0 rfl rfl 11 (by decide) (hts _ ml_X9_addAll_3) (fun _ h9 => h9) rfl dX9_addAll_87 ?_
            refine lv_iconst (v := 5) hx hb dX9_addAll_90 (by decide) ?_
            refine lv_iload_n hx hb dX9_addAll_91 rfl (lv_at hl 1 rfl) ?_
            refine lv_imul hx hb dX9_addAll_92 ?_
            refine lv_iconst (v := 4) hx hb dX9_addAll_93 (by decide) ?_
            refine lv_iadd hx hb dX9_addAll_94 ?_
            have hn_13 := hwp.1
            have hwp := hwp.2
            refine va_iald (D := D) hx hb hK hP 3 0 rfl rfl hn_13 dX9_addAll_95 ?_
            refine gBackv (D := D) (tys := gT cI cC cF cO) (A := A) (wr := [(a_before, .inl (cI, 1264, .inl v_before_7)), (a_read, .inl (cI, 160, .inl v_read_4)), (a_text, .inl (cC, 60, .inl v_text))]) (w1 := (fun u_15 : (Nat → Int32) => [(a_this, .inr (9, [.ref a_s, .ref a_before, .ref a_kept, .ref a_aside, .ref a_order, .ref a_rank, .int v_onWall, .ref a_straight, .ref a_sorted, .ref a_longest, .int v_straightMany, .ref a_read, .ref a_text, .int v_length, .int v_states_6, .int v_isKept, .int v_at_2, .int v_cards_3])), (a_s, .inl (cI, 316, .inl u_15))])) (va_runV (As := [.int (v_read_4 (((5 : Int32) * x2_39)).toNatClampNeg), .int (v_read_4 ((((5 : Int32) * x2_39) + (1 : Int32))).toNatClampNeg), .int (v_read_4 ((((5 : Int32) * x2_39) + (2 : Int32))).toNatClampNeg), .int (v_read_4 ((((5 : Int32) * x2_39) + (3 : Int32))).toNatClampNeg), .int (v_read_4 ((((5 : Int32) * x2_39) + (4 : Int32))).toNatClampNeg)]) (rest := []) ⟨hx, hb, hml, hown, hts⟩ (c_X9_write l D cI cC cF cO a_this a_s a_before a_kept a_aside a_order a_rank a_straight a_sorted a_longest a_read a_text v_onWall v_straightMany v_length v_states_6 v_isKept v_at_2 v_cards_3 _ _ _ _ _ _ _ _ hwp) (cwV 5 hts gX9_addAll_X9_write rfl rfl rfl (by decide +kernel) ⟨Nat.le_of_ble_eq_true rfl, Nat.le_of_ble_eq_true rfl⟩) (gPreV (C := RX9) (T := TX9) (N := 18) (ci := 9) hK hX hT hP hD hS hA [0, 1] rfl rfl rfl (qb := 0) rfl) rfl rfl hl.1 rfl (lv_room (Nat.le_of_ble_eq_true rfl)) dX9_addAll_96 ⟨Nat.le_of_ble_eq_true rfl, Nat.le_of_ble_eq_true rfl⟩) hP hD hS hA [0, 1] [2, 3, 4] rfl rfl rfl (by decide) (fun u_15 H locs hwp hP hD hS => ?_)
            have hP : va_P D vwCl [(a_before, .inl (cI, 1264, .inl v_before_7)), (a_read, .inl (cI, 160, .inl v_read_4)), (a_text, .inl (cC, 60, .inl v_text)), (a_this, .inr (9, [.ref a_s, .ref a_before, .ref a_kept, .ref a_aside, .ref a_order, .ref a_rank, .int v_onWall, .ref a_straight, .ref a_sorted, .ref a_longest, .int v_straightMany, .ref a_read, .ref a_text, .int v_length, .int v_states_6, .int v_isKept, .int v_at_2, .int v_cards_3])), (a_s, .inl (cI, 316, .inl u_15))] H := hP
            have hD : va_D A [(a_before, .inl (cI, 1264, .inl v_before_7)), (a_read, .inl (cI, 160, .inl v_read_4)), (a_text, .inl (cC, 60, .inl v_text)), (a_this, .inr (9, [.ref a_s, .ref a_before, .ref a_kept, .ref a_aside, .ref a_order, .ref a_rank, .int v_onWall, .ref a_straight, .ref a_sorted, .ref a_longest, .int v_straightMany, .ref a_read, .ref a_text, .int v_length, .int v_states_6, .int v_isKept, .int v_at_2, .int v_cards_3])), (a_s, .inl (cI, 316, .inl u_15))] := hD
            refine lv_iinc (v := (x2_39 + (1 : Int32))) (lv' := [(2, .int (x2_39 + (1 : Int32))), (0, .ref a_this)]) hx hb dX9_addAll_99 hl (k := 1) rfl rfl (by decide) rfl (fun ls hl => ?_)
            refine lv_goto (tgt := 39) hx hb dX9_addAll_102 (by decide) ?_
            have hP : va_P D vwCl [(a_this, .inr (9, [.ref a_s, .ref a_before, .ref a_kept, .ref a_aside, .ref a_order, .ref a_rank, .int v_onWall, .ref a_straight, .ref a_sorted, .ref a_longest, .int v_straightMany, .ref a_read, .ref a_text, .int v_length, .int v_states_6, .int v_isKept, .int v_at_2, .int v_cards_3])), (a_s, .inl (cI, 316, .inl u_15)), (a_before, .inl (cI, 1264, .inl v_before_7)), (a_read, .inl (cI, 160, .inl v_read_4)), (a_text, .inl (cC, 60, .inl v_text))] H := hP.sub [3, 4, 0, 1, 2] rfl
            have hD : va_D A [(a_this, .inr (9, [.ref a_s, .ref a_before, .ref a_kept, .ref a_aside, .ref a_order, .ref a_rank, .int v_onWall, .ref a_straight, .ref a_sorted, .ref a_longest, .int v_straightMany, .ref a_read, .ref a_text, .int v_length, .int v_states_6, .int v_isKept, .int v_at_2, .int v_cards_3])), (a_s, .inl (cI, 316, .inl u_15)), (a_before, .inl (cI, 1264, .inl v_before_7)), (a_read, .inl (cI, 160, .inl v_read_4)), (a_text, .inl (cC, 60, .inl v_text))] := hD.sub [3, 4, 0, 1, 2] (by decide) rfl
            have hl : lv_has ls 3 [(0, .ref a_this), (2, .int (x2_39 + (1 : Int32)))] := lv_sub hl [1, 0] rfl
            exact ih39 (x2_39 + (1 : Int32)) u_15 (Nat.lt_of_lt_of_le hwp.2 (Nat.le_of_lt_succ hμ39)) hwp.1 _ _ hP hD hS ls hl
      exact hL39 _ (0 : Int32) v_s (Nat.lt_succ_self _) hJ _ _ hP hD hS ls hl
    · have hwp := hwp.2 hc
      refine lv_bipush (v := -3) hx hb dX9_addAll_30 (by decide) ?_
      exact hret (v_states, v_at_2, v_cards_3, v_s, v_before, v_read_4) [2, 0, 1, 3, 4] dX9_addAll_32 hwp rfl rfl hP hD hS
  · have hwp := hwp.2 hc
    refine lv_bipush (v := -100) hx hb dX9_addAll_9 (by decide) ?_
    refine lv_iload_n hx hb dX9_addAll_11 rfl (lv_at hl 0 rfl) ?_
    refine lv_isub hx hb dX9_addAll_12 ?_
    exact hret (v_states, v_at_2, v_cards_3, v_s, v_before, v_read_4) [2, 0, 1, 3, 4] dX9_addAll_13 hwp rfl rfl hP hD hS
abbrev rm_X9_isValue : Room := { frames := 1, cells := 0, slots := 0, locals := 22 }
set_option maxHeartbeats 4000000 in
set_option maxRecDepth 100000 in
theorem c_X9_isValue (l : Launch) (D : va_G) (cI cC cF cO : ClassId)   (sz : Nat) (x0 : Int32) (x1 : Int32)  (post : Int32 → Prop) (hwp : wp_X9_isValue x0 x1 post) : Met l yX9_isValue wsX9_isValue rm_X9_isValue (gPre D (gT cI cC cF cO) [.int x0, .int x1] [] sz) (va_Qi (S := Unit) (fun (r : Int32) (u : Unit) => post r ) (gB D (gT cI cC cF cO) (fun (u : Unit) => []) [] sz) (va_A [] sz)) 0 0 (va_A [] sz) := by
  refine gOfz (own := RX9) (cc := cX9_isValue) (maxL := 2) (ret := (some .boolean)) rfl (by decide) rfl (Nat.le_of_ble_eq_true rfl) rfl ?_
  intro p e s m below meth c A args Q hAe hx hb hr hts hown hml hlocks hname hA hK hX hT hP hD hS hret ls hl
  have hl : lv_has ls 2 [(0, .int x0), (1, .int x1)] := hl
  unfold wp_X9_isValue at hwp
  refine lv_iload_n hx hb dX9_isValue_0 rfl (lv_at hl 0 rfl) ?_
  refine lv_if_ne (tgt := 15) hx hb dX9_isValue_1 (by decide) (fun hc => ?_) (fun hc => ?_)
  · have hwp := hwp.2 hc
    refine lv_iload_n hx hb dX9_isValue_15 rfl (lv_at hl 0 rfl) ?_
    refine lv_iconst (v := 1) hx hb dX9_isValue_16 (by decide) ?_
    refine lv_icmp_ne (tgt := 31) hx hb dX9_isValue_17 (by decide) (fun hc => ?_) (fun hc => ?_)
    · have hwp := hwp.2 hc
      refine lv_iload_n hx hb dX9_isValue_31 rfl (lv_at hl 0 rfl) ?_
      refine lv_iconst (v := 2) hx hb dX9_isValue_32 (by decide) ?_
      refine lv_icmp_ne (tgt := 46) hx hb dX9_isValue_33 (by decide) (fun hc => ?_) (fun hc => ?_)
      · have hwp := hwp.2 hc
        refine lv_iload_n hx hb dX9_isValue_46 rfl (lv_at hl 0 rfl) ?_
        refine lv_iconst (v := 3) hx hb dX9_isValue_47 (by decide) ?_
        refine lv_icmp_ne (tgt := 64) hx hb dX9_isValue_48 (by decide) (fun hc => ?_) (fun hc => ?_)
        · have hwp := hwp.2 hc
          refine lv_iconst (v := 0) hx hb dX9_isValue_64 (by decide) ?_
          exact hret () [] dX9_isValue_65 (Or.inl rfl) hwp rfl rfl hP hD hS
        · have hwp := hwp.1 hc
          refine lv_iload_n hx hb dX9_isValue_51 rfl (lv_at hl 1 rfl) ?_
          refine lv_iconst (v := 0) hx hb dX9_isValue_52 (by decide) ?_
          refine lv_iconst (v := 1) hx hb dX9_isValue_53 (by decide) ?_
          refine gBacki (D := D) (tys := gT cI cC cF cO) (A := A) (wr := []) (w1 := (fun u_2 : Unit => [])) (va_runS (As := [.int x1, .int (0 : Int32), .int (1 : Int32)]) (rest := []) ⟨hx, hb, hml, hown, hts⟩ (c_X9_in l D cI cC cF cO  _ _ _ _ _ hwp) (va_cwS 3 hts gX9_isValue_X9_in rfl rfl rfl (by decide +kernel) ⟨Nat.le_of_ble_eq_true rfl, Nat.le_of_ble_eq_true rfl⟩) (gPreS hK hX hT hP hD hS hA [] rfl rfl) rfl rfl hl.1 rfl (lv_room (Nat.le_of_ble_eq_true rfl)) dX9_isValue_54 ⟨Nat.le_of_ble_eq_true rfl, Nat.le_of_ble_eq_true rfl⟩) hP hD hS hA [] [] rfl rfl rfl (by decide) (fun r_1 u_2 H locs hwp hP hD hS => ?_)
          have hP : va_P D vwCl [] H := hP
          have hD : va_D A [] := hD
          refine lv_if_eq (tgt := 64) hx hb dX9_isValue_57 (by decide) (fun hc => ?_) (fun hc => ?_)
          · have hwp := hwp.1 hc
            refine lv_iconst (v := 0) hx hb dX9_isValue_64 (by decide) ?_
            exact hret () [] dX9_isValue_65 (Or.inl rfl) hwp rfl rfl hP hD hS
          · have hwp := hwp.2 hc
            refine lv_iconst (v := 1) hx hb dX9_isValue_60 (by decide) ?_
            refine lv_goto (tgt := 65) hx hb dX9_isValue_61 (by decide) ?_
            exact hret () [] dX9_isValue_65 (Or.inr rfl) hwp rfl rfl hP hD hS
      · have hwp := hwp.1 hc
        refine lv_iload_n hx hb dX9_isValue_36 rfl (lv_at hl 1 rfl) ?_
        refine lv_iconst (v := 0) hx hb dX9_isValue_37 (by decide) ?_
        refine lv_bipush (v := 100) hx hb dX9_isValue_38 (by decide) ?_
        refine gBacki (D := D) (tys := gT cI cC cF cO) (A := A) (wr := []) (w1 := (fun u_4 : Unit => [])) (va_runS (As := [.int x1, .int (0 : Int32), .int (100 : Int32)]) (rest := []) ⟨hx, hb, hml, hown, hts⟩ (c_X9_in l D cI cC cF cO  _ _ _ _ _ hwp) (va_cwS 3 hts gX9_isValue_X9_in rfl rfl rfl (by decide +kernel) ⟨Nat.le_of_ble_eq_true rfl, Nat.le_of_ble_eq_true rfl⟩) (gPreS hK hX hT hP hD hS hA [] rfl rfl) rfl rfl hl.1 rfl (lv_room (Nat.le_of_ble_eq_true rfl)) dX9_isValue_40 ⟨Nat.le_of_ble_eq_true rfl, Nat.le_of_ble_eq_true rfl⟩) hP hD hS hA [] [] rfl rfl rfl (by decide) (fun r_3 u_4 H locs hwp hP hD hS => ?_)
        have hP : va_P D vwCl [] H := hP
        have hD : va_D A [] := hD
        refine lv_goto (tgt := 65) hx hb dX9_isValue_43 (by decide) ?_
        have hn_5 := hwp.1
        have hwp := hwp.2
        exact hret () [] dX9_isValue_65 hn_5 hwp rfl rfl hP hD hS
    · have hwp := hwp.1 hc
      refine lv_iload_n hx hb dX9_isValue_20 rfl (lv_at hl 1 rfl) ?_
      refine lv_iconst (v := 1) hx hb dX9_isValue_21 (by decide) ?_
      refine lv_sipush (v := 999) hx hb dX9_isValue_22 (by decide) ?_
      refine gBacki (D := D) (tys := gT cI cC cF cO) (A := A) (wr := []) (w1 := (fun u_7 : Unit => [])) (va_runS (As := [.int x1, .int (1 : Int32), .int (999 : Int32)]) (rest := []) ⟨hx, hb, hml, hown, hts⟩ (c_X9_in l D cI cC cF cO  _ _ _ _ _ hwp) (va_cwS 3 hts gX9_isValue_X9_in rfl rfl rfl (by decide +kernel) ⟨Nat.le_of_ble_eq_true rfl, Nat.le_of_ble_eq_true rfl⟩) (gPreS hK hX hT hP hD hS hA [] rfl rfl) rfl rfl hl.1 rfl (lv_room (Nat.le_of_ble_eq_true rfl)) dX9_isValue_25 ⟨Nat.le_of_ble_eq_true rfl, Nat.le_of_ble_eq_true rfl⟩) hP hD hS hA [] [] rfl rfl rfl (by decide) (fun r_6 u_7 H locs hwp hP hD hS => ?_)
      have hP : va_P D vwCl [] H := hP
      have hD : va_D A [] := hD
      refine lv_goto (tgt := 65) hx hb dX9_isValue_28 (by decide) ?_
      have hn_8 := hwp.1
      have hwp := hwp.2
      exact hret () [] dX9_isValue_65 hn_8 hwp rfl rfl hP hD hS
  · have hwp := hwp.1 hc
    refine lv_iload_n hx hb dX9_isValue_4 rfl (lv_at hl 1 rfl) ?_
    refine lv_iconst (v := 0) hx hb dX9_isValue_5 (by decide) ?_
    refine lv_sipush (v := 9999) hx hb dX9_isValue_6 (by decide) ?_
    refine gBacki (D := D) (tys := gT cI cC cF cO) (A := A) (wr := []) (w1 := (fun u_10 : Unit => [])) (va_runS (As := [.int x1, .int (0 : Int32), .int (9999 : Int32)]) (rest := []) ⟨hx, hb, hml, hown, hts⟩ (c_X9_in l D cI cC cF cO  _ _ _ _ _ hwp) (va_cwS 3 hts gX9_isValue_X9_in rfl rfl rfl (by decide +kernel) ⟨Nat.le_of_ble_eq_true rfl, Nat.le_of_ble_eq_true rfl⟩) (gPreS hK hX hT hP hD hS hA [] rfl rfl) rfl rfl hl.1 rfl (lv_room (Nat.le_of_ble_eq_true rfl)) dX9_isValue_9 ⟨Nat.le_of_ble_eq_true rfl, Nat.le_of_ble_eq_true rfl⟩) hP hD hS hA [] [] rfl rfl rfl (by decide) (fun r_9 u_10 H locs hwp hP hD hS => ?_)
    have hP : va_P D vwCl [] H := hP
    have hD : va_D A [] := hD
    refine lv_goto (tgt := 65) hx hb dX9_isValue_12 (by decide) ?_
    have hn_11 := hwp.1
    have hwp := hwp.2
    exact hret () [] dX9_isValue_65 hn_11 hwp rfl rfl hP hD hS
theorem mc_X9_change_9 : ∀ w ∈ u_ws RX9 TX9 18, w ∈ wsX9_change := fun w h => List.mem_cons_of_mem _ (List.mem_append_right _ h)
theorem ml_X9_change_1 : (.fieldLink RX9 7 "StoryWallModel" "s" "[I" : Cond) ∈ wsX9_change := List.mem_of_getElem? (i := 1) rfl
abbrev rm_X9_change : Room := { frames := 2, cells := 0, slots := 0, locals := 43 }
set_option maxHeartbeats 4000000 in
set_option maxRecDepth 100000 in
theorem c_X9_change (l : Launch) (D : va_G) (cI cC cF cO : ClassId) (a_this a_s a_before a_kept a_aside a_order a_rank a_straight a_sorted a_longest a_read a_text : Nat) (v_onWall : Int32) (v_straightMany : Int32) (v_length : Int32) (v_isKept : Int32) (v_at : Int32) (v_cards : Int32) (sz : Nat) (x1 : Int32) (x2 : Int32) (x3 : Int32) (v_states : Int32) (v_s : Nat → Int32) (v_before : Nat → Int32) (post : Int32 → Int32 → (Nat → Int32) → (Nat → Int32) → Prop) (hwp : wp_X9_change x1 x2 x3 v_states v_s v_before post) : Met l yX9_change wsX9_change rm_X9_change (gPre D (gT cI cC cF cO) [.ref a_this, .int x1, .int x2, .int x3] [(a_this, .inr (9, [.ref a_s, .ref a_before, .ref a_kept, .ref a_aside, .ref a_order, .ref a_rank, .int v_onWall, .ref a_straight, .ref a_sorted, .ref a_longest, .int v_straightMany, .ref a_read, .ref a_text, .int v_length, .int v_states, .int v_isKept, .int v_at, .int v_cards])), (a_s, .inl (cI, 316, .inl v_s)), (a_before, .inl (cI, 1264, .inl v_before))] sz) (va_Qi (S := Int32 × (Nat → Int32) × (Nat → Int32)) (fun (r : Int32) (u : Int32 × (Nat → Int32) × (Nat → Int32)) => post r u.1 u.2.1 u.2.2) (gB D (gT cI cC cF cO) (fun (u : Int32 × (Nat → Int32) × (Nat → Int32)) => [(a_this, .inr (9, [.ref a_s, .ref a_before, .ref a_kept, .ref a_aside, .ref a_order, .ref a_rank, .int v_onWall, .ref a_straight, .ref a_sorted, .ref a_longest, .int v_straightMany, .ref a_read, .ref a_text, .int v_length, .int u.1, .int v_isKept, .int v_at, .int v_cards])), (a_s, .inl (cI, 316, .inl u.2.1)), (a_before, .inl (cI, 1264, .inl u.2.2))]) [(a_this, .inr (9, [.ref a_s, .ref a_before, .ref a_kept, .ref a_aside, .ref a_order, .ref a_rank, .int v_onWall, .ref a_straight, .ref a_sorted, .ref a_longest, .int v_straightMany, .ref a_read, .ref a_text, .int v_length, .int v_states, .int v_isKept, .int v_at, .int v_cards])), (a_s, .inl (cI, 316, .inl v_s)), (a_before, .inl (cI, 1264, .inl v_before))] sz) (va_A [(a_this, .inr (9, [.ref a_s, .ref a_before, .ref a_kept, .ref a_aside, .ref a_order, .ref a_rank, .int v_onWall, .ref a_straight, .ref a_sorted, .ref a_longest, .int v_straightMany, .ref a_read, .ref a_text, .int v_length, .int v_states, .int v_isKept, .int v_at, .int v_cards])), (a_s, .inl (cI, 316, .inl v_s)), (a_before, .inl (cI, 1264, .inl v_before))] sz)) 0 0 (va_A [(a_this, .inr (9, [.ref a_s, .ref a_before, .ref a_kept, .ref a_aside, .ref a_order, .ref a_rank, .int v_onWall, .ref a_straight, .ref a_sorted, .ref a_longest, .int v_straightMany, .ref a_read, .ref a_text, .int v_length, .int v_states, .int v_isKept, .int v_at, .int v_cards])), (a_s, .inl (cI, 316, .inl v_s)), (a_before, .inl (cI, 1264, .inl v_before))] sz) := by
  refine gOfi (own := RX9) (cc := cX9_change) (maxL := 5) (ret := (some .int)) rfl (by decide) rfl (Nat.le_of_ble_eq_true rfl) rfl ?_
  intro p e s m below meth c A args Q hAe hx hb hr hts hown hml hlocks hname hA hK hX hT hP hD hS hret ls hl
  have hl : lv_has ls 5 [(0, .ref a_this), (1, .int x1), (2, .int x2), (3, .int x3)] := hl
  unfold wp_X9_change at hwp
  refine lv_aload_n hx hb dX9_change_0 rfl (lv_at hl 0 rfl) ?_
  refine lv_iload_n hx hb dX9_change_1 rfl (lv_at hl 1 rfl) ?_
  refine gBacki (D := D) (tys := gT cI cC cF cO) (A := A) (wr := [(a_before, .inl (cI, 1264, .inl v_before))]) (w1 := (fun u_2 : Unit => [(a_this, .inr (9, [.ref a_s, .ref a_before, .ref a_kept, .ref a_aside, .ref a_order, .ref a_rank, .int v_onWall, .ref a_straight, .ref a_sorted, .ref a_longest, .int v_straightMany, .ref a_read, .ref a_text, .int v_length, .int v_states, .int v_isKept, .int v_at, .int v_cards])), (a_s, .inl (cI, 316, .inl v_s))])) (va_runV (As := [.int x1]) (rest := []) ⟨hx, hb, hml, hown, hts⟩ (c_X9_isCard l D cI cC cF cO a_this a_s a_before a_kept a_aside a_order a_rank a_straight a_sorted a_longest a_read a_text v_onWall v_straightMany v_length v_states v_isKept v_at v_cards _ _ _ _ hwp) (cwV 1 hts gX9_change_X9_isCard rfl rfl rfl (by decide +kernel) ⟨Nat.le_of_ble_eq_true rfl, Nat.le_of_ble_eq_true rfl⟩) (gPreV (C := RX9) (T := TX9) (N := 18) (ci := 9) hK hX hT hP hD hS hA [0, 1] rfl rfl rfl (qb := 0) rfl) rfl rfl hl.1 rfl (lv_room (Nat.le_of_ble_eq_true rfl)) dX9_change_2 ⟨Nat.le_of_ble_eq_true rfl, Nat.le_of_ble_eq_true rfl⟩) hP hD hS hA [0, 1] [2] rfl rfl rfl (by decide) (fun r_1 u_2 H locs hwp hP hD hS => ?_)
  have hP : va_P D vwCl [(a_before, .inl (cI, 1264, .inl v_before)), (a_this, .inr (9, [.ref a_s, .ref a_before, .ref a_kept, .ref a_aside, .ref a_order, .ref a_rank, .int v_onWall, .ref a_straight, .ref a_sorted, .ref a_longest, .int v_straightMany, .ref a_read, .ref a_text, .int v_length, .int v_states, .int v_isKept, .int v_at, .int v_cards])), (a_s, .inl (cI, 316, .inl v_s))] H := hP
  have hD : va_D A [(a_before, .inl (cI, 1264, .inl v_before)), (a_this, .inr (9, [.ref a_s, .ref a_before, .ref a_kept, .ref a_aside, .ref a_order, .ref a_rank, .int v_onWall, .ref a_straight, .ref a_sorted, .ref a_longest, .int v_straightMany, .ref a_read, .ref a_text, .int v_length, .int v_states, .int v_isKept, .int v_at, .int v_cards])), (a_s, .inl (cI, 316, .inl v_s))] := hD
  refine lv_if_ne (tgt := 10) hx hb dX9_change_5 (by decide) (fun hc => ?_) (fun hc => ?_)
  · have hwp := hwp.2 hc
    refine lv_iload_n hx hb dX9_change_10 rfl (lv_at hl 2 rfl) ?_
    refine lv_iload_n hx hb dX9_change_11 rfl (lv_at hl 3 rfl) ?_
    refine gBacki (D := D) (tys := gT cI cC cF cO) (A := A) (wr := [(a_before, .inl (cI, 1264, .inl v_before)), (a_this, .inr (9, [.ref a_s, .ref a_before, .ref a_kept, .ref a_aside, .ref a_order, .ref a_rank, .int v_onWall, .ref a_straight, .ref a_sorted, .ref a_longest, .int v_straightMany, .ref a_read, .ref a_text, .int v_length, .int v_states, .int v_isKept, .int v_at, .int v_cards])), (a_s, .inl (cI, 316, .inl v_s))]) (w1 := (fun u_4 : Unit => [])) (va_runS (As := [.int x2, .int x3]) (rest := []) ⟨hx, hb, hml, hown, hts⟩ (c_X9_isValue l D cI cC cF cO  _ _ _ _ hwp) (va_cwS 2 hts gX9_change_X9_isValue rfl rfl rfl (by decide +kernel) ⟨Nat.le_of_ble_eq_true rfl, Nat.le_of_ble_eq_true rfl⟩) (gPreS hK hX hT hP hD hS hA [] rfl rfl) rfl rfl hl.1 rfl (lv_room (Nat.le_of_ble_eq_true rfl)) dX9_change_12 ⟨Nat.le_of_ble_eq_true rfl, Nat.le_of_ble_eq_true rfl⟩) hP hD hS hA [] [0, 1, 2] rfl rfl rfl (by decide) (fun r_3 u_4 H locs hwp hP hD hS => ?_)
    have hP : va_P D vwCl [(a_before, .inl (cI, 1264, .inl v_before)), (a_this, .inr (9, [.ref a_s, .ref a_before, .ref a_kept, .ref a_aside, .ref a_order, .ref a_rank, .int v_onWall, .ref a_straight, .ref a_sorted, .ref a_longest, .int v_straightMany, .ref a_read, .ref a_text, .int v_length, .int v_states, .int v_isKept, .int v_at, .int v_cards])), (a_s, .inl (cI, 316, .inl v_s))] H := hP
    have hD : va_D A [(a_before, .inl (cI, 1264, .inl v_before)), (a_this, .inr (9, [.ref a_s, .ref a_before, .ref a_kept, .ref a_aside, .ref a_order, .ref a_rank, .int v_onWall, .ref a_straight, .ref a_sorted, .ref a_longest, .int v_straightMany, .ref a_read, .ref a_text, .int v_length, .int v_states, .int v_isKept, .int v_at, .int v_cards])), (a_s, .inl (cI, 316, .inl v_s))] := hD
    refine lv_if_ne (tgt := 21) hx hb dX9_change_15 (by decide) (fun hc => ?_) (fun hc => ?_)
    · have hwp := hwp.2 hc
      refine lv_aload_n hx hb dX9_change_21 rfl (lv_at hl 0 rfl) ?_
      refine lv_iload_n hx hb dX9_change_22 rfl (lv_at hl 1 rfl) ?_
      refine lv_iconst (v := 1) hx hb dX9_change_23 (by decide) ?_
      refine lv_iload_n hx hb dX9_change_24 rfl (lv_at hl 2 rfl) ?_
      refine lv_iadd hx hb dX9_change_25 ?_
      refine gBacki (D := D) (tys := gT cI cC cF cO) (A := A) (wr := [(a_before, .inl (cI, 1264, .inl v_before))]) (w1 := (fun u_6 : Unit => [(a_this, .inr (9, [.ref a_s, .ref a_before, .ref a_kept, .ref a_aside, .ref a_order, .ref a_rank, .int v_onWall, .ref a_straight, .ref a_sorted, .ref a_longest, .int v_straightMany, .ref a_read, .ref a_text, .int v_length, .int v_states, .int v_isKept, .int v_at, .int v_cards])), (a_s, .inl (cI, 316, .inl v_s))])) (va_runV (As := [.int x1, .int ((1 : Int32) + x2)]) (rest := []) ⟨hx, hb, hml, hown, hts⟩ (c_X9_of l D cI cC cF cO a_this a_s a_before a_kept a_aside a_order a_rank a_straight a_sorted a_longest a_read a_text v_onWall v_straightMany v_length v_states v_isKept v_at v_cards _ _ _ _ _ hwp) (cwV 2 hts gX9_change_X9_of rfl rfl rfl (by decide +kernel) ⟨Nat.le_of_ble_eq_true rfl, Nat.le_of_ble_eq_true rfl⟩) (gPreV (C := RX9) (T := TX9) (N := 18) (ci := 9) hK hX hT hP hD hS hA [1, 2] rfl rfl rfl (qb := 1) rfl) rfl rfl hl.1 rfl (lv_room (Nat.le_of_ble_eq_true rfl)) dX9_change_26 ⟨Nat.le_of_ble_eq_true rfl, Nat.le_of_ble_eq_true rfl⟩) hP hD hS hA [1, 2] [0] rfl rfl rfl (by decide) (fun r_5 u_6 H locs hwp hP hD hS => ?_)
      have hP : va_P D vwCl [(a_before, .inl (cI, 1264, .inl v_before)), (a_this, .inr (9, [.ref a_s, .ref a_before, .ref a_kept, .ref a_aside, .ref a_order, .ref a_rank, .int v_onWall, .ref a_straight, .ref a_sorted, .ref a_longest, .int v_straightMany, .ref a_read, .ref a_text, .int v_length, .int v_states, .int v_isKept, .int v_at, .int v_cards])), (a_s, .inl (cI, 316, .inl v_s))] H := hP
      have hD : va_D A [(a_before, .inl (cI, 1264, .inl v_before)), (a_this, .inr (9, [.ref a_s, .ref a_before, .ref a_kept, .ref a_aside, .ref a_order, .ref a_rank, .int v_onWall, .ref a_straight, .ref a_sorted, .ref a_longest, .int v_straightMany, .ref a_read, .ref a_text, .int v_length, .int v_states, .int v_isKept, .int v_at, .int v_cards])), (a_s, .inl (cI, 316, .inl v_s))] := hD
      refine lv_istore (lv' := [(4, .int r_5), (0, .ref a_this), (1, .int x1), (2, .int x2), (3, .int x3)]) hx hb dX9_change_29 hl (by decide) rfl (fun ls hl => ?_)
      refine lv_iload hx hb dX9_change_31 (lv_at hl 0 rfl) ?_
      refine lv_iload_n hx hb dX9_change_33 rfl (lv_at hl 4 rfl) ?_
      refine lv_icmp_ne (tgt := 40) hx hb dX9_change_34 (by decide) (fun hc => ?_) (fun hc => ?_)
      · have hwp := hwp.2 hc
        refine lv_aload_n hx hb dX9_change_40 rfl (lv_at hl 1 rfl) ?_
        refine gBackv (D := D) (tys := gT cI cC cF cO) (A := A) (wr := []) (w1 := (fun u_9 : Int32 × (Nat → Int32) => [(a_this, .inr (9, [.ref a_s, .ref a_before, .ref a_kept, .ref a_aside, .ref a_order, .ref a_rank, .int v_onWall, .ref a_straight, .ref a_sorted, .ref a_longest, .int v_straightMany, .ref a_read, .ref a_text, .int v_length, .int u_9.1, .int v_isKept, .int v_at, .int v_cards])), (a_s, .inl (cI, 316, .inl v_s)), (a_before, .inl (cI, 1264, .inl u_9.2))])) (va_runV (As := []) (rest := []) ⟨hx, hb, hml, hown, hts⟩ (c_X9_record l D cI cC cF cO a_this a_s a_before a_kept a_aside a_order a_rank a_straight a_sorted a_longest a_read a_text v_onWall v_straightMany v_length v_isKept v_at v_cards _ _ _ _ _ hwp) (cwV 0 hts gX9_change_X9_record rfl rfl rfl (by decide +kernel) ⟨Nat.le_of_ble_eq_true rfl, Nat.le_of_ble_eq_true rfl⟩) (gPreV (C := RX9) (T := TX9) (N := 18) (ci := 9) hK hX hT hP hD hS hA [1, 2, 0] rfl rfl rfl (qb := 1) rfl) rfl rfl hl.1 rfl (lv_room (Nat.le_of_ble_eq_true rfl)) dX9_change_41 ⟨Nat.le_of_ble_eq_true rfl, Nat.le_of_ble_eq_true rfl⟩) hP hD hS hA [1, 2, 0] [] rfl rfl rfl (by decide) (fun u_9 H locs hwp hP hD hS => ?_)
        obtain ⟨v_states_7, v_before_8⟩ := u_9
        have hP : va_P D vwCl [(a_this, .inr (9, [.ref a_s, .ref a_before, .ref a_kept, .ref a_aside, .ref a_order, .ref a_rank, .int v_onWall, .ref a_straight, .ref a_sorted, .ref a_longest, .int v_straightMany, .ref a_read, .ref a_text, .int v_length, .int v_states_7, .int v_isKept, .int v_at, .int v_cards])), (a_s, .inl (cI, 316, .inl v_s)), (a_before, .inl (cI, 1264, .inl v_before_8))] H := hP
        have hD : va_D A [(a_this, .inr (9, [.ref a_s, .ref a_before, .ref a_kept, .ref a_aside, .ref a_order, .ref a_rank, .int v_onWall, .ref a_straight, .ref a_sorted, .ref a_longest, .int v_straightMany, .ref a_read, .ref a_text, .int v_length, .int v_states_7, .int v_isKept, .int v_at, .int v_cards])), (a_s, .inl (cI, 316, .inl v_s)), (a_before, .inl (cI, 1264, .inl v_before_8))] := hD
        refine lv_aload_n hx hb dX9_change_44 rfl (lv_at hl 1 rfl) ?_
        refine va_get (D := D) (ci := 9) (v := .ref a_s) (C := RX9) (T := TX9) (N := 18) hx hb hts mc_X9_change_9 hown hK hP 0 rfl rfl 0 (by decide) (hts _ ml_X9_change_1) (fun _ h9 => h9) rfl dX9_change_45 ?_
        refine lv_iconst (v := 4) hx hb dX9_change_48 (by decide) ?_
        refine lv_iconst (v := 5) hx hb dX9_change_49 (by decide) ?_
        refine lv_iload_n hx hb dX9_change_50 rfl (lv_at hl 2 rfl) ?_
        refine lv_imul hx hb dX9_change_51 ?_
        refine lv_iadd hx hb dX9_change_52 ?_
        refine lv_iconst (v := 1) hx hb dX9_change_53 (by decide) ?_
        refine lv_iadd hx hb dX9_change_54 ?_
        refine lv_iload_n hx hb dX9_change_55 rfl (lv_at hl 3 rfl) ?_
        refine lv_iadd hx hb dX9_change_56 ?_
        refine lv_iload_n hx hb dX9_change_57 rfl (lv_at hl 4 rfl) ?_
        have hn_10 := hwp.1
        have hwp := hwp.2
        refine va_iast (D := D) hx hb hK hP hD hS 1 0 rfl rfl hn_10 dX9_change_58 (fun H locs hP hD hS => ?_)
        have hP : va_P D vwCl [(a_this, .inr (9, [.ref a_s, .ref a_before, .ref a_kept, .ref a_aside, .ref a_order, .ref a_rank, .int v_onWall, .ref a_straight, .ref a_sorted, .ref a_longest, .int v_straightMany, .ref a_read, .ref a_text, .int v_length, .int v_states_7, .int v_isKept, .int v_at, .int v_cards])), (a_s, .inl (cI, 316, .inl (upd v_s (((((4 : Int32) + ((5 : Int32) * x1)) + (1 : Int32)) + x2)).toNatClampNeg x3))), (a_before, .inl (cI, 1264, .inl v_before_8))] H := hP
        have hD : va_D A [(a_this, .inr (9, [.ref a_s, .ref a_before, .ref a_kept, .ref a_aside, .ref a_order, .ref a_rank, .int v_onWall, .ref a_straight, .ref a_sorted, .ref a_longest, .int v_straightMany, .ref a_read, .ref a_text, .int v_length, .int v_states_7, .int v_isKept, .int v_at, .int v_cards])), (a_s, .inl (cI, 316, .inl (upd v_s (((((4 : Int32) + ((5 : Int32) * x1)) + (1 : Int32)) + x2)).toNatClampNeg x3))), (a_before, .inl (cI, 1264, .inl v_before_8))] := hD
        refine lv_iload hx hb dX9_change_59 (lv_at hl 0 rfl) ?_
        exact hret (v_states_7, (upd v_s (((((4 : Int32) + ((5 : Int32) * x1)) + (1 : Int32)) + x2)).toNatClampNeg x3), v_before_8) [0, 1, 2] dX9_change_61 hwp rfl rfl hP hD hS
      · have hwp := hwp.1 hc
        refine lv_bipush (v := -5) hx hb dX9_change_37 (by decide) ?_
        exact hret (v_states, v_s, v_before) [1, 2, 0] dX9_change_39 hwp rfl rfl hP hD hS
    · have hwp := hwp.1 hc
      refine lv_bipush (v := -2) hx hb dX9_change_18 (by decide) ?_
      exact hret (v_states, v_s, v_before) [1, 2, 0] dX9_change_20 hwp rfl rfl hP hD hS
  · have hwp := hwp.1 hc
    refine lv_iconst (v := -1) hx hb dX9_change_8 (by decide) ?_
    exact hret (v_states, v_s, v_before) [1, 2, 0] dX9_change_9 hwp rfl rfl hP hD hS
theorem mc_X9_takeOff_9 : ∀ w ∈ u_ws RX9 TX9 18, w ∈ wsX9_takeOff := fun w h => List.mem_cons_of_mem _ (List.mem_append_right _ h)
theorem ml_X9_takeOff_1 : (.fieldLink RX9 7 "StoryWallModel" "s" "[I" : Cond) ∈ wsX9_takeOff := List.mem_of_getElem? (i := 1) rfl
abbrev rm_X9_takeOff : Room := { frames := 2, cells := 0, slots := 0, locals := 44 }
set_option maxHeartbeats 4000000 in
set_option maxRecDepth 100000 in
theorem c_X9_takeOff (l : Launch) (D : va_G) (cI cC cF cO : ClassId) (a_this a_s a_before a_kept a_aside a_order a_rank a_straight a_sorted a_longest a_read a_text : Nat) (v_onWall : Int32) (v_straightMany : Int32) (v_length : Int32) (v_states : Int32) (v_isKept : Int32) (v_at : Int32) (v_cards : Int32) (sz : Nat) (x1 : Int32) (v_s : Nat → Int32) (post : (Nat → Int32) → Prop) (hwp : wp_X9_takeOff x1 v_s post) : Met l yX9_takeOff wsX9_takeOff rm_X9_takeOff (gPre D (gT cI cC cF cO) [.ref a_this, .int x1] [(a_this, .inr (9, [.ref a_s, .ref a_before, .ref a_kept, .ref a_aside, .ref a_order, .ref a_rank, .int v_onWall, .ref a_straight, .ref a_sorted, .ref a_longest, .int v_straightMany, .ref a_read, .ref a_text, .int v_length, .int v_states, .int v_isKept, .int v_at, .int v_cards])), (a_s, .inl (cI, 316, .inl v_s))] sz) (va_Qv (S := (Nat → Int32)) (fun (u : (Nat → Int32)) => post u) (gB D (gT cI cC cF cO) (fun (u : (Nat → Int32)) => [(a_this, .inr (9, [.ref a_s, .ref a_before, .ref a_kept, .ref a_aside, .ref a_order, .ref a_rank, .int v_onWall, .ref a_straight, .ref a_sorted, .ref a_longest, .int v_straightMany, .ref a_read, .ref a_text, .int v_length, .int v_states, .int v_isKept, .int v_at, .int v_cards])), (a_s, .inl (cI, 316, .inl u))]) [(a_this, .inr (9, [.ref a_s, .ref a_before, .ref a_kept, .ref a_aside, .ref a_order, .ref a_rank, .int v_onWall, .ref a_straight, .ref a_sorted, .ref a_longest, .int v_straightMany, .ref a_read, .ref a_text, .int v_length, .int v_states, .int v_isKept, .int v_at, .int v_cards])), (a_s, .inl (cI, 316, .inl v_s))] sz) (va_A [(a_this, .inr (9, [.ref a_s, .ref a_before, .ref a_kept, .ref a_aside, .ref a_order, .ref a_rank, .int v_onWall, .ref a_straight, .ref a_sorted, .ref a_longest, .int v_straightMany, .ref a_read, .ref a_text, .int v_length, .int v_states, .int v_isKept, .int v_at, .int v_cards])), (a_s, .inl (cI, 316, .inl v_s))] sz)) 0 0 (va_A [(a_this, .inr (9, [.ref a_s, .ref a_before, .ref a_kept, .ref a_aside, .ref a_order, .ref a_rank, .int v_onWall, .ref a_straight, .ref a_sorted, .ref a_longest, .int v_straightMany, .ref a_read, .ref a_text, .int v_length, .int v_states, .int v_isKept, .int v_at, .int v_cards])), (a_s, .inl (cI, 316, .inl v_s))] sz) := by
  refine gOfv (own := RX9) (cc := cX9_takeOff) (maxL := 5) (ret := none) rfl (by decide) rfl (Nat.le_of_ble_eq_true rfl) rfl ?_
  intro p e s m below meth c A args Q hAe hx hb hr hts hown hml hlocks hname hA hK hX hT hP hD hS hret ls hl
  have hl : lv_has ls 5 [(0, .ref a_this), (1, .int x1)] := hl
  unfold wp_X9_takeOff at hwp
  refine lv_aload_n hx hb dX9_takeOff_0 rfl (lv_at hl 0 rfl) ?_
  refine lv_iload_n hx hb dX9_takeOff_1 rfl (lv_at hl 1 rfl) ?_
  refine gBacki (D := D) (tys := gT cI cC cF cO) (A := A) (wr := []) (w1 := (fun u_2 : Unit => [(a_this, .inr (9, [.ref a_s, .ref a_before, .ref a_kept, .ref a_aside, .ref a_order, .ref a_rank, .int v_onWall, .ref a_straight, .ref a_sorted, .ref a_longest, .int v_straightMany, .ref a_read, .ref a_text, .int v_length, .int v_states, .int v_isKept, .int v_at, .int v_cards])), (a_s, .inl (cI, 316, .inl v_s))])) (va_runV (As := [.int x1]) (rest := []) ⟨hx, hb, hml, hown, hts⟩ (c_X9_sceneOf l D cI cC cF cO a_this a_s a_before a_kept a_aside a_order a_rank a_straight a_sorted a_longest a_read a_text v_onWall v_straightMany v_length v_states v_isKept v_at v_cards _ _ _ _ hwp) (cwV 1 hts gX9_takeOff_X9_sceneOf rfl rfl rfl (by decide +kernel) ⟨Nat.le_of_ble_eq_true rfl, Nat.le_of_ble_eq_true rfl⟩) (gPreV (C := RX9) (T := TX9) (N := 18) (ci := 9) hK hX hT hP hD hS hA [0, 1] rfl rfl rfl (qb := 0) rfl) rfl rfl hl.1 rfl (lv_room (Nat.le_of_ble_eq_true rfl)) dX9_takeOff_2 ⟨Nat.le_of_ble_eq_true rfl, Nat.le_of_ble_eq_true rfl⟩) hP hD hS hA [0, 1] [] rfl rfl rfl (by decide) (fun r_1 u_2 H locs hwp hP hD hS => ?_)
  have hP : va_P D vwCl [(a_this, .inr (9, [.ref a_s, .ref a_before, .ref a_kept, .ref a_aside, .ref a_order, .ref a_rank, .int v_onWall, .ref a_straight, .ref a_sorted, .ref a_longest, .int v_straightMany, .ref a_read, .ref a_text, .int v_length, .int v_states, .int v_isKept, .int v_at, .int v_cards])), (a_s, .inl (cI, 316, .inl v_s))] H := hP
  have hD : va_D A [(a_this, .inr (9, [.ref a_s, .ref a_before, .ref a_kept, .ref a_aside, .ref a_order, .ref a_rank, .int v_onWall, .ref a_straight, .ref a_sorted, .ref a_longest, .int v_straightMany, .ref a_read, .ref a_text, .int v_length, .int v_states, .int v_isKept, .int v_at, .int v_cards])), (a_s, .inl (cI, 316, .inl v_s))] := hD
  refine lv_istore_n (lv' := [(2, .int r_1), (0, .ref a_this), (1, .int x1)]) hx hb dX9_takeOff_5 rfl hl (by decide) rfl (fun ls hl => ?_)
  refine lv_aload_n hx hb dX9_takeOff_6 rfl (lv_at hl 1 rfl) ?_
  refine lv_iload_n hx hb dX9_takeOff_7 rfl (lv_at hl 2 rfl) ?_
  refine gBacki (D := D) (tys := gT cI cC cF cO) (A := A) (wr := []) (w1 := (fun u_4 : Unit => [(a_this, .inr (9, [.ref a_s, .ref a_before, .ref a_kept, .ref a_aside, .ref a_order, .ref a_rank, .int v_onWall, .ref a_straight, .ref a_sorted, .ref a_longest, .int v_straightMany, .ref a_read, .ref a_text, .int v_length, .int v_states, .int v_isKept, .int v_at, .int v_cards])), (a_s, .inl (cI, 316, .inl v_s))])) (va_runV (As := [.int x1]) (rest := []) ⟨hx, hb, hml, hown, hts⟩ (c_X9_placeOf l D cI cC cF cO a_this a_s a_before a_kept a_aside a_order a_rank a_straight a_sorted a_longest a_read a_text v_onWall v_straightMany v_length v_states v_isKept v_at v_cards _ _ _ _ hwp) (cwV 1 hts gX9_takeOff_X9_placeOf rfl rfl rfl (by decide +kernel) ⟨Nat.le_of_ble_eq_true rfl, Nat.le_of_ble_eq_true rfl⟩) (gPreV (C := RX9) (T := TX9) (N := 18) (ci := 9) hK hX hT hP hD hS hA [0, 1] rfl rfl rfl (qb := 0) rfl) rfl rfl hl.1 rfl (lv_room (Nat.le_of_ble_eq_true rfl)) dX9_takeOff_8 ⟨Nat.le_of_ble_eq_true rfl, Nat.le_of_ble_eq_true rfl⟩) hP hD hS hA [0, 1] [] rfl rfl rfl (by decide) (fun r_3 u_4 H locs hwp hP hD hS => ?_)
  have hP : va_P D vwCl [(a_this, .inr (9, [.ref a_s, .ref a_before, .ref a_kept, .ref a_aside, .ref a_order, .ref a_rank, .int v_onWall, .ref a_straight, .ref a_sorted, .ref a_longest, .int v_straightMany, .ref a_read, .ref a_text, .int v_length, .int v_states, .int v_isKept, .int v_at, .int v_cards])), (a_s, .inl (cI, 316, .inl v_s))] H := hP
  have hD : va_D A [(a_this, .inr (9, [.ref a_s, .ref a_before, .ref a_kept, .ref a_aside, .ref a_order, .ref a_rank, .int v_onWall, .ref a_straight, .ref a_sorted, .ref a_longest, .int v_straightMany, .ref a_read, .ref a_text, .int v_length, .int v_states, .int v_isKept, .int v_at, .int v_cards])), (a_s, .inl (cI, 316, .inl v_s))] := hD
  refine lv_istore_n (lv' := [(3, .int r_3), (2, .int r_1), (0, .ref a_this), (1, .int x1)]) hx hb dX9_takeOff_11 rfl hl (by decide) rfl (fun ls hl => ?_)
  refine lv_iload_n hx hb dX9_takeOff_12 rfl (lv_at hl 1 rfl) ?_
  refine lv_bipush (v := -5) hx hb dX9_takeOff_13 (by decide) ?_
  refine lv_icmp_eq (tgt := 82) hx hb dX9_takeOff_15 (by decide) (fun hc => ?_) (fun hc => ?_)
  · have hwp := hwp.1 hc
    exact hret v_s [0, 1] dX9_takeOff_82 hwp rfl rfl hP hD hS
  · have hwp := hwp.2 hc
    refine lv_aload_n hx hb dX9_takeOff_18 rfl (lv_at hl 2 rfl) ?_
    refine va_get (D := D) (ci := 9) (v := .ref a_s) (C := RX9) (T := TX9) (N := 18) hx hb hts mc_X9_takeOff_9 hown hK hP 0 rfl rfl 0 (by decide) (hts _ ml_X9_takeOff_1) (fun _ h9 => h9) rfl dX9_takeOff_19 ?_
    refine lv_iload_n hx hb dX9_takeOff_22 rfl (lv_at hl 1 rfl) ?_
    refine gBacki (D := D) (tys := gT cI cC cF cO) (A := A) (wr := [(a_this, .inr (9, [.ref a_s, .ref a_before, .ref a_kept, .ref a_aside, .ref a_order, .ref a_rank, .int v_onWall, .ref a_straight, .ref a_sorted, .ref a_longest, .int v_straightMany, .ref a_read, .ref a_text, .int v_length, .int v_states, .int v_isKept, .int v_at, .int v_cards])), (a_s, .inl (cI, 316, .inl v_s))]) (w1 := (fun u_6 : Unit => [])) (va_runS (As := [.int r_1]) (rest := [.ref a_s]) ⟨hx, hb, hml, hown, hts⟩ (c_X9_row l D cI cC cF cO  _ _ _ hwp) (va_cwS 1 hts gX9_takeOff_X9_row rfl rfl rfl (by decide +kernel) ⟨Nat.le_of_ble_eq_true rfl, Nat.le_of_ble_eq_true rfl⟩) (gPreS hK hX hT hP hD hS hA [] rfl rfl) rfl rfl hl.1 rfl (lv_room (Nat.le_of_ble_eq_true rfl)) dX9_takeOff_23 ⟨Nat.le_of_ble_eq_true rfl, Nat.le_of_ble_eq_true rfl⟩) hP hD hS hA [] [0, 1] rfl rfl rfl (by decide) (fun r_5 u_6 H locs hwp hP hD hS => ?_)
    have hP : va_P D vwCl [(a_this, .inr (9, [.ref a_s, .ref a_before, .ref a_kept, .ref a_aside, .ref a_order, .ref a_rank, .int v_onWall, .ref a_straight, .ref a_sorted, .ref a_longest, .int v_straightMany, .ref a_read, .ref a_text, .int v_length, .int v_states, .int v_isKept, .int v_at, .int v_cards])), (a_s, .inl (cI, 316, .inl v_s))] H := hP
    have hD : va_D A [(a_this, .inr (9, [.ref a_s, .ref a_before, .ref a_kept, .ref a_aside, .ref a_order, .ref a_rank, .int v_onWall, .ref a_straight, .ref a_sorted, .ref a_longest, .int v_straightMany, .ref a_read, .ref a_text, .int v_length, .int v_states, .int v_isKept, .int v_at, .int v_cards])), (a_s, .inl (cI, 316, .inl v_s))] := hD
    refine lv_dup2_11 hx hb dX9_takeOff_26 rfl rfl ?_
    have hn_7 := hwp.1
    have hwp := hwp.2
    refine va_iald (D := D) hx hb hK hP 1 0 rfl rfl hn_7 dX9_takeOff_27 ?_
    refine lv_iconst (v := 1) hx hb dX9_takeOff_28 (by decide) ?_
    refine lv_isub hx hb dX9_takeOff_29 ?_
    have hn_8 := hwp.1
    have hwp := hwp.2
    refine va_iast (D := D) hx hb hK hP hD hS 1 0 rfl rfl hn_8 dX9_takeOff_30 (fun H locs hP hD hS => ?_)
    have hP : va_P D vwCl [(a_this, .inr (9, [.ref a_s, .ref a_before, .ref a_kept, .ref a_aside, .ref a_order, .ref a_rank, .int v_onWall, .ref a_straight, .ref a_sorted, .ref a_longest, .int v_straightMany, .ref a_read, .ref a_text, .int v_length, .int v_states, .int v_isKept, .int v_at, .int v_cards])), (a_s, .inl (cI, 316, .inl (upd v_s (r_5).toNatClampNeg ((v_s (r_5).toNatClampNeg) - (1 : Int32)))))] H := hP
    have hD : va_D A [(a_this, .inr (9, [.ref a_s, .ref a_before, .ref a_kept, .ref a_aside, .ref a_order, .ref a_rank, .int v_onWall, .ref a_straight, .ref a_sorted, .ref a_longest, .int v_straightMany, .ref a_read, .ref a_text, .int v_length, .int v_states, .int v_isKept, .int v_at, .int v_cards])), (a_s, .inl (cI, 316, .inl (upd v_s (r_5).toNatClampNeg ((v_s (r_5).toNatClampNeg) - (1 : Int32)))))] := hD
    refine lv_iload_n hx hb dX9_takeOff_31 rfl (lv_at hl 0 rfl) ?_
    refine lv_istore (lv' := [(4, .int r_3), (3, .int r_3), (2, .int r_1), (0, .ref a_this), (1, .int x1)]) hx hb dX9_takeOff_32 hl (by decide) rfl (fun ls hl => ?_)
    have hl : lv_has ls 5 [(0, .ref a_this), (2, .int r_1), (4, .int r_3)] := lv_sub hl [3, 2, 0] rfl
    unfold wp_X9_takeOff_l34 at hwp
    obtain ⟨J34, μ34, hJ, hst34⟩ := hwp
    have hL34 : ∀ (n : Nat) (x4_34 : Int32) (v_s_34 : Nat → Int32), μ34 x4_34 v_s_34 < n → J34 x4_34 v_s_34 → ∀ (H : Heap) (locs : List Loc), va_P D vwCl [(a_this, .inr (9, [.ref a_s, .ref a_before, .ref a_kept, .ref a_aside, .ref a_order, .ref a_rank, .int v_onWall, .ref a_straight, .ref a_sorted, .ref a_longest, .int v_straightMany, .ref a_read, .ref a_text, .int v_length, .int v_states, .int v_isKept, .int v_at, .int v_cards])), (a_s, .inl (cI, 316, .inl v_s_34))] H → va_D A [(a_this, .inr (9, [.ref a_s, .ref a_before, .ref a_kept, .ref a_aside, .ref a_order, .ref a_rank, .int v_onWall, .ref a_straight, .ref a_sorted, .ref a_longest, .int v_straightMany, .ref a_read, .ref a_text, .int v_length, .int v_states, .int v_isKept, .int v_at, .int v_cards])), (a_s, .inl (cI, 316, .inl v_s_34))] → va_S A s.heap H locs → ∀ ls : Array Slot, lv_has ls 5 [(0, .ref a_this), (2, .int r_1), (4, .int x4_34)] → W p l e rm_X9_takeOff s m args below meth c H locs 0 0 Q (F0 m 34 ls []) := by
      intro n
      induction n with
      | zero => intro x4_34 v_s_34 h; exact absurd h (Nat.not_lt_zero _)
      | succ n ih34 =>
        intro x4_34 v_s_34 hμ34 hJ H locs hP hD hS ls hl
        have hwp := hst34 x4_34 v_s_34 hJ
        refine lv_iload hx hb dX9_takeOff_34 (lv_at hl 2 rfl) ?_
        refine lv_aload_n hx hb dX9_takeOff_36 rfl (lv_at hl 0 rfl) ?_
        refine va_get (D := D) (ci := 9) (v := .ref a_s) (C := RX9) (T := TX9) (N := 18) hx hb hts mc_X9_takeOff_9 hown hK hP 0 rfl rfl 0 (by decide) (hts _ ml_X9_takeOff_1) (fun _ h9 => h9) rfl dX9_takeOff_37 ?_
        refine lv_iload_n hx hb dX9_takeOff_40 rfl (lv_at hl 1 rfl) ?_
        refine gBacki (D := D) (tys := gT cI cC cF cO) (A := A) (wr := [(a_this, .inr (9, [.ref a_s, .ref a_before, .ref a_kept, .ref a_aside, .ref a_order, .ref a_rank, .int v_onWall, .ref a_straight, .ref a_sorted, .ref a_longest, .int v_straightMany, .ref a_read, .ref a_text, .int v_length, .int v_states, .int v_isKept, .int v_at, .int v_cards])), (a_s, .inl (cI, 316, .inl v_s_34))]) (w1 := (fun u_10 : Unit => [])) (va_runS (As := [.int r_1]) (rest := [.ref a_s, .int x4_34]) ⟨hx, hb, hml, hown, hts⟩ (c_X9_row l D cI cC cF cO  _ _ _ hwp) (va_cwS 1 hts gX9_takeOff_X9_row rfl rfl rfl (by decide +kernel) ⟨Nat.le_of_ble_eq_true rfl, Nat.le_of_ble_eq_true rfl⟩) (gPreS hK hX hT hP hD hS hA [] rfl rfl) rfl rfl hl.1 rfl (lv_room (Nat.le_of_ble_eq_true rfl)) dX9_takeOff_41 ⟨Nat.le_of_ble_eq_true rfl, Nat.le_of_ble_eq_true rfl⟩) hP hD hS hA [] [0, 1] rfl rfl rfl (by decide) (fun r_9 u_10 H locs hwp hP hD hS => ?_)
        have hP : va_P D vwCl [(a_this, .inr (9, [.ref a_s, .ref a_before, .ref a_kept, .ref a_aside, .ref a_order, .ref a_rank, .int v_onWall, .ref a_straight, .ref a_sorted, .ref a_longest, .int v_straightMany, .ref a_read, .ref a_text, .int v_length, .int v_states, .int v_isKept, .int v_at, .int v_cards])), (a_s, .inl (cI, 316, .inl v_s_34))] H := hP
        have hD : va_D A [(a_this, .inr (9, [.ref a_s, .ref a_before, .ref a_kept, .ref a_aside, .ref a_order, .ref a_rank, .int v_onWall, .ref a_straight, .ref a_sorted, .ref a_longest, .int v_straightMany, .ref a_read, .ref a_text, .int v_length, .int v_states, .int v_isKept, .int v_at, .int v_cards])), (a_s, .inl (cI, 316, .inl v_s_34))] := hD
        have hn_11 := hwp.1
        have hwp := hwp.2
        refine va_iald (D := D) hx hb hK hP 1 0 rfl rfl hn_11 dX9_takeOff_44 ?_
        refine lv_icmp_ge (tgt := 82) hx hb dX9_takeOff_45 (by decide) (fun hc => ?_) (fun hc => ?_)
        · have hwp := hwp.1 hc
          exact hret v_s_34 [0, 1] dX9_takeOff_82 hwp rfl rfl hP hD hS
        · have hwp := hwp.2 hc
          refine lv_aload_n hx hb dX9_takeOff_48 rfl (lv_at hl 0 rfl) ?_
          refine va_get (D := D) (ci := 9) (v := .ref a_s) (C := RX9) (T := TX9) (N := 18) hx hb hts mc_X9_takeOff_9 hown hK hP 0 rfl rfl 0 (by decide) (hts _ ml_X9_takeOff_1) (fun _ h9 => h9) rfl dX9_takeOff_49 ?_
          refine lv_iload_n hx hb dX9_takeOff_52 rfl (lv_at hl 1 rfl) ?_
          refine gBacki (D := D) (tys := gT cI cC cF cO) (A := A) (wr := [(a_this, .inr (9, [.ref a_s, .ref a_before, .ref a_kept, .ref a_aside, .ref a_order, .ref a_rank, .int v_onWall, .ref a_straight, .ref a_sorted, .ref a_longest, .int v_straightMany, .ref a_read, .ref a_text, .int v_length, .int v_states, .int v_isKept, .int v_at, .int v_cards])), (a_s, .inl (cI, 316, .inl v_s_34))]) (w1 := (fun u_13 : Unit => [])) (va_runS (As := [.int r_1]) (rest := [.ref a_s]) ⟨hx, hb, hml, hown, hts⟩ (c_X9_row l D cI cC cF cO  _ _ _ hwp) (va_cwS 1 hts gX9_takeOff_X9_row rfl rfl rfl (by decide +kernel) ⟨Nat.le_of_ble_eq_true rfl, Nat.le_of_ble_eq_true rfl⟩) (gPreS hK hX hT hP hD hS hA [] rfl rfl) rfl rfl hl.1 rfl (lv_room (Nat.le_of_ble_eq_true rfl)) dX9_takeOff_53 ⟨Nat.le_of_ble_eq_true rfl, Nat.le_of_ble_eq_true rfl⟩) hP hD hS hA [] [0, 1] rfl rfl rfl (by decide) (fun r_12 u_13 H locs hwp hP hD hS => ?_)
          have hP : va_P D vwCl [(a_this, .inr (9, [.ref a_s, .ref a_before, .ref a_kept, .ref a_aside, .ref a_order, .ref a_rank, .int v_onWall, .ref a_straight, .ref a_sorted, .ref a_longest, .int v_straightMany, .ref a_read, .ref a_text, .int v_length, .int v_states, .int v_isKept, .int v_at, .int v_cards])), (a_s, .inl (cI, 316, .inl v_s_34))] H := hP
          have hD : va_D A [(a_this, .inr (9, [.ref a_s, .ref a_before, .ref a_kept, .ref a_aside, .ref a_order, .ref a_rank, .int v_onWall, .ref a_straight, .ref a_sorted, .ref a_longest, .int v_straightMany, .ref a_read, .ref a_text, .int v_length, .int v_states, .int v_isKept, .int v_at, .int v_cards])), (a_s, .inl (cI, 316, .inl v_s_34))] := hD
          refine lv_iconst (v := 1) hx hb dX9_takeOff_56 (by decide) ?_
          refine lv_iadd hx hb dX9_takeOff_57 ?_
          refine lv_iload hx hb dX9_takeOff_58 (lv_at hl 2 rfl) ?_
          refine lv_iadd hx hb dX9_takeOff_60 ?_
          refine lv_aload_n hx hb dX9_takeOff_61 rfl (lv_at hl 0 rfl) ?_
          refine va_get (D := D) (ci := 9) (v := .ref a_s) (C := RX9) (T := TX9) (N := 18) hx hb hts mc_X9_takeOff_9 hown hK hP 0 rfl rfl 0 (by decide) (hts _ ml_X9_takeOff_1) (fun _ h9 => h9) rfl dX9_takeOff_62 ?_
          refine lv_iload_n hx hb dX9_takeOff_65 rfl (lv_at hl 1 rfl) ?_
          refine gBacki (D := D) (tys := gT cI cC cF cO) (A := A) (wr := [(a_this, .inr (9, [.ref a_s, .ref a_before, .ref a_kept, .ref a_aside, .ref a_order, .ref a_rank, .int v_onWall, .ref a_straight, .ref a_sorted, .ref a_longest, .int v_straightMany, .ref a_read, .ref a_text, .int v_length, .int v_states, .int v_isKept, .int v_at, .int v_cards])), (a_s, .inl (cI, 316, .inl v_s_34))]) (w1 := (fun u_15 : Unit => [])) (va_runS (As := [.int r_1]) (rest := [.ref a_s, .int ((r_12 + (1 : Int32)) + x4_34), .ref a_s]) ⟨hx, hb, hml, hown, hts⟩ (c_X9_row l D cI cC cF cO  _ _ _ hwp) (va_cwS 1 hts gX9_takeOff_X9_row rfl rfl rfl (by decide +kernel) ⟨Nat.le_of_ble_eq_true rfl, Nat.le_of_ble_eq_true rfl⟩) (gPreS hK hX hT hP hD hS hA [] rfl rfl) rfl rfl hl.1 rfl (lv_room (Nat.le_of_ble_eq_true rfl)) dX9_takeOff_66 ⟨Nat.le_of_ble_eq_true rfl, Nat.le_of_ble_eq_true rfl⟩) hP hD hS hA [] [0, 1] rfl rfl rfl (by decide) (fun r_14 u_15 H locs hwp hP hD hS => ?_)
          have hP : va_P D vwCl [(a_this, .inr (9, [.ref a_s, .ref a_before, .ref a_kept, .ref a_aside, .ref a_order, .ref a_rank, .int v_onWall, .ref a_straight, .ref a_sorted, .ref a_longest, .int v_straightMany, .ref a_read, .ref a_text, .int v_length, .int v_states, .int v_isKept, .int v_at, .int v_cards])), (a_s, .inl (cI, 316, .inl v_s_34))] H := hP
          have hD : va_D A [(a_this, .inr (9, [.ref a_s, .ref a_before, .ref a_kept, .ref a_aside, .ref a_order, .ref a_rank, .int v_onWall, .ref a_straight, .ref a_sorted, .ref a_longest, .int v_straightMany, .ref a_read, .ref a_text, .int v_length, .int v_states, .int v_isKept, .int v_at, .int v_cards])), (a_s, .inl (cI, 316, .inl v_s_34))] := hD
          refine lv_iconst (v := 2) hx hb dX9_takeOff_69 (by decide) ?_
          refine lv_iadd hx hb dX9_takeOff_70 ?_
          refine lv_iload hx hb dX9_takeOff_71 (lv_at hl 2 rfl) ?_
          refine lv_iadd hx hb dX9_takeOff_73 ?_
          have hn_16 := hwp.1
          have hwp := hwp.2
          refine va_iald (D := D) hx hb hK hP 1 0 rfl rfl hn_16 dX9_takeOff_74 ?_
          have hn_17 := hwp.1
          have hwp := hwp.2
          refine va_iast (D := D) hx hb hK hP hD hS 1 0 rfl rfl hn_17 dX9_takeOff_75 (fun H locs hP hD hS => ?_)
          have hP : va_P D vwCl [(a_this, .inr (9, [.ref a_s, .ref a_before, .ref a_kept, .ref a_aside, .ref a_order, .ref a_rank, .int v_onWall, .ref a_straight, .ref a_sorted, .ref a_longest, .int v_straightMany, .ref a_read, .ref a_text, .int v_length, .int v_states, .int v_isKept, .int v_at, .int v_cards])), (a_s, .inl (cI, 316, .inl (upd v_s_34 (((r_12 + (1 : Int32)) + x4_34)).toNatClampNeg (v_s_34 (((r_14 + (2 : Int32)) + x4_34)).toNatClampNeg))))] H := hP
          have hD : va_D A [(a_this, .inr (9, [.ref a_s, .ref a_before, .ref a_kept, .ref a_aside, .ref a_order, .ref a_rank, .int v_onWall, .ref a_straight, .ref a_sorted, .ref a_longest, .int v_straightMany, .ref a_read, .ref a_text, .int v_length, .int v_states, .int v_isKept, .int v_at, .int v_cards])), (a_s, .inl (cI, 316, .inl (upd v_s_34 (((r_12 + (1 : Int32)) + x4_34)).toNatClampNeg (v_s_34 (((r_14 + (2 : Int32)) + x4_34)).toNatClampNeg))))] := hD
          refine lv_iinc (v := (x4_34 + (1 : Int32))) (lv' := [(4, .int (x4_34 + (1 : Int32))), (0, .ref a_this), (2, .int r_1)]) hx hb dX9_takeOff_76 hl (k := 2) rfl rfl (by decide) rfl (fun ls hl => ?_)
          refine lv_goto (tgt := 34) hx hb dX9_takeOff_79 (by decide) ?_
          have hl : lv_has ls 5 [(0, .ref a_this), (2, .int r_1), (4, .int (x4_34 + (1 : Int32)))] := lv_sub hl [1, 2, 0] rfl
          exact ih34 (x4_34 + (1 : Int32)) (upd v_s_34 (((r_12 + (1 : Int32)) + x4_34)).toNatClampNeg (v_s_34 (((r_14 + (2 : Int32)) + x4_34)).toNatClampNeg)) (Nat.lt_of_lt_of_le hwp.2 (Nat.le_of_lt_succ hμ34)) hwp.1 _ _ hP hD hS ls hl
    exact hL34 _ r_3 (upd v_s (r_5).toNatClampNeg ((v_s (r_5).toNatClampNeg) - (1 : Int32))) (Nat.lt_succ_self _) hJ _ _ hP hD hS ls hl
theorem mc_X9_putAt_9 : ∀ w ∈ u_ws RX9 TX9 18, w ∈ wsX9_putAt := fun w h => List.mem_cons_of_mem _ (List.mem_append_right _ h)
theorem ml_X9_putAt_1 : (.fieldLink RX9 7 "StoryWallModel" "s" "[I" : Cond) ∈ wsX9_putAt := List.mem_of_getElem? (i := 1) rfl
abbrev rm_X9_putAt : Room := { frames := 1, cells := 0, slots := 0, locals := 20 }
set_option maxHeartbeats 4000000 in
set_option maxRecDepth 100000 in
theorem c_X9_putAt (l : Launch) (D : va_G) (cI cC cF cO : ClassId) (a_this a_s a_before a_kept a_aside a_order a_rank a_straight a_sorted a_longest a_read a_text : Nat) (v_onWall : Int32) (v_straightMany : Int32) (v_length : Int32) (v_states : Int32) (v_isKept : Int32) (v_at : Int32) (v_cards : Int32) (sz : Nat) (x1 : Int32) (x2 : Int32) (x3 : Int32) (v_s : Nat → Int32) (post : (Nat → Int32) → Prop) (hwp : wp_X9_putAt x1 x2 x3 v_s post) : Met l yX9_putAt wsX9_putAt rm_X9_putAt (gPre D (gT cI cC cF cO) [.ref a_this, .int x1, .int x2, .int x3] [(a_this, .inr (9, [.ref a_s, .ref a_before, .ref a_kept, .ref a_aside, .ref a_order, .ref a_rank, .int v_onWall, .ref a_straight, .ref a_sorted, .ref a_longest, .int v_straightMany, .ref a_read, .ref a_text, .int v_length, .int v_states, .int v_isKept, .int v_at, .int v_cards])), (a_s, .inl (cI, 316, .inl v_s))] sz) (va_Qv (S := (Nat → Int32)) (fun (u : (Nat → Int32)) => post u) (gB D (gT cI cC cF cO) (fun (u : (Nat → Int32)) => [(a_this, .inr (9, [.ref a_s, .ref a_before, .ref a_kept, .ref a_aside, .ref a_order, .ref a_rank, .int v_onWall, .ref a_straight, .ref a_sorted, .ref a_longest, .int v_straightMany, .ref a_read, .ref a_text, .int v_length, .int v_states, .int v_isKept, .int v_at, .int v_cards])), (a_s, .inl (cI, 316, .inl u))]) [(a_this, .inr (9, [.ref a_s, .ref a_before, .ref a_kept, .ref a_aside, .ref a_order, .ref a_rank, .int v_onWall, .ref a_straight, .ref a_sorted, .ref a_longest, .int v_straightMany, .ref a_read, .ref a_text, .int v_length, .int v_states, .int v_isKept, .int v_at, .int v_cards])), (a_s, .inl (cI, 316, .inl v_s))] sz) (va_A [(a_this, .inr (9, [.ref a_s, .ref a_before, .ref a_kept, .ref a_aside, .ref a_order, .ref a_rank, .int v_onWall, .ref a_straight, .ref a_sorted, .ref a_longest, .int v_straightMany, .ref a_read, .ref a_text, .int v_length, .int v_states, .int v_isKept, .int v_at, .int v_cards])), (a_s, .inl (cI, 316, .inl v_s))] sz)) 0 0 (va_A [(a_this, .inr (9, [.ref a_s, .ref a_before, .ref a_kept, .ref a_aside, .ref a_order, .ref a_rank, .int v_onWall, .ref a_straight, .ref a_sorted, .ref a_longest, .int v_straightMany, .ref a_read, .ref a_text, .int v_length, .int v_states, .int v_isKept, .int v_at, .int v_cards])), (a_s, .inl (cI, 316, .inl v_s))] sz) := by
  refine gOfv (own := RX9) (cc := cX9_putAt) (maxL := 5) (ret := none) rfl (by decide) rfl (Nat.le_of_ble_eq_true rfl) rfl ?_
  intro p e s m below meth c A args Q hAe hx hb hr hts hown hml hlocks hname hA hK hX hT hP hD hS hret ls hl
  have hl : lv_has ls 5 [(0, .ref a_this), (1, .int x1), (2, .int x2), (3, .int x3)] := hl
  unfold wp_X9_putAt at hwp
  refine lv_aload_n hx hb dX9_putAt_0 rfl (lv_at hl 0 rfl) ?_
  refine va_get (D := D) (ci := 9) (v := .ref a_s) (C := RX9) (T := TX9) (N := 18) hx hb hts mc_X9_putAt_9 hown hK hP 0 rfl rfl 0 (by decide) (hts _ ml_X9_putAt_1) (fun _ h9 => h9) rfl dX9_putAt_1 ?_
  refine lv_iload_n hx hb dX9_putAt_4 rfl (lv_at hl 2 rfl) ?_
  refine gBacki (D := D) (tys := gT cI cC cF cO) (A := A) (wr := [(a_this, .inr (9, [.ref a_s, .ref a_before, .ref a_kept, .ref a_aside, .ref a_order, .ref a_rank, .int v_onWall, .ref a_straight, .ref a_sorted, .ref a_longest, .int v_straightMany, .ref a_read, .ref a_text, .int v_length, .int v_states, .int v_isKept, .int v_at, .int v_cards])), (a_s, .inl (cI, 316, .inl v_s))]) (w1 := (fun u_2 : Unit => [])) (va_runS (As := [.int x2]) (rest := [.ref a_s]) ⟨hx, hb, hml, hown, hts⟩ (c_X9_row l D cI cC cF cO  _ _ _ hwp) (va_cwS 1 hts gX9_putAt_X9_row rfl rfl rfl (by decide +kernel) ⟨Nat.le_of_ble_eq_true rfl, Nat.le_of_ble_eq_true rfl⟩) (gPreS hK hX hT hP hD hS hA [] rfl rfl) rfl rfl hl.1 rfl (lv_room (Nat.le_of_ble_eq_true rfl)) dX9_putAt_5 ⟨Nat.le_of_ble_eq_true rfl, Nat.le_of_ble_eq_true rfl⟩) hP hD hS hA [] [0, 1] rfl rfl rfl (by decide) (fun r_1 u_2 H locs hwp hP hD hS => ?_)
  have hP : va_P D vwCl [(a_this, .inr (9, [.ref a_s, .ref a_before, .ref a_kept, .ref a_aside, .ref a_order, .ref a_rank, .int v_onWall, .ref a_straight, .ref a_sorted, .ref a_longest, .int v_straightMany, .ref a_read, .ref a_text, .int v_length, .int v_states, .int v_isKept, .int v_at, .int v_cards])), (a_s, .inl (cI, 316, .inl v_s))] H := hP
  have hD : va_D A [(a_this, .inr (9, [.ref a_s, .ref a_before, .ref a_kept, .ref a_aside, .ref a_order, .ref a_rank, .int v_onWall, .ref a_straight, .ref a_sorted, .ref a_longest, .int v_straightMany, .ref a_read, .ref a_text, .int v_length, .int v_states, .int v_isKept, .int v_at, .int v_cards])), (a_s, .inl (cI, 316, .inl v_s))] := hD
  have hn_3 := hwp.1
  have hwp := hwp.2
  refine va_iald (D := D) hx hb hK hP 1 0 rfl rfl hn_3 dX9_putAt_8 ?_
  refine lv_istore (lv' := [(4, .int (v_s (r_1).toNatClampNeg)), (0, .ref a_this), (1, .int x1), (2, .int x2), (3, .int x3)]) hx hb dX9_putAt_9 hl (by decide) rfl (fun ls hl => ?_)
  have hl : lv_has ls 5 [(0, .ref a_this), (1, .int x1), (2, .int x2), (3, .int x3), (4, .int (v_s (r_1).toNatClampNeg))] := lv_sub hl [1, 2, 3, 4, 0] rfl
  unfold wp_X9_putAt_l11 at hwp
  obtain ⟨J11, μ11, hJ, hst11⟩ := hwp
  have hL11 : ∀ (n : Nat) (x4_11 : Int32) (v_s_11 : Nat → Int32), μ11 x4_11 v_s_11 < n → J11 x4_11 v_s_11 → ∀ (H : Heap) (locs : List Loc), va_P D vwCl [(a_this, .inr (9, [.ref a_s, .ref a_before, .ref a_kept, .ref a_aside, .ref a_order, .ref a_rank, .int v_onWall, .ref a_straight, .ref a_sorted, .ref a_longest, .int v_straightMany, .ref a_read, .ref a_text, .int v_length, .int v_states, .int v_isKept, .int v_at, .int v_cards])), (a_s, .inl (cI, 316, .inl v_s_11))] H → va_D A [(a_this, .inr (9, [.ref a_s, .ref a_before, .ref a_kept, .ref a_aside, .ref a_order, .ref a_rank, .int v_onWall, .ref a_straight, .ref a_sorted, .ref a_longest, .int v_straightMany, .ref a_read, .ref a_text, .int v_length, .int v_states, .int v_isKept, .int v_at, .int v_cards])), (a_s, .inl (cI, 316, .inl v_s_11))] → va_S A s.heap H locs → ∀ ls : Array Slot, lv_has ls 5 [(0, .ref a_this), (1, .int x1), (2, .int x2), (3, .int x3), (4, .int x4_11)] → W p l e rm_X9_putAt s m args below meth c H locs 0 0 Q (F0 m 11 ls []) := by
    intro n
    induction n with
    | zero => intro x4_11 v_s_11 h; exact absurd h (Nat.not_lt_zero _)
    | succ n ih11 =>
      intro x4_11 v_s_11 hμ11 hJ H locs hP hD hS ls hl
      have hwp := hst11 x4_11 v_s_11 hJ
      refine lv_iload hx hb dX9_putAt_11 (lv_at hl 4 rfl) ?_
      refine lv_iload_n hx hb dX9_putAt_13 rfl (lv_at hl 3 rfl) ?_
      refine lv_icmp_le (tgt := 49) hx hb dX9_putAt_14 (by decide) (fun hc => ?_) (fun hc => ?_)
      · have hwp := hwp.1 hc
        refine lv_aload_n hx hb dX9_putAt_49 rfl (lv_at hl 0 rfl) ?_
        refine va_get (D := D) (ci := 9) (v := .ref a_s) (C := RX9) (T := TX9) (N := 18) hx hb hts mc_X9_putAt_9 hown hK hP 0 rfl rfl 0 (by decide) (hts _ ml_X9_putAt_1) (fun _ h9 => h9) rfl dX9_putAt_50 ?_
        refine lv_iload_n hx hb dX9_putAt_53 rfl (lv_at hl 2 rfl) ?_
        refine gBacki (D := D) (tys := gT cI cC cF cO) (A := A) (wr := [(a_this, .inr (9, [.ref a_s, .ref a_before, .ref a_kept, .ref a_aside, .ref a_order, .ref a_rank, .int v_onWall, .ref a_straight, .ref a_sorted, .ref a_longest, .int v_straightMany, .ref a_read, .ref a_text, .int v_length, .int v_states, .int v_isKept, .int v_at, .int v_cards])), (a_s, .inl (cI, 316, .inl v_s_11))]) (w1 := (fun u_5 : Unit => [])) (va_runS (As := [.int x2]) (rest := [.ref a_s]) ⟨hx, hb, hml, hown, hts⟩ (c_X9_row l D cI cC cF cO  _ _ _ hwp) (va_cwS 1 hts gX9_putAt_X9_row rfl rfl rfl (by decide +kernel) ⟨Nat.le_of_ble_eq_true rfl, Nat.le_of_ble_eq_true rfl⟩) (gPreS hK hX hT hP hD hS hA [] rfl rfl) rfl rfl hl.1 rfl (lv_room (Nat.le_of_ble_eq_true rfl)) dX9_putAt_54 ⟨Nat.le_of_ble_eq_true rfl, Nat.le_of_ble_eq_true rfl⟩) hP hD hS hA [] [0, 1] rfl rfl rfl (by decide) (fun r_4 u_5 H locs hwp hP hD hS => ?_)
        have hP : va_P D vwCl [(a_this, .inr (9, [.ref a_s, .ref a_before, .ref a_kept, .ref a_aside, .ref a_order, .ref a_rank, .int v_onWall, .ref a_straight, .ref a_sorted, .ref a_longest, .int v_straightMany, .ref a_read, .ref a_text, .int v_length, .int v_states, .int v_isKept, .int v_at, .int v_cards])), (a_s, .inl (cI, 316, .inl v_s_11))] H := hP
        have hD : va_D A [(a_this, .inr (9, [.ref a_s, .ref a_before, .ref a_kept, .ref a_aside, .ref a_order, .ref a_rank, .int v_onWall, .ref a_straight, .ref a_sorted, .ref a_longest, .int v_straightMany, .ref a_read, .ref a_text, .int v_length, .int v_states, .int v_isKept, .int v_at, .int v_cards])), (a_s, .inl (cI, 316, .inl v_s_11))] := hD
        refine lv_iconst (v := 1) hx hb dX9_putAt_57 (by decide) ?_
        refine lv_iadd hx hb dX9_putAt_58 ?_
        refine lv_iload_n hx hb dX9_putAt_59 rfl (lv_at hl 3 rfl) ?_
        refine lv_iadd hx hb dX9_putAt_60 ?_
        refine lv_iload_n hx hb dX9_putAt_61 rfl (lv_at hl 1 rfl) ?_
        have hn_6 := hwp.1
        have hwp := hwp.2
        refine va_iast (D := D) hx hb hK hP hD hS 1 0 rfl rfl hn_6 dX9_putAt_62 (fun H locs hP hD hS => ?_)
        have hP : va_P D vwCl [(a_this, .inr (9, [.ref a_s, .ref a_before, .ref a_kept, .ref a_aside, .ref a_order, .ref a_rank, .int v_onWall, .ref a_straight, .ref a_sorted, .ref a_longest, .int v_straightMany, .ref a_read, .ref a_text, .int v_length, .int v_states, .int v_isKept, .int v_at, .int v_cards])), (a_s, .inl (cI, 316, .inl (upd v_s_11 (((r_4 + (1 : Int32)) + x3)).toNatClampNeg x1)))] H := hP
        have hD : va_D A [(a_this, .inr (9, [.ref a_s, .ref a_before, .ref a_kept, .ref a_aside, .ref a_order, .ref a_rank, .int v_onWall, .ref a_straight, .ref a_sorted, .ref a_longest, .int v_straightMany, .ref a_read, .ref a_text, .int v_length, .int v_states, .int v_isKept, .int v_at, .int v_cards])), (a_s, .inl (cI, 316, .inl (upd v_s_11 (((r_4 + (1 : Int32)) + x3)).toNatClampNeg x1)))] := hD
        refine lv_aload_n hx hb dX9_putAt_63 rfl (lv_at hl 0 rfl) ?_
        refine va_get (D := D) (ci := 9) (v := .ref a_s) (C := RX9) (T := TX9) (N := 18) hx hb hts mc_X9_putAt_9 hown hK hP 0 rfl rfl 0 (by decide) (hts _ ml_X9_putAt_1) (fun _ h9 => h9) rfl dX9_putAt_64 ?_
        refine lv_iload_n hx hb dX9_putAt_67 rfl (lv_at hl 2 rfl) ?_
        refine gBacki (D := D) (tys := gT cI cC cF cO) (A := A) (wr := [(a_this, .inr (9, [.ref a_s, .ref a_before, .ref a_kept, .ref a_aside, .ref a_order, .ref a_rank, .int v_onWall, .ref a_straight, .ref a_sorted, .ref a_longest, .int v_straightMany, .ref a_read, .ref a_text, .int v_length, .int v_states, .int v_isKept, .int v_at, .int v_cards])), (a_s, .inl (cI, 316, .inl (upd v_s_11 (((r_4 + (1 : Int32)) + x3)).toNatClampNeg x1)))]) (w1 := (fun u_8 : Unit => [])) (va_runS (As := [.int x2]) (rest := [.ref a_s]) ⟨hx, hb, hml, hown, hts⟩ (c_X9_row l D cI cC cF cO  _ _ _ hwp) (va_cwS 1 hts gX9_putAt_X9_row rfl rfl rfl (by decide +kernel) ⟨Nat.le_of_ble_eq_true rfl, Nat.le_of_ble_eq_true rfl⟩) (gPreS hK hX hT hP hD hS hA [] rfl rfl) rfl rfl hl.1 rfl (lv_room (Nat.le_of_ble_eq_true rfl)) dX9_putAt_68 ⟨Nat.le_of_ble_eq_true rfl, Nat.le_of_ble_eq_true rfl⟩) hP hD hS hA [] [0, 1] rfl rfl rfl (by decide) (fun r_7 u_8 H locs hwp hP hD hS => ?_)
        have hP : va_P D vwCl [(a_this, .inr (9, [.ref a_s, .ref a_before, .ref a_kept, .ref a_aside, .ref a_order, .ref a_rank, .int v_onWall, .ref a_straight, .ref a_sorted, .ref a_longest, .int v_straightMany, .ref a_read, .ref a_text, .int v_length, .int v_states, .int v_isKept, .int v_at, .int v_cards])), (a_s, .inl (cI, 316, .inl (upd v_s_11 (((r_4 + (1 : Int32)) + x3)).toNatClampNeg x1)))] H := hP
        have hD : va_D A [(a_this, .inr (9, [.ref a_s, .ref a_before, .ref a_kept, .ref a_aside, .ref a_order, .ref a_rank, .int v_onWall, .ref a_straight, .ref a_sorted, .ref a_longest, .int v_straightMany, .ref a_read, .ref a_text, .int v_length, .int v_states, .int v_isKept, .int v_at, .int v_cards])), (a_s, .inl (cI, 316, .inl (upd v_s_11 (((r_4 + (1 : Int32)) + x3)).toNatClampNeg x1)))] := hD
        refine lv_dup2_11 hx hb dX9_putAt_71 rfl rfl ?_
        have hn_9 := hwp.1
        have hwp := hwp.2
        refine va_iald (D := D) hx hb hK hP 1 0 rfl rfl hn_9 dX9_putAt_72 ?_
        refine lv_iconst (v := 1) hx hb dX9_putAt_73 (by decide) ?_
        refine lv_iadd hx hb dX9_putAt_74 ?_
        have hn_10 := hwp.1
        have hwp := hwp.2
        refine va_iast (D := D) hx hb hK hP hD hS 1 0 rfl rfl hn_10 dX9_putAt_75 (fun H locs hP hD hS => ?_)
        have hP : va_P D vwCl [(a_this, .inr (9, [.ref a_s, .ref a_before, .ref a_kept, .ref a_aside, .ref a_order, .ref a_rank, .int v_onWall, .ref a_straight, .ref a_sorted, .ref a_longest, .int v_straightMany, .ref a_read, .ref a_text, .int v_length, .int v_states, .int v_isKept, .int v_at, .int v_cards])), (a_s, .inl (cI, 316, .inl (upd (upd v_s_11 (((r_4 + (1 : Int32)) + x3)).toNatClampNeg x1) (r_7).toNatClampNeg (((upd v_s_11 (((r_4 + (1 : Int32)) + x3)).toNatClampNeg x1) (r_7).toNatClampNeg) + (1 : Int32)))))] H := hP
        have hD : va_D A [(a_this, .inr (9, [.ref a_s, .ref a_before, .ref a_kept, .ref a_aside, .ref a_order, .ref a_rank, .int v_onWall, .ref a_straight, .ref a_sorted, .ref a_longest, .int v_straightMany, .ref a_read, .ref a_text, .int v_length, .int v_states, .int v_isKept, .int v_at, .int v_cards])), (a_s, .inl (cI, 316, .inl (upd (upd v_s_11 (((r_4 + (1 : Int32)) + x3)).toNatClampNeg x1) (r_7).toNatClampNeg (((upd v_s_11 (((r_4 + (1 : Int32)) + x3)).toNatClampNeg x1) (r_7).toNatClampNeg) + (1 : Int32)))))] := hD
        exact hret (upd (upd v_s_11 (((r_4 + (1 : Int32)) + x3)).toNatClampNeg x1) (r_7).toNatClampNeg (((upd v_s_11 (((r_4 + (1 : Int32)) + x3)).toNatClampNeg x1) (r_7).toNatClampNeg) + (1 : Int32))) [0, 1] dX9_putAt_76 hwp rfl rfl hP hD hS
      · have hwp := hwp.2 hc
        refine lv_aload_n hx hb dX9_putAt_17 rfl (lv_at hl 0 rfl) ?_
        refine va_get (D := D) (ci := 9) (v := .ref a_s) (C := RX9) (T := TX9) (N := 18) hx hb hts mc_X9_putAt_9 hown hK hP 0 rfl rfl 0 (by decide) (hts _ ml_X9_putAt_1) (fun _ h9 => h9) rfl dX9_putAt_18 ?_
        refine lv_iload_n hx hb dX9_putAt_21 rfl (lv_at hl 2 rfl) ?_
        refine gBacki (D := D) (tys := gT cI cC cF cO) (A := A) (wr := [(a_this, .inr (9, [.ref a_s, .ref a_before, .ref a_kept, .ref a_aside, .ref a_order, .ref a_rank, .int v_onWall, .ref a_straight, .ref a_sorted, .ref a_longest, .int v_straightMany, .ref a_read, .ref a_text, .int v_length, .int v_states, .int v_isKept, .int v_at, .int v_cards])), (a_s, .inl (cI, 316, .inl v_s_11))]) (w1 := (fun u_12 : Unit => [])) (va_runS (As := [.int x2]) (rest := [.ref a_s]) ⟨hx, hb, hml, hown, hts⟩ (c_X9_row l D cI cC cF cO  _ _ _ hwp) (va_cwS 1 hts gX9_putAt_X9_row rfl rfl rfl (by decide +kernel) ⟨Nat.le_of_ble_eq_true rfl, Nat.le_of_ble_eq_true rfl⟩) (gPreS hK hX hT hP hD hS hA [] rfl rfl) rfl rfl hl.1 rfl (lv_room (Nat.le_of_ble_eq_true rfl)) dX9_putAt_22 ⟨Nat.le_of_ble_eq_true rfl, Nat.le_of_ble_eq_true rfl⟩) hP hD hS hA [] [0, 1] rfl rfl rfl (by decide) (fun r_11 u_12 H locs hwp hP hD hS => ?_)
        have hP : va_P D vwCl [(a_this, .inr (9, [.ref a_s, .ref a_before, .ref a_kept, .ref a_aside, .ref a_order, .ref a_rank, .int v_onWall, .ref a_straight, .ref a_sorted, .ref a_longest, .int v_straightMany, .ref a_read, .ref a_text, .int v_length, .int v_states, .int v_isKept, .int v_at, .int v_cards])), (a_s, .inl (cI, 316, .inl v_s_11))] H := hP
        have hD : va_D A [(a_this, .inr (9, [.ref a_s, .ref a_before, .ref a_kept, .ref a_aside, .ref a_order, .ref a_rank, .int v_onWall, .ref a_straight, .ref a_sorted, .ref a_longest, .int v_straightMany, .ref a_read, .ref a_text, .int v_length, .int v_states, .int v_isKept, .int v_at, .int v_cards])), (a_s, .inl (cI, 316, .inl v_s_11))] := hD
        refine lv_iconst (v := 1) hx hb dX9_putAt_25 (by decide) ?_
        refine lv_iadd hx hb dX9_putAt_26 ?_
        refine lv_iload hx hb dX9_putAt_27 (lv_at hl 4 rfl) ?_
        refine lv_iadd hx hb dX9_putAt_29 ?_
        refine lv_aload_n hx hb dX9_putAt_30 rfl (lv_at hl 0 rfl) ?_
        refine va_get (D := D) (ci := 9) (v := .ref a_s) (C := RX9) (T := TX9) (N := 18) hx hb hts mc_X9_putAt_9 hown hK hP 0 rfl rfl 0 (by decide) (hts _ ml_X9_putAt_1) (fun _ h9 => h9) rfl dX9_putAt_31 ?_
        refine lv_iload_n hx hb dX9_putAt_34 rfl (lv_at hl 2 rfl) ?_
        refine gBacki (D := D) (tys := gT cI cC cF cO) (A := A) (wr := [(a_this, .inr (9, [.ref a_s, .ref a_before, .ref a_kept, .ref a_aside, .ref a_order, .ref a_rank, .int v_onWall, .ref a_straight, .ref a_sorted, .ref a_longest, .int v_straightMany, .ref a_read, .ref a_text, .int v_length, .int v_states, .int v_isKept, .int v_at, .int v_cards])), (a_s, .inl (cI, 316, .inl v_s_11))]) (w1 := (fun u_14 : Unit => [])) (va_runS (As := [.int x2]) (rest := [.ref a_s, .int ((r_11 + (1 : Int32)) + x4_11), .ref a_s]) ⟨hx, hb, hml, hown, hts⟩ (c_X9_row l D cI cC cF cO  _ _ _ hwp) (va_cwS 1 hts gX9_putAt_X9_row rfl rfl rfl (by decide +kernel) ⟨Nat.le_of_ble_eq_true rfl, Nat.le_of_ble_eq_true rfl⟩) (gPreS hK hX hT hP hD hS hA [] rfl rfl) rfl rfl hl.1 rfl (lv_room (Nat.le_of_ble_eq_true rfl)) dX9_putAt_35 ⟨Nat.le_of_ble_eq_true rfl, Nat.le_of_ble_eq_true rfl⟩) hP hD hS hA [] [0, 1] rfl rfl rfl (by decide) (fun r_13 u_14 H locs hwp hP hD hS => ?_)
        have hP : va_P D vwCl [(a_this, .inr (9, [.ref a_s, .ref a_before, .ref a_kept, .ref a_aside, .ref a_order, .ref a_rank, .int v_onWall, .ref a_straight, .ref a_sorted, .ref a_longest, .int v_straightMany, .ref a_read, .ref a_text, .int v_length, .int v_states, .int v_isKept, .int v_at, .int v_cards])), (a_s, .inl (cI, 316, .inl v_s_11))] H := hP
        have hD : va_D A [(a_this, .inr (9, [.ref a_s, .ref a_before, .ref a_kept, .ref a_aside, .ref a_order, .ref a_rank, .int v_onWall, .ref a_straight, .ref a_sorted, .ref a_longest, .int v_straightMany, .ref a_read, .ref a_text, .int v_length, .int v_states, .int v_isKept, .int v_at, .int v_cards])), (a_s, .inl (cI, 316, .inl v_s_11))] := hD
        refine lv_iload hx hb dX9_putAt_38 (lv_at hl 4 rfl) ?_
        refine lv_iadd hx hb dX9_putAt_40 ?_
        have hn_15 := hwp.1
        have hwp := hwp.2
        refine va_iald (D := D) hx hb hK hP 1 0 rfl rfl hn_15 dX9_putAt_41 ?_
        have hn_16 := hwp.1
        have hwp := hwp.2
        refine va_iast (D := D) hx hb hK hP hD hS 1 0 rfl rfl hn_16 dX9_putAt_42 (fun H locs hP hD hS => ?_)
        have hP : va_P D vwCl [(a_this, .inr (9, [.ref a_s, .ref a_before, .ref a_kept, .ref a_aside, .ref a_order, .ref a_rank, .int v_onWall, .ref a_straight, .ref a_sorted, .ref a_longest, .int v_straightMany, .ref a_read, .ref a_text, .int v_length, .int v_states, .int v_isKept, .int v_at, .int v_cards])), (a_s, .inl (cI, 316, .inl (upd v_s_11 (((r_11 + (1 : Int32)) + x4_11)).toNatClampNeg (v_s_11 ((r_13 + x4_11)).toNatClampNeg))))] H := hP
        have hD : va_D A [(a_this, .inr (9, [.ref a_s, .ref a_before, .ref a_kept, .ref a_aside, .ref a_order, .ref a_rank, .int v_onWall, .ref a_straight, .ref a_sorted, .ref a_longest, .int v_straightMany, .ref a_read, .ref a_text, .int v_length, .int v_states, .int v_isKept, .int v_at, .int v_cards])), (a_s, .inl (cI, 316, .inl (upd v_s_11 (((r_11 + (1 : Int32)) + x4_11)).toNatClampNeg (v_s_11 ((r_13 + x4_11)).toNatClampNeg))))] := hD
        refine lv_iinc (v := (x4_11 + (-1 : Int32))) (lv' := [(4, .int (x4_11 + (-1 : Int32))), (0, .ref a_this), (1, .int x1), (2, .int x2), (3, .int x3)]) hx hb dX9_putAt_43 hl (k := 4) rfl rfl (by decide) rfl (fun ls hl => ?_)
        refine lv_goto (tgt := 11) hx hb dX9_putAt_46 (by decide) ?_
        have hl : lv_has ls 5 [(0, .ref a_this), (1, .int x1), (2, .int x2), (3, .int x3), (4, .int (x4_11 + (-1 : Int32)))] := lv_sub hl [1, 2, 3, 4, 0] rfl
        exact ih11 (x4_11 + (-1 : Int32)) (upd v_s_11 (((r_11 + (1 : Int32)) + x4_11)).toNatClampNeg (v_s_11 ((r_13 + x4_11)).toNatClampNeg)) (Nat.lt_of_lt_of_le hwp.2 (Nat.le_of_lt_succ hμ11)) hwp.1 _ _ hP hD hS ls hl
  exact hL11 _ (v_s (r_1).toNatClampNeg) v_s (Nat.lt_succ_self _) hJ _ _ hP hD hS ls hl
theorem mc_X9_errorOf_9 : ∀ w ∈ u_ws RX9 TX9 18, w ∈ wsX9_errorOf := fun w h => List.mem_cons_of_mem _ (List.mem_append_right _ h)
theorem ml_X9_errorOf_1 : (.fieldLink RX9 7 "StoryWallModel" "s" "[I" : Cond) ∈ wsX9_errorOf := List.mem_of_getElem? (i := 1) rfl
abbrev rm_X9_errorOf : Room := { frames := 2, cells := 0, slots := 0, locals := 44 }
set_option maxHeartbeats 4000000 in
set_option maxRecDepth 100000 in
theorem c_X9_errorOf (l : Launch) (D : va_G) (cI cC cF cO : ClassId) (a_this a_s a_before a_kept a_aside a_order a_rank a_straight a_sorted a_longest a_read a_text : Nat) (v_onWall : Int32) (v_straightMany : Int32) (v_length : Int32) (v_states : Int32) (v_isKept : Int32) (v_at : Int32) (v_cards : Int32) (sz : Nat) (x1 : Int32) (x2 : Int32) (x3 : Int32) (v_s : Nat → Int32) (post : Int32 → Prop) (hwp : wp_X9_errorOf x1 x2 x3 v_s post) : Met l yX9_errorOf wsX9_errorOf rm_X9_errorOf (gPre D (gT cI cC cF cO) [.ref a_this, .int x1, .int x2, .int x3] [(a_this, .inr (9, [.ref a_s, .ref a_before, .ref a_kept, .ref a_aside, .ref a_order, .ref a_rank, .int v_onWall, .ref a_straight, .ref a_sorted, .ref a_longest, .int v_straightMany, .ref a_read, .ref a_text, .int v_length, .int v_states, .int v_isKept, .int v_at, .int v_cards])), (a_s, .inl (cI, 316, .inl v_s))] sz) (va_Qi (S := Unit) (fun (r : Int32) (u : Unit) => post r ) (gB D (gT cI cC cF cO) (fun (u : Unit) => [(a_this, .inr (9, [.ref a_s, .ref a_before, .ref a_kept, .ref a_aside, .ref a_order, .ref a_rank, .int v_onWall, .ref a_straight, .ref a_sorted, .ref a_longest, .int v_straightMany, .ref a_read, .ref a_text, .int v_length, .int v_states, .int v_isKept, .int v_at, .int v_cards])), (a_s, .inl (cI, 316, .inl v_s))]) [(a_this, .inr (9, [.ref a_s, .ref a_before, .ref a_kept, .ref a_aside, .ref a_order, .ref a_rank, .int v_onWall, .ref a_straight, .ref a_sorted, .ref a_longest, .int v_straightMany, .ref a_read, .ref a_text, .int v_length, .int v_states, .int v_isKept, .int v_at, .int v_cards])), (a_s, .inl (cI, 316, .inl v_s))] sz) (va_A [(a_this, .inr (9, [.ref a_s, .ref a_before, .ref a_kept, .ref a_aside, .ref a_order, .ref a_rank, .int v_onWall, .ref a_straight, .ref a_sorted, .ref a_longest, .int v_straightMany, .ref a_read, .ref a_text, .int v_length, .int v_states, .int v_isKept, .int v_at, .int v_cards])), (a_s, .inl (cI, 316, .inl v_s))] sz)) 0 0 (va_A [(a_this, .inr (9, [.ref a_s, .ref a_before, .ref a_kept, .ref a_aside, .ref a_order, .ref a_rank, .int v_onWall, .ref a_straight, .ref a_sorted, .ref a_longest, .int v_straightMany, .ref a_read, .ref a_text, .int v_length, .int v_states, .int v_isKept, .int v_at, .int v_cards])), (a_s, .inl (cI, 316, .inl v_s))] sz) := by
  refine gOfi (own := RX9) (cc := cX9_errorOf) (maxL := 5) (ret := (some .int)) rfl (by decide) rfl (Nat.le_of_ble_eq_true rfl) rfl ?_
  intro p e s m below meth c A args Q hAe hx hb hr hts hown hml hlocks hname hA hK hX hT hP hD hS hret ls hl
  have hl : lv_has ls 5 [(0, .ref a_this), (1, .int x1), (2, .int x2), (3, .int x3)] := hl
  unfold wp_X9_errorOf at hwp
  have hj43 : ∀ (k0_43 : Int32) (k1_43 : Int32) (H : Heap) (locs : List Loc), wp_X9_errorOf_j43 x3 k0_43 k1_43 v_s  post → va_P D vwCl [(a_this, .inr (9, [.ref a_s, .ref a_before, .ref a_kept, .ref a_aside, .ref a_order, .ref a_rank, .int v_onWall, .ref a_straight, .ref a_sorted, .ref a_longest, .int v_straightMany, .ref a_read, .ref a_text, .int v_length, .int v_states, .int v_isKept, .int v_at, .int v_cards])), (a_s, .inl (cI, 316, .inl v_s))] H → va_D A [(a_this, .inr (9, [.ref a_s, .ref a_before, .ref a_kept, .ref a_aside, .ref a_order, .ref a_rank, .int v_onWall, .ref a_straight, .ref a_sorted, .ref a_longest, .int v_straightMany, .ref a_read, .ref a_text, .int v_length, .int v_states, .int v_isKept, .int v_at, .int v_cards])), (a_s, .inl (cI, 316, .inl v_s))] → va_S A s.heap H locs → ∀ ls : Array Slot, lv_has ls 5 [(3, .int x3)] → W p l e rm_X9_errorOf s m args below meth c H locs 0 0 Q (F0 m 43 ls [.int k0_43, .int k1_43]) := by
    intro k0_43 k1_43 H locs hwp hP hD hS ls hl
    unfold wp_X9_errorOf_j43 at hwp
    refine lv_isub hx hb dX9_errorOf_43 ?_
    refine lv_istore (lv' := [(4, .int (k1_43 - k0_43)), (3, .int x3)]) hx hb dX9_errorOf_44 hl (by decide) rfl (fun ls hl => ?_)
    refine lv_iload hx hb dX9_errorOf_46 (lv_at hl 0 rfl) ?_
    refine lv_bipush (v := 6) hx hb dX9_errorOf_48 (by decide) ?_
    refine lv_icmp_ne (tgt := 58) hx hb dX9_errorOf_50 (by decide) (fun hc => ?_) (fun hc => ?_)
    · have hwp := hwp.2 hc
      refine lv_iload_n hx hb dX9_errorOf_58 rfl (lv_at hl 1 rfl) ?_
      refine lv_iconst (v := 0) hx hb dX9_errorOf_59 (by decide) ?_
      refine lv_iload hx hb dX9_errorOf_60 (lv_at hl 0 rfl) ?_
      refine gBacki (D := D) (tys := gT cI cC cF cO) (A := A) (wr := [(a_this, .inr (9, [.ref a_s, .ref a_before, .ref a_kept, .ref a_aside, .ref a_order, .ref a_rank, .int v_onWall, .ref a_straight, .ref a_sorted, .ref a_longest, .int v_straightMany, .ref a_read, .ref a_text, .int v_length, .int v_states, .int v_isKept, .int v_at, .int v_cards])), (a_s, .inl (cI, 316, .inl v_s))]) (w1 := (fun u_2 : Unit => [])) (va_runS (As := [.int x3, .int (0 : Int32), .int (k1_43 - k0_43)]) (rest := []) ⟨hx, hb, hml, hown, hts⟩ (c_X9_in l D cI cC cF cO  _ _ _ _ _ hwp) (va_cwS 3 hts gX9_errorOf_X9_in rfl rfl rfl (by decide +kernel) ⟨Nat.le_of_ble_eq_true rfl, Nat.le_of_ble_eq_true rfl⟩) (gPreS hK hX hT hP hD hS hA [] rfl rfl) rfl rfl hl.1 rfl (lv_room (Nat.le_of_ble_eq_true rfl)) dX9_errorOf_62 ⟨Nat.le_of_ble_eq_true rfl, Nat.le_of_ble_eq_true rfl⟩) hP hD hS hA [] [0, 1] rfl rfl rfl (by decide) (fun r_1 u_2 H locs hwp hP hD hS => ?_)
      have hP : va_P D vwCl [(a_this, .inr (9, [.ref a_s, .ref a_before, .ref a_kept, .ref a_aside, .ref a_order, .ref a_rank, .int v_onWall, .ref a_straight, .ref a_sorted, .ref a_longest, .int v_straightMany, .ref a_read, .ref a_text, .int v_length, .int v_states, .int v_isKept, .int v_at, .int v_cards])), (a_s, .inl (cI, 316, .inl v_s))] H := hP
      have hD : va_D A [(a_this, .inr (9, [.ref a_s, .ref a_before, .ref a_kept, .ref a_aside, .ref a_order, .ref a_rank, .int v_onWall, .ref a_straight, .ref a_sorted, .ref a_longest, .int v_straightMany, .ref a_read, .ref a_text, .int v_length, .int v_states, .int v_isKept, .int v_at, .int v_cards])), (a_s, .inl (cI, 316, .inl v_s))] := hD
      refine lv_if_ne (tgt := 73) hx hb dX9_errorOf_65 (by decide) (fun hc => ?_) (fun hc => ?_)
      · have hwp := hwp.2 hc
        refine lv_iconst (v := 0) hx hb dX9_errorOf_73 (by decide) ?_
        exact hret () [0, 1] dX9_errorOf_74 hwp rfl rfl hP hD hS
      · have hwp := hwp.1 hc
        refine lv_bipush (v := -2) hx hb dX9_errorOf_68 (by decide) ?_
        refine lv_goto (tgt := 74) hx hb dX9_errorOf_70 (by decide) ?_
        exact hret () [0, 1] dX9_errorOf_74 hwp rfl rfl hP hD hS
    · have hwp := hwp.1 hc
      refine lv_bipush (v := -3) hx hb dX9_errorOf_53 (by decide) ?_
      refine lv_goto (tgt := 74) hx hb dX9_errorOf_55 (by decide) ?_
      exact hret () [0, 1] dX9_errorOf_74 hwp rfl rfl hP hD hS
  refine lv_aload_n hx hb dX9_errorOf_0 rfl (lv_at hl 0 rfl) ?_
  refine lv_iload_n hx hb dX9_errorOf_1 rfl (lv_at hl 1 rfl) ?_
  refine gBacki (D := D) (tys := gT cI cC cF cO) (A := A) (wr := []) (w1 := (fun u_4 : Unit => [(a_this, .inr (9, [.ref a_s, .ref a_before, .ref a_kept, .ref a_aside, .ref a_order, .ref a_rank, .int v_onWall, .ref a_straight, .ref a_sorted, .ref a_longest, .int v_straightMany, .ref a_read, .ref a_text, .int v_length, .int v_states, .int v_isKept, .int v_at, .int v_cards])), (a_s, .inl (cI, 316, .inl v_s))])) (va_runV (As := [.int x1]) (rest := []) ⟨hx, hb, hml, hown, hts⟩ (c_X9_isCard l D cI cC cF cO a_this a_s a_before a_kept a_aside a_order a_rank a_straight a_sorted a_longest a_read a_text v_onWall v_straightMany v_length v_states v_isKept v_at v_cards _ _ _ _ hwp) (cwV 1 hts gX9_errorOf_X9_isCard rfl rfl rfl (by decide +kernel) ⟨Nat.le_of_ble_eq_true rfl, Nat.le_of_ble_eq_true rfl⟩) (gPreV (C := RX9) (T := TX9) (N := 18) (ci := 9) hK hX hT hP hD hS hA [0, 1] rfl rfl rfl (qb := 0) rfl) rfl rfl hl.1 rfl (lv_room (Nat.le_of_ble_eq_true rfl)) dX9_errorOf_2 ⟨Nat.le_of_ble_eq_true rfl, Nat.le_of_ble_eq_true rfl⟩) hP hD hS hA [0, 1] [] rfl rfl rfl (by decide) (fun r_3 u_4 H locs hwp hP hD hS => ?_)
  have hP : va_P D vwCl [(a_this, .inr (9, [.ref a_s, .ref a_before, .ref a_kept, .ref a_aside, .ref a_order, .ref a_rank, .int v_onWall, .ref a_straight, .ref a_sorted, .ref a_longest, .int v_straightMany, .ref a_read, .ref a_text, .int v_length, .int v_states, .int v_isKept, .int v_at, .int v_cards])), (a_s, .inl (cI, 316, .inl v_s))] H := hP
  have hD : va_D A [(a_this, .inr (9, [.ref a_s, .ref a_before, .ref a_kept, .ref a_aside, .ref a_order, .ref a_rank, .int v_onWall, .ref a_straight, .ref a_sorted, .ref a_longest, .int v_straightMany, .ref a_read, .ref a_text, .int v_length, .int v_states, .int v_isKept, .int v_at, .int v_cards])), (a_s, .inl (cI, 316, .inl v_s))] := hD
  refine lv_if_eq (tgt := 18) hx hb dX9_errorOf_5 (by decide) (fun hc => ?_) (fun hc => ?_)
  · have hwp := hwp.1 hc
    refine lv_iconst (v := -1) hx hb dX9_errorOf_18 (by decide) ?_
    exact hret () [0, 1] dX9_errorOf_19 hwp rfl rfl hP hD hS
  · have hwp := hwp.2 hc
    refine lv_iload_n hx hb dX9_errorOf_8 rfl (lv_at hl 2 rfl) ?_
    refine lv_iconst (v := 0) hx hb dX9_errorOf_9 (by decide) ?_
    refine lv_bipush (v := 15) hx hb dX9_errorOf_10 (by decide) ?_
    refine gBacki (D := D) (tys := gT cI cC cF cO) (A := A) (wr := [(a_this, .inr (9, [.ref a_s, .ref a_before, .ref a_kept, .ref a_aside, .ref a_order, .ref a_rank, .int v_onWall, .ref a_straight, .ref a_sorted, .ref a_longest, .int v_straightMany, .ref a_read, .ref a_text, .int v_length, .int v_states, .int v_isKept, .int v_at, .int v_cards])), (a_s, .inl (cI, 316, .inl v_s))]) (w1 := (fun u_6 : Unit => [])) (va_runS (As := [.int x2, .int (0 : Int32), .int (15 : Int32)]) (rest := []) ⟨hx, hb, hml, hown, hts⟩ (c_X9_in l D cI cC cF cO  _ _ _ _ _ hwp) (va_cwS 3 hts gX9_errorOf_X9_in rfl rfl rfl (by decide +kernel) ⟨Nat.le_of_ble_eq_true rfl, Nat.le_of_ble_eq_true rfl⟩) (gPreS hK hX hT hP hD hS hA [] rfl rfl) rfl rfl hl.1 rfl (lv_room (Nat.le_of_ble_eq_true rfl)) dX9_errorOf_12 ⟨Nat.le_of_ble_eq_true rfl, Nat.le_of_ble_eq_true rfl⟩) hP hD hS hA [] [0, 1] rfl rfl rfl (by decide) (fun r_5 u_6 H locs hwp hP hD hS => ?_)
    have hP : va_P D vwCl [(a_this, .inr (9, [.ref a_s, .ref a_before, .ref a_kept, .ref a_aside, .ref a_order, .ref a_rank, .int v_onWall, .ref a_straight, .ref a_sorted, .ref a_longest, .int v_straightMany, .ref a_read, .ref a_text, .int v_length, .int v_states, .int v_isKept, .int v_at, .int v_cards])), (a_s, .inl (cI, 316, .inl v_s))] H := hP
    have hD : va_D A [(a_this, .inr (9, [.ref a_s, .ref a_before, .ref a_kept, .ref a_aside, .ref a_order, .ref a_rank, .int v_onWall, .ref a_straight, .ref a_sorted, .ref a_longest, .int v_straightMany, .ref a_read, .ref a_text, .int v_length, .int v_states, .int v_isKept, .int v_at, .int v_cards])), (a_s, .inl (cI, 316, .inl v_s))] := hD
    refine lv_if_ne (tgt := 20) hx hb dX9_errorOf_15 (by decide) (fun hc => ?_) (fun hc => ?_)
    · have hwp := hwp.2 hc
      refine lv_aload_n hx hb dX9_errorOf_20 rfl (lv_at hl 0 rfl) ?_
      refine va_get (D := D) (ci := 9) (v := .ref a_s) (C := RX9) (T := TX9) (N := 18) hx hb hts mc_X9_errorOf_9 hown hK hP 0 rfl rfl 0 (by decide) (hts _ ml_X9_errorOf_1) (fun _ h9 => h9) rfl dX9_errorOf_21 ?_
      refine lv_iload_n hx hb dX9_errorOf_24 rfl (lv_at hl 2 rfl) ?_
      refine gBacki (D := D) (tys := gT cI cC cF cO) (A := A) (wr := [(a_this, .inr (9, [.ref a_s, .ref a_before, .ref a_kept, .ref a_aside, .ref a_order, .ref a_rank, .int v_onWall, .ref a_straight, .ref a_sorted, .ref a_longest, .int v_straightMany, .ref a_read, .ref a_text, .int v_length, .int v_states, .int v_isKept, .int v_at, .int v_cards])), (a_s, .inl (cI, 316, .inl v_s))]) (w1 := (fun u_8 : Unit => [])) (va_runS (As := [.int x2]) (rest := [.ref a_s]) ⟨hx, hb, hml, hown, hts⟩ (c_X9_row l D cI cC cF cO  _ _ _ hwp) (va_cwS 1 hts gX9_errorOf_X9_row rfl rfl rfl (by decide +kernel) ⟨Nat.le_of_ble_eq_true rfl, Nat.le_of_ble_eq_true rfl⟩) (gPreS hK hX hT hP hD hS hA [] rfl rfl) rfl rfl hl.1 rfl (lv_room (Nat.le_of_ble_eq_true rfl)) dX9_errorOf_25 ⟨Nat.le_of_ble_eq_true rfl, Nat.le_of_ble_eq_true rfl⟩) hP hD hS hA [] [0, 1] rfl rfl rfl (by decide) (fun r_7 u_8 H locs hwp hP hD hS => ?_)
      have hP : va_P D vwCl [(a_this, .inr (9, [.ref a_s, .ref a_before, .ref a_kept, .ref a_aside, .ref a_order, .ref a_rank, .int v_onWall, .ref a_straight, .ref a_sorted, .ref a_longest, .int v_straightMany, .ref a_read, .ref a_text, .int v_length, .int v_states, .int v_isKept, .int v_at, .int v_cards])), (a_s, .inl (cI, 316, .inl v_s))] H := hP
      have hD : va_D A [(a_this, .inr (9, [.ref a_s, .ref a_before, .ref a_kept, .ref a_aside, .ref a_order, .ref a_rank, .int v_onWall, .ref a_straight, .ref a_sorted, .ref a_longest, .int v_straightMany, .ref a_read, .ref a_text, .int v_length, .int v_states, .int v_isKept, .int v_at, .int v_cards])), (a_s, .inl (cI, 316, .inl v_s))] := hD
      have hn_9 := hwp.1
      have hwp := hwp.2
      refine va_iald (D := D) hx hb hK hP 1 0 rfl rfl hn_9 dX9_errorOf_28 ?_
      refine lv_aload_n hx hb dX9_errorOf_29 rfl (lv_at hl 0 rfl) ?_
      refine lv_iload_n hx hb dX9_errorOf_30 rfl (lv_at hl 1 rfl) ?_
      refine gBacki (D := D) (tys := gT cI cC cF cO) (A := A) (wr := []) (w1 := (fun u_11 : Unit => [(a_this, .inr (9, [.ref a_s, .ref a_before, .ref a_kept, .ref a_aside, .ref a_order, .ref a_rank, .int v_onWall, .ref a_straight, .ref a_sorted, .ref a_longest, .int v_straightMany, .ref a_read, .ref a_text, .int v_length, .int v_states, .int v_isKept, .int v_at, .int v_cards])), (a_s, .inl (cI, 316, .inl v_s))])) (va_runV (As := [.int x1]) (rest := [.int (v_s (r_7).toNatClampNeg)]) ⟨hx, hb, hml, hown, hts⟩ (c_X9_sceneOf l D cI cC cF cO a_this a_s a_before a_kept a_aside a_order a_rank a_straight a_sorted a_longest a_read a_text v_onWall v_straightMany v_length v_states v_isKept v_at v_cards _ _ _ _ hwp) (cwV 1 hts gX9_errorOf_X9_sceneOf rfl rfl rfl (by decide +kernel) ⟨Nat.le_of_ble_eq_true rfl, Nat.le_of_ble_eq_true rfl⟩) (gPreV (C := RX9) (T := TX9) (N := 18) (ci := 9) hK hX hT hP hD hS hA [0, 1] rfl rfl rfl (qb := 0) rfl) rfl rfl hl.1 rfl (lv_room (Nat.le_of_ble_eq_true rfl)) dX9_errorOf_31 ⟨Nat.le_of_ble_eq_true rfl, Nat.le_of_ble_eq_true rfl⟩) hP hD hS hA [0, 1] [] rfl rfl rfl (by decide) (fun r_10 u_11 H locs hwp hP hD hS => ?_)
      have hP : va_P D vwCl [(a_this, .inr (9, [.ref a_s, .ref a_before, .ref a_kept, .ref a_aside, .ref a_order, .ref a_rank, .int v_onWall, .ref a_straight, .ref a_sorted, .ref a_longest, .int v_straightMany, .ref a_read, .ref a_text, .int v_length, .int v_states, .int v_isKept, .int v_at, .int v_cards])), (a_s, .inl (cI, 316, .inl v_s))] H := hP
      have hD : va_D A [(a_this, .inr (9, [.ref a_s, .ref a_before, .ref a_kept, .ref a_aside, .ref a_order, .ref a_rank, .int v_onWall, .ref a_straight, .ref a_sorted, .ref a_longest, .int v_straightMany, .ref a_read, .ref a_text, .int v_length, .int v_states, .int v_isKept, .int v_at, .int v_cards])), (a_s, .inl (cI, 316, .inl v_s))] := hD
      refine lv_iload_n hx hb dX9_errorOf_34 rfl (lv_at hl 2 rfl) ?_
      refine lv_icmp_ne (tgt := 42) hx hb dX9_errorOf_35 (by decide) (fun hc => ?_) (fun hc => ?_)
      · have hwp := hwp.2 hc
        refine lv_iconst (v := 0) hx hb dX9_errorOf_42 (by decide) ?_
        have hl : lv_has ls 5 [(3, .int x3)] := lv_sub hl [3] rfl
        exact hj43 (0 : Int32) (v_s (r_7).toNatClampNeg) _ _ hwp hP hD hS ls hl
      · have hwp := hwp.1 hc
        refine lv_iconst (v := 1) hx hb dX9_errorOf_38 (by decide) ?_
        refine lv_goto (tgt := 43) hx hb dX9_errorOf_39 (by decide) ?_
        have hl : lv_has ls 5 [(3, .int x3)] := lv_sub hl [3] rfl
        exact hj43 (1 : Int32) (v_s (r_7).toNatClampNeg) _ _ hwp hP hD hS ls hl
    · have hwp := hwp.1 hc
      refine lv_iconst (v := -1) hx hb dX9_errorOf_18 (by decide) ?_
      exact hret () [0, 1] dX9_errorOf_19 hwp rfl rfl hP hD hS
