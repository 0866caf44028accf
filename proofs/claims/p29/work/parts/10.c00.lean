/-! contracts (by program): X0_length X1_size X1_has X1_hasRoomFor X1_clear X1_copyFrom X1_isNumber X1_number X1_put X1_append X1_appendFrom X1_ofThread X2_size X2_stateAfter X7_copyFrom X4_copyFrom -/
theorem mc_X0_length_0 : ∀ w ∈ u_ws RX0 TX0 5, w ∈ wsX0_length := fun w h => List.mem_cons_of_mem _ (List.mem_append_right _ h)
theorem ml_X0_length_1 : (.fieldLink RX0 22 "StoryWall$CardText" "length" "I" : Cond) ∈ wsX0_length := List.mem_of_getElem? (i := 1) rfl
abbrev rm_X0_length : Room := { frames := 0, cells := 0, slots := 0, locals := 0 }
set_option maxHeartbeats 4000000 in
set_option maxRecDepth 100000 in
theorem c_X0_length (l : Launch) (D : va_G) (cI cC cF cO : ClassId) (a_this a_signs a_cards : Nat) (v_position : Int32) (v_faulty : Int32) (sz : Nat)  (v_length : Int32) (post : Int32 → Prop) (hwp : wp_X0_length v_length post) : Met l yX0_length wsX0_length rm_X0_length (gPre D (gT cI cC cF cO) [.ref a_this] [(a_this, .inr (0, [.ref a_signs, .ref a_cards, .int v_length, .int v_position, .int v_faulty]))] sz) (va_Qi (S := Unit) (fun (r : Int32) (u : Unit) => post r ) (gB D (gT cI cC cF cO) (fun (u : Unit) => [(a_this, .inr (0, [.ref a_signs, .ref a_cards, .int v_length, .int v_position, .int v_faulty]))]) [(a_this, .inr (0, [.ref a_signs, .ref a_cards, .int v_length, .int v_position, .int v_faulty]))] sz) (va_A [(a_this, .inr (0, [.ref a_signs, .ref a_cards, .int v_length, .int v_position, .int v_faulty]))] sz)) 0 0 (va_A [(a_this, .inr (0, [.ref a_signs, .ref a_cards, .int v_length, .int v_position, .int v_faulty]))] sz) := by
  refine gOfi (own := RX0) (cc := cX0_length) (maxL := 1) (ret := (some .int)) rfl (by decide) rfl (Nat.le_of_ble_eq_true rfl) rfl ?_
  intro p e s m below meth c A args Q hAe hx hb hr hts hown hml hlocks hname hA hK hX hT hP hD hS hret ls hl
  have hl : lv_has ls 1 [(0, .ref a_this)] := hl
  unfold wp_X0_length at hwp
  refine lv_aload_n hx hb dX0_length_0 rfl (lv_at hl 0 rfl) ?_
  refine va_get (D := D) (ci := 0) (v := .int v_length) (C := RX0) (T := TX0) (N := 5) hx hb hts mc_X0_length_0 hown hK hP 0 rfl rfl 2 (by decide) (hts _ ml_X0_length_1) (fun _ h9 => h9) rfl dX0_length_1 ?_
  exact hret () [0] dX0_length_4 hwp rfl rfl hP hD hS
theorem mc_X1_size_1 : ∀ w ∈ u_ws RX1 TX1 2, w ∈ wsX1_size := fun w h => List.mem_cons_of_mem _ (List.mem_append_right _ h)
theorem ml_X1_size_1 : (.fieldLink RX1 15 "StoryWall$Cards" "size" "I" : Cond) ∈ wsX1_size := List.mem_of_getElem? (i := 1) rfl
abbrev rm_X1_size : Room := { frames := 0, cells := 0, slots := 0, locals := 0 }
set_option maxHeartbeats 4000000 in
set_option maxRecDepth 100000 in
theorem c_X1_size (l : Launch) (D : va_G) (cI cC cF cO : ClassId) (a_this a_numbers : Nat)  (sz : Nat)  (v_size : Int32) (post : Int32 → Prop) (hwp : wp_X1_size v_size post) : Met l yX1_size wsX1_size rm_X1_size (gPre D (gT cI cC cF cO) [.ref a_this] [(a_this, .inr (1, [.ref a_numbers, .int v_size]))] sz) (va_Qi (S := Unit) (fun (r : Int32) (u : Unit) => post r ) (gB D (gT cI cC cF cO) (fun (u : Unit) => [(a_this, .inr (1, [.ref a_numbers, .int v_size]))]) [(a_this, .inr (1, [.ref a_numbers, .int v_size]))] sz) (va_A [(a_this, .inr (1, [.ref a_numbers, .int v_size]))] sz)) 0 0 (va_A [(a_this, .inr (1, [.ref a_numbers, .int v_size]))] sz) := by
  refine gOfi (own := RX1) (cc := cX1_size) (maxL := 1) (ret := (some .int)) rfl (by decide) rfl (Nat.le_of_ble_eq_true rfl) rfl ?_
  intro p e s m below meth c A args Q hAe hx hb hr hts hown hml hlocks hname hA hK hX hT hP hD hS hret ls hl
  have hl : lv_has ls 1 [(0, .ref a_this)] := hl
  unfold wp_X1_size at hwp
  refine lv_aload_n hx hb dX1_size_0 rfl (lv_at hl 0 rfl) ?_
  refine va_get (D := D) (ci := 1) (v := .int v_size) (C := RX1) (T := TX1) (N := 2) hx hb hts mc_X1_size_1 hown hK hP 0 rfl rfl 1 (by decide) (hts _ ml_X1_size_1) (fun _ h9 => h9) rfl dX1_size_1 ?_
  exact hret () [0] dX1_size_4 hwp rfl rfl hP hD hS
theorem mc_X1_has_1 : ∀ w ∈ u_ws RX1 TX1 2, w ∈ wsX1_has := fun w h => List.mem_cons_of_mem _ (List.mem_append_right _ h)
theorem ml_X1_has_1 : (.fieldLink RX1 15 "StoryWall$Cards" "size" "I" : Cond) ∈ wsX1_has := List.mem_of_getElem? (i := 1) rfl
abbrev rm_X1_has : Room := { frames := 0, cells := 0, slots := 0, locals := 0 }
set_option maxHeartbeats 4000000 in
set_option maxRecDepth 100000 in
theorem c_X1_has (l : Launch) (D : va_G) (cI cC cF cO : ClassId) (a_this a_numbers : Nat)  (sz : Nat) (x1 : Int32) (v_size : Int32) (post : Int32 → Prop) (hwp : wp_X1_has x1 v_size post) : Met l yX1_has wsX1_has rm_X1_has (gPre D (gT cI cC cF cO) [.ref a_this, .int x1] [(a_this, .inr (1, [.ref a_numbers, .int v_size]))] sz) (va_Qi (S := Unit) (fun (r : Int32) (u : Unit) => post r ) (gB D (gT cI cC cF cO) (fun (u : Unit) => [(a_this, .inr (1, [.ref a_numbers, .int v_size]))]) [(a_this, .inr (1, [.ref a_numbers, .int v_size]))] sz) (va_A [(a_this, .inr (1, [.ref a_numbers, .int v_size]))] sz)) 0 0 (va_A [(a_this, .inr (1, [.ref a_numbers, .int v_size]))] sz) := by
  refine gOfz (own := RX1) (cc := cX1_has) (maxL := 2) (ret := (some .boolean)) rfl (by decide) rfl (Nat.le_of_ble_eq_true rfl) rfl ?_
  intro p e s m below meth c A args Q hAe hx hb hr hts hown hml hlocks hname hA hK hX hT hP hD hS hret ls hl
  have hl : lv_has ls 2 [(0, .ref a_this), (1, .int x1)] := hl
  unfold wp_X1_has at hwp
  refine lv_iload_n hx hb dX1_has_0 rfl (lv_at hl 1 rfl) ?_
  refine lv_if_lt (tgt := 16) hx hb dX1_has_1 (by decide) (fun hc => ?_) (fun hc => ?_)
  · have hwp := hwp.1 hc
    refine lv_iconst (v := 0) hx hb dX1_has_16 (by decide) ?_
    exact hret () [0] dX1_has_17 (Or.inl rfl) hwp rfl rfl hP hD hS
  · have hwp := hwp.2 hc
    refine lv_iload_n hx hb dX1_has_4 rfl (lv_at hl 1 rfl) ?_
    refine lv_aload_n hx hb dX1_has_5 rfl (lv_at hl 0 rfl) ?_
    refine va_get (D := D) (ci := 1) (v := .int v_size) (C := RX1) (T := TX1) (N := 2) hx hb hts mc_X1_has_1 hown hK hP 0 rfl rfl 1 (by decide) (hts _ ml_X1_has_1) (fun _ h9 => h9) rfl dX1_has_6 ?_
    refine lv_icmp_ge (tgt := 16) hx hb dX1_has_9 (by decide) (fun hc => ?_) (fun hc => ?_)
    · have hwp := hwp.1 hc
      refine lv_iconst (v := 0) hx hb dX1_has_16 (by decide) ?_
      exact hret () [0] dX1_has_17 (Or.inl rfl) hwp rfl rfl hP hD hS
    · have hwp := hwp.2 hc
      refine lv_iconst (v := 1) hx hb dX1_has_12 (by decide) ?_
      refine lv_goto (tgt := 17) hx hb dX1_has_13 (by decide) ?_
      exact hret () [0] dX1_has_17 (Or.inr rfl) hwp rfl rfl hP hD hS
theorem mc_X1_hasRoomFor_1 : ∀ w ∈ u_ws RX1 TX1 2, w ∈ wsX1_hasRoomFor := fun w h => List.mem_cons_of_mem _ (List.mem_append_right _ h)
theorem ml_X1_hasRoomFor_1 : (.fieldLink RX1 15 "StoryWall$Cards" "size" "I" : Cond) ∈ wsX1_hasRoomFor := List.mem_of_getElem? (i := 1) rfl
abbrev rm_X1_hasRoomFor : Room := { frames := 0, cells := 0, slots := 0, locals := 0 }
set_option maxHeartbeats 4000000 in
set_option maxRecDepth 100000 in
theorem c_X1_hasRoomFor (l : Launch) (D : va_G) (cI cC cF cO : ClassId) (a_this a_numbers : Nat)  (sz : Nat) (x1 : Int32) (v_size : Int32) (post : Int32 → Prop) (hwp : wp_X1_hasRoomFor x1 v_size post) : Met l yX1_hasRoomFor wsX1_hasRoomFor rm_X1_hasRoomFor (gPre D (gT cI cC cF cO) [.ref a_this, .int x1] [(a_this, .inr (1, [.ref a_numbers, .int v_size]))] sz) (va_Qi (S := Unit) (fun (r : Int32) (u : Unit) => post r ) (gB D (gT cI cC cF cO) (fun (u : Unit) => [(a_this, .inr (1, [.ref a_numbers, .int v_size]))]) [(a_this, .inr (1, [.ref a_numbers, .int v_size]))] sz) (va_A [(a_this, .inr (1, [.ref a_numbers, .int v_size]))] sz)) 0 0 (va_A [(a_this, .inr (1, [.ref a_numbers, .int v_size]))] sz) := by
  refine gOfz (own := RX1) (cc := cX1_hasRoomFor) (maxL := 2) (ret := (some .boolean)) rfl (by decide) rfl (Nat.le_of_ble_eq_true rfl) rfl ?_
  intro p e s m below meth c A args Q hAe hx hb hr hts hown hml hlocks hname hA hK hX hT hP hD hS hret ls hl
  have hl : lv_has ls 2 [(0, .ref a_this), (1, .int x1)] := hl
  unfold wp_X1_hasRoomFor at hwp
  refine lv_iload_n hx hb dX1_hasRoomFor_0 rfl (lv_at hl 1 rfl) ?_
  refine lv_bipush (v := 40) hx hb dX1_hasRoomFor_1 (by decide) ?_
  refine lv_aload_n hx hb dX1_hasRoomFor_3 rfl (lv_at hl 0 rfl) ?_
  refine va_get (D := D) (ci := 1) (v := .int v_size) (C := RX1) (T := TX1) (N := 2) hx hb hts mc_X1_hasRoomFor_1 hown hK hP 0 rfl rfl 1 (by decide) (hts _ ml_X1_hasRoomFor_1) (fun _ h9 => h9) rfl dX1_hasRoomFor_4 ?_
  refine lv_isub hx hb dX1_hasRoomFor_7 ?_
  refine lv_icmp_gt (tgt := 15) hx hb dX1_hasRoomFor_8 (by decide) (fun hc => ?_) (fun hc => ?_)
  · have hwp := hwp.1 hc
    refine lv_iconst (v := 0) hx hb dX1_hasRoomFor_15 (by decide) ?_
    exact hret () [0] dX1_hasRoomFor_16 (Or.inl rfl) hwp rfl rfl hP hD hS
  · have hwp := hwp.2 hc
    refine lv_iconst (v := 1) hx hb dX1_hasRoomFor_11 (by decide) ?_
    refine lv_goto (tgt := 16) hx hb dX1_hasRoomFor_12 (by decide) ?_
    exact hret () [0] dX1_hasRoomFor_16 (Or.inr rfl) hwp rfl rfl hP hD hS
theorem mc_X1_clear_1 : ∀ w ∈ u_ws RX1 TX1 2, w ∈ wsX1_clear := fun w h => List.mem_cons_of_mem _ (List.mem_append_right _ h)
theorem ml_X1_clear_1 : (.fieldLink RX1 15 "StoryWall$Cards" "size" "I" : Cond) ∈ wsX1_clear := List.mem_of_getElem? (i := 1) rfl
abbrev rm_X1_clear : Room := { frames := 0, cells := 0, slots := 0, locals := 0 }
set_option maxHeartbeats 4000000 in
set_option maxRecDepth 100000 in
theorem c_X1_clear (l : Launch) (D : va_G) (cI cC cF cO : ClassId) (a_this a_numbers : Nat)  (sz : Nat)  (v_size : Int32) (post : Int32 → Prop) (hwp : wp_X1_clear v_size post) : Met l yX1_clear wsX1_clear rm_X1_clear (gPre D (gT cI cC cF cO) [.ref a_this] [(a_this, .inr (1, [.ref a_numbers, .int v_size]))] sz) (va_Qv (S := Int32) (fun (u : Int32) => post u) (gB D (gT cI cC cF cO) (fun (u : Int32) => [(a_this, .inr (1, [.ref a_numbers, .int u]))]) [(a_this, .inr (1, [.ref a_numbers, .int v_size]))] sz) (va_A [(a_this, .inr (1, [.ref a_numbers, .int v_size]))] sz)) 0 0 (va_A [(a_this, .inr (1, [.ref a_numbers, .int v_size]))] sz) := by
  refine gOfv (own := RX1) (cc := cX1_clear) (maxL := 1) (ret := none) rfl (by decide) rfl (Nat.le_of_ble_eq_true rfl) rfl ?_
  intro p e s m below meth c A args Q hAe hx hb hr hts hown hml hlocks hname hA hK hX hT hP hD hS hret ls hl
  have hl : lv_has ls 1 [(0, .ref a_this)] := hl
  unfold wp_X1_clear at hwp
  refine lv_aload_n hx hb dX1_clear_0 rfl (lv_at hl 0 rfl) ?_
  refine lv_iconst (v := 0) hx hb dX1_clear_1 (by decide) ?_
  refine va_put (D := D) (ci := 1) (v := .int (0 : Int32)) (ty := .int) (C := RX1) (T := TX1) (N := 2) hx hb hts mc_X1_clear_1 tyX1 tyX1_ok nmX1 hown hK hP hD hS 0 rfl rfl 1 (by decide) (hts _ ml_X1_clear_1) (fun _ h9 => h9) rfl (by decide +kernel) rfl rfl (Nat.le_of_ble_eq_true rfl) dX1_clear_2 (fun H locs hP hD hS => ?_)
  have hP : va_P D vwCl [(a_this, .inr (1, [.ref a_numbers, .int (0 : Int32)]))] H := hP
  have hD : va_D A [(a_this, .inr (1, [.ref a_numbers, .int (0 : Int32)]))] := hD
  exact hret (0 : Int32) [0] dX1_clear_5 hwp rfl rfl hP hD hS
theorem mc_X1_copyFrom_1 : ∀ w ∈ u_ws RX1 TX1 2, w ∈ wsX1_copyFrom := fun w h => List.mem_cons_of_mem _ (List.mem_append_right _ h)
theorem ml_X1_copyFrom_1 : (.fieldLink RX1 9 "StoryWall$Cards" "numbers" "[I" : Cond) ∈ wsX1_copyFrom := List.mem_of_getElem? (i := 1) rfl
theorem ml_X1_copyFrom_2 : (.methodLink RX1 19 arraycopyName : Cond) ∈ wsX1_copyFrom := List.mem_of_getElem? (i := 2) rfl
theorem ml_X1_copyFrom_3 : (.native arraycopyName : Cond) ∈ wsX1_copyFrom := List.mem_of_getElem? (i := 3) rfl
theorem ml_X1_copyFrom_4 : (.static arraycopyName : Cond) ∈ wsX1_copyFrom := List.mem_of_getElem? (i := 4) rfl
theorem ml_X1_copyFrom_5 : (.initialized "java/lang/System" : Cond) ∈ wsX1_copyFrom := List.mem_of_getElem? (i := 5) rfl
theorem ml_X1_copyFrom_6 : (.fieldLink RX1 15 "StoryWall$Cards" "size" "I" : Cond) ∈ wsX1_copyFrom := List.mem_of_getElem? (i := 6) rfl
abbrev rm_X1_copyFrom : Room := { frames := 1, cells := 0, slots := 0, locals := 26 }
set_option maxHeartbeats 4000000 in
set_option maxRecDepth 100000 in
theorem c_X1_copyFrom (l : Launch) (D : va_G) (cI cC cF cO : ClassId) (a_this a_numbers a_p1 a_p1_numbers : Nat)  (sz : Nat)  (v_size : Int32) (v_numbers : Nat → Int32) (v_p1_size : Int32) (v_p1_numbers : Nat → Int32) (post : Int32 → (Nat → Int32) → Prop) (hwp : wp_X1_copyFrom v_size v_numbers v_p1_size v_p1_numbers post) : Met l yX1_copyFrom wsX1_copyFrom rm_X1_copyFrom (gPre D (gT cI cC cF cO) [.ref a_this, .ref a_p1] [(a_this, .inr (1, [.ref a_numbers, .int v_size])), (a_numbers, .inl (cI, 200, .inl v_numbers)), (a_p1, .inr (1, [.ref a_p1_numbers, .int v_p1_size])), (a_p1_numbers, .inl (cI, 200, .inl v_p1_numbers))] sz) (va_Qv (S := Int32 × (Nat → Int32)) (fun (u : Int32 × (Nat → Int32)) => post u.1 u.2) (gB D (gT cI cC cF cO) (fun (u : Int32 × (Nat → Int32)) => [(a_this, .inr (1, [.ref a_numbers, .int u.1])), (a_numbers, .inl (cI, 200, .inl u.2)), (a_p1, .inr (1, [.ref a_p1_numbers, .int v_p1_size])), (a_p1_numbers, .inl (cI, 200, .inl v_p1_numbers))]) [(a_this, .inr (1, [.ref a_numbers, .int v_size])), (a_numbers, .inl (cI, 200, .inl v_numbers)), (a_p1, .inr (1, [.ref a_p1_numbers, .int v_p1_size])), (a_p1_numbers, .inl (cI, 200, .inl v_p1_numbers))] sz) (va_A [(a_this, .inr (1, [.ref a_numbers, .int v_size])), (a_numbers, .inl (cI, 200, .inl v_numbers)), (a_p1, .inr (1, [.ref a_p1_numbers, .int v_p1_size])), (a_p1_numbers, .inl (cI, 200, .inl v_p1_numbers))] sz)) 0 0 (va_A [(a_this, .inr (1, [.ref a_numbers, .int v_size])), (a_numbers, .inl (cI, 200, .inl v_numbers)), (a_p1, .inr (1, [.ref a_p1_numbers, .int v_p1_size])), (a_p1_numbers, .inl (cI, 200, .inl v_p1_numbers))] sz) := by
  refine gOfv (own := RX1) (cc := cX1_copyFrom) (maxL := 2) (ret := none) rfl (by decide) rfl (Nat.le_of_ble_eq_true rfl) rfl ?_
  intro p e s m below meth c A args Q hAe hx hb hr hts hown hml hlocks hname hA hK hX hT hP hD hS hret ls hl
  have hl : lv_has ls 2 [(0, .ref a_this), (1, .ref a_p1)] := hl
  unfold wp_X1_copyFrom at hwp
  refine lv_aload_n hx hb dX1_copyFrom_0 rfl (lv_at hl 1 rfl) ?_
  refine va_get (D := D) (ci := 1) (v := .ref a_p1_numbers) (C := RX1) (T := TX1) (N := 2) hx hb hts mc_X1_copyFrom_1 hown hK hP 2 rfl rfl 0 (by decide) (hts _ ml_X1_copyFrom_1) (fun _ h9 => h9) rfl dX1_copyFrom_1 ?_
  refine lv_iconst (v := 0) hx hb dX1_copyFrom_4 (by decide) ?_
  refine lv_aload_n hx hb dX1_copyFrom_5 rfl (lv_at hl 0 rfl) ?_
  refine va_get (D := D) (ci := 1) (v := .ref a_numbers) (C := RX1) (T := TX1) (N := 2) hx hb hts mc_X1_copyFrom_1 hown hK hP 0 rfl rfl 0 (by decide) (hts _ ml_X1_copyFrom_1) (fun _ h9 => h9) rfl dX1_copyFrom_6 ?_
  refine lv_iconst (v := 0) hx hb dX1_copyFrom_9 (by decide) ?_
  refine lv_aload_n hx hb dX1_copyFrom_10 rfl (lv_at hl 0 rfl) ?_
  refine va_get (D := D) (ci := 1) (v := .ref a_numbers) (C := RX1) (T := TX1) (N := 2) hx hb hts mc_X1_copyFrom_1 hown hK hP 0 rfl rfl 0 (by decide) (hts _ ml_X1_copyFrom_1) (fun _ h9 => h9) rfl dX1_copyFrom_11 ?_
  refine va_alen (D := D) (v := 200) hx hb hK hP 1 0 rfl rfl rfl dX1_copyFrom_14 ?_
  refine va_copyi (D := D) hx hb (by rw [hml]; exact hl.1.symm) hown (hts _ ml_X1_copyFrom_2) (hts _ ml_X1_copyFrom_3) (hts _ ml_X1_copyFrom_4) (hts _ ml_X1_copyFrom_5) hK hP hD hS 3 1 0 0 rfl rfl rfl rfl rfl (by decide) (by decide) (by decide) (by decide) (by decide) (fun _ _ => rfl) (Nat.le_of_ble_eq_true rfl) (Nat.le_of_ble_eq_true rfl) dX1_copyFrom_15 (fun H locs hP hD hS => ?_)
  have hP : va_P D vwCl [(a_this, .inr (1, [.ref a_numbers, .int v_size])), (a_numbers, .inl (cI, 200, .inl (va_cpy v_p1_numbers v_numbers ((0 : Int32)).toNatClampNeg ((0 : Int32)).toNatClampNeg ((200 : Int32)).toNatClampNeg))), (a_p1, .inr (1, [.ref a_p1_numbers, .int v_p1_size])), (a_p1_numbers, .inl (cI, 200, .inl v_p1_numbers))] H := hP
  have hD : va_D A [(a_this, .inr (1, [.ref a_numbers, .int v_size])), (a_numbers, .inl (cI, 200, .inl (va_cpy v_p1_numbers v_numbers ((0 : Int32)).toNatClampNeg ((0 : Int32)).toNatClampNeg ((200 : Int32)).toNatClampNeg))), (a_p1, .inr (1, [.ref a_p1_numbers, .int v_p1_size])), (a_p1_numbers, .inl (cI, 200, .inl v_p1_numbers))] := hD
  refine lv_aload_n hx hb dX1_copyFrom_18 rfl (lv_at hl 0 rfl) ?_
  refine lv_aload_n hx hb dX1_copyFrom_19 rfl (lv_at hl 1 rfl) ?_
  refine va_get (D := D) (ci := 1) (v := .int v_p1_size) (C := RX1) (T := TX1) (N := 2) hx hb hts mc_X1_copyFrom_1 hown hK hP 2 rfl rfl 1 (by decide) (hts _ ml_X1_copyFrom_6) (fun _ h9 => h9) rfl dX1_copyFrom_20 ?_
  refine va_put (D := D) (ci := 1) (v := .int v_p1_size) (ty := .int) (C := RX1) (T := TX1) (N := 2) hx hb hts mc_X1_copyFrom_1 tyX1 tyX1_ok nmX1 hown hK hP hD hS 0 rfl rfl 1 (by decide) (hts _ ml_X1_copyFrom_6) (fun _ h9 => h9) rfl (by decide +kernel) rfl rfl (Nat.le_of_ble_eq_true rfl) dX1_copyFrom_23 (fun H locs hP hD hS => ?_)
  have hP : va_P D vwCl [(a_this, .inr (1, [.ref a_numbers, .int v_p1_size])), (a_numbers, .inl (cI, 200, .inl (va_cpy v_p1_numbers v_numbers ((0 : Int32)).toNatClampNeg ((0 : Int32)).toNatClampNeg ((200 : Int32)).toNatClampNeg))), (a_p1, .inr (1, [.ref a_p1_numbers, .int v_p1_size])), (a_p1_numbers, .inl (cI, 200, .inl v_p1_numbers))] H := hP
  have hD : va_D A [(a_this, .inr (1, [.ref a_numbers, .int v_p1_size])), (a_numbers, .inl (cI, 200, .inl (va_cpy v_p1_numbers v_numbers ((0 : Int32)).toNatClampNeg ((0 : Int32)).toNatClampNeg ((200 : Int32)).toNatClampNeg))), (a_p1, .inr (1, [.ref a_p1_numbers, .int v_p1_size])), (a_p1_numbers, .inl (cI, 200, .inl v_p1_numbers))] := hD
  exact hret (v_p1_size, (va_cpy v_p1_numbers v_numbers ((0 : Int32)).toNatClampNeg ((0 : Int32)).toNatClampNeg ((200 : Int32)).toNatClampNeg)) [0, 1, 2, 3] dX1_copyFrom_26 hwp rfl rfl hP hD hS
theorem mc_X1_isNumber_1 : ∀ w ∈ u_ws RX1 TX1 2, w ∈ wsX1_isNumber := fun w h => List.mem_cons_of_mem _ (List.mem_append_right _ h)
theorem ml_X1_isNumber_1 : (.fieldLink RX1 15 "StoryWall$Cards" "size" "I" : Cond) ∈ wsX1_isNumber := List.mem_of_getElem? (i := 1) rfl
abbrev rm_X1_isNumber : Room := { frames := 0, cells := 0, slots := 0, locals := 0 }
set_option maxHeartbeats 4000000 in
set_option maxRecDepth 100000 in
theorem c_X1_isNumber (l : Launch) (D : va_G) (cI cC cF cO : ClassId) (a_this a_numbers : Nat)  (sz : Nat) (x1 : Int32) (x2 : Int32) (v_size : Int32) (post : Int32 → Prop) (hwp : wp_X1_isNumber x1 x2 v_size post) : Met l yX1_isNumber wsX1_isNumber rm_X1_isNumber (gPre D (gT cI cC cF cO) [.ref a_this, .int x1, .int x2] [(a_this, .inr (1, [.ref a_numbers, .int v_size]))] sz) (va_Qi (S := Unit) (fun (r : Int32) (u : Unit) => post r ) (gB D (gT cI cC cF cO) (fun (u : Unit) => [(a_this, .inr (1, [.ref a_numbers, .int v_size]))]) [(a_this, .inr (1, [.ref a_numbers, .int v_size]))] sz) (va_A [(a_this, .inr (1, [.ref a_numbers, .int v_size]))] sz)) 0 0 (va_A [(a_this, .inr (1, [.ref a_numbers, .int v_size]))] sz) := by
  refine gOfz (own := RX1) (cc := cX1_isNumber) (maxL := 3) (ret := (some .boolean)) rfl (by decide) rfl (Nat.le_of_ble_eq_true rfl) rfl ?_
  intro p e s m below meth c A args Q hAe hx hb hr hts hown hml hlocks hname hA hK hX hT hP hD hS hret ls hl
  have hl : lv_has ls 3 [(0, .ref a_this), (1, .int x1), (2, .int x2)] := hl
  unfold wp_X1_isNumber at hwp
  refine lv_iload_n hx hb dX1_isNumber_0 rfl (lv_at hl 1 rfl) ?_
  refine lv_if_lt (tgt := 31) hx hb dX1_isNumber_1 (by decide) (fun hc => ?_) (fun hc => ?_)
  · have hwp := hwp.1 hc
    refine lv_iconst (v := 0) hx hb dX1_isNumber_31 (by decide) ?_
    exact hret () [0] dX1_isNumber_32 (Or.inl rfl) hwp rfl rfl hP hD hS
  · have hwp := hwp.2 hc
    refine lv_iload_n hx hb dX1_isNumber_4 rfl (lv_at hl 1 rfl) ?_
    refine lv_aload_n hx hb dX1_isNumber_5 rfl (lv_at hl 0 rfl) ?_
    refine va_get (D := D) (ci := 1) (v := .int v_size) (C := RX1) (T := TX1) (N := 2) hx hb hts mc_X1_isNumber_1 hown hK hP 0 rfl rfl 1 (by decide) (hts _ ml_X1_isNumber_1) (fun _ h9 => h9) rfl dX1_isNumber_6 ?_
    refine lv_icmp_ge (tgt := 31) hx hb dX1_isNumber_9 (by decide) (fun hc => ?_) (fun hc => ?_)
    · have hwp := hwp.1 hc
      refine lv_iconst (v := 0) hx hb dX1_isNumber_31 (by decide) ?_
      exact hret () [0] dX1_isNumber_32 (Or.inl rfl) hwp rfl rfl hP hD hS
    · have hwp := hwp.2 hc
      refine lv_iload_n hx hb dX1_isNumber_12 rfl (lv_at hl 1 rfl) ?_
      refine lv_bipush (v := 40) hx hb dX1_isNumber_13 (by decide) ?_
      refine lv_icmp_ge (tgt := 31) hx hb dX1_isNumber_15 (by decide) (fun hc => ?_) (fun hc => ?_)
      · have hwp := hwp.1 hc
        refine lv_iconst (v := 0) hx hb dX1_isNumber_31 (by decide) ?_
        exact hret () [0] dX1_isNumber_32 (Or.inl rfl) hwp rfl rfl hP hD hS
      · have hwp := hwp.2 hc
        refine lv_iload_n hx hb dX1_isNumber_18 rfl (lv_at hl 2 rfl) ?_
        refine lv_if_lt (tgt := 31) hx hb dX1_isNumber_19 (by decide) (fun hc => ?_) (fun hc => ?_)
        · have hwp := hwp.1 hc
          refine lv_iconst (v := 0) hx hb dX1_isNumber_31 (by decide) ?_
          exact hret () [0] dX1_isNumber_32 (Or.inl rfl) hwp rfl rfl hP hD hS
        · have hwp := hwp.2 hc
          refine lv_iload_n hx hb dX1_isNumber_22 rfl (lv_at hl 2 rfl) ?_
          refine lv_iconst (v := 5) hx hb dX1_isNumber_23 (by decide) ?_
          refine lv_icmp_ge (tgt := 31) hx hb dX1_isNumber_24 (by decide) (fun hc => ?_) (fun hc => ?_)
          · have hwp := hwp.1 hc
            refine lv_iconst (v := 0) hx hb dX1_isNumber_31 (by decide) ?_
            exact hret () [0] dX1_isNumber_32 (Or.inl rfl) hwp rfl rfl hP hD hS
          · have hwp := hwp.2 hc
            refine lv_iconst (v := 1) hx hb dX1_isNumber_27 (by decide) ?_
            refine lv_goto (tgt := 32) hx hb dX1_isNumber_28 (by decide) ?_
            exact hret () [0] dX1_isNumber_32 (Or.inr rfl) hwp rfl rfl hP hD hS
theorem mc_X1_number_1 : ∀ w ∈ u_ws RX1 TX1 2, w ∈ wsX1_number := fun w h => List.mem_cons_of_mem _ (List.mem_append_right _ h)
theorem ml_X1_number_1 : (.fieldLink RX1 9 "StoryWall$Cards" "numbers" "[I" : Cond) ∈ wsX1_number := List.mem_of_getElem? (i := 1) rfl
abbrev rm_X1_number : Room := { frames := 1, cells := 0, slots := 0, locals := 22 }
set_option maxHeartbeats 4000000 in
set_option maxRecDepth 100000 in
theorem c_X1_number (l : Launch) (D : va_G) (cI cC cF cO : ClassId) (a_this a_numbers : Nat)  (sz : Nat) (x1 : Int32) (x2 : Int32) (v_size : Int32) (v_numbers : Nat → Int32) (post : Int32 → Prop) (hwp : wp_X1_number x1 x2 v_size v_numbers post) : Met l yX1_number wsX1_number rm_X1_number (gPre D (gT cI cC cF cO) [.ref a_this, .int x1, .int x2] [(a_this, .inr (1, [.ref a_numbers, .int v_size])), (a_numbers, .inl (cI, 200, .inl v_numbers))] sz) (va_Qi (S := Unit) (fun (r : Int32) (u : Unit) => post r ) (gB D (gT cI cC cF cO) (fun (u : Unit) => [(a_this, .inr (1, [.ref a_numbers, .int v_size])), (a_numbers, .inl (cI, 200, .inl v_numbers))]) [(a_this, .inr (1, [.ref a_numbers, .int v_size])), (a_numbers, .inl (cI, 200, .inl v_numbers))] sz) (va_A [(a_this, .inr (1, [.ref a_numbers, .int v_size])), (a_numbers, .inl (cI, 200, .inl v_numbers))] sz)) 0 0 (va_A [(a_this, .inr (1, [.ref a_numbers, .int v_size])), (a_numbers, .inl (cI, 200, .inl v_numbers))] sz) := by
  refine gOfi (own := RX1) (cc := cX1_number) (maxL := 3) (ret := (some .int)) rfl (by decide) rfl (Nat.le_of_ble_eq_true rfl) rfl ?_
  intro p e s m below meth c A args Q hAe hx hb hr hts hown hml hlocks hname hA hK hX hT hP hD hS hret ls hl
  have hl : lv_has ls 3 [(0, .ref a_this), (1, .int x1), (2, .int x2)] := hl
  unfold wp_X1_number at hwp
  refine lv_aload_n hx hb dX1_number_0 rfl (lv_at hl 0 rfl) ?_
  refine lv_iload_n hx hb dX1_number_1 rfl (lv_at hl 1 rfl) ?_
  refine lv_iload_n hx hb dX1_number_2 rfl (lv_at hl 2 rfl) ?_
  refine gBacki (D := D) (tys := gT cI cC cF cO) (A := A) (wr := [(a_numbers, .inl (cI, 200, .inl v_numbers))]) (w1 := (fun u_2 : Unit => [(a_this, .inr (1, [.ref a_numbers, .int v_size]))])) (va_runV (As := [.int x1, .int x2]) (rest := []) ⟨hx, hb, hml, hown, hts⟩ (c_X1_isNumber l D cI cC cF cO a_this a_numbers _ _ _ _ _ hwp) (cwV 2 hts gX1_number_X1_isNumber rfl rfl rfl (by decide +kernel) ⟨Nat.le_of_ble_eq_true rfl, Nat.le_of_ble_eq_true rfl⟩) (gPreV (C := RX1) (T := TX1) (N := 2) (ci := 1) hK hX hT hP hD hS hA [0] rfl rfl rfl (qb := 0) rfl) rfl rfl hl.1 rfl (lv_room (Nat.le_of_ble_eq_true rfl)) dX1_number_3 ⟨Nat.le_of_ble_eq_true rfl, Nat.le_of_ble_eq_true rfl⟩) hP hD hS hA [0] [1] rfl rfl rfl (by decide) (fun r_1 u_2 H locs hwp hP hD hS => ?_)
  have hP : va_P D vwCl [(a_numbers, .inl (cI, 200, .inl v_numbers)), (a_this, .inr (1, [.ref a_numbers, .int v_size]))] H := hP
  have hD : va_D A [(a_numbers, .inl (cI, 200, .inl v_numbers)), (a_this, .inr (1, [.ref a_numbers, .int v_size]))] := hD
  refine lv_if_eq (tgt := 22) hx hb dX1_number_6 (by decide) (fun hc => ?_) (fun hc => ?_)
  · have hwp := hwp.1 hc
    refine lv_bipush (v := -5) hx hb dX1_number_22 (by decide) ?_
    exact hret () [1, 0] dX1_number_24 hwp rfl rfl hP hD hS
  · have hwp := hwp.2 hc
    refine lv_aload_n hx hb dX1_number_9 rfl (lv_at hl 0 rfl) ?_
    refine va_get (D := D) (ci := 1) (v := .ref a_numbers) (C := RX1) (T := TX1) (N := 2) hx hb hts mc_X1_number_1 hown hK hP 1 rfl rfl 0 (by decide) (hts _ ml_X1_number_1) (fun _ h9 => h9) rfl dX1_number_10 ?_
    refine lv_iload_n hx hb dX1_number_13 rfl (lv_at hl 1 rfl) ?_
    refine lv_iconst (v := 5) hx hb dX1_number_14 (by decide) ?_
    refine lv_imul hx hb dX1_number_15 ?_
    refine lv_iload_n hx hb dX1_number_16 rfl (lv_at hl 2 rfl) ?_
    refine lv_iadd hx hb dX1_number_17 ?_
    have hn_3 := hwp.1
    have hwp := hwp.2
    refine va_iald (D := D) hx hb hK hP 0 0 rfl rfl hn_3 dX1_number_18 ?_
    refine lv_goto (tgt := 24) hx hb dX1_number_19 (by decide) ?_
    exact hret () [1, 0] dX1_number_24 hwp rfl rfl hP hD hS
theorem mc_X1_put_1 : ∀ w ∈ u_ws RX1 TX1 2, w ∈ wsX1_put := fun w h => List.mem_cons_of_mem _ (List.mem_append_right _ h)
theorem ml_X1_put_1 : (.fieldLink RX1 9 "StoryWall$Cards" "numbers" "[I" : Cond) ∈ wsX1_put := List.mem_of_getElem? (i := 1) rfl
abbrev rm_X1_put : Room := { frames := 1, cells := 0, slots := 0, locals := 22 }
set_option maxHeartbeats 4000000 in
set_option maxRecDepth 100000 in
theorem c_X1_put (l : Launch) (D : va_G) (cI cC cF cO : ClassId) (a_this a_numbers : Nat)  (sz : Nat) (x1 : Int32) (x2 : Int32) (x3 : Int32) (v_size : Int32) (v_numbers : Nat → Int32) (post : (Nat → Int32) → Prop) (hwp : wp_X1_put x1 x2 x3 v_size v_numbers post) : Met l yX1_put wsX1_put rm_X1_put (gPre D (gT cI cC cF cO) [.ref a_this, .int x1, .int x2, .int x3] [(a_this, .inr (1, [.ref a_numbers, .int v_size])), (a_numbers, .inl (cI, 200, .inl v_numbers))] sz) (va_Qv (S := (Nat → Int32)) (fun (u : (Nat → Int32)) => post u) (gB D (gT cI cC cF cO) (fun (u : (Nat → Int32)) => [(a_this, .inr (1, [.ref a_numbers, .int v_size])), (a_numbers, .inl (cI, 200, .inl u))]) [(a_this, .inr (1, [.ref a_numbers, .int v_size])), (a_numbers, .inl (cI, 200, .inl v_numbers))] sz) (va_A [(a_this, .inr (1, [.ref a_numbers, .int v_size])), (a_numbers, .inl (cI, 200, .inl v_numbers))] sz)) 0 0 (va_A [(a_this, .inr (1, [.ref a_numbers, .int v_size])), (a_numbers, .inl (cI, 200, .inl v_numbers))] sz) := by
  refine gOfv (own := RX1) (cc := cX1_put) (maxL := 4) (ret := none) rfl (by decide) rfl (Nat.le_of_ble_eq_true rfl) rfl ?_
  intro p e s m below meth c A args Q hAe hx hb hr hts hown hml hlocks hname hA hK hX hT hP hD hS hret ls hl
  have hl : lv_has ls 4 [(0, .ref a_this), (1, .int x1), (2, .int x2), (3, .int x3)] := hl
  unfold wp_X1_put at hwp
  refine lv_aload_n hx hb dX1_put_0 rfl (lv_at hl 0 rfl) ?_
  refine lv_iload_n hx hb dX1_put_1 rfl (lv_at hl 1 rfl) ?_
  refine lv_iload_n hx hb dX1_put_2 rfl (lv_at hl 2 rfl) ?_
  refine gBacki (D := D) (tys := gT cI cC cF cO) (A := A) (wr := [(a_numbers, .inl (cI, 200, .inl v_numbers))]) (w1 := (fun u_2 : Unit => [(a_this, .inr (1, [.ref a_numbers, .int v_size]))])) (va_runV (As := [.int x1, .int x2]) (rest := []) ⟨hx, hb, hml, hown, hts⟩ (c_X1_isNumber l D cI cC cF cO a_this a_numbers _ _ _ _ _ hwp) (cwV 2 hts gX1_put_X1_isNumber rfl rfl rfl (by decide +kernel) ⟨Nat.le_of_ble_eq_true rfl, Nat.le_of_ble_eq_true rfl⟩) (gPreV (C := RX1) (T := TX1) (N := 2) (ci := 1) hK hX hT hP hD hS hA [0] rfl rfl rfl (qb := 0) rfl) rfl rfl hl.1 rfl (lv_room (Nat.le_of_ble_eq_true rfl)) dX1_put_3 ⟨Nat.le_of_ble_eq_true rfl, Nat.le_of_ble_eq_true rfl⟩) hP hD hS hA [0] [1] rfl rfl rfl (by decide) (fun r_1 u_2 H locs hwp hP hD hS => ?_)
  have hP : va_P D vwCl [(a_numbers, .inl (cI, 200, .inl v_numbers)), (a_this, .inr (1, [.ref a_numbers, .int v_size]))] H := hP
  have hD : va_D A [(a_numbers, .inl (cI, 200, .inl v_numbers)), (a_this, .inr (1, [.ref a_numbers, .int v_size]))] := hD
  refine lv_if_eq (tgt := 20) hx hb dX1_put_6 (by decide) (fun hc => ?_) (fun hc => ?_)
  · have hwp := hwp.1 hc
    exact hret v_numbers [1, 0] dX1_put_20 hwp rfl rfl hP hD hS
  · have hwp := hwp.2 hc
    refine lv_aload_n hx hb dX1_put_9 rfl (lv_at hl 0 rfl) ?_
    refine va_get (D := D) (ci := 1) (v := .ref a_numbers) (C := RX1) (T := TX1) (N := 2) hx hb hts mc_X1_put_1 hown hK hP 1 rfl rfl 0 (by decide) (hts _ ml_X1_put_1) (fun _ h9 => h9) rfl dX1_put_10 ?_
    refine lv_iload_n hx hb dX1_put_13 rfl (lv_at hl 1 rfl) ?_
    refine lv_iconst (v := 5) hx hb dX1_put_14 (by decide) ?_
    refine lv_imul hx hb dX1_put_15 ?_
    refine lv_iload_n hx hb dX1_put_16 rfl (lv_at hl 2 rfl) ?_
    refine lv_iadd hx hb dX1_put_17 ?_
    refine lv_iload_n hx hb dX1_put_18 rfl (lv_at hl 3 rfl) ?_
    have hn_3 := hwp.1
    have hwp := hwp.2
    refine va_iast (D := D) hx hb hK hP hD hS 0 0 rfl rfl hn_3 dX1_put_19 (fun H locs hP hD hS => ?_)
    have hP : va_P D vwCl [(a_numbers, .inl (cI, 200, .inl (upd v_numbers (((x1 * (5 : Int32)) + x2)).toNatClampNeg x3))), (a_this, .inr (1, [.ref a_numbers, .int v_size]))] H := hP
    have hD : va_D A [(a_numbers, .inl (cI, 200, .inl (upd v_numbers (((x1 * (5 : Int32)) + x2)).toNatClampNeg x3))), (a_this, .inr (1, [.ref a_numbers, .int v_size]))] := hD
    exact hret (upd v_numbers (((x1 * (5 : Int32)) + x2)).toNatClampNeg x3) [1, 0] dX1_put_20 hwp rfl rfl hP hD hS
theorem mc_X1_append_1 : ∀ w ∈ u_ws RX1 TX1 2, w ∈ wsX1_append := fun w h => List.mem_cons_of_mem _ (List.mem_append_right _ h)
theorem ml_X1_append_1 : (.fieldLink RX1 15 "StoryWall$Cards" "size" "I" : Cond) ∈ wsX1_append := List.mem_of_getElem? (i := 1) rfl
abbrev rm_X1_append : Room := { frames := 2, cells := 0, slots := 0, locals := 45 }
set_option maxHeartbeats 4000000 in
set_option maxRecDepth 100000 in
theorem c_X1_append (l : Launch) (D : va_G) (cI cC cF cO : ClassId) (a_this a_numbers : Nat)  (sz : Nat) (x1 : Int32) (x2 : Int32) (x3 : Int32) (x4 : Int32) (x5 : Int32) (v_size : Int32) (v_numbers : Nat → Int32) (post : Int32 → (Nat → Int32) → Prop) (hwp : wp_X1_append x1 x2 x3 x4 x5 v_size v_numbers post) : Met l yX1_append wsX1_append rm_X1_append (gPre D (gT cI cC cF cO) [.ref a_this, .int x1, .int x2, .int x3, .int x4, .int x5] [(a_this, .inr (1, [.ref a_numbers, .int v_size])), (a_numbers, .inl (cI, 200, .inl v_numbers))] sz) (va_Qv (S := Int32 × (Nat → Int32)) (fun (u : Int32 × (Nat → Int32)) => post u.1 u.2) (gB D (gT cI cC cF cO) (fun (u : Int32 × (Nat → Int32)) => [(a_this, .inr (1, [.ref a_numbers, .int u.1])), (a_numbers, .inl (cI, 200, .inl u.2))]) [(a_this, .inr (1, [.ref a_numbers, .int v_size])), (a_numbers, .inl (cI, 200, .inl v_numbers))] sz) (va_A [(a_this, .inr (1, [.ref a_numbers, .int v_size])), (a_numbers, .inl (cI, 200, .inl v_numbers))] sz)) 0 0 (va_A [(a_this, .inr (1, [.ref a_numbers, .int v_size])), (a_numbers, .inl (cI, 200, .inl v_numbers))] sz) := by
  refine gOfv (own := RX1) (cc := cX1_append) (maxL := 7) (ret := none) rfl (by decide) rfl (Nat.le_of_ble_eq_true rfl) rfl ?_
  intro p e s m below meth c A args Q hAe hx hb hr hts hown hml hlocks hname hA hK hX hT hP hD hS hret ls hl
  have hl : lv_has ls 7 [(0, .ref a_this), (1, .int x1), (2, .int x2), (3, .int x3), (4, .int x4), (5, .int x5)] := hl
  unfold wp_X1_append at hwp
  refine lv_aload_n hx hb dX1_append_0 rfl (lv_at hl 0 rfl) ?_
  refine lv_iconst (v := 1) hx hb dX1_append_1 (by decide) ?_
  refine gBacki (D := D) (tys := gT cI cC cF cO) (A := A) (wr := [(a_numbers, .inl (cI, 200, .inl v_numbers))]) (w1 := (fun u_2 : Unit => [(a_this, .inr (1, [.ref a_numbers, .int v_size]))])) (va_runV (As := [.int (1 : Int32)]) (rest := []) ⟨hx, hb, hml, hown, hts⟩ (c_X1_hasRoomFor l D cI cC cF cO a_this a_numbers _ _ _ _ hwp) (cwV 1 hts gX1_append_X1_hasRoomFor rfl rfl rfl (by decide +kernel) ⟨Nat.le_of_ble_eq_true rfl, Nat.le_of_ble_eq_true rfl⟩) (gPreV (C := RX1) (T := TX1) (N := 2) (ci := 1) hK hX hT hP hD hS hA [0] rfl rfl rfl (qb := 0) rfl) rfl rfl hl.1 rfl (lv_room (Nat.le_of_ble_eq_true rfl)) dX1_append_2 ⟨Nat.le_of_ble_eq_true rfl, Nat.le_of_ble_eq_true rfl⟩) hP hD hS hA [0] [1] rfl rfl rfl (by decide) (fun r_1 u_2 H locs hwp hP hD hS => ?_)
  have hP : va_P D vwCl [(a_numbers, .inl (cI, 200, .inl v_numbers)), (a_this, .inr (1, [.ref a_numbers, .int v_size]))] H := hP
  have hD : va_D A [(a_numbers, .inl (cI, 200, .inl v_numbers)), (a_this, .inr (1, [.ref a_numbers, .int v_size]))] := hD
  refine lv_if_ne (tgt := 9) hx hb dX1_append_5 (by decide) (fun hc => ?_) (fun hc => ?_)
  · have hwp := hwp.2 hc
    refine lv_aload_n hx hb dX1_append_9 rfl (lv_at hl 0 rfl) ?_
    refine va_get (D := D) (ci := 1) (v := .int v_size) (C := RX1) (T := TX1) (N := 2) hx hb hts mc_X1_append_1 hown hK hP 1 rfl rfl 1 (by decide) (hts _ ml_X1_append_1) (fun _ h9 => h9) rfl dX1_append_10 ?_
    refine lv_istore (lv' := [(6, .int v_size), (0, .ref a_this), (1, .int x1), (2, .int x2), (3, .int x3), (4, .int x4), (5, .int x5)]) hx hb dX1_append_13 hl (by decide) rfl (fun ls hl => ?_)
    refine lv_aload_n hx hb dX1_append_15 rfl (lv_at hl 1 rfl) ?_
    refine lv_dup hx hb dX1_append_16 rfl ?_
    refine va_get (D := D) (ci := 1) (v := .int v_size) (C := RX1) (T := TX1) (N := 2) hx hb hts mc_X1_append_1 hown hK hP 1 rfl rfl 1 (by decide) (hts _ ml_X1_append_1) (fun _ h9 => h9) rfl dX1_append_17 ?_
    refine lv_iconst (v := 1) hx hb dX1_append_20 (by decide) ?_
    refine lv_iadd hx hb dX1_append_21 ?_
    refine va_put (D := D) (ci := 1) (v := .int (v_size + (1 : Int32))) (ty := .int) (C := RX1) (T := TX1) (N := 2) hx hb hts mc_X1_append_1 tyX1 tyX1_ok nmX1 hown hK hP hD hS 1 rfl rfl 1 (by decide) (hts _ ml_X1_append_1) (fun _ h9 => h9) rfl (by decide +kernel) rfl rfl (Nat.le_of_ble_eq_true rfl) dX1_append_22 (fun H locs hP hD hS => ?_)
    have hP : va_P D vwCl [(a_numbers, .inl (cI, 200, .inl v_numbers)), (a_this, .inr (1, [.ref a_numbers, .int (v_size + (1 : Int32))]))] H := hP
    have hD : va_D A [(a_numbers, .inl (cI, 200, .inl v_numbers)), (a_this, .inr (1, [.ref a_numbers, .int (v_size + (1 : Int32))]))] := hD
    refine lv_aload_n hx hb dX1_append_25 rfl (lv_at hl 1 rfl) ?_
    refine lv_iload hx hb dX1_append_26 (lv_at hl 0 rfl) ?_
    refine lv_iconst (v := 0) hx hb dX1_append_28 (by decide) ?_
    refine lv_iload_n hx hb dX1_append_29 rfl (lv_at hl 2 rfl) ?_
    refine gBackv (D := D) (tys := gT cI cC cF cO) (A := A) (wr := []) (w1 := (fun u_4 : (Nat → Int32) => [(a_this, .inr (1, [.ref a_numbers, .int (v_size + (1 : Int32))])), (a_numbers, .inl (cI, 200, .inl u_4))])) (va_runV (As := [.int v_size, .int (0 : Int32), .int x1]) (rest := []) ⟨hx, hb, hml, hown, hts⟩ (c_X1_put l D cI cC cF cO a_this a_numbers _ _ _ _ _ _ _ hwp) (cwV 3 hts gX1_append_X1_put rfl rfl rfl (by decide +kernel) ⟨Nat.le_of_ble_eq_true rfl, Nat.le_of_ble_eq_true rfl⟩) (gPreV (C := RX1) (T := TX1) (N := 2) (ci := 1) hK hX hT hP hD hS hA [1, 0] rfl rfl rfl (qb := 1) rfl) rfl rfl hl.1 rfl (lv_room (Nat.le_of_ble_eq_true rfl)) dX1_append_30 ⟨Nat.le_of_ble_eq_true rfl, Nat.le_of_ble_eq_true rfl⟩) hP hD hS hA [1, 0] [] rfl rfl rfl (by decide) (fun u_4 H locs hwp hP hD hS => ?_)
    have hP : va_P D vwCl [(a_this, .inr (1, [.ref a_numbers, .int (v_size + (1 : Int32))])), (a_numbers, .inl (cI, 200, .inl u_4))] H := hP
    have hD : va_D A [(a_this, .inr (1, [.ref a_numbers, .int (v_size + (1 : Int32))])), (a_numbers, .inl (cI, 200, .inl u_4))] := hD
    refine lv_aload_n hx hb dX1_append_33 rfl (lv_at hl 1 rfl) ?_
    refine lv_iload hx hb dX1_append_34 (lv_at hl 0 rfl) ?_
    refine lv_iconst (v := 1) hx hb dX1_append_36 (by decide) ?_
    refine lv_iload_n hx hb dX1_append_37 rfl (lv_at hl 3 rfl) ?_
    refine gBackv (D := D) (tys := gT cI cC cF cO) (A := A) (wr := []) (w1 := (fun u_6 : (Nat → Int32) => [(a_this, .inr (1, [.ref a_numbers, .int (v_size + (1 : Int32))])), (a_numbers, .inl (cI, 200, .inl u_6))])) (va_runV (As := [.int v_size, .int (1 : Int32), .int x2]) (rest := []) ⟨hx, hb, hml, hown, hts⟩ (c_X1_put l D cI cC cF cO a_this a_numbers _ _ _ _ _ _ _ hwp) (cwV 3 hts gX1_append_X1_put rfl rfl rfl (by decide +kernel) ⟨Nat.le_of_ble_eq_true rfl, Nat.le_of_ble_eq_true rfl⟩) (gPreV (C := RX1) (T := TX1) (N := 2) (ci := 1) hK hX hT hP hD hS hA [0, 1] rfl rfl rfl (qb := 0) rfl) rfl rfl hl.1 rfl (lv_room (Nat.le_of_ble_eq_true rfl)) dX1_append_38 ⟨Nat.le_of_ble_eq_true rfl, Nat.le_of_ble_eq_true rfl⟩) hP hD hS hA [0, 1] [] rfl rfl rfl (by decide) (fun u_6 H locs hwp hP hD hS => ?_)
    have hP : va_P D vwCl [(a_this, .inr (1, [.ref a_numbers, .int (v_size + (1 : Int32))])), (a_numbers, .inl (cI, 200, .inl u_6))] H := hP
    have hD : va_D A [(a_this, .inr (1, [.ref a_numbers, .int (v_size + (1 : Int32))])), (a_numbers, .inl (cI, 200, .inl u_6))] := hD
    refine lv_aload_n hx hb dX1_append_41 rfl (lv_at hl 1 rfl) ?_
    refine lv_iload hx hb dX1_append_42 (lv_at hl 0 rfl) ?_
    refine lv_iconst (v := 2) hx hb dX1_append_44 (by decide) ?_
    refine lv_iload_n hx hb dX1_append_45 rfl (lv_at hl 4 rfl) ?_
    refine gBackv (D := D) (tys := gT cI cC cF cO) (A := A) (wr := []) (w1 := (fun u_8 : (Nat → Int32) => [(a_this, .inr (1, [.ref a_numbers, .int (v_size + (1 : Int32))])), (a_numbers, .inl (cI, 200, .inl u_8))])) (va_runV (As := [.int v_size, .int (2 : Int32), .int x3]) (rest := []) ⟨hx, hb, hml, hown, hts⟩ (c_X1_put l D cI cC cF cO a_this a_numbers _ _ _ _ _ _ _ hwp) (cwV 3 hts gX1_append_X1_put rfl rfl rfl (by decide +kernel) ⟨Nat.le_of_ble_eq_true rfl, Nat.le_of_ble_eq_true rfl⟩) (gPreV (C := RX1) (T := TX1) (N := 2) (ci := 1) hK hX hT hP hD hS hA [0, 1] rfl rfl rfl (qb := 0) rfl) rfl rfl hl.1 rfl (lv_room (Nat.le_of_ble_eq_true rfl)) dX1_append_46 ⟨Nat.le_of_ble_eq_true rfl, Nat.le_of_ble_eq_true rfl⟩) hP hD hS hA [0, 1] [] rfl rfl rfl (by decide) (fun u_8 H locs hwp hP hD hS => ?_)
    have hP : va_P D vwCl [(a_this, .inr (1, [.ref a_numbers, .int (v_size + (1 : Int32))])), (a_numbers, .inl (cI, 200, .inl u_8))] H := hP
    have hD : va_D A [(a_this, .inr (1, [.ref a_numbers, .int (v_size + (1 : Int32))])), (a_numbers, .inl (cI, 200, .inl u_8))] := hD
    refine lv_aload_n hx hb dX1_append_49 rfl (lv_at hl 1 rfl) ?_
    refine lv_iload hx hb dX1_append_50 (lv_at hl 0 rfl) ?_
    refine lv_iconst (v := 3) hx hb dX1_append_52 (by decide) ?_
    refine lv_iload hx hb dX1_append_53 (lv_at hl 5 rfl) ?_
    refine gBackv (D := D) (tys := gT cI cC cF cO) (A := A) (wr := []) (w1 := (fun u_10 : (Nat → Int32) => [(a_this, .inr (1, [.ref a_numbers, .int (v_size + (1 : Int32))])), (a_numbers, .inl (cI, 200, .inl u_10))])) (va_runV (As := [.int v_size, .int (3 : Int32), .int x4]) (rest := []) ⟨hx, hb, hml, hown, hts⟩ (c_X1_put l D cI cC cF cO a_this a_numbers _ _ _ _ _ _ _ hwp) (cwV 3 hts gX1_append_X1_put rfl rfl rfl (by decide +kernel) ⟨Nat.le_of_ble_eq_true rfl, Nat.le_of_ble_eq_true rfl⟩) (gPreV (C := RX1) (T := TX1) (N := 2) (ci := 1) hK hX hT hP hD hS hA [0, 1] rfl rfl rfl (qb := 0) rfl) rfl rfl hl.1 rfl (lv_room (Nat.le_of_ble_eq_true rfl)) dX1_append_55 ⟨Nat.le_of_ble_eq_true rfl, Nat.le_of_ble_eq_true rfl⟩) hP hD hS hA [0, 1] [] rfl rfl rfl (by decide) (fun u_10 H locs hwp hP hD hS => ?_)
    have hP : va_P D vwCl [(a_this, .inr (1, [.ref a_numbers, .int (v_size + (1 : Int32))])), (a_numbers, .inl (cI, 200, .inl u_10))] H := hP
    have hD : va_D A [(a_this, .inr (1, [.ref a_numbers, .int (v_size + (1 : Int32))])), (a_numbers, .inl (cI, 200, .inl u_10))] := hD
    refine lv_aload_n hx hb dX1_append_58 rfl (lv_at hl 1 rfl) ?_
    refine lv_iload hx hb dX1_append_59 (lv_at hl 0 rfl) ?_
    refine lv_iconst (v := 4) hx hb dX1_append_61 (by decide) ?_
    refine lv_iload hx hb dX1_append_62 (lv_at hl 6 rfl) ?_
    refine gBackv (D := D) (tys := gT cI cC cF cO) (A := A) (wr := []) (w1 := (fun u_12 : (Nat → Int32) => [(a_this, .inr (1, [.ref a_numbers, .int (v_size + (1 : Int32))])), (a_numbers, .inl (cI, 200, .inl u_12))])) (va_runV (As := [.int v_size, .int (4 : Int32), .int x5]) (rest := []) ⟨hx, hb, hml, hown, hts⟩ (c_X1_put l D cI cC cF cO a_this a_numbers _ _ _ _ _ _ _ hwp) (cwV 3 hts gX1_append_X1_put rfl rfl rfl (by decide +kernel) ⟨Nat.le_of_ble_eq_true rfl, Nat.le_of_ble_eq_true rfl⟩) (gPreV (C := RX1) (T := TX1) (N := 2) (ci := 1) hK hX hT hP hD hS hA [0, 1] rfl rfl rfl (qb := 0) rfl) rfl rfl hl.1 rfl (lv_room (Nat.le_of_ble_eq_true rfl)) dX1_append_64 ⟨Nat.le_of_ble_eq_true rfl, Nat.le_of_ble_eq_true rfl⟩) hP hD hS hA [0, 1] [] rfl rfl rfl (by decide) (fun u_12 H locs hwp hP hD hS => ?_)
    have hP : va_P D vwCl [(a_this, .inr (1, [.ref a_numbers, .int (v_size + (1 : Int32))])), (a_numbers, .inl (cI, 200, .inl u_12))] H := hP
    have hD : va_D A [(a_this, .inr (1, [.ref a_numbers, .int (v_size + (1 : Int32))])), (a_numbers, .inl (cI, 200, .inl u_12))] := hD
    exact hret ((v_size + (1 : Int32)), u_12) [0, 1] dX1_append_67 hwp rfl rfl hP hD hS
  · have hwp := hwp.1 hc
    exact hret (v_size, v_numbers) [1, 0] dX1_append_8 hwp rfl rfl hP hD hS
theorem mc_X1_appendFrom_1 : ∀ w ∈ u_ws RX1 TX1 2, w ∈ wsX1_appendFrom := fun w h => List.mem_cons_of_mem _ (List.mem_append_right _ h)
theorem ml_X1_appendFrom_1 : (.fieldLink RX1 15 "StoryWall$Cards" "size" "I" : Cond) ∈ wsX1_appendFrom := List.mem_of_getElem? (i := 1) rfl
abbrev rm_X1_appendFrom : Room := { frames := 2, cells := 0, slots := 0, locals := 45 }
set_option maxHeartbeats 4000000 in
set_option maxRecDepth 100000 in
theorem c_X1_appendFrom (l : Launch) (D : va_G) (cI cC cF cO : ClassId) (a_this a_numbers a_p1 a_p1_numbers : Nat)  (sz : Nat) (x2 : Int32) (v_size : Int32) (v_numbers : Nat → Int32) (v_p1_size : Int32) (v_p1_numbers : Nat → Int32) (post : Int32 → (Nat → Int32) → Prop) (hwp : wp_X1_appendFrom x2 v_size v_numbers v_p1_size v_p1_numbers post) : Met l yX1_appendFrom wsX1_appendFrom rm_X1_appendFrom (gPre D (gT cI cC cF cO) [.ref a_this, .ref a_p1, .int x2] [(a_this, .inr (1, [.ref a_numbers, .int v_size])), (a_numbers, .inl (cI, 200, .inl v_numbers)), (a_p1, .inr (1, [.ref a_p1_numbers, .int v_p1_size])), (a_p1_numbers, .inl (cI, 200, .inl v_p1_numbers))] sz) (va_Qv (S := Int32 × (Nat → Int32)) (fun (u : Int32 × (Nat → Int32)) => post u.1 u.2) (gB D (gT cI cC cF cO) (fun (u : Int32 × (Nat → Int32)) => [(a_this, .inr (1, [.ref a_numbers, .int u.1])), (a_numbers, .inl (cI, 200, .inl u.2)), (a_p1, .inr (1, [.ref a_p1_numbers, .int v_p1_size])), (a_p1_numbers, .inl (cI, 200, .inl v_p1_numbers))]) [(a_this, .inr (1, [.ref a_numbers, .int v_size])), (a_numbers, .inl (cI, 200, .inl v_numbers)), (a_p1, .inr (1, [.ref a_p1_numbers, .int v_p1_size])), (a_p1_numbers, .inl (cI, 200, .inl v_p1_numbers))] sz) (va_A [(a_this, .inr (1, [.ref a_numbers, .int v_size])), (a_numbers, .inl (cI, 200, .inl v_numbers)), (a_p1, .inr (1, [.ref a_p1_numbers, .int v_p1_size])), (a_p1_numbers, .inl (cI, 200, .inl v_p1_numbers))] sz)) 0 0 (va_A [(a_this, .inr (1, [.ref a_numbers, .int v_size])), (a_numbers, .inl (cI, 200, .inl v_numbers)), (a_p1, .inr (1, [.ref a_p1_numbers, .int v_p1_size])), (a_p1_numbers, .inl (cI, 200, .inl v_p1_numbers))] sz) := by
  refine gOfv (own := RX1) (cc := cX1_appendFrom) (maxL := 5) (ret := none) rfl (by decide) rfl (Nat.le_of_ble_eq_true rfl) rfl ?_
  intro p e s m below meth c A args Q hAe hx hb hr hts hown hml hlocks hname hA hK hX hT hP hD hS hret ls hl
  have hl : lv_has ls 5 [(0, .ref a_this), (1, .ref a_p1), (2, .int x2)] := hl
  unfold wp_X1_appendFrom at hwp
  refine lv_aload_n hx hb dX1_appendFrom_0 rfl (lv_at hl 0 rfl) ?_
  refine lv_iconst (v := 1) hx hb dX1_appendFrom_1 (by decide) ?_
  refine gBacki (D := D) (tys := gT cI cC cF cO) (A := A) (wr := [(a_numbers, .inl (cI, 200, .inl v_numbers)), (a_p1, .inr (1, [.ref a_p1_numbers, .int v_p1_size])), (a_p1_numbers, .inl (cI, 200, .inl v_p1_numbers))]) (w1 := (fun u_2 : Unit => [(a_this, .inr (1, [.ref a_numbers, .int v_size]))])) (va_runV (As := [.int (1 : Int32)]) (rest := []) ⟨hx, hb, hml, hown, hts⟩ (c_X1_hasRoomFor l D cI cC cF cO a_this a_numbers _ _ _ _ hwp) (cwV 1 hts gX1_appendFrom_X1_hasRoomFor rfl rfl rfl (by decide +kernel) ⟨Nat.le_of_ble_eq_true rfl, Nat.le_of_ble_eq_true rfl⟩) (gPreV (C := RX1) (T := TX1) (N := 2) (ci := 1) hK hX hT hP hD hS hA [0] rfl rfl rfl (qb := 0) rfl) rfl rfl hl.1 rfl (lv_room (Nat.le_of_ble_eq_true rfl)) dX1_appendFrom_2 ⟨Nat.le_of_ble_eq_true rfl, Nat.le_of_ble_eq_true rfl⟩) hP hD hS hA [0] [1, 2, 3] rfl rfl rfl (by decide) (fun r_1 u_2 H locs hwp hP hD hS => ?_)
  have hP : va_P D vwCl [(a_numbers, .inl (cI, 200, .inl v_numbers)), (a_p1, .inr (1, [.ref a_p1_numbers, .int v_p1_size])), (a_p1_numbers, .inl (cI, 200, .inl v_p1_numbers)), (a_this, .inr (1, [.ref a_numbers, .int v_size]))] H := hP
  have hD : va_D A [(a_numbers, .inl (cI, 200, .inl v_numbers)), (a_p1, .inr (1, [.ref a_p1_numbers, .int v_p1_size])), (a_p1_numbers, .inl (cI, 200, .inl v_p1_numbers)), (a_this, .inr (1, [.ref a_numbers, .int v_size]))] := hD
  refine lv_if_ne (tgt := 9) hx hb dX1_appendFrom_5 (by decide) (fun hc => ?_) (fun hc => ?_)
  · have hwp := hwp.2 hc
    refine lv_aload_n hx hb dX1_appendFrom_9 rfl (lv_at hl 0 rfl) ?_
    refine va_get (D := D) (ci := 1) (v := .int v_size) (C := RX1) (T := TX1) (N := 2) hx hb hts mc_X1_appendFrom_1 hown hK hP 3 rfl rfl 1 (by decide) (hts _ ml_X1_appendFrom_1) (fun _ h9 => h9) rfl dX1_appendFrom_10 ?_
    refine lv_istore_n (lv' := [(3, .int v_size), (0, .ref a_this), (1, .ref a_p1), (2, .int x2)]) hx hb dX1_appendFrom_13 rfl hl (by decide) rfl (fun ls hl => ?_)
    refine lv_aload_n hx hb dX1_appendFrom_14 rfl (lv_at hl 1 rfl) ?_
    refine lv_dup hx hb dX1_appendFrom_15 rfl ?_
    refine va_get (D := D) (ci := 1) (v := .int v_size) (C := RX1) (T := TX1) (N := 2) hx hb hts mc_X1_appendFrom_1 hown hK hP 3 rfl rfl 1 (by decide) (hts _ ml_X1_appendFrom_1) (fun _ h9 => h9) rfl dX1_appendFrom_16 ?_
    refine lv_iconst (v := 1) hx hb dX1_appendFrom_19 (by decide) ?_
    refine lv_iadd hx hb dX1_appendFrom_20 ?_
    refine va_put (D := D) (ci := 1) (v := .int (v_size + (1 : Int32))) (ty := .int) (C := RX1) (T := TX1) (N := 2) hx hb hts mc_X1_appendFrom_1 tyX1 tyX1_ok nmX1 hown hK hP hD hS 3 rfl rfl 1 (by decide) (hts _ ml_X1_appendFrom_1) (fun _ h9 => h9) rfl (by decide +kernel) rfl rfl (Nat.le_of_ble_eq_true rfl) dX1_appendFrom_21 (fun H locs hP hD hS => ?_)
    have hP : va_P D vwCl [(a_numbers, .inl (cI, 200, .inl v_numbers)), (a_p1, .inr (1, [.ref a_p1_numbers, .int v_p1_size])), (a_p1_numbers, .inl (cI, 200, .inl v_p1_numbers)), (a_this, .inr (1, [.ref a_numbers, .int (v_size + (1 : Int32))]))] H := hP
    have hD : va_D A [(a_numbers, .inl (cI, 200, .inl v_numbers)), (a_p1, .inr (1, [.ref a_p1_numbers, .int v_p1_size])), (a_p1_numbers, .inl (cI, 200, .inl v_p1_numbers)), (a_this, .inr (1, [.ref a_numbers, .int (v_size + (1 : Int32))]))] := hD
    refine lv_iconst (v := 0) hx hb dX1_appendFrom_24 (by decide) ?_
    refine lv_istore (lv' := [(4, .int (0 : Int32)), (3, .int v_size), (0, .ref a_this), (1, .ref a_p1), (2, .int x2)]) hx hb dX1_appendFrom_25 hl (by decide) rfl (fun ls hl => ?_)
    have hP : va_P D vwCl [(a_this, .inr (1, [.ref a_numbers, .int (v_size + (1 : Int32))])), (a_numbers, .inl (cI, 200, .inl v_numbers)), (a_p1, .inr (1, [.ref a_p1_numbers, .int v_p1_size])), (a_p1_numbers, .inl (cI, 200, .inl v_p1_numbers))] H := hP.sub [3, 0, 1, 2] rfl
    have hD : va_D A [(a_this, .inr (1, [.ref a_numbers, .int (v_size + (1 : Int32))])), (a_numbers, .inl (cI, 200, .inl v_numbers)), (a_p1, .inr (1, [.ref a_p1_numbers, .int v_p1_size])), (a_p1_numbers, .inl (cI, 200, .inl v_p1_numbers))] := hD.sub [3, 0, 1, 2] (by decide) rfl
    have hl : lv_has ls 5 [(0, .ref a_this), (1, .ref a_p1), (2, .int x2), (3, .int v_size), (4, .int (0 : Int32))] := lv_sub hl [2, 3, 4, 1, 0] rfl
    unfold wp_X1_appendFrom_l27 at hwp
    obtain ⟨J27, μ27, hJ, hst27⟩ := hwp
    have hL27 : ∀ (n : Nat) (x4_27 : Int32) (v_numbers_27 : Nat → Int32), μ27 x4_27 v_numbers_27 < n → J27 x4_27 v_numbers_27 → ∀ (H : Heap) (locs : List Loc), va_P D vwCl [(a_this, .inr (1, [.ref a_numbers, .int (v_size + (1 : Int32))])), (a_numbers, .inl (cI, 200, .inl v_numbers_27)), (a_p1, .inr (1, [.ref a_p1_numbers, .int v_p1_size])), (a_p1_numbers, .inl (cI, 200, .inl v_p1_numbers))] H → va_D A [(a_this, .inr (1, [.ref a_numbers, .int (v_size + (1 : Int32))])), (a_numbers, .inl (cI, 200, .inl v_numbers_27)), (a_p1, .inr (1, [.ref a_p1_numbers, .int v_p1_size])), (a_p1_numbers, .inl (cI, 200, .inl v_p1_numbers))] → va_S A s.heap H locs → ∀ ls : Array Slot, lv_has ls 5 [(0, .ref a_this), (1, .ref a_p1), (2, .int x2), (3, .int v_size), (4, .int x4_27)] → W p l e rm_X1_appendFrom s m args below meth c H locs 0 0 Q (F0 m 27 ls []) := by
      intro n
      induction n with
      | zero => intro x4_27 v_numbers_27 h; exact absurd h (Nat.not_lt_zero _)
      | succ n ih27 =>
        intro x4_27 v_numbers_27 hμ27 hJ H locs hP hD hS ls hl
        have hwp := hst27 x4_27 v_numbers_27 hJ
        refine lv_iload hx hb dX1_appendFrom_27 (lv_at hl 4 rfl) ?_
        refine lv_iconst (v := 5) hx hb dX1_appendFrom_29 (by decide) ?_
        refine lv_icmp_ge (tgt := 53) hx hb dX1_appendFrom_30 (by decide) (fun hc => ?_) (fun hc => ?_)
        · have hwp := hwp.1 hc
          exact hret ((v_size + (1 : Int32)), v_numbers_27) [0, 1, 2, 3] dX1_appendFrom_53 hwp rfl rfl hP hD hS
        · have hwp := hwp.2 hc
          refine lv_aload_n hx hb dX1_appendFrom_33 rfl (lv_at hl 0 rfl) ?_
          refine lv_iload_n hx hb dX1_appendFrom_34 rfl (lv_at hl 3 rfl) ?_
          refine lv_iload hx hb dX1_appendFrom_35 (lv_at hl 4 rfl) ?_
          refine lv_aload_n hx hb dX1_appendFrom_37 rfl (lv_at hl 1 rfl) ?_
          refine lv_iload_n hx hb dX1_appendFrom_38 rfl (lv_at hl 2 rfl) ?_
          refine lv_iload hx hb dX1_appendFrom_39 (lv_at hl 4 rfl) ?_
          refine gBacki (D := D) (tys := gT cI cC cF cO) (A := A) (wr := [(a_this, .inr (1, [.ref a_numbers, .int (v_size + (1 : Int32))])), (a_numbers, .inl (cI, 200, .inl v_numbers_27))]) (w1 := (fun u_4 : Unit => [(a_p1, .inr (1, [.ref a_p1_numbers, .int v_p1_size])), (a_p1_numbers, .inl (cI, 200, .inl v_p1_numbers))])) (va_runV (As := [.int x2, .int x4_27]) (rest := [.int x4_27, .int v_size, .ref a_this]) ⟨hx, hb, hml, hown, hts⟩ (c_X1_number l D cI cC cF cO a_p1 a_p1_numbers _ _ _ _ _ _ hwp) (cwV 2 hts gX1_appendFrom_X1_number rfl rfl rfl (by decide +kernel) ⟨Nat.le_of_ble_eq_true rfl, Nat.le_of_ble_eq_true rfl⟩) (gPreV (C := RX1) (T := TX1) (N := 2) (ci := 1) hK hX hT hP hD hS hA [2, 3] rfl rfl rfl (qb := 2) rfl) rfl rfl hl.1 rfl (lv_room (Nat.le_of_ble_eq_true rfl)) dX1_appendFrom_41 ⟨Nat.le_of_ble_eq_true rfl, Nat.le_of_ble_eq_true rfl⟩) hP hD hS hA [2, 3] [0, 1] rfl rfl rfl (by decide) (fun r_3 u_4 H locs hwp hP hD hS => ?_)
          have hP : va_P D vwCl [(a_this, .inr (1, [.ref a_numbers, .int (v_size + (1 : Int32))])), (a_numbers, .inl (cI, 200, .inl v_numbers_27)), (a_p1, .inr (1, [.ref a_p1_numbers, .int v_p1_size])), (a_p1_numbers, .inl (cI, 200, .inl v_p1_numbers))] H := hP
          have hD : va_D A [(a_this, .inr (1, [.ref a_numbers, .int (v_size + (1 : Int32))])), (a_numbers, .inl (cI, 200, .inl v_numbers_27)), (a_p1, .inr (1, [.ref a_p1_numbers, .int v_p1_size])), (a_p1_numbers, .inl (cI, 200, .inl v_p1_numbers))] := hD
          refine gBackv (D := D) (tys := gT cI cC cF cO) (A := A) (wr := [(a_p1, .inr (1, [.ref a_p1_numbers, .int v_p1_size])), (a_p1_numbers, .inl (cI, 200, .inl v_p1_numbers))]) (w1 := (fun u_6 : (Nat → Int32) => [(a_this, .inr (1, [.ref a_numbers, .int (v_size + (1 : Int32))])), (a_numbers, .inl (cI, 200, .inl u_6))])) (va_runV (As := [.int v_size, .int x4_27, .int r_3]) (rest := []) ⟨hx, hb, hml, hown, hts⟩ (c_X1_put l D cI cC cF cO a_this a_numbers _ _ _ _ _ _ _ hwp) (cwV 3 hts gX1_appendFrom_X1_put rfl rfl rfl (by decide +kernel) ⟨Nat.le_of_ble_eq_true rfl, Nat.le_of_ble_eq_true rfl⟩) (gPreV (C := RX1) (T := TX1) (N := 2) (ci := 1) hK hX hT hP hD hS hA [0, 1] rfl rfl rfl (qb := 0) rfl) rfl rfl hl.1 rfl (lv_room (Nat.le_of_ble_eq_true rfl)) dX1_appendFrom_44 ⟨Nat.le_of_ble_eq_true rfl, Nat.le_of_ble_eq_true rfl⟩) hP hD hS hA [0, 1] [2, 3] rfl rfl rfl (by decide) (fun u_6 H locs hwp hP hD hS => ?_)
          have hP : va_P D vwCl [(a_p1, .inr (1, [.ref a_p1_numbers, .int v_p1_size])), (a_p1_numbers, .inl (cI, 200, .inl v_p1_numbers)), (a_this, .inr (1, [.ref a_numbers, .int (v_size + (1 : Int32))])), (a_numbers, .inl (cI, 200, .inl u_6))] H := hP
          have hD : va_D A [(a_p1, .inr (1, [.ref a_p1_numbers, .int v_p1_size])), (a_p1_numbers, .inl (cI, 200, .inl v_p1_numbers)), (a_this, .inr (1, [.ref a_numbers, .int (v_size + (1 : Int32))])), (a_numbers, .inl (cI, 200, .inl u_6))] := hD
          refine lv_iinc (v := (x4_27 + (1 : Int32))) (lv' := [(4, .int (x4_27 + (1 : Int32))), (0, .ref a_this), (1, .ref a_p1), (2, .int x2), (3, .int v_size)]) hx hb dX1_appendFrom_47 hl (k := 4) rfl rfl (by decide) rfl (fun ls hl => ?_)
          refine lv_goto (tgt := 27) hx hb dX1_appendFrom_50 (by decide) ?_
          have hP : va_P D vwCl [(a_this, .inr (1, [.ref a_numbers, .int (v_size + (1 : Int32))])), (a_numbers, .inl (cI, 200, .inl u_6)), (a_p1, .inr (1, [.ref a_p1_numbers, .int v_p1_size])), (a_p1_numbers, .inl (cI, 200, .inl v_p1_numbers))] H := hP.sub [2, 3, 0, 1] rfl
          have hD : va_D A [(a_this, .inr (1, [.ref a_numbers, .int (v_size + (1 : Int32))])), (a_numbers, .inl (cI, 200, .inl u_6)), (a_p1, .inr (1, [.ref a_p1_numbers, .int v_p1_size])), (a_p1_numbers, .inl (cI, 200, .inl v_p1_numbers))] := hD.sub [2, 3, 0, 1] (by decide) rfl
          have hl : lv_has ls 5 [(0, .ref a_this), (1, .ref a_p1), (2, .int x2), (3, .int v_size), (4, .int (x4_27 + (1 : Int32)))] := lv_sub hl [1, 2, 3, 4, 0] rfl
          exact ih27 (x4_27 + (1 : Int32)) u_6 (Nat.lt_of_lt_of_le hwp.2 (Nat.le_of_lt_succ hμ27)) hwp.1 _ _ hP hD hS ls hl
    exact hL27 _ (0 : Int32) v_numbers (Nat.lt_succ_self _) hJ _ _ hP hD hS ls hl
  · have hwp := hwp.1 hc
    exact hret (v_size, v_numbers) [3, 0, 1, 2] dX1_appendFrom_8 hwp rfl rfl hP hD hS
theorem mc_X1_ofThread_1 : ∀ w ∈ u_ws RX1 TX1 2, w ∈ wsX1_ofThread := fun w h => List.mem_cons_of_mem _ (List.mem_append_right _ h)
theorem ml_X1_ofThread_1 : (.fieldLink RX1 15 "StoryWall$Cards" "size" "I" : Cond) ∈ wsX1_ofThread := List.mem_of_getElem? (i := 1) rfl
abbrev rm_X1_ofThread : Room := { frames := 2, cells := 0, slots := 0, locals := 44 }
set_option maxHeartbeats 4000000 in
set_option maxRecDepth 100000 in
theorem c_X1_ofThread (l : Launch) (D : va_G) (cI cC cF cO : ClassId) (a_this a_numbers : Nat)  (sz : Nat) (x1 : Int32) (v_size : Int32) (v_numbers : Nat → Int32) (post : Int32 → Prop) (hwp : wp_X1_ofThread x1 v_size v_numbers post) : Met l yX1_ofThread wsX1_ofThread rm_X1_ofThread (gPre D (gT cI cC cF cO) [.ref a_this, .int x1] [(a_this, .inr (1, [.ref a_numbers, .int v_size])), (a_numbers, .inl (cI, 200, .inl v_numbers))] sz) (va_Qi (S := Unit) (fun (r : Int32) (u : Unit) => post r ) (gB D (gT cI cC cF cO) (fun (u : Unit) => [(a_this, .inr (1, [.ref a_numbers, .int v_size])), (a_numbers, .inl (cI, 200, .inl v_numbers))]) [(a_this, .inr (1, [.ref a_numbers, .int v_size])), (a_numbers, .inl (cI, 200, .inl v_numbers))] sz) (va_A [(a_this, .inr (1, [.ref a_numbers, .int v_size])), (a_numbers, .inl (cI, 200, .inl v_numbers))] sz)) 0 0 (va_A [(a_this, .inr (1, [.ref a_numbers, .int v_size])), (a_numbers, .inl (cI, 200, .inl v_numbers))] sz) := by
  refine gOfi (own := RX1) (cc := cX1_ofThread) (maxL := 4) (ret := (some .int)) rfl (by decide) rfl (Nat.le_of_ble_eq_true rfl) rfl ?_
  intro p e s m below meth c A args Q hAe hx hb hr hts hown hml hlocks hname hA hK hX hT hP hD hS hret ls hl
  have hl : lv_has ls 4 [(0, .ref a_this), (1, .int x1)] := hl
  unfold wp_X1_ofThread at hwp
  refine lv_iconst (v := 0) hx hb dX1_ofThread_0 (by decide) ?_
  refine lv_istore_n (lv' := [(2, .int (0 : Int32)), (0, .ref a_this), (1, .int x1)]) hx hb dX1_ofThread_1 rfl hl (by decide) rfl (fun ls hl => ?_)
  refine lv_iconst (v := 0) hx hb dX1_ofThread_2 (by decide) ?_
  refine lv_istore_n (lv' := [(3, .int (0 : Int32)), (2, .int (0 : Int32)), (0, .ref a_this), (1, .int x1)]) hx hb dX1_ofThread_3 rfl hl (by decide) rfl (fun ls hl => ?_)
  have hl : lv_has ls 4 [(0, .ref a_this), (1, .int x1), (2, .int (0 : Int32)), (3, .int (0 : Int32))] := lv_sub hl [2, 3, 1, 0] rfl
  unfold wp_X1_ofThread_l4 at hwp
  obtain ⟨J4, μ4, hJ, hst4⟩ := hwp
  have hL4 : ∀ (n : Nat) (x2_4 : Int32) (x3_4 : Int32), μ4 x2_4 x3_4 < n → J4 x2_4 x3_4 → ∀ (H : Heap) (locs : List Loc), va_P D vwCl [(a_this, .inr (1, [.ref a_numbers, .int v_size])), (a_numbers, .inl (cI, 200, .inl v_numbers))] H → va_D A [(a_this, .inr (1, [.ref a_numbers, .int v_size])), (a_numbers, .inl (cI, 200, .inl v_numbers))] → va_S A s.heap H locs → ∀ ls : Array Slot, lv_has ls 4 [(0, .ref a_this), (1, .int x1), (2, .int x2_4), (3, .int x3_4)] → W p l e rm_X1_ofThread s m args below meth c H locs 0 0 Q (F0 m 4 ls []) := by
    intro n
    induction n with
    | zero => intro x2_4 x3_4 h; exact absurd h (Nat.not_lt_zero _)
    | succ n ih4 =>
      intro x2_4 x3_4 hμ4 hJ H locs hP hD hS ls hl
      have hwp := hst4 x2_4 x3_4 hJ
      refine lv_iload_n hx hb dX1_ofThread_4 rfl (lv_at hl 3 rfl) ?_
      refine lv_aload_n hx hb dX1_ofThread_5 rfl (lv_at hl 0 rfl) ?_
      refine va_get (D := D) (ci := 1) (v := .int v_size) (C := RX1) (T := TX1) (N := 2) hx hb hts mc_X1_ofThread_1 hown hK hP 0 rfl rfl 1 (by decide) (hts _ ml_X1_ofThread_1) (fun _ h9 => h9) rfl dX1_ofThread_6 ?_
      refine lv_icmp_ge (tgt := 31) hx hb dX1_ofThread_9 (by decide) (fun hc => ?_) (fun hc => ?_)
      · have hwp := hwp.1 hc
        refine lv_iload_n hx hb dX1_ofThread_31 rfl (lv_at hl 2 rfl) ?_
        exact hret () [0, 1] dX1_ofThread_32 hwp rfl rfl hP hD hS
      · have hwp := hwp.2 hc
        refine lv_aload_n hx hb dX1_ofThread_12 rfl (lv_at hl 0 rfl) ?_
        refine lv_iload_n hx hb dX1_ofThread_13 rfl (lv_at hl 3 rfl) ?_
        refine lv_iconst (v := 0) hx hb dX1_ofThread_14 (by decide) ?_
        refine gBacki (D := D) (tys := gT cI cC cF cO) (A := A) (wr := []) (w1 := (fun u_2 : Unit => [(a_this, .inr (1, [.ref a_numbers, .int v_size])), (a_numbers, .inl (cI, 200, .inl v_numbers))])) (va_runV (As := [.int x3_4, .int (0 : Int32)]) (rest := []) ⟨hx, hb, hml, hown, hts⟩ (c_X1_number l D cI cC cF cO a_this a_numbers _ _ _ _ _ _ hwp) (cwV 2 hts gX1_ofThread_X1_number rfl rfl rfl (by decide +kernel) ⟨Nat.le_of_ble_eq_true rfl, Nat.le_of_ble_eq_true rfl⟩) (gPreV (C := RX1) (T := TX1) (N := 2) (ci := 1) hK hX hT hP hD hS hA [0, 1] rfl rfl rfl (qb := 0) rfl) rfl rfl hl.1 rfl (lv_room (Nat.le_of_ble_eq_true rfl)) dX1_ofThread_15 ⟨Nat.le_of_ble_eq_true rfl, Nat.le_of_ble_eq_true rfl⟩) hP hD hS hA [0, 1] [] rfl rfl rfl (by decide) (fun r_1 u_2 H locs hwp hP hD hS => ?_)
        have hP : va_P D vwCl [(a_this, .inr (1, [.ref a_numbers, .int v_size])), (a_numbers, .inl (cI, 200, .inl v_numbers))] H := hP
        have hD : va_D A [(a_this, .inr (1, [.ref a_numbers, .int v_size])), (a_numbers, .inl (cI, 200, .inl v_numbers))] := hD
        refine lv_iload_n hx hb dX1_ofThread_18 rfl (lv_at hl 1 rfl) ?_
        refine lv_icmp_ne (tgt := 25) hx hb dX1_ofThread_19 (by decide) (fun hc => ?_) (fun hc => ?_)
        · have hwp := hwp.2 hc
          refine lv_iinc (v := (x3_4 + (1 : Int32))) (lv' := [(3, .int (x3_4 + (1 : Int32))), (0, .ref a_this), (1, .int x1), (2, .int x2_4)]) hx hb dX1_ofThread_25 hl (k := 3) rfl rfl (by decide) rfl (fun ls hl => ?_)
          refine lv_goto (tgt := 4) hx hb dX1_ofThread_28 (by decide) ?_
          have hl : lv_has ls 4 [(0, .ref a_this), (1, .int x1), (2, .int x2_4), (3, .int (x3_4 + (1 : Int32)))] := lv_sub hl [1, 2, 3, 0] rfl
          exact ih4 x2_4 (x3_4 + (1 : Int32)) (Nat.lt_of_lt_of_le hwp.2 (Nat.le_of_lt_succ hμ4)) hwp.1 _ _ hP hD hS ls hl
        · have hwp := hwp.1 hc
          refine lv_iinc (v := (x2_4 + (1 : Int32))) (lv' := [(2, .int (x2_4 + (1 : Int32))), (0, .ref a_this), (1, .int x1), (3, .int x3_4)]) hx hb dX1_ofThread_22 hl (k := 2) rfl rfl (by decide) rfl (fun ls hl => ?_)
          refine lv_iinc (v := (x3_4 + (1 : Int32))) (lv' := [(3, .int (x3_4 + (1 : Int32))), (2, .int (x2_4 + (1 : Int32))), (0, .ref a_this), (1, .int x1)]) hx hb dX1_ofThread_25 hl (k := 3) rfl rfl (by decide) rfl (fun ls hl => ?_)
          refine lv_goto (tgt := 4) hx hb dX1_ofThread_28 (by decide) ?_
          have hl : lv_has ls 4 [(0, .ref a_this), (1, .int x1), (2, .int (x2_4 + (1 : Int32))), (3, .int (x3_4 + (1 : Int32)))] := lv_sub hl [2, 3, 1, 0] rfl
          exact ih4 (x2_4 + (1 : Int32)) (x3_4 + (1 : Int32)) (Nat.lt_of_lt_of_le hwp.2 (Nat.le_of_lt_succ hμ4)) hwp.1 _ _ hP hD hS ls hl
  exact hL4 _ (0 : Int32) (0 : Int32) (Nat.lt_succ_self _) hJ _ _ hP hD hS ls hl
theorem mc_X2_size_2 : ∀ w ∈ u_ws RX2 TX2 3, w ∈ wsX2_size := fun w h => List.mem_cons_of_mem _ (List.mem_append_right _ h)
theorem ml_X2_size_1 : (.fieldLink RX2 18 "StoryWall$History" "size" "I" : Cond) ∈ wsX2_size := List.mem_of_getElem? (i := 1) rfl
abbrev rm_X2_size : Room := { frames := 0, cells := 0, slots := 0, locals := 0 }
set_option maxHeartbeats 4000000 in
set_option maxRecDepth 100000 in
theorem c_X2_size (l : Launch) (D : va_G) (cI cC cF cO : ClassId) (a_this a_states : Nat) (v_oldest : Int32) (sz : Nat)  (v_size : Int32) (post : Int32 → Prop) (hwp : wp_X2_size v_size post) : Met l yX2_size wsX2_size rm_X2_size (gPre D (gT cI cC cF cO) [.ref a_this] [(a_this, .inr (2, [.ref a_states, .int v_oldest, .int v_size]))] sz) (va_Qi (S := Unit) (fun (r : Int32) (u : Unit) => post r ) (gB D (gT cI cC cF cO) (fun (u : Unit) => [(a_this, .inr (2, [.ref a_states, .int v_oldest, .int v_size]))]) [(a_this, .inr (2, [.ref a_states, .int v_oldest, .int v_size]))] sz) (va_A [(a_this, .inr (2, [.ref a_states, .int v_oldest, .int v_size]))] sz)) 0 0 (va_A [(a_this, .inr (2, [.ref a_states, .int v_oldest, .int v_size]))] sz) := by
  refine gOfi (own := RX2) (cc := cX2_size) (maxL := 1) (ret := (some .int)) rfl (by decide) rfl (Nat.le_of_ble_eq_true rfl) rfl ?_
  intro p e s m below meth c A args Q hAe hx hb hr hts hown hml hlocks hname hA hK hX hT hP hD hS hret ls hl
  have hl : lv_has ls 1 [(0, .ref a_this)] := hl
  unfold wp_X2_size at hwp
  refine lv_aload_n hx hb dX2_size_0 rfl (lv_at hl 0 rfl) ?_
  refine va_get (D := D) (ci := 2) (v := .int v_size) (C := RX2) (T := TX2) (N := 3) hx hb hts mc_X2_size_2 hown hK hP 0 rfl rfl 2 (by decide) (hts _ ml_X2_size_1) (fun _ h9 => h9) rfl dX2_size_1 ?_
  exact hret () [0] dX2_size_4 hwp rfl rfl hP hD hS
abbrev rm_X2_stateAfter : Room := { frames := 0, cells := 0, slots := 0, locals := 0 }
set_option maxHeartbeats 4000000 in
set_option maxRecDepth 100000 in
/-- stateAfter(k): one of the four, or null -/
theorem c_X2_stateAfter (l : Launch) (D : va_G) (cI cC cF cO : ClassId) (a_this a_states a_states_0 a_states_1 a_states_2 a_states_3 : Nat) (v_size : Int32) (sz : Nat) (x1 : Int32) (v_oldest : Int32) (post : Int32 → Prop) (hwp : wp_X2_stateAfter x1 v_oldest post) : Met l yX2_stateAfter wsX2_stateAfter rm_X2_stateAfter (gPre D (gT cI cC cF cO) [.ref a_this, .int x1] [(a_this, .inr (2, [.ref a_states, .int v_oldest, .int v_size])), (a_states, .inl (cO, 4, .inr (.inr (.inr (.inr (gF4 a_states_0 a_states_1 a_states_2 a_states_3))))))] sz) (va_Qq (S := Unit) (fun ro _ => ∃ i : Int32, post i ∧ ((i = (-1 : Int32) ∧ ro = none) ∨ (vp_in i 4 ∧ ro = gF4 a_states_0 a_states_1 a_states_2 a_states_3 i.toNatClampNeg))) (gB D (gT cI cC cF cO) (fun _ : Unit => [(a_this, .inr (2, [.ref a_states, .int v_oldest, .int v_size])), (a_states, .inl (cO, 4, .inr (.inr (.inr (.inr (gF4 a_states_0 a_states_1 a_states_2 a_states_3))))))]) [(a_this, .inr (2, [.ref a_states, .int v_oldest, .int v_size])), (a_states, .inl (cO, 4, .inr (.inr (.inr (.inr (gF4 a_states_0 a_states_1 a_states_2 a_states_3))))))] sz) (va_A [(a_this, .inr (2, [.ref a_states, .int v_oldest, .int v_size])), (a_states, .inl (cO, 4, .inr (.inr (.inr (.inr (gF4 a_states_0 a_states_1 a_states_2 a_states_3))))))] sz)) 0 0 (va_A [(a_this, .inr (2, [.ref a_states, .int v_oldest, .int v_size])), (a_states, .inl (cO, 4, .inr (.inr (.inr (.inr (gF4 a_states_0 a_states_1 a_states_2 a_states_3))))))] sz) := by
  refine gOfq (own := RX2) (cc := cX2_stateAfter) (maxL := 3) (ret := (some (.object "StoryWall$State"))) (rt := .object "StoryWall$State") rfl (by decide) rfl (Nat.le_of_ble_eq_true rfl) rfl (Or.inl ⟨_, rfl⟩) ?_
  intro p e s m below meth c A args Q hAe hx hb hr hts hown hml hlocks hname hA hK hX hT hP hD hS hret ls hl
  have hl : lv_has ls 3 [(0, .ref a_this), (1, .int x1)] := hl
  unfold wp_X2_stateAfter at hwp
  generalize hi : ((v_oldest + x1) - (v_oldest + x1) / 4 * 4 : Int32) = i at hwp
  refine lv_aload_n hx hb dX2_stateAfter_0 rfl (lv_at hl 0 rfl) ?_
  refine va_get (D := D) (ci := 2) (v := .int v_oldest) (C := RX2) (T := TX2) (N := 3) hx hb hts (fun w h => List.mem_cons_of_mem _ (List.mem_append_right _ h)) hown hK hP 0 rfl rfl 1 (by decide) (hts (.fieldLink RX2 30 "StoryWall$History" "oldest" "I") (by decide +kernel)) (fun _ h9 => h9) rfl dX2_stateAfter_1 ?_
  refine lv_iload_n hx hb dX2_stateAfter_4 rfl (lv_at hl 1 rfl) ?_
  refine lv_iadd hx hb dX2_stateAfter_5 ?_
  refine lv_iconst (v := 4) hx hb dX2_stateAfter_6 (by decide) ?_
  refine lv_irem hx hb dX2_stateAfter_7 (by decide) ?_
  rw [hi]
  refine lv_istore_n (lv' := [(2, .int i), (0, .ref a_this), (1, .int x1)]) hx hb dX2_stateAfter_8 rfl hl (by decide) rfl (fun ls hl => ?_)
  refine lv_iload_n hx hb dX2_stateAfter_9 rfl (lv_at hl 0 rfl) ?_
  refine lv_if_lt (tgt := 31) hx hb dX2_stateAfter_10 (by decide) (fun hc => ?_) (fun hc => ?_)
  · refine lv_null hx hb dX2_stateAfter_31 ?_
    exact hret none () [0, 1] dX2_stateAfter_32 ⟨(-1 : Int32), hwp.2 (fun h => absurd hc (by have h1 := h.1; rw [Int32.le_iff_toInt_le] at h1; rw [Int32.lt_iff_toInt_lt]; omega)), Or.inl ⟨rfl, rfl⟩⟩ rfl rfl hP hD hS
  · refine lv_iload_n hx hb dX2_stateAfter_13 rfl (lv_at hl 0 rfl) ?_
    refine lv_aload_n hx hb dX2_stateAfter_14 rfl (lv_at hl 1 rfl) ?_
    refine va_get (D := D) (ci := 2) (v := .ref a_states) (C := RX2) (T := TX2) (N := 3) hx hb hts (fun w h => List.mem_cons_of_mem _ (List.mem_append_right _ h)) hown hK hP 0 rfl rfl 0 (by decide) (hts (.fieldLink RX2 11 "StoryWall$History" "states" "[LStoryWall$State;") (by decide +kernel)) (fun _ h9 => h9) rfl dX2_stateAfter_15 ?_
    refine va_alen (D := D) (v := 4) hx hb hK hP 1 3 rfl rfl rfl dX2_stateAfter_18 ?_
    refine lv_icmp_ge (tgt := 31) hx hb dX2_stateAfter_19 (by decide) (fun hc2 => ?_) (fun hc2 => ?_)
    · refine lv_null hx hb dX2_stateAfter_31 ?_
      exact hret none () [0, 1] dX2_stateAfter_32 ⟨(-1 : Int32), hwp.2 (fun h => h.2 hc2), Or.inl ⟨rfl, rfl⟩⟩ rfl rfl hP hD hS
    · have h0 : (0 : Int32) ≤ i := by
        rw [Int32.lt_iff_toInt_lt] at hc
        rw [Int32.le_iff_toInt_le]
        omega
      have hin : vp_in i 4 := by
        rw [vp_in_iff]
        rw [Int32.le_iff_toInt_le] at h0 hc2
        have e0 : (0 : Int32).toInt = 0 := rfl
        have e4 : (4 : Int32).toInt = 4 := rfl
        omega
      refine lv_aload_n hx hb dX2_stateAfter_22 rfl (lv_at hl 1 rfl) ?_
      refine va_get (D := D) (ci := 2) (v := .ref a_states) (C := RX2) (T := TX2) (N := 3) hx hb hts (fun w h => List.mem_cons_of_mem _ (List.mem_append_right _ h)) hown hK hP 0 rfl rfl 0 (by decide) (hts (.fieldLink RX2 11 "StoryWall$History" "states" "[LStoryWall$State;") (by decide +kernel)) (fun _ h9 => h9) rfl dX2_stateAfter_23 ?_
      refine lv_iload_n hx hb dX2_stateAfter_26 rfl (lv_at hl 0 rfl) ?_
      refine va_aldq (D := D) hx hb hK hP 1 3 rfl rfl hin dX2_stateAfter_27 ?_
      refine lv_goto (tgt := 32) hx hb dX2_stateAfter_28 (by decide) ?_
      exact hret _ () [0, 1] dX2_stateAfter_32 ⟨i, hwp.1 h0 hc2, Or.inr ⟨hin, rfl⟩⟩ rfl rfl hP hD hS

theorem mc_X7_copyFrom_7 : ∀ w ∈ u_ws RX7 TX7 1, w ∈ wsX7_copyFrom := fun w h => List.mem_cons_of_mem _ (List.mem_append_right _ h)
theorem ml_X7_copyFrom_1 : (.fieldLink RX7 9 "StoryWall$Wall" "slots" "[I" : Cond) ∈ wsX7_copyFrom := List.mem_of_getElem? (i := 1) rfl
theorem ml_X7_copyFrom_2 : (.methodLink RX7 15 arraycopyName : Cond) ∈ wsX7_copyFrom := List.mem_of_getElem? (i := 2) rfl
theorem ml_X7_copyFrom_3 : (.native arraycopyName : Cond) ∈ wsX7_copyFrom := List.mem_of_getElem? (i := 3) rfl
theorem ml_X7_copyFrom_4 : (.static arraycopyName : Cond) ∈ wsX7_copyFrom := List.mem_of_getElem? (i := 4) rfl
theorem ml_X7_copyFrom_5 : (.initialized "java/lang/System" : Cond) ∈ wsX7_copyFrom := List.mem_of_getElem? (i := 5) rfl
abbrev rm_X7_copyFrom : Room := { frames := 1, cells := 0, slots := 0, locals := 26 }
set_option maxHeartbeats 4000000 in
set_option maxRecDepth 100000 in
theorem c_X7_copyFrom (l : Launch) (D : va_G) (cI cC cF cO : ClassId) (a_this a_slots a_p1 a_p1_slots : Nat)  (sz : Nat)  (v_slots : Nat → Int32) (v_p1_slots : Nat → Int32) (post : (Nat → Int32) → Prop) (hwp : wp_X7_copyFrom v_slots v_p1_slots post) : Met l yX7_copyFrom wsX7_copyFrom rm_X7_copyFrom (gPre D (gT cI cC cF cO) [.ref a_this, .ref a_p1] [(a_this, .inr (7, [.ref a_slots])), (a_slots, .inl (cI, 96, .inl v_slots)), (a_p1, .inr (7, [.ref a_p1_slots])), (a_p1_slots, .inl (cI, 96, .inl v_p1_slots))] sz) (va_Qv (S := (Nat → Int32)) (fun (u : (Nat → Int32)) => post u) (gB D (gT cI cC cF cO) (fun (u : (Nat → Int32)) => [(a_this, .inr (7, [.ref a_slots])), (a_slots, .inl (cI, 96, .inl u)), (a_p1, .inr (7, [.ref a_p1_slots])), (a_p1_slots, .inl (cI, 96, .inl v_p1_slots))]) [(a_this, .inr (7, [.ref a_slots])), (a_slots, .inl (cI, 96, .inl v_slots)), (a_p1, .inr (7, [.ref a_p1_slots])), (a_p1_slots, .inl (cI, 96, .inl v_p1_slots))] sz) (va_A [(a_this, .inr (7, [.ref a_slots])), (a_slots, .inl (cI, 96, .inl v_slots)), (a_p1, .inr (7, [.ref a_p1_slots])), (a_p1_slots, .inl (cI, 96, .inl v_p1_slots))] sz)) 0 0 (va_A [(a_this, .inr (7, [.ref a_slots])), (a_slots, .inl (cI, 96, .inl v_slots)), (a_p1, .inr (7, [.ref a_p1_slots])), (a_p1_slots, .inl (cI, 96, .inl v_p1_slots))] sz) := by
  refine gOfv (own := RX7) (cc := cX7_copyFrom) (maxL := 2) (ret := none) rfl (by decide) rfl (Nat.le_of_ble_eq_true rfl) rfl ?_
  intro p e s m below meth c A args Q hAe hx hb hr hts hown hml hlocks hname hA hK hX hT hP hD hS hret ls hl
  have hl : lv_has ls 2 [(0, .ref a_this), (1, .ref a_p1)] := hl
  unfold wp_X7_copyFrom at hwp
  refine lv_aload_n hx hb dX7_copyFrom_0 rfl (lv_at hl 1 rfl) ?_
  refine va_get (D := D) (ci := 7) (v := .ref a_p1_slots) (C := RX7) (T := TX7) (N := 1) hx hb hts mc_X7_copyFrom_7 hown hK hP 2 rfl rfl 0 (by decide) (hts _ ml_X7_copyFrom_1) (fun _ h9 => h9) rfl dX7_copyFrom_1 ?_
  refine lv_iconst (v := 0) hx hb dX7_copyFrom_4 (by decide) ?_
  refine lv_aload_n hx hb dX7_copyFrom_5 rfl (lv_at hl 0 rfl) ?_
  refine va_get (D := D) (ci := 7) (v := .ref a_slots) (C := RX7) (T := TX7) (N := 1) hx hb hts mc_X7_copyFrom_7 hown hK hP 0 rfl rfl 0 (by decide) (hts _ ml_X7_copyFrom_1) (fun _ h9 => h9) rfl dX7_copyFrom_6 ?_
  refine lv_iconst (v := 0) hx hb dX7_copyFrom_9 (by decide) ?_
  refine lv_aload_n hx hb dX7_copyFrom_10 rfl (lv_at hl 0 rfl) ?_
  refine va_get (D := D) (ci := 7) (v := .ref a_slots) (C := RX7) (T := TX7) (N := 1) hx hb hts mc_X7_copyFrom_7 hown hK hP 0 rfl rfl 0 (by decide) (hts _ ml_X7_copyFrom_1) (fun _ h9 => h9) rfl dX7_copyFrom_11 ?_
  refine va_alen (D := D) (v := 96) hx hb hK hP 1 0 rfl rfl rfl dX7_copyFrom_14 ?_
  refine va_copyi (D := D) hx hb (by rw [hml]; exact hl.1.symm) hown (hts _ ml_X7_copyFrom_2) (hts _ ml_X7_copyFrom_3) (hts _ ml_X7_copyFrom_4) (hts _ ml_X7_copyFrom_5) hK hP hD hS 3 1 0 0 rfl rfl rfl rfl rfl (by decide) (by decide) (by decide) (by decide) (by decide) (fun _ _ => rfl) (Nat.le_of_ble_eq_true rfl) (Nat.le_of_ble_eq_true rfl) dX7_copyFrom_15 (fun H locs hP hD hS => ?_)
  have hP : va_P D vwCl [(a_this, .inr (7, [.ref a_slots])), (a_slots, .inl (cI, 96, .inl (va_cpy v_p1_slots v_slots ((0 : Int32)).toNatClampNeg ((0 : Int32)).toNatClampNeg ((96 : Int32)).toNatClampNeg))), (a_p1, .inr (7, [.ref a_p1_slots])), (a_p1_slots, .inl (cI, 96, .inl v_p1_slots))] H := hP
  have hD : va_D A [(a_this, .inr (7, [.ref a_slots])), (a_slots, .inl (cI, 96, .inl (va_cpy v_p1_slots v_slots ((0 : Int32)).toNatClampNeg ((0 : Int32)).toNatClampNeg ((96 : Int32)).toNatClampNeg))), (a_p1, .inr (7, [.ref a_p1_slots])), (a_p1_slots, .inl (cI, 96, .inl v_p1_slots))] := hD
  exact hret (va_cpy v_p1_slots v_slots ((0 : Int32)).toNatClampNeg ((0 : Int32)).toNatClampNeg ((96 : Int32)).toNatClampNeg) [0, 1, 2, 3] dX7_copyFrom_18 hwp rfl rfl hP hD hS
theorem mc_X4_copyFrom_4 : ∀ w ∈ u_ws RX4 TX4 3, w ∈ wsX4_copyFrom := fun w h => List.mem_cons_of_mem _ (List.mem_append_left _ (List.mem_append_left _ (List.mem_append_right _ h)))
theorem ml_X4_copyFrom_1 : (.fieldLink RX4 12 "StoryWall$State" "cards" "LStoryWall$Cards;" : Cond) ∈ wsX4_copyFrom := List.mem_of_getElem? (i := 1) rfl
theorem ml_X4_copyFrom_2 : (.fieldLink RX4 21 "StoryWall$State" "wall" "LStoryWall$Wall;" : Cond) ∈ wsX4_copyFrom := List.mem_of_getElem? (i := 2) rfl
theorem ml_X4_copyFrom_3 : (.fieldLink RX4 25 "StoryWall$State" "settings" "[I" : Cond) ∈ wsX4_copyFrom := List.mem_of_getElem? (i := 3) rfl
theorem ml_X4_copyFrom_4 : (.methodLink RX4 36 arraycopyName : Cond) ∈ wsX4_copyFrom := List.mem_of_getElem? (i := 4) rfl
theorem ml_X4_copyFrom_5 : (.native arraycopyName : Cond) ∈ wsX4_copyFrom := List.mem_of_getElem? (i := 5) rfl
theorem ml_X4_copyFrom_6 : (.static arraycopyName : Cond) ∈ wsX4_copyFrom := List.mem_of_getElem? (i := 6) rfl
theorem ml_X4_copyFrom_7 : (.initialized "java/lang/System" : Cond) ∈ wsX4_copyFrom := List.mem_of_getElem? (i := 7) rfl
abbrev rm_X4_copyFrom : Room := { frames := 2, cells := 0, slots := 0, locals := 47 }
set_option maxHeartbeats 4000000 in
set_option maxRecDepth 100000 in
theorem c_X4_copyFrom (l : Launch) (D : va_G) (cI cC cF cO : ClassId) (a_this a_cards a_cards_numbers a_wall a_wall_slots a_settings a_p1 a_p1_cards a_p1_cards_numbers a_p1_wall a_p1_wall_slots a_p1_settings : Nat)  (sz : Nat)  (v_cards_size : Int32) (v_cards_numbers : Nat → Int32) (v_wall_slots : Nat → Int32) (v_settings : Nat → Int32) (v_p1_cards_size : Int32) (v_p1_cards_numbers : Nat → Int32) (v_p1_wall_slots : Nat → Int32) (v_p1_settings : Nat → Int32) (post : Int32 → (Nat → Int32) → (Nat → Int32) → (Nat → Int32) → Prop) (hwp : wp_X4_copyFrom v_cards_size v_cards_numbers v_wall_slots v_settings v_p1_cards_size v_p1_cards_numbers v_p1_wall_slots v_p1_settings post) : Met l yX4_copyFrom wsX4_copyFrom rm_X4_copyFrom (gPre D (gT cI cC cF cO) [.ref a_this, .ref a_p1] [(a_this, .inr (4, [.ref a_cards, .ref a_wall, .ref a_settings])), (a_cards, .inr (1, [.ref a_cards_numbers, .int v_cards_size])), (a_cards_numbers, .inl (cI, 200, .inl v_cards_numbers)), (a_wall, .inr (7, [.ref a_wall_slots])), (a_wall_slots, .inl (cI, 96, .inl v_wall_slots)), (a_settings, .inl (cI, 3, .inl v_settings)), (a_p1, .inr (4, [.ref a_p1_cards, .ref a_p1_wall, .ref a_p1_settings])), (a_p1_cards, .inr (1, [.ref a_p1_cards_numbers, .int v_p1_cards_size])), (a_p1_cards_numbers, .inl (cI, 200, .inl v_p1_cards_numbers)), (a_p1_wall, .inr (7, [.ref a_p1_wall_slots])), (a_p1_wall_slots, .inl (cI, 96, .inl v_p1_wall_slots)), (a_p1_settings, .inl (cI, 3, .inl v_p1_settings))] sz) (va_Qv (S := Int32 × (Nat → Int32) × (Nat → Int32) × (Nat → Int32)) (fun (u : Int32 × (Nat → Int32) × (Nat → Int32) × (Nat → Int32)) => post u.1 u.2.1 u.2.2.1 u.2.2.2) (gB D (gT cI cC cF cO) (fun (u : Int32 × (Nat → Int32) × (Nat → Int32) × (Nat → Int32)) => [(a_this, .inr (4, [.ref a_cards, .ref a_wall, .ref a_settings])), (a_cards, .inr (1, [.ref a_cards_numbers, .int u.1])), (a_cards_numbers, .inl (cI, 200, .inl u.2.1)), (a_wall, .inr (7, [.ref a_wall_slots])), (a_wall_slots, .inl (cI, 96, .inl u.2.2.1)), (a_settings, .inl (cI, 3, .inl u.2.2.2)), (a_p1, .inr (4, [.ref a_p1_cards, .ref a_p1_wall, .ref a_p1_settings])), (a_p1_cards, .inr (1, [.ref a_p1_cards_numbers, .int v_p1_cards_size])), (a_p1_cards_numbers, .inl (cI, 200, .inl v_p1_cards_numbers)), (a_p1_wall, .inr (7, [.ref a_p1_wall_slots])), (a_p1_wall_slots, .inl (cI, 96, .inl v_p1_wall_slots)), (a_p1_settings, .inl (cI, 3, .inl v_p1_settings))]) [(a_this, .inr (4, [.ref a_cards, .ref a_wall, .ref a_settings])), (a_cards, .inr (1, [.ref a_cards_numbers, .int v_cards_size])), (a_cards_numbers, .inl (cI, 200, .inl v_cards_numbers)), (a_wall, .inr (7, [.ref a_wall_slots])), (a_wall_slots, .inl (cI, 96, .inl v_wall_slots)), (a_settings, .inl (cI, 3, .inl v_settings)), (a_p1, .inr (4, [.ref a_p1_cards, .ref a_p1_wall, .ref a_p1_settings])), (a_p1_cards, .inr (1, [.ref a_p1_cards_numbers, .int v_p1_cards_size])), (a_p1_cards_numbers, .inl (cI, 200, .inl v_p1_cards_numbers)), (a_p1_wall, .inr (7, [.ref a_p1_wall_slots])), (a_p1_wall_slots, .inl (cI, 96, .inl v_p1_wall_slots)), (a_p1_settings, .inl (cI, 3, .inl v_p1_settings))] sz) (va_A [(a_this, .inr (4, [.ref a_cards, .ref a_wall, .ref a_settings])), (a_cards, .inr (1, [.ref a_cards_numbers, .int v_cards_size])), (a_cards_numbers, .inl (cI, 200, .inl v_cards_numbers)), (a_wall, .inr (7, [.ref a_wall_slots])), (a_wall_slots, .inl (cI, 96, .inl v_wall_slots)), (a_settings, .inl (cI, 3, .inl v_settings)), (a_p1, .inr (4, [.ref a_p1_cards, .ref a_p1_wall, .ref a_p1_settings])), (a_p1_cards, .inr (1, [.ref a_p1_cards_numbers, .int v_p1_cards_size])), (a_p1_cards_numbers, .inl (cI, 200, .inl v_p1_cards_numbers)), (a_p1_wall, .inr (7, [.ref a_p1_wall_slots])), (a_p1_wall_slots, .inl (cI, 96, .inl v_p1_wall_slots)), (a_p1_settings, .inl (cI, 3, .inl v_p1_settings))] sz)) 0 0 (va_A [(a_this, .inr (4, [.ref a_cards, .ref a_wall, .ref a_settings])), (a_cards, .inr (1, [.ref a_cards_numbers, .int v_cards_size])), (a_cards_numbers, .inl (cI, 200, .inl v_cards_numbers)), (a_wall, .inr (7, [.ref a_wall_slots])), (a_wall_slots, .inl (cI, 96, .inl v_wall_slots)), (a_settings, .inl (cI, 3, .inl v_settings)), (a_p1, .inr (4, [.ref a_p1_cards, .ref a_p1_wall, .ref a_p1_settings])), (a_p1_cards, .inr (1, [.ref a_p1_cards_numbers, .int v_p1_cards_size])), (a_p1_cards_numbers, .inl (cI, 200, .inl v_p1_cards_numbers)), (a_p1_wall, .inr (7, [.ref a_p1_wall_slots])), (a_p1_wall_slots, .inl (cI, 96, .inl v_p1_wall_slots)), (a_p1_settings, .inl (cI, 3, .inl v_p1_settings))] sz) := by
  refine gOfv (own := RX4) (cc := cX4_copyFrom) (maxL := 2) (ret := none) rfl (by decide) rfl (Nat.le_of_ble_eq_true rfl) rfl ?_
  intro p e s m below meth c A args Q hAe hx hb hr hts hown hml hlocks hname hA hK hX hT hP hD hS hret ls hl
  have hl : lv_has ls 2 [(0, .ref a_this), (1, .ref a_p1)] := hl
  unfold wp_X4_copyFrom at hwp
  refine lv_aload_n hx hb dX4_copyFrom_0 rfl (lv_at hl 0 rfl) ?_
  refine va_get (D := D) (ci := 4) (v := .ref a_cards) (C := RX4) (T := TX4) (N := 3) hx hb hts mc_X4_copyFrom_4 hown hK hP 0 rfl rfl 0 (by decide) (hts _ ml_X4_copyFrom_1) (fun _ h9 => h9) rfl dX4_copyFrom_1 ?_
  refine lv_aload_n hx hb dX4_copyFrom_4 rfl (lv_at hl 1 rfl) ?_
  refine va_get (D := D) (ci := 4) (v := .ref a_p1_cards) (C := RX4) (T := TX4) (N := 3) hx hb hts mc_X4_copyFrom_4 hown hK hP 6 rfl rfl 0 (by decide) (hts _ ml_X4_copyFrom_1) (fun _ h9 => h9) rfl dX4_copyFrom_5 ?_
  refine gBackv (D := D) (tys := gT cI cC cF cO) (A := A) (wr := [(a_this, .inr (4, [.ref a_cards, .ref a_wall, .ref a_settings])), (a_wall, .inr (7, [.ref a_wall_slots])), (a_wall_slots, .inl (cI, 96, .inl v_wall_slots)), (a_settings, .inl (cI, 3, .inl v_settings)), (a_p1, .inr (4, [.ref a_p1_cards, .ref a_p1_wall, .ref a_p1_settings])), (a_p1_wall, .inr (7, [.ref a_p1_wall_slots])), (a_p1_wall_slots, .inl (cI, 96, .inl v_p1_wall_slots)), (a_p1_settings, .inl (cI, 3, .inl v_p1_settings))]) (w1 := (fun u_3 : Int32 × (Nat → Int32) => [(a_cards, .inr (1, [.ref a_cards_numbers, .int u_3.1])), (a_cards_numbers, .inl (cI, 200, .inl u_3.2)), (a_p1_cards, .inr (1, [.ref a_p1_cards_numbers, .int v_p1_cards_size])), (a_p1_cards_numbers, .inl (cI, 200, .inl v_p1_cards_numbers))])) (va_runV (As := [.ref a_p1_cards]) (rest := []) ⟨hx, hb, hml, hown, hts⟩ (c_X1_copyFrom l D cI cC cF cO a_cards a_cards_numbers a_p1_cards a_p1_cards_numbers _ _ _ _ _ _ hwp) (cwV 1 hts gX4_copyFrom_X1_copyFrom rfl rfl rfl (by decide +kernel) ⟨Nat.le_of_ble_eq_true rfl, Nat.le_of_ble_eq_true rfl⟩) (gPreV (C := RX1) (T := TX1) (N := 2) (ci := 1) hK hX hT hP hD hS hA [1, 2, 7, 8] rfl rfl rfl (qb := 1) rfl) rfl rfl hl.1 rfl (lv_room (Nat.le_of_ble_eq_true rfl)) dX4_copyFrom_8 ⟨Nat.le_of_ble_eq_true rfl, Nat.le_of_ble_eq_true rfl⟩) hP hD hS hA [1, 2, 7, 8] [0, 3, 4, 5, 6, 9, 10, 11] rfl rfl rfl (by decide) (fun u_3 H locs hwp hP hD hS => ?_)
  obtain ⟨v_cards_size_1, v_cards_numbers_2⟩ := u_3
  have hP : va_P D vwCl [(a_this, .inr (4, [.ref a_cards, .ref a_wall, .ref a_settings])), (a_wall, .inr (7, [.ref a_wall_slots])), (a_wall_slots, .inl (cI, 96, .inl v_wall_slots)), (a_settings, .inl (cI, 3, .inl v_settings)), (a_p1, .inr (4, [.ref a_p1_cards, .ref a_p1_wall, .ref a_p1_settings])), (a_p1_wall, .inr (7, [.ref a_p1_wall_slots])), (a_p1_wall_slots, .inl (cI, 96, .inl v_p1_wall_slots)), (a_p1_settings, .inl (cI, 3, .inl v_p1_settings)), (a_cards, .inr (1, [.ref a_cards_numbers, .int v_cards_size_1])), (a_cards_numbers, .inl (cI, 200, .inl v_cards_numbers_2)), (a_p1_cards, .inr (1, [.ref a_p1_cards_numbers, .int v_p1_cards_size])), (a_p1_cards_numbers, .inl (cI, 200, .inl v_p1_cards_numbers))] H := hP
  have hD : va_D A [(a_this, .inr (4, [.ref a_cards, .ref a_wall, .ref a_settings])), (a_wall, .inr (7, [.ref a_wall_slots])), (a_wall_slots, .inl (cI, 96, .inl v_wall_slots)), (a_settings, .inl (cI, 3, .inl v_settings)), (a_p1, .inr (4, [.ref a_p1_cards, .ref a_p1_wall, .ref a_p1_settings])), (a_p1_wall, .inr (7, [.ref a_p1_wall_slots])), (a_p1_wall_slots, .inl (cI, 96, .inl v_p1_wall_slots)), (a_p1_settings, .inl (cI, 3, .inl v_p1_settings)), (a_cards, .inr (1, [.ref a_cards_numbers, .int v_cards_size_1])), (a_cards_numbers, .inl (cI, 200, .inl v_cards_numbers_2)), (a_p1_cards, .inr (1, [.ref a_p1_cards_numbers, .int v_p1_cards_size])), (a_p1_cards_numbers, .inl (cI, 200, .inl v_p1_cards_numbers))] := hD
  refine lv_aload_n hx hb dX4_copyFrom_11 rfl (lv_at hl 0 rfl) ?_
  refine va_get (D := D) (ci := 4) (v := .ref a_wall) (C := RX4) (T := TX4) (N := 3) hx hb hts mc_X4_copyFrom_4 hown hK hP 0 rfl rfl 1 (by decide) (hts _ ml_X4_copyFrom_2) (fun _ h9 => h9) rfl dX4_copyFrom_12 ?_
  refine lv_aload_n hx hb dX4_copyFrom_15 rfl (lv_at hl 1 rfl) ?_
  refine va_get (D := D) (ci := 4) (v := .ref a_p1_wall) (C := RX4) (T := TX4) (N := 3) hx hb hts mc_X4_copyFrom_4 hown hK hP 4 rfl rfl 1 (by decide) (hts _ ml_X4_copyFrom_2) (fun _ h9 => h9) rfl dX4_copyFrom_16 ?_
  refine gBackv (D := D) (tys := gT cI cC cF cO) (A := A) (wr := [(a_this, .inr (4, [.ref a_cards, .ref a_wall, .ref a_settings])), (a_settings, .inl (cI, 3, .inl v_settings)), (a_p1, .inr (4, [.ref a_p1_cards, .ref a_p1_wall, .ref a_p1_settings])), (a_p1_settings, .inl (cI, 3, .inl v_p1_settings)), (a_cards, .inr (1, [.ref a_cards_numbers, .int v_cards_size_1])), (a_cards_numbers, .inl (cI, 200, .inl v_cards_numbers_2)), (a_p1_cards, .inr (1, [.ref a_p1_cards_numbers, .int v_p1_cards_size])), (a_p1_cards_numbers, .inl (cI, 200, .inl v_p1_cards_numbers))]) (w1 := (fun u_5 : (Nat → Int32) => [(a_wall, .inr (7, [.ref a_wall_slots])), (a_wall_slots, .inl (cI, 96, .inl u_5)), (a_p1_wall, .inr (7, [.ref a_p1_wall_slots])), (a_p1_wall_slots, .inl (cI, 96, .inl v_p1_wall_slots))])) (va_runV (As := [.ref a_p1_wall]) (rest := []) ⟨hx, hb, hml, hown, hts⟩ (c_X7_copyFrom l D cI cC cF cO a_wall a_wall_slots a_p1_wall a_p1_wall_slots _ _ _ _ hwp) (cwV 1 hts gX4_copyFrom_X7_copyFrom rfl rfl rfl (by decide +kernel) ⟨Nat.le_of_ble_eq_true rfl, Nat.le_of_ble_eq_true rfl⟩) (gPreV (C := RX7) (T := TX7) (N := 1) (ci := 7) hK hX hT hP hD hS hA [1, 2, 5, 6] rfl rfl rfl (qb := 1) rfl) rfl rfl hl.1 rfl (lv_room (Nat.le_of_ble_eq_true rfl)) dX4_copyFrom_19 ⟨Nat.le_of_ble_eq_true rfl, Nat.le_of_ble_eq_true rfl⟩) hP hD hS hA [1, 2, 5, 6] [0, 3, 4, 7, 8, 9, 10, 11] rfl rfl rfl (by decide) (fun u_5 H locs hwp hP hD hS => ?_)
  have hP : va_P D vwCl [(a_this, .inr (4, [.ref a_cards, .ref a_wall, .ref a_settings])), (a_settings, .inl (cI, 3, .inl v_settings)), (a_p1, .inr (4, [.ref a_p1_cards, .ref a_p1_wall, .ref a_p1_settings])), (a_p1_settings, .inl (cI, 3, .inl v_p1_settings)), (a_cards, .inr (1, [.ref a_cards_numbers, .int v_cards_size_1])), (a_cards_numbers, .inl (cI, 200, .inl v_cards_numbers_2)), (a_p1_cards, .inr (1, [.ref a_p1_cards_numbers, .int v_p1_cards_size])), (a_p1_cards_numbers, .inl (cI, 200, .inl v_p1_cards_numbers)), (a_wall, .inr (7, [.ref a_wall_slots])), (a_wall_slots, .inl (cI, 96, .inl u_5)), (a_p1_wall, .inr (7, [.ref a_p1_wall_slots])), (a_p1_wall_slots, .inl (cI, 96, .inl v_p1_wall_slots))] H := hP
  have hD : va_D A [(a_this, .inr (4, [.ref a_cards, .ref a_wall, .ref a_settings])), (a_settings, .inl (cI, 3, .inl v_settings)), (a_p1, .inr (4, [.ref a_p1_cards, .ref a_p1_wall, .ref a_p1_settings])), (a_p1_settings, .inl (cI, 3, .inl v_p1_settings)), (a_cards, .inr (1, [.ref a_cards_numbers, .int v_cards_size_1])), (a_cards_numbers, .inl (cI, 200, .inl v_cards_numbers_2)), (a_p1_cards, .inr (1, [.ref a_p1_cards_numbers, .int v_p1_cards_size])), (a_p1_cards_numbers, .inl (cI, 200, .inl v_p1_cards_numbers)), (a_wall, .inr (7, [.ref a_wall_slots])), (a_wall_slots, .inl (cI, 96, .inl u_5)), (a_p1_wall, .inr (7, [.ref a_p1_wall_slots])), (a_p1_wall_slots, .inl (cI, 96, .inl v_p1_wall_slots))] := hD
  refine lv_aload_n hx hb dX4_copyFrom_22 rfl (lv_at hl 1 rfl) ?_
  refine va_get (D := D) (ci := 4) (v := .ref a_p1_settings) (C := RX4) (T := TX4) (N := 3) hx hb hts mc_X4_copyFrom_4 hown hK hP 2 rfl rfl 2 (by decide) (hts _ ml_X4_copyFrom_3) (fun _ h9 => h9) rfl dX4_copyFrom_23 ?_
  refine lv_iconst (v := 0) hx hb dX4_copyFrom_26 (by decide) ?_
  refine lv_aload_n hx hb dX4_copyFrom_27 rfl (lv_at hl 0 rfl) ?_
  refine va_get (D := D) (ci := 4) (v := .ref a_settings) (C := RX4) (T := TX4) (N := 3) hx hb hts mc_X4_copyFrom_4 hown hK hP 0 rfl rfl 2 (by decide) (hts _ ml_X4_copyFrom_3) (fun _ h9 => h9) rfl dX4_copyFrom_28 ?_
  refine lv_iconst (v := 0) hx hb dX4_copyFrom_31 (by decide) ?_
  refine lv_aload_n hx hb dX4_copyFrom_32 rfl (lv_at hl 0 rfl) ?_
  refine va_get (D := D) (ci := 4) (v := .ref a_settings) (C := RX4) (T := TX4) (N := 3) hx hb hts mc_X4_copyFrom_4 hown hK hP 0 rfl rfl 2 (by decide) (hts _ ml_X4_copyFrom_3) (fun _ h9 => h9) rfl dX4_copyFrom_33 ?_
  refine va_alen (D := D) (v := 3) hx hb hK hP 1 0 rfl rfl rfl dX4_copyFrom_36 ?_
  refine va_copyi (D := D) hx hb (by rw [hml]; exact hl.1.symm) hown (hts _ ml_X4_copyFrom_4) (hts _ ml_X4_copyFrom_5) (hts _ ml_X4_copyFrom_6) (hts _ ml_X4_copyFrom_7) hK hP hD hS 3 1 0 0 rfl rfl rfl rfl rfl (by decide) (by decide) (by decide) (by decide) (by decide) (fun _ _ => rfl) (Nat.le_of_ble_eq_true rfl) (Nat.le_of_ble_eq_true rfl) dX4_copyFrom_37 (fun H locs hP hD hS => ?_)
  have hP : va_P D vwCl [(a_this, .inr (4, [.ref a_cards, .ref a_wall, .ref a_settings])), (a_settings, .inl (cI, 3, .inl (va_cpy v_p1_settings v_settings ((0 : Int32)).toNatClampNeg ((0 : Int32)).toNatClampNeg ((3 : Int32)).toNatClampNeg))), (a_p1, .inr (4, [.ref a_p1_cards, .ref a_p1_wall, .ref a_p1_settings])), (a_p1_settings, .inl (cI, 3, .inl v_p1_settings)), (a_cards, .inr (1, [.ref a_cards_numbers, .int v_cards_size_1])), (a_cards_numbers, .inl (cI, 200, .inl v_cards_numbers_2)), (a_p1_cards, .inr (1, [.ref a_p1_cards_numbers, .int v_p1_cards_size])), (a_p1_cards_numbers, .inl (cI, 200, .inl v_p1_cards_numbers)), (a_wall, .inr (7, [.ref a_wall_slots])), (a_wall_slots, .inl (cI, 96, .inl u_5)), (a_p1_wall, .inr (7, [.ref a_p1_wall_slots])), (a_p1_wall_slots, .inl (cI, 96, .inl v_p1_wall_slots))] H := hP
  have hD : va_D A [(a_this, .inr (4, [.ref a_cards, .ref a_wall, .ref a_settings])), (a_settings, .inl (cI, 3, .inl (va_cpy v_p1_settings v_settings ((0 : Int32)).toNatClampNeg ((0 : Int32)).toNatClampNeg ((3 : Int32)).toNatClampNeg))), (a_p1, .inr (4, [.ref a_p1_cards, .ref a_p1_wall, .ref a_p1_settings])), (a_p1_settings, .inl (cI, 3, .inl v_p1_settings)), (a_cards, .inr (1, [.ref a_cards_numbers, .int v_cards_size_1])), (a_cards_numbers, .inl (cI, 200, .inl v_cards_numbers_2)), (a_p1_cards, .inr (1, [.ref a_p1_cards_numbers, .int v_p1_cards_size])), (a_p1_cards_numbers, .inl (cI, 200, .inl v_p1_cards_numbers)), (a_wall, .inr (7, [.ref a_wall_slots])), (a_wall_slots, .inl (cI, 96, .inl u_5)), (a_p1_wall, .inr (7, [.ref a_p1_wall_slots])), (a_p1_wall_slots, .inl (cI, 96, .inl v_p1_wall_slots))] := hD
  exact hret (v_cards_size_1, v_cards_numbers_2, u_5, (va_cpy v_p1_settings v_settings ((0 : Int32)).toNatClampNeg ((0 : Int32)).toNatClampNeg ((3 : Int32)).toNatClampNeg)) [0, 4, 5, 8, 9, 1, 2, 6, 7, 10, 11, 3] dX4_copyFrom_40 hwp rfl rfl hP hD hS
