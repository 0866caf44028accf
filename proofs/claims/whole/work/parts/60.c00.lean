/-! contracts (by program): X0_length X0_clear X0_append X0_cardsRead X0_hasAhead X0_isAhead X0_digitAhead X0_readNumber X0_readSign X8_isThread X0_readThread X1_hasRoomFor X1_isNumber X1_put X1_append X0_readCard X1_clear -/
theorem mc_X0_length_0 : ∀ w ∈ u_ws RX0 TX0 5, w ∈ wsX0_length := fun w h => List.mem_cons_of_mem _ (List.mem_append_right _ h)
theorem ml_X0_length_1 : (.fieldLink RX0 22 "StoryWall$CardText" "length" "I" : Cond) ∈ wsX0_length := List.mem_of_getElem? (i := 1) rfl
abbrev rm_X0_length : Room := { frames := 0, cells := 0, slots := 0, locals := 0 }
set_option maxHeartbeats 4000000 in
set_option maxRecDepth 100000 in
theorem c_X0_length (l : Launch) (D : va_G) (cI cC cF cO : ClassId) (a_this a_signs a_cards : Nat) (v_position : Int32) (v_faulty : Int32) (sz : Nat)  (v_length : Int32) (post : Int32 → Prop) (hwp : wp_X0_length v_length post) : Met l yX0_length wsX0_length rm_X0_length (gPre D (gT cI cC cF cO) [.ref a_this] [(a_this, .inr (0, [.ref a_signs, .ref a_cards, .int v_length, .int v_position, .int v_faulty]))] sz) (va_Qi (S := Unit) (fun (r : Int32) (u : Unit) => post r ) (gB D (gT cI cC cF cO) (fun (u : Unit) => [(a_this, .inr (0, [.ref a_signs, .ref a_cards, .int v_length, .int v_position, .int v_faulty]))]) [(a_this, .inr (0, [.ref a_signs, .ref a_cards, .int v_length, .int v_position, .int v_faulty]))] sz) (va_A [(a_this, .inr (0, [.ref a_signs, .ref a_cards, .int v_length, .int v_position, .int v_faulty]))] sz)) 0 0 (va_A [(a_this, .inr (0, [.ref a_signs, .ref a_cards, .int v_length, .int v_position, .int v_faulty]))] sz) := by
  refine gOfi (own := RX0) (cc := cX0_length) (maxL := 1) (ret := (some .int)) rfl (by decide) rfl (Nat.le_of_ble_eq_true rfl) rfl ?_
  intro p e s m below meth c A args Q hAe hx hb hr hts hown hml hlocks hname hA hK hX hT hP hD hS hret ls hl
  have hl : lv_has ls 1 [(0, .ref a_this)] := hl
  unfold wp_X0_length at hwp
  refine lv_aload_n hx hb dX0_length_0 rfl (lv_at hl 0 rfl) ?_
  refine va_get (D := D) (ci := 0) (v := .int v_length) (C := RX0) (T := TX0) (N := 5) hx hb hts mc_X0_length_0 hown hK hP 0 rfl rfl 2 (by decide) (hts _ ml_X0_length_1) (fun _ h9 => h9) rfl dX0_length_1 ?_
  exact hret () [0] dX0_length_4 hwp rfl rfl hP hD hS
theorem mc_X0_clear_0 : ∀ w ∈ u_ws RX0 TX0 5, w ∈ wsX0_clear := fun w h => List.mem_cons_of_mem _ (List.mem_append_right _ h)
theorem ml_X0_clear_1 : (.fieldLink RX0 22 "StoryWall$CardText" "length" "I" : Cond) ∈ wsX0_clear := List.mem_of_getElem? (i := 1) rfl
abbrev rm_X0_clear : Room := { frames := 0, cells := 0, slots := 0, locals := 0 }
set_option maxHeartbeats 4000000 in
set_option maxRecDepth 100000 in
theorem c_X0_clear (l : Launch) (D : va_G) (cI cC cF cO : ClassId) (a_this a_signs a_cards : Nat) (v_position : Int32) (v_faulty : Int32) (sz : Nat)  (v_length : Int32) (post : Int32 → Prop) (hwp : wp_X0_clear v_length post) : Met l yX0_clear wsX0_clear rm_X0_clear (gPre D (gT cI cC cF cO) [.ref a_this] [(a_this, .inr (0, [.ref a_signs, .ref a_cards, .int v_length, .int v_position, .int v_faulty]))] sz) (va_Qv (S := Int32) (fun (u : Int32) => post u) (gB D (gT cI cC cF cO) (fun (u : Int32) => [(a_this, .inr (0, [.ref a_signs, .ref a_cards, .int u, .int v_position, .int v_faulty]))]) [(a_this, .inr (0, [.ref a_signs, .ref a_cards, .int v_length, .int v_position, .int v_faulty]))] sz) (va_A [(a_this, .inr (0, [.ref a_signs, .ref a_cards, .int v_length, .int v_position, .int v_faulty]))] sz)) 0 0 (va_A [(a_this, .inr (0, [.ref a_signs, .ref a_cards, .int v_length, .int v_position, .int v_faulty]))] sz) := by
  refine gOfv (own := RX0) (cc := cX0_clear) (maxL := 1) (ret := none) rfl (by decide) rfl (Nat.le_of_ble_eq_true rfl) rfl ?_
  intro p e s m below meth c A args Q hAe hx hb hr hts hown hml hlocks hname hA hK hX hT hP hD hS hret ls hl
  have hl : lv_has ls 1 [(0, .ref a_this)] := hl
  unfold wp_X0_clear at hwp
  refine lv_aload_n hx hb dX0_clear_0 rfl (lv_at hl 0 rfl) ?_
  refine lv_iconst (v := 0) hx hb dX0_clear_1 (by decide) ?_
  refine va_put (D := D) (ci := 0) (v := .int (0 : Int32)) (ty := .int) (C := RX0) (T := TX0) (N := 5) hx hb hts mc_X0_clear_0 tyX0 tyX0_ok nmX0 hown hK hP hD hS 0 rfl rfl 2 (by decide) (hts _ ml_X0_clear_1) (fun _ h9 => h9) rfl (by decide +kernel) rfl rfl (Nat.le_of_ble_eq_true rfl) dX0_clear_2 (fun H locs hP hD hS => ?_)
  have hP : va_P D vwCl [(a_this, .inr (0, [.ref a_signs, .ref a_cards, .int (0 : Int32), .int v_position, .int v_faulty]))] H := hP
  have hD : va_D A [(a_this, .inr (0, [.ref a_signs, .ref a_cards, .int (0 : Int32), .int v_position, .int v_faulty]))] := hD
  exact hret (0 : Int32) [0] dX0_clear_5 hwp rfl rfl hP hD hS
theorem mc_X0_append_0 : ∀ w ∈ u_ws RX0 TX0 5, w ∈ wsX0_append := fun w h => List.mem_cons_of_mem _ (List.mem_append_right _ h)
theorem ml_X0_append_1 : (.fieldLink RX0 22 "StoryWall$CardText" "length" "I" : Cond) ∈ wsX0_append := List.mem_of_getElem? (i := 1) rfl
theorem ml_X0_append_2 : (.fieldLink RX0 9 "StoryWall$CardText" "signs" "[C" : Cond) ∈ wsX0_append := List.mem_of_getElem? (i := 2) rfl
abbrev rm_X0_append : Room := { frames := 0, cells := 0, slots := 0, locals := 0 }
set_option maxHeartbeats 4000000 in
set_option maxRecDepth 100000 in
theorem c_X0_append (l : Launch) (D : va_G) (cI cC cF cO : ClassId) (a_this a_signs a_cards : Nat) (v_position : Int32) (v_faulty : Int32) (sz : Nat) (x1 : Int32) (v_length : Int32) (v_signs : Nat → Int32) (post : Int32 → Int32 → (Nat → Int32) → Prop) (hwp : wp_X0_append x1 v_length v_signs post) : Met l yX0_append wsX0_append rm_X0_append (gPre D (gT cI cC cF cO) [.ref a_this, .int x1] [(a_this, .inr (0, [.ref a_signs, .ref a_cards, .int v_length, .int v_position, .int v_faulty])), (a_signs, .inl (cC, 60, .inl v_signs))] sz) (va_Qi (S := Int32 × (Nat → Int32)) (fun (r : Int32) (u : Int32 × (Nat → Int32)) => post r u.1 u.2) (gB D (gT cI cC cF cO) (fun (u : Int32 × (Nat → Int32)) => [(a_this, .inr (0, [.ref a_signs, .ref a_cards, .int u.1, .int v_position, .int v_faulty])), (a_signs, .inl (cC, 60, .inl u.2))]) [(a_this, .inr (0, [.ref a_signs, .ref a_cards, .int v_length, .int v_position, .int v_faulty])), (a_signs, .inl (cC, 60, .inl v_signs))] sz) (va_A [(a_this, .inr (0, [.ref a_signs, .ref a_cards, .int v_length, .int v_position, .int v_faulty])), (a_signs, .inl (cC, 60, .inl v_signs))] sz)) 0 0 (va_A [(a_this, .inr (0, [.ref a_signs, .ref a_cards, .int v_length, .int v_position, .int v_faulty])), (a_signs, .inl (cC, 60, .inl v_signs))] sz) := by
  refine gOfz (own := RX0) (cc := cX0_append) (maxL := 2) (ret := (some .boolean)) rfl (by decide) rfl (Nat.le_of_ble_eq_true rfl) rfl ?_
  intro p e s m below meth c A args Q hAe hx hb hr hts hown hml hlocks hname hA hK hX hT hP hD hS hret ls hl
  have hl : lv_has ls 2 [(0, .ref a_this), (1, .int x1)] := hl
  unfold wp_X0_append at hwp
  refine lv_aload_n hx hb dX0_append_0 rfl (lv_at hl 0 rfl) ?_
  refine va_get (D := D) (ci := 0) (v := .int v_length) (C := RX0) (T := TX0) (N := 5) hx hb hts mc_X0_append_0 hown hK hP 0 rfl rfl 2 (by decide) (hts _ ml_X0_append_1) (fun _ h9 => h9) rfl dX0_append_1 ?_
  refine lv_if_lt (tgt := 19) hx hb dX0_append_4 (by decide) (fun hc => ?_) (fun hc => ?_)
  · have hwp := hwp.1 hc
    refine lv_iconst (v := 0) hx hb dX0_append_19 (by decide) ?_
    exact hret (v_length, v_signs) [0, 1] dX0_append_20 (Or.inl rfl) hwp rfl rfl hP hD hS
  · have hwp := hwp.2 hc
    refine lv_aload_n hx hb dX0_append_7 rfl (lv_at hl 0 rfl) ?_
    refine va_get (D := D) (ci := 0) (v := .int v_length) (C := RX0) (T := TX0) (N := 5) hx hb hts mc_X0_append_0 hown hK hP 0 rfl rfl 2 (by decide) (hts _ ml_X0_append_1) (fun _ h9 => h9) rfl dX0_append_8 ?_
    refine lv_aload_n hx hb dX0_append_11 rfl (lv_at hl 0 rfl) ?_
    refine va_get (D := D) (ci := 0) (v := .ref a_signs) (C := RX0) (T := TX0) (N := 5) hx hb hts mc_X0_append_0 hown hK hP 0 rfl rfl 0 (by decide) (hts _ ml_X0_append_2) (fun _ h9 => h9) rfl dX0_append_12 ?_
    refine va_alen (D := D) (v := 60) hx hb hK hP 1 1 rfl rfl rfl dX0_append_15 ?_
    refine lv_icmp_lt (tgt := 21) hx hb dX0_append_16 (by decide) (fun hc => ?_) (fun hc => ?_)
    · have hwp := hwp.1 hc
      refine lv_aload_n hx hb dX0_append_21 rfl (lv_at hl 0 rfl) ?_
      refine va_get (D := D) (ci := 0) (v := .ref a_signs) (C := RX0) (T := TX0) (N := 5) hx hb hts mc_X0_append_0 hown hK hP 0 rfl rfl 0 (by decide) (hts _ ml_X0_append_2) (fun _ h9 => h9) rfl dX0_append_22 ?_
      refine lv_aload_n hx hb dX0_append_25 rfl (lv_at hl 0 rfl) ?_
      refine va_get (D := D) (ci := 0) (v := .int v_length) (C := RX0) (T := TX0) (N := 5) hx hb hts mc_X0_append_0 hown hK hP 0 rfl rfl 2 (by decide) (hts _ ml_X0_append_1) (fun _ h9 => h9) rfl dX0_append_26 ?_
      refine lv_iload_n hx hb dX0_append_29 rfl (lv_at hl 1 rfl) ?_
      have hn_1 := hwp.1
      have hwp := hwp.2
      refine va_cast (D := D) hx hb hK hP hD hS 1 1 rfl rfl hn_1 dX0_append_30 (fun H locs hP hD hS => ?_)
      have hP : va_P D vwCl [(a_this, .inr (0, [.ref a_signs, .ref a_cards, .int v_length, .int v_position, .int v_faulty])), (a_signs, .inl (cC, 60, .inl (upd v_signs (v_length).toNatClampNeg (vp_nar .char x1))))] H := hP
      have hD : va_D A [(a_this, .inr (0, [.ref a_signs, .ref a_cards, .int v_length, .int v_position, .int v_faulty])), (a_signs, .inl (cC, 60, .inl (upd v_signs (v_length).toNatClampNeg (vp_nar .char x1))))] := hD
      refine lv_aload_n hx hb dX0_append_31 rfl (lv_at hl 0 rfl) ?_
      refine lv_dup hx hb dX0_append_32 rfl ?_
      refine va_get (D := D) (ci := 0) (v := .int v_length) (C := RX0) (T := TX0) (N := 5) hx hb hts mc_X0_append_0 hown hK hP 0 rfl rfl 2 (by decide) (hts _ ml_X0_append_1) (fun _ h9 => h9) rfl dX0_append_33 ?_
      refine lv_iconst (v := 1) hx hb dX0_append_36 (by decide) ?_
      refine lv_iadd hx hb dX0_append_37 ?_
      refine va_put (D := D) (ci := 0) (v := .int (v_length + (1 : Int32))) (ty := .int) (C := RX0) (T := TX0) (N := 5) hx hb hts mc_X0_append_0 tyX0 tyX0_ok nmX0 hown hK hP hD hS 0 rfl rfl 2 (by decide) (hts _ ml_X0_append_1) (fun _ h9 => h9) rfl (by decide +kernel) rfl rfl (Nat.le_of_ble_eq_true rfl) dX0_append_38 (fun H locs hP hD hS => ?_)
      have hP : va_P D vwCl [(a_this, .inr (0, [.ref a_signs, .ref a_cards, .int (v_length + (1 : Int32)), .int v_position, .int v_faulty])), (a_signs, .inl (cC, 60, .inl (upd v_signs (v_length).toNatClampNeg (vp_nar .char x1))))] H := hP
      have hD : va_D A [(a_this, .inr (0, [.ref a_signs, .ref a_cards, .int (v_length + (1 : Int32)), .int v_position, .int v_faulty])), (a_signs, .inl (cC, 60, .inl (upd v_signs (v_length).toNatClampNeg (vp_nar .char x1))))] := hD
      refine lv_iconst (v := 1) hx hb dX0_append_41 (by decide) ?_
      exact hret ((v_length + (1 : Int32)), (upd v_signs (v_length).toNatClampNeg (vp_nar .char x1))) [0, 1] dX0_append_42 (Or.inr rfl) hwp rfl rfl hP hD hS
    · have hwp := hwp.2 hc
      refine lv_iconst (v := 0) hx hb dX0_append_19 (by decide) ?_
      exact hret (v_length, v_signs) [0, 1] dX0_append_20 (Or.inl rfl) hwp rfl rfl hP hD hS
abbrev rm_X0_cardsRead : Room := { frames := 0, cells := 0, slots := 0, locals := 0 }
set_option maxHeartbeats 4000000 in
set_option maxRecDepth 100000 in
/-- cardsRead(): the reference to its cards -/
theorem c_X0_cardsRead (l : Launch) (D : va_G) (cI cC cF cO : ClassId) (a_this a_signs a_cards : Nat) (v_length : Int32) (v_position : Int32) (v_faulty : Int32) (sz : Nat) : Met l yX0_cardsRead wsX0_cardsRead rm_X0_cardsRead (gPre D (gT cI cC cF cO) [.ref a_this] [(a_this, .inr (0, [.ref a_signs, .ref a_cards, .int v_length, .int v_position, .int v_faulty]))] sz) (va_Qq (S := Unit) (fun ro _ => ro = some a_cards) (gB D (gT cI cC cF cO) (fun _ : Unit => [(a_this, .inr (0, [.ref a_signs, .ref a_cards, .int v_length, .int v_position, .int v_faulty]))]) [(a_this, .inr (0, [.ref a_signs, .ref a_cards, .int v_length, .int v_position, .int v_faulty]))] sz) (va_A [(a_this, .inr (0, [.ref a_signs, .ref a_cards, .int v_length, .int v_position, .int v_faulty]))] sz)) 0 0 (va_A [(a_this, .inr (0, [.ref a_signs, .ref a_cards, .int v_length, .int v_position, .int v_faulty]))] sz) := by
  refine gOfq (own := RX0) (cc := cX0_cardsRead) (maxL := 1) (ret := (some (.object "StoryWall$Cards"))) (rt := .object "StoryWall$Cards") rfl (by decide) rfl (Nat.le_of_ble_eq_true rfl) rfl (Or.inl ⟨_, rfl⟩) ?_
  intro p e s m below meth c A args Q hAe hx hb hr hts hown hml hlocks hname hA hK hX hT hP hD hS hret ls hl
  have hl : lv_has ls 1 [(0, .ref a_this)] := hl
  refine lv_aload_n hx hb dX0_cardsRead_0 rfl (lv_at hl 0 rfl) ?_
  refine va_get (D := D) (ci := 0) (v := .ref a_cards) (C := RX0) (T := TX0) (N := 5) hx hb hts (fun w h => List.mem_cons_of_mem _ (List.mem_append_right _ h)) hown hK hP 0 rfl rfl 1 (by decide) (hts (.fieldLink RX0 18 "StoryWall$CardText" "cards" "LStoryWall$Cards;") (List.mem_of_getElem? (i := 1) rfl)) (fun _ h9 => h9) rfl dX0_cardsRead_1 ?_
  exact hret (some a_cards) () [0] dX0_cardsRead_4 rfl rfl rfl hP hD hS
theorem mc_X0_hasAhead_0 : ∀ w ∈ u_ws RX0 TX0 5, w ∈ wsX0_hasAhead := fun w h => List.mem_cons_of_mem _ (List.mem_append_right _ h)
theorem ml_X0_hasAhead_1 : (.fieldLink RX0 29 "StoryWall$CardText" "position" "I" : Cond) ∈ wsX0_hasAhead := List.mem_of_getElem? (i := 1) rfl
theorem ml_X0_hasAhead_2 : (.fieldLink RX0 22 "StoryWall$CardText" "length" "I" : Cond) ∈ wsX0_hasAhead := List.mem_of_getElem? (i := 2) rfl
theorem ml_X0_hasAhead_3 : (.fieldLink RX0 9 "StoryWall$CardText" "signs" "[C" : Cond) ∈ wsX0_hasAhead := List.mem_of_getElem? (i := 3) rfl
abbrev rm_X0_hasAhead : Room := { frames := 0, cells := 0, slots := 0, locals := 0 }
set_option maxHeartbeats 4000000 in
set_option maxRecDepth 100000 in
theorem c_X0_hasAhead (l : Launch) (D : va_G) (cI cC cF cO : ClassId) (a_this a_signs a_cards : Nat) (v_faulty : Int32) (v_signs : Nat → Int32) (sz : Nat)  (v_length : Int32) (v_position : Int32) (post : Int32 → Prop) (hwp : wp_X0_hasAhead v_length v_position post) : Met l yX0_hasAhead wsX0_hasAhead rm_X0_hasAhead (gPre D (gT cI cC cF cO) [.ref a_this] [(a_this, .inr (0, [.ref a_signs, .ref a_cards, .int v_length, .int v_position, .int v_faulty])), (a_signs, .inl (cC, 60, .inl v_signs))] sz) (va_Qi (S := Unit) (fun (r : Int32) (u : Unit) => post r ) (gB D (gT cI cC cF cO) (fun (u : Unit) => [(a_this, .inr (0, [.ref a_signs, .ref a_cards, .int v_length, .int v_position, .int v_faulty])), (a_signs, .inl (cC, 60, .inl v_signs))]) [(a_this, .inr (0, [.ref a_signs, .ref a_cards, .int v_length, .int v_position, .int v_faulty])), (a_signs, .inl (cC, 60, .inl v_signs))] sz) (va_A [(a_this, .inr (0, [.ref a_signs, .ref a_cards, .int v_length, .int v_position, .int v_faulty])), (a_signs, .inl (cC, 60, .inl v_signs))] sz)) 0 0 (va_A [(a_this, .inr (0, [.ref a_signs, .ref a_cards, .int v_length, .int v_position, .int v_faulty])), (a_signs, .inl (cC, 60, .inl v_signs))] sz) := by
  refine gOfz (own := RX0) (cc := cX0_hasAhead) (maxL := 1) (ret := (some .boolean)) rfl (by decide) rfl (Nat.le_of_ble_eq_true rfl) rfl ?_
  intro p e s m below meth c A args Q hAe hx hb hr hts hown hml hlocks hname hA hK hX hT hP hD hS hret ls hl
  have hl : lv_has ls 1 [(0, .ref a_this)] := hl
  unfold wp_X0_hasAhead at hwp
  refine lv_aload_n hx hb dX0_hasAhead_0 rfl (lv_at hl 0 rfl) ?_
  refine va_get (D := D) (ci := 0) (v := .int v_position) (C := RX0) (T := TX0) (N := 5) hx hb hts mc_X0_hasAhead_0 hown hK hP 0 rfl rfl 3 (by decide) (hts _ ml_X0_hasAhead_1) (fun _ h9 => h9) rfl dX0_hasAhead_1 ?_
  refine lv_if_lt (tgt := 34) hx hb dX0_hasAhead_4 (by decide) (fun hc => ?_) (fun hc => ?_)
  · have hwp := hwp.1 hc
    refine lv_iconst (v := 0) hx hb dX0_hasAhead_34 (by decide) ?_
    exact hret () [0, 1] dX0_hasAhead_35 (Or.inl rfl) hwp rfl rfl hP hD hS
  · have hwp := hwp.2 hc
    refine lv_aload_n hx hb dX0_hasAhead_7 rfl (lv_at hl 0 rfl) ?_
    refine va_get (D := D) (ci := 0) (v := .int v_position) (C := RX0) (T := TX0) (N := 5) hx hb hts mc_X0_hasAhead_0 hown hK hP 0 rfl rfl 3 (by decide) (hts _ ml_X0_hasAhead_1) (fun _ h9 => h9) rfl dX0_hasAhead_8 ?_
    refine lv_aload_n hx hb dX0_hasAhead_11 rfl (lv_at hl 0 rfl) ?_
    refine va_get (D := D) (ci := 0) (v := .int v_length) (C := RX0) (T := TX0) (N := 5) hx hb hts mc_X0_hasAhead_0 hown hK hP 0 rfl rfl 2 (by decide) (hts _ ml_X0_hasAhead_2) (fun _ h9 => h9) rfl dX0_hasAhead_12 ?_
    refine lv_icmp_ge (tgt := 34) hx hb dX0_hasAhead_15 (by decide) (fun hc => ?_) (fun hc => ?_)
    · have hwp := hwp.1 hc
      refine lv_iconst (v := 0) hx hb dX0_hasAhead_34 (by decide) ?_
      exact hret () [0, 1] dX0_hasAhead_35 (Or.inl rfl) hwp rfl rfl hP hD hS
    · have hwp := hwp.2 hc
      refine lv_aload_n hx hb dX0_hasAhead_18 rfl (lv_at hl 0 rfl) ?_
      refine va_get (D := D) (ci := 0) (v := .int v_position) (C := RX0) (T := TX0) (N := 5) hx hb hts mc_X0_hasAhead_0 hown hK hP 0 rfl rfl 3 (by decide) (hts _ ml_X0_hasAhead_1) (fun _ h9 => h9) rfl dX0_hasAhead_19 ?_
      refine lv_aload_n hx hb dX0_hasAhead_22 rfl (lv_at hl 0 rfl) ?_
      refine va_get (D := D) (ci := 0) (v := .ref a_signs) (C := RX0) (T := TX0) (N := 5) hx hb hts mc_X0_hasAhead_0 hown hK hP 0 rfl rfl 0 (by decide) (hts _ ml_X0_hasAhead_3) (fun _ h9 => h9) rfl dX0_hasAhead_23 ?_
      refine va_alen (D := D) (v := 60) hx hb hK hP 1 1 rfl rfl rfl dX0_hasAhead_26 ?_
      refine lv_icmp_ge (tgt := 34) hx hb dX0_hasAhead_27 (by decide) (fun hc => ?_) (fun hc => ?_)
      · have hwp := hwp.1 hc
        refine lv_iconst (v := 0) hx hb dX0_hasAhead_34 (by decide) ?_
        exact hret () [0, 1] dX0_hasAhead_35 (Or.inl rfl) hwp rfl rfl hP hD hS
      · have hwp := hwp.2 hc
        refine lv_iconst (v := 1) hx hb dX0_hasAhead_30 (by decide) ?_
        refine lv_goto (tgt := 35) hx hb dX0_hasAhead_31 (by decide) ?_
        exact hret () [0, 1] dX0_hasAhead_35 (Or.inr rfl) hwp rfl rfl hP hD hS
theorem mc_X0_isAhead_0 : ∀ w ∈ u_ws RX0 TX0 5, w ∈ wsX0_isAhead := fun w h => List.mem_cons_of_mem _ (List.mem_append_right _ h)
theorem ml_X0_isAhead_1 : (.fieldLink RX0 9 "StoryWall$CardText" "signs" "[C" : Cond) ∈ wsX0_isAhead := List.mem_of_getElem? (i := 1) rfl
theorem ml_X0_isAhead_2 : (.fieldLink RX0 29 "StoryWall$CardText" "position" "I" : Cond) ∈ wsX0_isAhead := List.mem_of_getElem? (i := 2) rfl
abbrev rm_X0_isAhead : Room := { frames := 1, cells := 0, slots := 0, locals := 20 }
set_option maxHeartbeats 4000000 in
set_option maxRecDepth 100000 in
theorem c_X0_isAhead (l : Launch) (D : va_G) (cI cC cF cO : ClassId) (a_this a_signs a_cards : Nat) (v_faulty : Int32) (sz : Nat) (x1 : Int32) (v_length : Int32) (v_position : Int32) (v_signs : Nat → Int32) (post : Int32 → Prop) (hwp : wp_X0_isAhead x1 v_length v_position v_signs post) : Met l yX0_isAhead wsX0_isAhead rm_X0_isAhead (gPre D (gT cI cC cF cO) [.ref a_this, .int x1] [(a_this, .inr (0, [.ref a_signs, .ref a_cards, .int v_length, .int v_position, .int v_faulty])), (a_signs, .inl (cC, 60, .inl v_signs))] sz) (va_Qi (S := Unit) (fun (r : Int32) (u : Unit) => post r ) (gB D (gT cI cC cF cO) (fun (u : Unit) => [(a_this, .inr (0, [.ref a_signs, .ref a_cards, .int v_length, .int v_position, .int v_faulty])), (a_signs, .inl (cC, 60, .inl v_signs))]) [(a_this, .inr (0, [.ref a_signs, .ref a_cards, .int v_length, .int v_position, .int v_faulty])), (a_signs, .inl (cC, 60, .inl v_signs))] sz) (va_A [(a_this, .inr (0, [.ref a_signs, .ref a_cards, .int v_length, .int v_position, .int v_faulty])), (a_signs, .inl (cC, 60, .inl v_signs))] sz)) 0 0 (va_A [(a_this, .inr (0, [.ref a_signs, .ref a_cards, .int v_length, .int v_position, .int v_faulty])), (a_signs, .inl (cC, 60, .inl v_signs))] sz) := by
  refine gOfz (own := RX0) (cc := cX0_isAhead) (maxL := 2) (ret := (some .boolean)) rfl (by decide) rfl (Nat.le_of_ble_eq_true rfl) rfl ?_
  intro p e s m below meth c A args Q hAe hx hb hr hts hown hml hlocks hname hA hK hX hT hP hD hS hret ls hl
  have hl : lv_has ls 2 [(0, .ref a_this), (1, .int x1)] := hl
  unfold wp_X0_isAhead at hwp
  refine lv_aload_n hx hb dX0_isAhead_0 rfl (lv_at hl 0 rfl) ?_
  refine gBacki (D := D) (tys := gT cI cC cF cO) (A := A) (wr := []) (w1 := (fun u_2 : Unit => [(a_this, .inr (0, [.ref a_signs, .ref a_cards, .int v_length, .int v_position, .int v_faulty])), (a_signs, .inl (cC, 60, .inl v_signs))])) (va_runV (As := []) (rest := []) ⟨hx, hb, hml, hown, hts⟩ (c_X0_hasAhead l D cI cC cF cO a_this a_signs a_cards v_faulty v_signs _ _ _ _ hwp) (cwV 0 hts gX0_isAhead_X0_hasAhead rfl rfl rfl (by decide +kernel) ⟨Nat.le_of_ble_eq_true rfl, Nat.le_of_ble_eq_true rfl⟩) (gPreV (C := RX0) (T := TX0) (N := 5) (ci := 0) hK hX hT hP hD hS hA [0, 1] rfl rfl rfl (qb := 0) rfl) rfl rfl hl.1 rfl (lv_room (Nat.le_of_ble_eq_true rfl)) dX0_isAhead_1 ⟨Nat.le_of_ble_eq_true rfl, Nat.le_of_ble_eq_true rfl⟩) hP hD hS hA [0, 1] [] rfl rfl rfl (by decide) (fun r_1 u_2 H locs hwp hP hD hS => ?_)
  have hP : va_P D vwCl [(a_this, .inr (0, [.ref a_signs, .ref a_cards, .int v_length, .int v_position, .int v_faulty])), (a_signs, .inl (cC, 60, .inl v_signs))] H := hP
  have hD : va_D A [(a_this, .inr (0, [.ref a_signs, .ref a_cards, .int v_length, .int v_position, .int v_faulty])), (a_signs, .inl (cC, 60, .inl v_signs))] := hD
  refine lv_if_eq (tgt := 24) hx hb dX0_isAhead_4 (by decide) (fun hc => ?_) (fun hc => ?_)
  · have hwp := hwp.1 hc
    refine lv_iconst (v := 0) hx hb dX0_isAhead_24 (by decide) ?_
    exact hret () [0, 1] dX0_isAhead_25 (Or.inl rfl) hwp rfl rfl hP hD hS
  · have hwp := hwp.2 hc
    refine lv_aload_n hx hb dX0_isAhead_7 rfl (lv_at hl 0 rfl) ?_
    refine va_get (D := D) (ci := 0) (v := .ref a_signs) (C := RX0) (T := TX0) (N := 5) hx hb hts mc_X0_isAhead_0 hown hK hP 0 rfl rfl 0 (by decide) (hts _ ml_X0_isAhead_1) (fun _ h9 => h9) rfl dX0_isAhead_8 ?_
    refine lv_aload_n hx hb dX0_isAhead_11 rfl (lv_at hl 0 rfl) ?_
    refine va_get (D := D) (ci := 0) (v := .int v_position) (C := RX0) (T := TX0) (N := 5) hx hb hts mc_X0_isAhead_0 hown hK hP 0 rfl rfl 3 (by decide) (hts _ ml_X0_isAhead_2) (fun _ h9 => h9) rfl dX0_isAhead_12 ?_
    have hn_3 := hwp.1
    have hwp := hwp.2
    refine va_cald (D := D) hx hb hK hP 1 1 rfl rfl hn_3 dX0_isAhead_15 ?_
    refine lv_iload_n hx hb dX0_isAhead_16 rfl (lv_at hl 1 rfl) ?_
    refine lv_icmp_ne (tgt := 24) hx hb dX0_isAhead_17 (by decide) (fun hc => ?_) (fun hc => ?_)
    · have hwp := hwp.2 hc
      refine lv_iconst (v := 0) hx hb dX0_isAhead_24 (by decide) ?_
      exact hret () [0, 1] dX0_isAhead_25 (Or.inl rfl) hwp rfl rfl hP hD hS
    · have hwp := hwp.1 hc
      refine lv_iconst (v := 1) hx hb dX0_isAhead_20 (by decide) ?_
      refine lv_goto (tgt := 25) hx hb dX0_isAhead_21 (by decide) ?_
      exact hret () [0, 1] dX0_isAhead_25 (Or.inr rfl) hwp rfl rfl hP hD hS
theorem mc_X0_digitAhead_0 : ∀ w ∈ u_ws RX0 TX0 5, w ∈ wsX0_digitAhead := fun w h => List.mem_cons_of_mem _ (List.mem_append_right _ h)
theorem ml_X0_digitAhead_1 : (.fieldLink RX0 9 "StoryWall$CardText" "signs" "[C" : Cond) ∈ wsX0_digitAhead := List.mem_of_getElem? (i := 1) rfl
theorem ml_X0_digitAhead_2 : (.fieldLink RX0 29 "StoryWall$CardText" "position" "I" : Cond) ∈ wsX0_digitAhead := List.mem_of_getElem? (i := 2) rfl
abbrev rm_X0_digitAhead : Room := { frames := 1, cells := 0, slots := 0, locals := 20 }
set_option maxHeartbeats 4000000 in
set_option maxRecDepth 100000 in
theorem c_X0_digitAhead (l : Launch) (D : va_G) (cI cC cF cO : ClassId) (a_this a_signs a_cards : Nat) (v_faulty : Int32) (sz : Nat)  (v_length : Int32) (v_position : Int32) (v_signs : Nat → Int32) (post : Int32 → Prop) (hwp : wp_X0_digitAhead v_length v_position v_signs post) : Met l yX0_digitAhead wsX0_digitAhead rm_X0_digitAhead (gPre D (gT cI cC cF cO) [.ref a_this] [(a_this, .inr (0, [.ref a_signs, .ref a_cards, .int v_length, .int v_position, .int v_faulty])), (a_signs, .inl (cC, 60, .inl v_signs))] sz) (va_Qi (S := Unit) (fun (r : Int32) (u : Unit) => post r ) (gB D (gT cI cC cF cO) (fun (u : Unit) => [(a_this, .inr (0, [.ref a_signs, .ref a_cards, .int v_length, .int v_position, .int v_faulty])), (a_signs, .inl (cC, 60, .inl v_signs))]) [(a_this, .inr (0, [.ref a_signs, .ref a_cards, .int v_length, .int v_position, .int v_faulty])), (a_signs, .inl (cC, 60, .inl v_signs))] sz) (va_A [(a_this, .inr (0, [.ref a_signs, .ref a_cards, .int v_length, .int v_position, .int v_faulty])), (a_signs, .inl (cC, 60, .inl v_signs))] sz)) 0 0 (va_A [(a_this, .inr (0, [.ref a_signs, .ref a_cards, .int v_length, .int v_position, .int v_faulty])), (a_signs, .inl (cC, 60, .inl v_signs))] sz) := by
  refine gOfi (own := RX0) (cc := cX0_digitAhead) (maxL := 2) (ret := (some .int)) rfl (by decide) rfl (Nat.le_of_ble_eq_true rfl) rfl ?_
  intro p e s m below meth c A args Q hAe hx hb hr hts hown hml hlocks hname hA hK hX hT hP hD hS hret ls hl
  have hl : lv_has ls 2 [(0, .ref a_this)] := hl
  unfold wp_X0_digitAhead at hwp
  have hj24 : ∀ (k0_24 : Int32) (H : Heap) (locs : List Loc), wp_X0_digitAhead_j24 k0_24 v_length v_position v_signs  post → va_P D vwCl [(a_this, .inr (0, [.ref a_signs, .ref a_cards, .int v_length, .int v_position, .int v_faulty])), (a_signs, .inl (cC, 60, .inl v_signs))] H → va_D A [(a_this, .inr (0, [.ref a_signs, .ref a_cards, .int v_length, .int v_position, .int v_faulty])), (a_signs, .inl (cC, 60, .inl v_signs))] → va_S A s.heap H locs → ∀ ls : Array Slot, lv_has ls 2 [] → W p l e rm_X0_digitAhead s m args below meth c H locs 0 0 Q (F0 m 24 ls [.int k0_24]) := by
    intro k0_24 H locs hwp hP hD hS ls hl
    unfold wp_X0_digitAhead_j24 at hwp
    refine lv_istore_n (lv' := [(1, .int k0_24)]) hx hb dX0_digitAhead_24 rfl hl (by decide) rfl (fun ls hl => ?_)
    refine lv_iload_n hx hb dX0_digitAhead_25 rfl (lv_at hl 0 rfl) ?_
    refine lv_if_lt (tgt := 39) hx hb dX0_digitAhead_26 (by decide) (fun hc => ?_) (fun hc => ?_)
    · have hwp := hwp.1 hc
      refine lv_bipush (v := -5) hx hb dX0_digitAhead_39 (by decide) ?_
      exact hret () [0, 1] dX0_digitAhead_41 hwp rfl rfl hP hD hS
    · have hwp := hwp.2 hc
      refine lv_iload_n hx hb dX0_digitAhead_29 rfl (lv_at hl 0 rfl) ?_
      refine lv_bipush (v := 9) hx hb dX0_digitAhead_30 (by decide) ?_
      refine lv_icmp_gt (tgt := 39) hx hb dX0_digitAhead_32 (by decide) (fun hc => ?_) (fun hc => ?_)
      · have hwp := hwp.1 hc
        refine lv_bipush (v := -5) hx hb dX0_digitAhead_39 (by decide) ?_
        exact hret () [0, 1] dX0_digitAhead_41 hwp rfl rfl hP hD hS
      · have hwp := hwp.2 hc
        refine lv_iload_n hx hb dX0_digitAhead_35 rfl (lv_at hl 0 rfl) ?_
        refine lv_goto (tgt := 41) hx hb dX0_digitAhead_36 (by decide) ?_
        exact hret () [0, 1] dX0_digitAhead_41 hwp rfl rfl hP hD hS
  refine lv_aload_n hx hb dX0_digitAhead_0 rfl (lv_at hl 0 rfl) ?_
  refine gBacki (D := D) (tys := gT cI cC cF cO) (A := A) (wr := []) (w1 := (fun u_2 : Unit => [(a_this, .inr (0, [.ref a_signs, .ref a_cards, .int v_length, .int v_position, .int v_faulty])), (a_signs, .inl (cC, 60, .inl v_signs))])) (va_runV (As := []) (rest := []) ⟨hx, hb, hml, hown, hts⟩ (c_X0_hasAhead l D cI cC cF cO a_this a_signs a_cards v_faulty v_signs _ _ _ _ hwp) (cwV 0 hts gX0_digitAhead_X0_hasAhead rfl rfl rfl (by decide +kernel) ⟨Nat.le_of_ble_eq_true rfl, Nat.le_of_ble_eq_true rfl⟩) (gPreV (C := RX0) (T := TX0) (N := 5) (ci := 0) hK hX hT hP hD hS hA [0, 1] rfl rfl rfl (qb := 0) rfl) rfl rfl hl.1 rfl (lv_room (Nat.le_of_ble_eq_true rfl)) dX0_digitAhead_1 ⟨Nat.le_of_ble_eq_true rfl, Nat.le_of_ble_eq_true rfl⟩) hP hD hS hA [0, 1] [] rfl rfl rfl (by decide) (fun r_1 u_2 H locs hwp hP hD hS => ?_)
  have hP : va_P D vwCl [(a_this, .inr (0, [.ref a_signs, .ref a_cards, .int v_length, .int v_position, .int v_faulty])), (a_signs, .inl (cC, 60, .inl v_signs))] H := hP
  have hD : va_D A [(a_this, .inr (0, [.ref a_signs, .ref a_cards, .int v_length, .int v_position, .int v_faulty])), (a_signs, .inl (cC, 60, .inl v_signs))] := hD
  refine lv_if_eq (tgt := 22) hx hb dX0_digitAhead_4 (by decide) (fun hc => ?_) (fun hc => ?_)
  · have hwp := hwp.1 hc
    refine lv_bipush (v := -5) hx hb dX0_digitAhead_22 (by decide) ?_
    have hl : lv_has ls 2 [] := lv_sub hl [] rfl
    exact hj24 (-5 : Int32) _ _ hwp hP hD hS ls hl
  · have hwp := hwp.2 hc
    refine lv_aload_n hx hb dX0_digitAhead_7 rfl (lv_at hl 0 rfl) ?_
    refine va_get (D := D) (ci := 0) (v := .ref a_signs) (C := RX0) (T := TX0) (N := 5) hx hb hts mc_X0_digitAhead_0 hown hK hP 0 rfl rfl 0 (by decide) (hts _ ml_X0_digitAhead_1) (fun _ h9 => h9) rfl dX0_digitAhead_8 ?_
    refine lv_aload_n hx hb dX0_digitAhead_11 rfl (lv_at hl 0 rfl) ?_
    refine va_get (D := D) (ci := 0) (v := .int v_position) (C := RX0) (T := TX0) (N := 5) hx hb hts mc_X0_digitAhead_0 hown hK hP 0 rfl rfl 3 (by decide) (hts _ ml_X0_digitAhead_2) (fun _ h9 => h9) rfl dX0_digitAhead_12 ?_
    have hn_3 := hwp.1
    have hwp := hwp.2
    refine va_cald (D := D) hx hb hK hP 1 1 rfl rfl hn_3 dX0_digitAhead_15 ?_
    refine lv_bipush (v := 48) hx hb dX0_digitAhead_16 (by decide) ?_
    refine lv_isub hx hb dX0_digitAhead_18 ?_
    refine lv_goto (tgt := 24) hx hb dX0_digitAhead_19 (by decide) ?_
    have hl : lv_has ls 2 [] := lv_sub hl [] rfl
    exact hj24 ((v_signs (v_position).toNatClampNeg) - (48 : Int32)) _ _ hwp hP hD hS ls hl
theorem mc_X0_readNumber_0 : ∀ w ∈ u_ws RX0 TX0 5, w ∈ wsX0_readNumber := fun w h => List.mem_cons_of_mem _ (List.mem_append_right _ h)
theorem ml_X0_readNumber_1 : (.fieldLink RX0 32 "StoryWall$CardText" "faulty" "Z" : Cond) ∈ wsX0_readNumber := List.mem_of_getElem? (i := 1) rfl
theorem ml_X0_readNumber_2 : (.fieldLink RX0 29 "StoryWall$CardText" "position" "I" : Cond) ∈ wsX0_readNumber := List.mem_of_getElem? (i := 2) rfl
theorem ml_X0_readNumber_3 : (.fieldLink RX0 22 "StoryWall$CardText" "length" "I" : Cond) ∈ wsX0_readNumber := List.mem_of_getElem? (i := 3) rfl
abbrev rm_X0_readNumber : Room := { frames := 2, cells := 0, slots := 0, locals := 41 }
set_option maxHeartbeats 4000000 in
set_option maxRecDepth 100000 in
theorem c_X0_readNumber (l : Launch) (D : va_G) (cI cC cF cO : ClassId) (a_this a_signs a_cards : Nat)  (sz : Nat) (x1 : Int32) (v_length : Int32) (v_position : Int32) (v_faulty : Int32) (v_signs : Nat → Int32) (post : Int32 → Int32 → Int32 → Prop) (hwp : wp_X0_readNumber x1 v_length v_position v_faulty v_signs post) : Met l yX0_readNumber wsX0_readNumber rm_X0_readNumber (gPre D (gT cI cC cF cO) [.ref a_this, .int x1] [(a_this, .inr (0, [.ref a_signs, .ref a_cards, .int v_length, .int v_position, .int v_faulty])), (a_signs, .inl (cC, 60, .inl v_signs))] sz) (va_Qi (S := Int32 × Int32) (fun (r : Int32) (u : Int32 × Int32) => post r u.1 u.2) (gB D (gT cI cC cF cO) (fun (u : Int32 × Int32) => [(a_this, .inr (0, [.ref a_signs, .ref a_cards, .int v_length, .int u.1, .int u.2])), (a_signs, .inl (cC, 60, .inl v_signs))]) [(a_this, .inr (0, [.ref a_signs, .ref a_cards, .int v_length, .int v_position, .int v_faulty])), (a_signs, .inl (cC, 60, .inl v_signs))] sz) (va_A [(a_this, .inr (0, [.ref a_signs, .ref a_cards, .int v_length, .int v_position, .int v_faulty])), (a_signs, .inl (cC, 60, .inl v_signs))] sz)) 0 0 (va_A [(a_this, .inr (0, [.ref a_signs, .ref a_cards, .int v_length, .int v_position, .int v_faulty])), (a_signs, .inl (cC, 60, .inl v_signs))] sz) := by
  refine gOfi (own := RX0) (cc := cX0_readNumber) (maxL := 4) (ret := (some .int)) rfl (by decide) rfl (Nat.le_of_ble_eq_true rfl) rfl ?_
  intro p e s m below meth c A args Q hAe hx hb hr hts hown hml hlocks hname hA hK hX hT hP hD hS hret ls hl
  have hl : lv_has ls 4 [(0, .ref a_this), (1, .int x1)] := hl
  unfold wp_X0_readNumber at hwp
  obtain ⟨⟨t_LEAST, hZ_LEAST, hT_LEAST⟩, ⟨t_MOST, hZ_MOST, hT_MOST⟩, ⟨t_LEAST_SETTING, hZ_LEAST_SETTING, hT_LEAST_SETTING⟩, ⟨t_MOST_SETTING, hZ_MOST_SETTING, hT_MOST_SETTING⟩⟩ := id hT
  refine lv_aload_n hx hb dX0_readNumber_0 rfl (lv_at hl 0 rfl) ?_
  refine va_get (D := D) (ci := 0) (v := .int v_faulty) (C := RX0) (T := TX0) (N := 5) hx hb hts mc_X0_readNumber_0 hown hK hP 0 rfl rfl 4 (by decide) (hts _ ml_X0_readNumber_1) (fun _ h9 => h9) rfl dX0_readNumber_1 ?_
  refine lv_if_ne (tgt := 16) hx hb dX0_readNumber_4 (by decide) (fun hc => ?_) (fun hc => ?_)
  · have hwp := hwp.2 hc
    refine lv_bipush (v := -5) hx hb dX0_readNumber_16 (by decide) ?_
    exact hret (v_position, v_faulty) [0, 1] dX0_readNumber_18 hwp rfl rfl hP hD hS
  · have hwp := hwp.1 hc
    refine lv_iload_n hx hb dX0_readNumber_7 rfl (lv_at hl 1 rfl) ?_
    refine lv_if_lt (tgt := 16) hx hb dX0_readNumber_8 (by decide) (fun hc => ?_) (fun hc => ?_)
    · have hwp := hwp.1 hc
      refine lv_bipush (v := -5) hx hb dX0_readNumber_16 (by decide) ?_
      exact hret (v_position, v_faulty) [0, 1] dX0_readNumber_18 hwp rfl rfl hP hD hS
    · have hwp := hwp.2 hc
      refine lv_iload_n hx hb dX0_readNumber_11 rfl (lv_at hl 1 rfl) ?_
      refine lv_iconst (v := 5) hx hb dX0_readNumber_12 (by decide) ?_
      refine lv_icmp_lt (tgt := 19) hx hb dX0_readNumber_13 (by decide) (fun hc => ?_) (fun hc => ?_)
      · have hwp := hwp.1 hc
        refine lv_aload_n hx hb dX0_readNumber_19 rfl (lv_at hl 0 rfl) ?_
        refine gBacki (D := D) (tys := gT cI cC cF cO) (A := A) (wr := []) (w1 := (fun u_2 : Unit => [(a_this, .inr (0, [.ref a_signs, .ref a_cards, .int v_length, .int v_position, .int v_faulty])), (a_signs, .inl (cC, 60, .inl v_signs))])) (va_runV (As := []) (rest := []) ⟨hx, hb, hml, hown, hts⟩ (c_X0_digitAhead l D cI cC cF cO a_this a_signs a_cards v_faulty _ _ _ _ _ hwp) (cwV 0 hts gX0_readNumber_X0_digitAhead rfl rfl rfl (by decide +kernel) ⟨Nat.le_of_ble_eq_true rfl, Nat.le_of_ble_eq_true rfl⟩) (gPreV (C := RX0) (T := TX0) (N := 5) (ci := 0) hK hX hT hP hD hS hA [0, 1] rfl rfl rfl (qb := 0) rfl) rfl rfl hl.1 rfl (lv_room (Nat.le_of_ble_eq_true rfl)) dX0_readNumber_20 ⟨Nat.le_of_ble_eq_true rfl, Nat.le_of_ble_eq_true rfl⟩) hP hD hS hA [0, 1] [] rfl rfl rfl (by decide) (fun r_1 u_2 H locs hwp hP hD hS => ?_)
        have hP : va_P D vwCl [(a_this, .inr (0, [.ref a_signs, .ref a_cards, .int v_length, .int v_position, .int v_faulty])), (a_signs, .inl (cC, 60, .inl v_signs))] H := hP
        have hD : va_D A [(a_this, .inr (0, [.ref a_signs, .ref a_cards, .int v_length, .int v_position, .int v_faulty])), (a_signs, .inl (cC, 60, .inl v_signs))] := hD
        refine lv_istore_n (lv' := [(2, .int r_1), (0, .ref a_this), (1, .int x1)]) hx hb dX0_readNumber_23 rfl hl (by decide) rfl (fun ls hl => ?_)
        refine lv_iload_n hx hb dX0_readNumber_24 rfl (lv_at hl 0 rfl) ?_
        refine va_getsN hx hb hZ_LEAST hS hown (gX_use hX 15 rfl) (fun _ h9 => h9) dX0_readNumber_25 ?_
        refine lv_iload_n hx hb dX0_readNumber_28 rfl (lv_at hl 2 rfl) ?_
        have hn_3 := hwp.1
        have hwp := hwp.2
        refine va_ti (v := .int (gLEAST (x1).toNatClampNeg)) hx hb hT_LEAST hS hn_3 rfl dX0_readNumber_29 ?_
        refine lv_icmp_ge (tgt := 41) hx hb dX0_readNumber_30 (by decide) (fun hc => ?_) (fun hc => ?_)
        · have hwp := hwp.1 hc
          refine lv_aload_n hx hb dX0_readNumber_41 rfl (lv_at hl 1 rfl) ?_
          refine lv_dup hx hb dX0_readNumber_42 rfl ?_
          refine va_get (D := D) (ci := 0) (v := .int v_position) (C := RX0) (T := TX0) (N := 5) hx hb hts mc_X0_readNumber_0 hown hK hP 0 rfl rfl 3 (by decide) (hts _ ml_X0_readNumber_2) (fun _ h9 => h9) rfl dX0_readNumber_43 ?_
          refine lv_iconst (v := 1) hx hb dX0_readNumber_46 (by decide) ?_
          refine lv_iadd hx hb dX0_readNumber_47 ?_
          refine va_put (D := D) (ci := 0) (v := .int (v_position + (1 : Int32))) (ty := .int) (C := RX0) (T := TX0) (N := 5) hx hb hts mc_X0_readNumber_0 tyX0 tyX0_ok nmX0 hown hK hP hD hS 0 rfl rfl 3 (by decide) (hts _ ml_X0_readNumber_2) (fun _ h9 => h9) rfl (by decide +kernel) rfl rfl (Nat.le_of_ble_eq_true rfl) dX0_readNumber_48 (fun H locs hP hD hS => ?_)
          have hP : va_P D vwCl [(a_this, .inr (0, [.ref a_signs, .ref a_cards, .int v_length, .int (v_position + (1 : Int32)), .int v_faulty])), (a_signs, .inl (cC, 60, .inl v_signs))] H := hP
          have hD : va_D A [(a_this, .inr (0, [.ref a_signs, .ref a_cards, .int v_length, .int (v_position + (1 : Int32)), .int v_faulty])), (a_signs, .inl (cC, 60, .inl v_signs))] := hD
          have hl : lv_has ls 4 [(0, .ref a_this), (1, .int x1), (2, .int r_1)] := lv_sub hl [1, 2, 0] rfl
          unfold wp_X0_readNumber_l51 at hwp
          obtain ⟨J51, μ51, hJ, hst51⟩ := hwp
          have hL51 : ∀ (n : Nat) (x2_51 : Int32) (v_position_51 : Int32), μ51 x2_51 v_position_51 < n → J51 x2_51 v_position_51 → ∀ (H : Heap) (locs : List Loc), va_P D vwCl [(a_this, .inr (0, [.ref a_signs, .ref a_cards, .int v_length, .int v_position_51, .int v_faulty])), (a_signs, .inl (cC, 60, .inl v_signs))] H → va_D A [(a_this, .inr (0, [.ref a_signs, .ref a_cards, .int v_length, .int v_position_51, .int v_faulty])), (a_signs, .inl (cC, 60, .inl v_signs))] → va_S A s.heap H locs → ∀ ls : Array Slot, lv_has ls 4 [(0, .ref a_this), (1, .int x1), (2, .int x2_51)] → W p l e rm_X0_readNumber s m args below meth c H locs 0 0 Q (F0 m 51 ls []) := by
            intro n
            induction n with
            | zero => intro x2_51 v_position_51 h; exact absurd h (Nat.not_lt_zero _)
            | succ n ih51 =>
              intro x2_51 v_position_51 hμ51 hJ H locs hP hD hS ls hl
              have hwp := hst51 x2_51 v_position_51 hJ
              refine lv_aload_n hx hb dX0_readNumber_51 rfl (lv_at hl 0 rfl) ?_
              refine va_get (D := D) (ci := 0) (v := .int v_position_51) (C := RX0) (T := TX0) (N := 5) hx hb hts mc_X0_readNumber_0 hown hK hP 0 rfl rfl 3 (by decide) (hts _ ml_X0_readNumber_2) (fun _ h9 => h9) rfl dX0_readNumber_52 ?_
              refine lv_aload_n hx hb dX0_readNumber_55 rfl (lv_at hl 0 rfl) ?_
              refine va_get (D := D) (ci := 0) (v := .int v_length) (C := RX0) (T := TX0) (N := 5) hx hb hts mc_X0_readNumber_0 hown hK hP 0 rfl rfl 2 (by decide) (hts _ ml_X0_readNumber_3) (fun _ h9 => h9) rfl dX0_readNumber_56 ?_
              refine lv_icmp_ge (tgt := 113) hx hb dX0_readNumber_59 (by decide) (fun hc => ?_) (fun hc => ?_)
              · have hwp := hwp.1 hc
                refine lv_iload_n hx hb dX0_readNumber_113 rfl (lv_at hl 2 rfl) ?_
                exact hret (v_position_51, v_faulty) [0, 1] dX0_readNumber_114 hwp rfl rfl hP hD hS
              · have hwp := hwp.2 hc
                refine lv_aload_n hx hb dX0_readNumber_62 rfl (lv_at hl 0 rfl) ?_
                refine gBacki (D := D) (tys := gT cI cC cF cO) (A := A) (wr := []) (w1 := (fun u_5 : Unit => [(a_this, .inr (0, [.ref a_signs, .ref a_cards, .int v_length, .int v_position_51, .int v_faulty])), (a_signs, .inl (cC, 60, .inl v_signs))])) (va_runV (As := []) (rest := []) ⟨hx, hb, hml, hown, hts⟩ (c_X0_digitAhead l D cI cC cF cO a_this a_signs a_cards v_faulty _ _ _ _ _ hwp) (cwV 0 hts gX0_readNumber_X0_digitAhead rfl rfl rfl (by decide +kernel) ⟨Nat.le_of_ble_eq_true rfl, Nat.le_of_ble_eq_true rfl⟩) (gPreV (C := RX0) (T := TX0) (N := 5) (ci := 0) hK hX hT hP hD hS hA [0, 1] rfl rfl rfl (qb := 0) rfl) rfl rfl hl.1 rfl (lv_room (Nat.le_of_ble_eq_true rfl)) dX0_readNumber_63 ⟨Nat.le_of_ble_eq_true rfl, Nat.le_of_ble_eq_true rfl⟩) hP hD hS hA [0, 1] [] rfl rfl rfl (by decide) (fun r_4 u_5 H locs hwp hP hD hS => ?_)
                have hP : va_P D vwCl [(a_this, .inr (0, [.ref a_signs, .ref a_cards, .int v_length, .int v_position_51, .int v_faulty])), (a_signs, .inl (cC, 60, .inl v_signs))] H := hP
                have hD : va_D A [(a_this, .inr (0, [.ref a_signs, .ref a_cards, .int v_length, .int v_position_51, .int v_faulty])), (a_signs, .inl (cC, 60, .inl v_signs))] := hD
                refine lv_istore_n (lv' := [(3, .int r_4), (0, .ref a_this), (1, .int x1), (2, .int x2_51)]) hx hb dX0_readNumber_66 rfl hl (by decide) rfl (fun ls hl => ?_)
                refine lv_iload_n hx hb dX0_readNumber_67 rfl (lv_at hl 0 rfl) ?_
                refine lv_bipush (v := -5) hx hb dX0_readNumber_68 (by decide) ?_
                refine lv_icmp_eq (tgt := 91) hx hb dX0_readNumber_70 (by decide) (fun hc => ?_) (fun hc => ?_)
                · have hwp := hwp.1 hc
                  refine lv_iload_n hx hb dX0_readNumber_91 rfl (lv_at hl 3 rfl) ?_
                  exact hret (v_position_51, v_faulty) [0, 1] dX0_readNumber_92 hwp rfl rfl hP hD hS
                · have hwp := hwp.2 hc
                  refine lv_iload_n hx hb dX0_readNumber_73 rfl (lv_at hl 3 rfl) ?_
                  refine lv_if_eq (tgt := 91) hx hb dX0_readNumber_74 (by decide) (fun hc => ?_) (fun hc => ?_)
                  · have hwp := hwp.1 hc
                    refine lv_iload_n hx hb dX0_readNumber_91 rfl (lv_at hl 3 rfl) ?_
                    exact hret (v_position_51, v_faulty) [0, 1] dX0_readNumber_92 hwp rfl rfl hP hD hS
                  · have hwp := hwp.2 hc
                    refine lv_iload_n hx hb dX0_readNumber_77 rfl (lv_at hl 3 rfl) ?_
                    refine lv_bipush (v := 10) hx hb dX0_readNumber_78 (by decide) ?_
                    refine lv_imul hx hb dX0_readNumber_80 ?_
                    refine lv_iload_n hx hb dX0_readNumber_81 rfl (lv_at hl 0 rfl) ?_
                    refine lv_iadd hx hb dX0_readNumber_82 ?_
                    refine va_getsN hx hb hZ_MOST hS hown (gX_use hX 16 rfl) (fun _ h9 => h9) dX0_readNumber_83 ?_
                    refine lv_iload_n hx hb dX0_readNumber_86 rfl (lv_at hl 2 rfl) ?_
                    have hn_6 := hwp.1
                    have hwp := hwp.2
                    refine va_ti (v := .int (gMOST (x1).toNatClampNeg)) hx hb hT_MOST hS hn_6 rfl dX0_readNumber_87 ?_
                    refine lv_icmp_le (tgt := 93) hx hb dX0_readNumber_88 (by decide) (fun hc => ?_) (fun hc => ?_)
                    · have hwp := hwp.1 hc
                      refine lv_iload_n hx hb dX0_readNumber_93 rfl (lv_at hl 3 rfl) ?_
                      refine lv_bipush (v := 10) hx hb dX0_readNumber_94 (by decide) ?_
                      refine lv_imul hx hb dX0_readNumber_96 ?_
                      refine lv_iload_n hx hb dX0_readNumber_97 rfl (lv_at hl 0 rfl) ?_
                      refine lv_iadd hx hb dX0_readNumber_98 ?_
                      refine lv_istore_n (lv' := [(2, .int ((x2_51 * (10 : Int32)) + r_4)), (3, .int r_4), (0, .ref a_this), (1, .int x1)]) hx hb dX0_readNumber_99 rfl hl (by decide) rfl (fun ls hl => ?_)
                      refine lv_aload_n hx hb dX0_readNumber_100 rfl (lv_at hl 2 rfl) ?_
                      refine lv_dup hx hb dX0_readNumber_101 rfl ?_
                      refine va_get (D := D) (ci := 0) (v := .int v_position_51) (C := RX0) (T := TX0) (N := 5) hx hb hts mc_X0_readNumber_0 hown hK hP 0 rfl rfl 3 (by decide) (hts _ ml_X0_readNumber_2) (fun _ h9 => h9) rfl dX0_readNumber_102 ?_
                      refine lv_iconst (v := 1) hx hb dX0_readNumber_105 (by decide) ?_
                      refine lv_iadd hx hb dX0_readNumber_106 ?_
                      refine va_put (D := D) (ci := 0) (v := .int (v_position_51 + (1 : Int32))) (ty := .int) (C := RX0) (T := TX0) (N := 5) hx hb hts mc_X0_readNumber_0 tyX0 tyX0_ok nmX0 hown hK hP hD hS 0 rfl rfl 3 (by decide) (hts _ ml_X0_readNumber_2) (fun _ h9 => h9) rfl (by decide +kernel) rfl rfl (Nat.le_of_ble_eq_true rfl) dX0_readNumber_107 (fun H locs hP hD hS => ?_)
                      have hP : va_P D vwCl [(a_this, .inr (0, [.ref a_signs, .ref a_cards, .int v_length, .int (v_position_51 + (1 : Int32)), .int v_faulty])), (a_signs, .inl (cC, 60, .inl v_signs))] H := hP
                      have hD : va_D A [(a_this, .inr (0, [.ref a_signs, .ref a_cards, .int v_length, .int (v_position_51 + (1 : Int32)), .int v_faulty])), (a_signs, .inl (cC, 60, .inl v_signs))] := hD
                      refine lv_goto (tgt := 51) hx hb dX0_readNumber_110 (by decide) ?_
                      have hl : lv_has ls 4 [(0, .ref a_this), (1, .int x1), (2, .int ((x2_51 * (10 : Int32)) + r_4))] := lv_sub hl [2, 3, 0] rfl
                      exact ih51 ((x2_51 * (10 : Int32)) + r_4) (v_position_51 + (1 : Int32)) (Nat.lt_of_lt_of_le hwp.2 (Nat.le_of_lt_succ hμ51)) hwp.1 _ _ hP hD hS ls hl
                    · have hwp := hwp.2 hc
                      refine lv_iload_n hx hb dX0_readNumber_91 rfl (lv_at hl 3 rfl) ?_
                      exact hret (v_position_51, v_faulty) [0, 1] dX0_readNumber_92 hwp rfl rfl hP hD hS
          exact hL51 _ r_1 (v_position + (1 : Int32)) (Nat.lt_succ_self _) hJ _ _ hP hD hS ls hl
        · have hwp := hwp.2 hc
          refine lv_aload_n hx hb dX0_readNumber_33 rfl (lv_at hl 1 rfl) ?_
          refine lv_iconst (v := 1) hx hb dX0_readNumber_34 (by decide) ?_
          refine va_put (D := D) (ci := 0) (v := .int (1 : Int32)) (ty := .boolean) (C := RX0) (T := TX0) (N := 5) hx hb hts mc_X0_readNumber_0 tyX0 tyX0_ok nmX0 hown hK hP hD hS 0 rfl rfl 4 (by decide) (hts _ ml_X0_readNumber_1) (fun _ h9 => h9) rfl (by decide +kernel) rfl rfl (Nat.le_of_ble_eq_true rfl) dX0_readNumber_35 (fun H locs hP hD hS => ?_)
          have hP : va_P D vwCl [(a_this, .inr (0, [.ref a_signs, .ref a_cards, .int v_length, .int v_position, .int (1 : Int32)])), (a_signs, .inl (cC, 60, .inl v_signs))] H := hP
          have hD : va_D A [(a_this, .inr (0, [.ref a_signs, .ref a_cards, .int v_length, .int v_position, .int (1 : Int32)])), (a_signs, .inl (cC, 60, .inl v_signs))] := hD
          refine lv_bipush (v := -5) hx hb dX0_readNumber_38 (by decide) ?_
          exact hret (v_position, (1 : Int32)) [0, 1] dX0_readNumber_40 hwp rfl rfl hP hD hS
      · have hwp := hwp.2 hc
        refine lv_bipush (v := -5) hx hb dX0_readNumber_16 (by decide) ?_
        exact hret (v_position, v_faulty) [0, 1] dX0_readNumber_18 hwp rfl rfl hP hD hS
theorem mc_X0_readSign_0 : ∀ w ∈ u_ws RX0 TX0 5, w ∈ wsX0_readSign := fun w h => List.mem_cons_of_mem _ (List.mem_append_right _ h)
theorem ml_X0_readSign_1 : (.fieldLink RX0 32 "StoryWall$CardText" "faulty" "Z" : Cond) ∈ wsX0_readSign := List.mem_of_getElem? (i := 1) rfl
theorem ml_X0_readSign_2 : (.fieldLink RX0 29 "StoryWall$CardText" "position" "I" : Cond) ∈ wsX0_readSign := List.mem_of_getElem? (i := 2) rfl
abbrev rm_X0_readSign : Room := { frames := 2, cells := 0, slots := 0, locals := 41 }
set_option maxHeartbeats 4000000 in
set_option maxRecDepth 100000 in
theorem c_X0_readSign (l : Launch) (D : va_G) (cI cC cF cO : ClassId) (a_this a_signs a_cards : Nat)  (sz : Nat) (x1 : Int32) (v_length : Int32) (v_position : Int32) (v_faulty : Int32) (v_signs : Nat → Int32) (post : Int32 → Int32 → Prop) (hwp : wp_X0_readSign x1 v_length v_position v_faulty v_signs post) : Met l yX0_readSign wsX0_readSign rm_X0_readSign (gPre D (gT cI cC cF cO) [.ref a_this, .int x1] [(a_this, .inr (0, [.ref a_signs, .ref a_cards, .int v_length, .int v_position, .int v_faulty])), (a_signs, .inl (cC, 60, .inl v_signs))] sz) (va_Qv (S := Int32 × Int32) (fun (u : Int32 × Int32) => post u.1 u.2) (gB D (gT cI cC cF cO) (fun (u : Int32 × Int32) => [(a_this, .inr (0, [.ref a_signs, .ref a_cards, .int v_length, .int u.1, .int u.2])), (a_signs, .inl (cC, 60, .inl v_signs))]) [(a_this, .inr (0, [.ref a_signs, .ref a_cards, .int v_length, .int v_position, .int v_faulty])), (a_signs, .inl (cC, 60, .inl v_signs))] sz) (va_A [(a_this, .inr (0, [.ref a_signs, .ref a_cards, .int v_length, .int v_position, .int v_faulty])), (a_signs, .inl (cC, 60, .inl v_signs))] sz)) 0 0 (va_A [(a_this, .inr (0, [.ref a_signs, .ref a_cards, .int v_length, .int v_position, .int v_faulty])), (a_signs, .inl (cC, 60, .inl v_signs))] sz) := by
  refine gOfv (own := RX0) (cc := cX0_readSign) (maxL := 2) (ret := none) rfl (by decide) rfl (Nat.le_of_ble_eq_true rfl) rfl ?_
  intro p e s m below meth c A args Q hAe hx hb hr hts hown hml hlocks hname hA hK hX hT hP hD hS hret ls hl
  have hl : lv_has ls 2 [(0, .ref a_this), (1, .int x1)] := hl
  unfold wp_X0_readSign at hwp
  refine lv_aload_n hx hb dX0_readSign_0 rfl (lv_at hl 0 rfl) ?_
  refine va_get (D := D) (ci := 0) (v := .int v_faulty) (C := RX0) (T := TX0) (N := 5) hx hb hts mc_X0_readSign_0 hown hK hP 0 rfl rfl 4 (by decide) (hts _ ml_X0_readSign_1) (fun _ h9 => h9) rfl dX0_readSign_1 ?_
  refine lv_if_eq (tgt := 8) hx hb dX0_readSign_4 (by decide) (fun hc => ?_) (fun hc => ?_)
  · have hwp := hwp.1 hc
    refine lv_aload_n hx hb dX0_readSign_8 rfl (lv_at hl 0 rfl) ?_
    refine lv_iload_n hx hb dX0_readSign_9 rfl (lv_at hl 1 rfl) ?_
    refine gBacki (D := D) (tys := gT cI cC cF cO) (A := A) (wr := []) (w1 := (fun u_2 : Unit => [(a_this, .inr (0, [.ref a_signs, .ref a_cards, .int v_length, .int v_position, .int v_faulty])), (a_signs, .inl (cC, 60, .inl v_signs))])) (va_runV (As := [.int x1]) (rest := []) ⟨hx, hb, hml, hown, hts⟩ (c_X0_isAhead l D cI cC cF cO a_this a_signs a_cards v_faulty _ _ _ _ _ _ hwp) (cwV 1 hts gX0_readSign_X0_isAhead rfl rfl rfl (by decide +kernel) ⟨Nat.le_of_ble_eq_true rfl, Nat.le_of_ble_eq_true rfl⟩) (gPreV (C := RX0) (T := TX0) (N := 5) (ci := 0) hK hX hT hP hD hS hA [0, 1] rfl rfl rfl (qb := 0) rfl) rfl rfl hl.1 rfl (lv_room (Nat.le_of_ble_eq_true rfl)) dX0_readSign_10 ⟨Nat.le_of_ble_eq_true rfl, Nat.le_of_ble_eq_true rfl⟩) hP hD hS hA [0, 1] [] rfl rfl rfl (by decide) (fun r_1 u_2 H locs hwp hP hD hS => ?_)
    have hP : va_P D vwCl [(a_this, .inr (0, [.ref a_signs, .ref a_cards, .int v_length, .int v_position, .int v_faulty])), (a_signs, .inl (cC, 60, .inl v_signs))] H := hP
    have hD : va_D A [(a_this, .inr (0, [.ref a_signs, .ref a_cards, .int v_length, .int v_position, .int v_faulty])), (a_signs, .inl (cC, 60, .inl v_signs))] := hD
    refine lv_if_eq (tgt := 29) hx hb dX0_readSign_13 (by decide) (fun hc => ?_) (fun hc => ?_)
    · have hwp := hwp.1 hc
      refine lv_aload_n hx hb dX0_readSign_29 rfl (lv_at hl 0 rfl) ?_
      refine lv_iconst (v := 1) hx hb dX0_readSign_30 (by decide) ?_
      refine va_put (D := D) (ci := 0) (v := .int (1 : Int32)) (ty := .boolean) (C := RX0) (T := TX0) (N := 5) hx hb hts mc_X0_readSign_0 tyX0 tyX0_ok nmX0 hown hK hP hD hS 0 rfl rfl 4 (by decide) (hts _ ml_X0_readSign_1) (fun _ h9 => h9) rfl (by decide +kernel) rfl rfl (Nat.le_of_ble_eq_true rfl) dX0_readSign_31 (fun H locs hP hD hS => ?_)
      have hP : va_P D vwCl [(a_this, .inr (0, [.ref a_signs, .ref a_cards, .int v_length, .int v_position, .int (1 : Int32)])), (a_signs, .inl (cC, 60, .inl v_signs))] H := hP
      have hD : va_D A [(a_this, .inr (0, [.ref a_signs, .ref a_cards, .int v_length, .int v_position, .int (1 : Int32)])), (a_signs, .inl (cC, 60, .inl v_signs))] := hD
      exact hret (v_position, (1 : Int32)) [0, 1] dX0_readSign_34 hwp rfl rfl hP hD hS
    · have hwp := hwp.2 hc
      refine lv_aload_n hx hb dX0_readSign_16 rfl (lv_at hl 0 rfl) ?_
      refine lv_dup hx hb dX0_readSign_17 rfl ?_
      refine va_get (D := D) (ci := 0) (v := .int v_position) (C := RX0) (T := TX0) (N := 5) hx hb hts mc_X0_readSign_0 hown hK hP 0 rfl rfl 3 (by decide) (hts _ ml_X0_readSign_2) (fun _ h9 => h9) rfl dX0_readSign_18 ?_
      refine lv_iconst (v := 1) hx hb dX0_readSign_21 (by decide) ?_
      refine lv_iadd hx hb dX0_readSign_22 ?_
      refine va_put (D := D) (ci := 0) (v := .int (v_position + (1 : Int32))) (ty := .int) (C := RX0) (T := TX0) (N := 5) hx hb hts mc_X0_readSign_0 tyX0 tyX0_ok nmX0 hown hK hP hD hS 0 rfl rfl 3 (by decide) (hts _ ml_X0_readSign_2) (fun _ h9 => h9) rfl (by decide +kernel) rfl rfl (Nat.le_of_ble_eq_true rfl) dX0_readSign_23 (fun H locs hP hD hS => ?_)
      have hP : va_P D vwCl [(a_this, .inr (0, [.ref a_signs, .ref a_cards, .int v_length, .int (v_position + (1 : Int32)), .int v_faulty])), (a_signs, .inl (cC, 60, .inl v_signs))] H := hP
      have hD : va_D A [(a_this, .inr (0, [.ref a_signs, .ref a_cards, .int v_length, .int (v_position + (1 : Int32)), .int v_faulty])), (a_signs, .inl (cC, 60, .inl v_signs))] := hD
      refine lv_goto (tgt := 34) hx hb dX0_readSign_26 (by decide) ?_
      exact hret ((v_position + (1 : Int32)), v_faulty) [0, 1] dX0_readSign_34 hwp rfl rfl hP hD hS
  · have hwp := hwp.2 hc
    exact hret (v_position, v_faulty) [0, 1] dX0_readSign_7 hwp rfl rfl hP hD hS
abbrev rm_X8_isThread : Room := { frames := 0, cells := 0, slots := 0, locals := 0 }
set_option maxHeartbeats 4000000 in
set_option maxRecDepth 100000 in
theorem c_X8_isThread (l : Launch) (D : va_G) (cI cC cF cO : ClassId)   (sz : Nat) (x0 : Int32)  (post : Int32 → Prop) (hwp : wp_X8_isThread x0 post) : Met l yX8_isThread wsX8_isThread rm_X8_isThread (gPre D (gT cI cC cF cO) [.int x0] [] sz) (va_Qi (S := Unit) (fun (r : Int32) (u : Unit) => post r ) (gB D (gT cI cC cF cO) (fun (u : Unit) => []) [] sz) (va_A [] sz)) 0 0 (va_A [] sz) := by
  refine gOfz (own := RX8) (cc := cX8_isThread) (maxL := 1) (ret := (some .boolean)) rfl (by decide) rfl (Nat.le_of_ble_eq_true rfl) rfl ?_
  intro p e s m below meth c A args Q hAe hx hb hr hts hown hml hlocks hname hA hK hX hT hP hD hS hret ls hl
  have hl : lv_has ls 1 [(0, .int x0)] := hl
  unfold wp_X8_isThread at hwp
  refine lv_iload_n hx hb dX8_isThread_0 rfl (lv_at hl 0 rfl) ?_
  refine lv_if_lt (tgt := 14) hx hb dX8_isThread_1 (by decide) (fun hc => ?_) (fun hc => ?_)
  · have hwp := hwp.1 hc
    refine lv_iconst (v := 0) hx hb dX8_isThread_14 (by decide) ?_
    exact hret () [] dX8_isThread_15 (Or.inl rfl) hwp rfl rfl hP hD hS
  · have hwp := hwp.2 hc
    refine lv_iload_n hx hb dX8_isThread_4 rfl (lv_at hl 0 rfl) ?_
    refine lv_bipush (v := 6) hx hb dX8_isThread_5 (by decide) ?_
    refine lv_icmp_ge (tgt := 14) hx hb dX8_isThread_7 (by decide) (fun hc => ?_) (fun hc => ?_)
    · have hwp := hwp.1 hc
      refine lv_iconst (v := 0) hx hb dX8_isThread_14 (by decide) ?_
      exact hret () [] dX8_isThread_15 (Or.inl rfl) hwp rfl rfl hP hD hS
    · have hwp := hwp.2 hc
      refine lv_iconst (v := 1) hx hb dX8_isThread_10 (by decide) ?_
      refine lv_goto (tgt := 15) hx hb dX8_isThread_11 (by decide) ?_
      exact hret () [] dX8_isThread_15 (Or.inr rfl) hwp rfl rfl hP hD hS
theorem mc_X0_readThread_0 : ∀ w ∈ u_ws RX0 TX0 5, w ∈ wsX0_readThread := fun w h => List.mem_cons_of_mem _ (List.mem_append_right _ h)
theorem ml_X0_readThread_1 : (.fieldLink RX0 32 "StoryWall$CardText" "faulty" "Z" : Cond) ∈ wsX0_readThread := List.mem_of_getElem? (i := 1) rfl
theorem ml_X0_readThread_2 : (.initialized RX8 : Cond) ∈ wsX0_readThread := List.mem_of_getElem? (i := 11) rfl
theorem ml_X0_readThread_3 : (.static yX8_isThread : Cond) ∈ wsX0_readThread := List.mem_of_getElem? (i := 10) rfl
theorem ml_X0_readThread_4 : (.fieldLink RX0 29 "StoryWall$CardText" "position" "I" : Cond) ∈ wsX0_readThread := List.mem_of_getElem? (i := 3) rfl
theorem ml_X0_readThread_5 : (.fieldLink RX0 9 "StoryWall$CardText" "signs" "[C" : Cond) ∈ wsX0_readThread := List.mem_of_getElem? (i := 2) rfl
abbrev rm_X0_readThread : Room := { frames := 1, cells := 0, slots := 0, locals := 20 }
set_option maxHeartbeats 4000000 in
set_option maxRecDepth 100000 in
theorem c_X0_readThread (l : Launch) (D : va_G) (cI cC cF cO : ClassId) (a_this a_signs a_cards : Nat)  (sz : Nat)  (v_length : Int32) (v_position : Int32) (v_faulty : Int32) (v_signs : Nat → Int32) (post : Int32 → Int32 → Int32 → Prop) (hwp : wp_X0_readThread v_length v_position v_faulty v_signs post) : Met l yX0_readThread wsX0_readThread rm_X0_readThread (gPre D (gT cI cC cF cO) [.ref a_this] [(a_this, .inr (0, [.ref a_signs, .ref a_cards, .int v_length, .int v_position, .int v_faulty])), (a_signs, .inl (cC, 60, .inl v_signs))] sz) (va_Qi (S := Int32 × Int32) (fun (r : Int32) (u : Int32 × Int32) => post r u.1 u.2) (gB D (gT cI cC cF cO) (fun (u : Int32 × Int32) => [(a_this, .inr (0, [.ref a_signs, .ref a_cards, .int v_length, .int u.1, .int u.2])), (a_signs, .inl (cC, 60, .inl v_signs))]) [(a_this, .inr (0, [.ref a_signs, .ref a_cards, .int v_length, .int v_position, .int v_faulty])), (a_signs, .inl (cC, 60, .inl v_signs))] sz) (va_A [(a_this, .inr (0, [.ref a_signs, .ref a_cards, .int v_length, .int v_position, .int v_faulty])), (a_signs, .inl (cC, 60, .inl v_signs))] sz)) 0 0 (va_A [(a_this, .inr (0, [.ref a_signs, .ref a_cards, .int v_length, .int v_position, .int v_faulty])), (a_signs, .inl (cC, 60, .inl v_signs))] sz) := by
  refine gOfi (own := RX0) (cc := cX0_readThread) (maxL := 2) (ret := (some .int)) rfl (by decide) rfl (Nat.le_of_ble_eq_true rfl) rfl ?_
  intro p e s m below meth c A args Q hAe hx hb hr hts hown hml hlocks hname hA hK hX hT hP hD hS hret ls hl
  have hl : lv_has ls 2 [(0, .ref a_this)] := hl
  unfold wp_X0_readThread at hwp
  have hj34 : ∀ (k0_34 : Int32) (v_position_34 : Int32) (v_faulty_34 : Int32) (H : Heap) (locs : List Loc), wp_X0_readThread_j34 k0_34 v_length v_position_34 v_faulty_34 v_signs  post → va_P D vwCl [(a_this, .inr (0, [.ref a_signs, .ref a_cards, .int v_length, .int v_position_34, .int v_faulty_34])), (a_signs, .inl (cC, 60, .inl v_signs))] H → va_D A [(a_this, .inr (0, [.ref a_signs, .ref a_cards, .int v_length, .int v_position_34, .int v_faulty_34])), (a_signs, .inl (cC, 60, .inl v_signs))] → va_S A s.heap H locs → ∀ ls : Array Slot, lv_has ls 2 [(0, .ref a_this)] → W p l e rm_X0_readThread s m args below meth c H locs 0 0 Q (F0 m 34 ls [.int k0_34]) := by
    intro k0_34 v_position_34 v_faulty_34 H locs hwp hP hD hS ls hl
    unfold wp_X0_readThread_j34 at hwp
    refine lv_istore_n (lv' := [(1, .int k0_34), (0, .ref a_this)]) hx hb dX0_readThread_34 rfl hl (by decide) rfl (fun ls hl => ?_)
    refine lv_iload_n hx hb dX0_readThread_35 rfl (lv_at hl 0 rfl) ?_
    refine gBacki (D := D) (tys := gT cI cC cF cO) (A := A) (wr := [(a_this, .inr (0, [.ref a_signs, .ref a_cards, .int v_length, .int v_position_34, .int v_faulty_34])), (a_signs, .inl (cC, 60, .inl v_signs))]) (w1 := (fun u_2 : Unit => [])) (va_runSN (host := "StoryWall") (As := [.int k0_34]) (rest := []) ⟨hx, hb, hml, hown, hts⟩ (c_X8_isThread l D cI cC cF cO  _ _ _ hwp) ⟨va_cnB 1 hts gX0_readThread_X8_isThread_n63 rfl rfl rfl (hX.1 _ (List.mem_of_getElem? (i := 14) rfl)) (hts _ ml_X0_readThread_2) (by decide +kernel) ⟨Nat.le_of_ble_eq_true rfl, Nat.le_of_ble_eq_true rfl⟩, (hts _ ml_X0_readThread_3), trivial⟩ (gPreS hK hX hT hP hD hS hA [] rfl rfl) rfl rfl hl.1 rfl (lv_room (Nat.le_of_ble_eq_true rfl)) dX0_readThread_36 ⟨Nat.le_of_ble_eq_true rfl, Nat.le_of_ble_eq_true rfl⟩) hP hD hS hA [] [0, 1] rfl rfl rfl (by decide) (fun r_1 u_2 H locs hwp hP hD hS => ?_)
    have hP : va_P D vwCl [(a_this, .inr (0, [.ref a_signs, .ref a_cards, .int v_length, .int v_position_34, .int v_faulty_34])), (a_signs, .inl (cC, 60, .inl v_signs))] H := hP
    have hD : va_D A [(a_this, .inr (0, [.ref a_signs, .ref a_cards, .int v_length, .int v_position_34, .int v_faulty_34])), (a_signs, .inl (cC, 60, .inl v_signs))] := hD
    refine lv_if_eq (tgt := 55) hx hb dX0_readThread_39 (by decide) (fun hc => ?_) (fun hc => ?_)
    · have hwp := hwp.1 hc
      refine lv_aload_n hx hb dX0_readThread_55 rfl (lv_at hl 1 rfl) ?_
      refine lv_iconst (v := 1) hx hb dX0_readThread_56 (by decide) ?_
      refine va_put (D := D) (ci := 0) (v := .int (1 : Int32)) (ty := .boolean) (C := RX0) (T := TX0) (N := 5) hx hb hts mc_X0_readThread_0 tyX0 tyX0_ok nmX0 hown hK hP hD hS 0 rfl rfl 4 (by decide) (hts _ ml_X0_readThread_1) (fun _ h9 => h9) rfl (by decide +kernel) rfl rfl (Nat.le_of_ble_eq_true rfl) dX0_readThread_57 (fun H locs hP hD hS => ?_)
      have hP : va_P D vwCl [(a_this, .inr (0, [.ref a_signs, .ref a_cards, .int v_length, .int v_position_34, .int (1 : Int32)])), (a_signs, .inl (cC, 60, .inl v_signs))] H := hP
      have hD : va_D A [(a_this, .inr (0, [.ref a_signs, .ref a_cards, .int v_length, .int v_position_34, .int (1 : Int32)])), (a_signs, .inl (cC, 60, .inl v_signs))] := hD
      refine lv_iload_n hx hb dX0_readThread_60 rfl (lv_at hl 0 rfl) ?_
      exact hret (v_position_34, (1 : Int32)) [0, 1] dX0_readThread_61 hwp rfl rfl hP hD hS
    · have hwp := hwp.2 hc
      refine lv_aload_n hx hb dX0_readThread_42 rfl (lv_at hl 1 rfl) ?_
      refine lv_dup hx hb dX0_readThread_43 rfl ?_
      refine va_get (D := D) (ci := 0) (v := .int v_position_34) (C := RX0) (T := TX0) (N := 5) hx hb hts mc_X0_readThread_0 hown hK hP 0 rfl rfl 3 (by decide) (hts _ ml_X0_readThread_4) (fun _ h9 => h9) rfl dX0_readThread_44 ?_
      refine lv_iconst (v := 1) hx hb dX0_readThread_47 (by decide) ?_
      refine lv_iadd hx hb dX0_readThread_48 ?_
      refine va_put (D := D) (ci := 0) (v := .int (v_position_34 + (1 : Int32))) (ty := .int) (C := RX0) (T := TX0) (N := 5) hx hb hts mc_X0_readThread_0 tyX0 tyX0_ok nmX0 hown hK hP hD hS 0 rfl rfl 3 (by decide) (hts _ ml_X0_readThread_4) (fun _ h9 => h9) rfl (by decide +kernel) rfl rfl (Nat.le_of_ble_eq_true rfl) dX0_readThread_49 (fun H locs hP hD hS => ?_)
      have hP : va_P D vwCl [(a_this, .inr (0, [.ref a_signs, .ref a_cards, .int v_length, .int (v_position_34 + (1 : Int32)), .int v_faulty_34])), (a_signs, .inl (cC, 60, .inl v_signs))] H := hP
      have hD : va_D A [(a_this, .inr (0, [.ref a_signs, .ref a_cards, .int v_length, .int (v_position_34 + (1 : Int32)), .int v_faulty_34])), (a_signs, .inl (cC, 60, .inl v_signs))] := hD
      refine lv_goto (tgt := 60) hx hb dX0_readThread_52 (by decide) ?_
      refine lv_iload_n hx hb dX0_readThread_60 rfl (lv_at hl 0 rfl) ?_
      exact hret ((v_position_34 + (1 : Int32)), v_faulty_34) [0, 1] dX0_readThread_61 hwp rfl rfl hP hD hS
  refine lv_aload_n hx hb dX0_readThread_0 rfl (lv_at hl 0 rfl) ?_
  refine va_get (D := D) (ci := 0) (v := .int v_faulty) (C := RX0) (T := TX0) (N := 5) hx hb hts mc_X0_readThread_0 hown hK hP 0 rfl rfl 4 (by decide) (hts _ ml_X0_readThread_1) (fun _ h9 => h9) rfl dX0_readThread_1 ?_
  refine lv_if_eq (tgt := 10) hx hb dX0_readThread_4 (by decide) (fun hc => ?_) (fun hc => ?_)
  · have hwp := hwp.1 hc
    refine lv_aload_n hx hb dX0_readThread_10 rfl (lv_at hl 0 rfl) ?_
    refine gBacki (D := D) (tys := gT cI cC cF cO) (A := A) (wr := []) (w1 := (fun u_4 : Unit => [(a_this, .inr (0, [.ref a_signs, .ref a_cards, .int v_length, .int v_position, .int v_faulty])), (a_signs, .inl (cC, 60, .inl v_signs))])) (va_runV (As := []) (rest := []) ⟨hx, hb, hml, hown, hts⟩ (c_X0_hasAhead l D cI cC cF cO a_this a_signs a_cards v_faulty v_signs _ _ _ _ hwp) (cwV 0 hts gX0_readThread_X0_hasAhead rfl rfl rfl (by decide +kernel) ⟨Nat.le_of_ble_eq_true rfl, Nat.le_of_ble_eq_true rfl⟩) (gPreV (C := RX0) (T := TX0) (N := 5) (ci := 0) hK hX hT hP hD hS hA [0, 1] rfl rfl rfl (qb := 0) rfl) rfl rfl hl.1 rfl (lv_room (Nat.le_of_ble_eq_true rfl)) dX0_readThread_11 ⟨Nat.le_of_ble_eq_true rfl, Nat.le_of_ble_eq_true rfl⟩) hP hD hS hA [0, 1] [] rfl rfl rfl (by decide) (fun r_3 u_4 H locs hwp hP hD hS => ?_)
    have hP : va_P D vwCl [(a_this, .inr (0, [.ref a_signs, .ref a_cards, .int v_length, .int v_position, .int v_faulty])), (a_signs, .inl (cC, 60, .inl v_signs))] H := hP
    have hD : va_D A [(a_this, .inr (0, [.ref a_signs, .ref a_cards, .int v_length, .int v_position, .int v_faulty])), (a_signs, .inl (cC, 60, .inl v_signs))] := hD
    refine lv_if_eq (tgt := 32) hx hb dX0_readThread_14 (by decide) (fun hc => ?_) (fun hc => ?_)
    · have hwp := hwp.1 hc
      refine lv_bipush (v := -5) hx hb dX0_readThread_32 (by decide) ?_
      have hl : lv_has ls 2 [(0, .ref a_this)] := lv_sub hl [0] rfl
      exact hj34 (-5 : Int32) v_position v_faulty _ _ hwp hP hD hS ls hl
    · have hwp := hwp.2 hc
      refine lv_aload_n hx hb dX0_readThread_17 rfl (lv_at hl 0 rfl) ?_
      refine va_get (D := D) (ci := 0) (v := .ref a_signs) (C := RX0) (T := TX0) (N := 5) hx hb hts mc_X0_readThread_0 hown hK hP 0 rfl rfl 0 (by decide) (hts _ ml_X0_readThread_5) (fun _ h9 => h9) rfl dX0_readThread_18 ?_
      refine lv_aload_n hx hb dX0_readThread_21 rfl (lv_at hl 0 rfl) ?_
      refine va_get (D := D) (ci := 0) (v := .int v_position) (C := RX0) (T := TX0) (N := 5) hx hb hts mc_X0_readThread_0 hown hK hP 0 rfl rfl 3 (by decide) (hts _ ml_X0_readThread_4) (fun _ h9 => h9) rfl dX0_readThread_22 ?_
      have hn_5 := hwp.1
      have hwp := hwp.2
      refine va_cald (D := D) hx hb hK hP 1 1 rfl rfl hn_5 dX0_readThread_25 ?_
      refine lv_bipush (v := 65) hx hb dX0_readThread_26 (by decide) ?_
      refine lv_isub hx hb dX0_readThread_28 ?_
      refine lv_goto (tgt := 34) hx hb dX0_readThread_29 (by decide) ?_
      have hl : lv_has ls 2 [(0, .ref a_this)] := lv_sub hl [0] rfl
      exact hj34 ((v_signs (v_position).toNatClampNeg) - (65 : Int32)) v_position v_faulty _ _ hwp hP hD hS ls hl
  · have hwp := hwp.2 hc
    refine lv_bipush (v := -5) hx hb dX0_readThread_7 (by decide) ?_
    exact hret (v_position, v_faulty) [0, 1] dX0_readThread_9 hwp rfl rfl hP hD hS
theorem mc_X1_hasRoomFor_1 : ∀ w ∈ u_ws RX1 TX1 2, w ∈ wsX1_hasRoomFor := fun w h => List.mem_cons_of_mem _ (List.mem_append_right _ h)
theorem ml_X1_hasRoomFor_1 : (.fieldLink RX1 15 "StoryWall$Cards" "size" "I" : Cond) ∈ wsX1_hasRoomFor := List.mem_of_getElem? (i := 1) rfl
abbrev rm_X1_hasRoomFor : Room := { frames := 0, cells := 0, slots := 0, locals := 0 }
set_option maxHeartbeats 4000000 in
set_option maxRecDepth 100000 in
theorem c_X1_hasRoomFor (l : Launch) (D : va_G) (cI cC cF cO : ClassId) (a_this a_numbers : Nat)  (sz : Nat) (x1 : Int32) (v_size : Int32) (post : Int32 → Prop) (hwp : wp_X1_hasRoomFor x1 v_size post) : Met l yX1_hasRoomFor wsX1_hasRoomFor rm_X1_hasRoomFor (gPre D (gT cI cC cF cO) [.ref a_this, .int x1] [(a_this, .inr (1, [.ref a_numbers, .int v_size]))] sz) (va_Qi (S := Unit) (fun (r : Int32) (u : Unit) => post r ) (gB D (gT cI cC cF cO) (fun (u : Unit) => [(a_this, .inr (1, [.ref a_numbers, .int v_size]))]) [(a_this, .inr (1, [.ref a_numbers, .int v_size]))] sz) (va_A [(a_this, .inr (1, [.ref a_numbers, .int v_size]))] sz)) 0 0 (va_A [(a_this, .inr (1, [.ref a_numbers, .int v_size]))] sz) := by
  refine gOfz (own := RX1) (cc := cX1_hasRoomFor) (maxL := 2) (ret := (some .boolean)) rfl (by decide) rfl (Nat.le_of_ble_eq_true rfl) rfl ?_
  intro p e s m below meth c A args Q hAe hx hb hr hts hown hml hlocks hname hA hK hX hT hP hD hS hret ls hl
  have hl : lv_has ls 2 [(0, .ref a_this), (1, .int x1)] := hl
  unfold wp_X1_hasRoomFor at hwp
  refine lv_iload_n hx hb dX1_hasRoomFor_0 rfl (lv_at hl 1 rfl) ?_
  refine lv_bipush (v := 40) hx hb dX1_hasRoomFor_1 (by decide) ?_
  refine lv_aload_n hx hb dX1_hasRoomFor_3 rfl (lv_at hl 0 rfl) ?_
  refine va_get (D := D) (ci := 1) (v := .int v_size) (C := RX1) (T := TX1) (N := 2) hx hb hts mc_X1_hasRoomFor_1 hown hK hP 0 rfl rfl 1 (by decide) (hts _ ml_X1_hasRoomFor_1) (fun _ h9 => h9) rfl dX1_hasRoomFor_4 ?_
  refine lv_isub hx hb dX1_hasRoomFor_7 ?_
  refine lv_icmp_gt (tgt := 15) hx hb dX1_hasRoomFor_8 (by decide) (fun hc => ?_) (fun hc => ?_)
  · have hwp := hwp.1 hc
    refine lv_iconst (v := 0) hx hb dX1_hasRoomFor_15 (by decide) ?_
    exact hret () [0] dX1_hasRoomFor_16 (Or.inl rfl) hwp rfl rfl hP hD hS
  · have hwp := hwp.2 hc
    refine lv_iconst (v := 1) hx hb dX1_hasRoomFor_11 (by decide) ?_
    refine lv_goto (tgt := 16) hx hb dX1_hasRoomFor_12 (by decide) ?_
    exact hret () [0] dX1_hasRoomFor_16 (Or.inr rfl) hwp rfl rfl hP hD hS
theorem mc_X1_isNumber_1 : ∀ w ∈ u_ws RX1 TX1 2, w ∈ wsX1_isNumber := fun w h => List.mem_cons_of_mem _ (List.mem_append_right _ h)
theorem ml_X1_isNumber_1 : (.fieldLink RX1 15 "StoryWall$Cards" "size" "I" : Cond) ∈ wsX1_isNumber := List.mem_of_getElem? (i := 1) rfl
abbrev rm_X1_isNumber : Room := { frames := 0, cells := 0, slots := 0, locals := 0 }
set_option maxHeartbeats 4000000 in
set_option maxRecDepth 100000 in
theorem c_X1_isNumber (l : Launch) (D : va_G) (cI cC cF cO : ClassId) (a_this a_numbers : Nat)  (sz : Nat) (x1 : Int32) (x2 : Int32) (v_size : Int32) (post : Int32 → Prop) (hwp : wp_X1_isNumber x1 x2 v_size post) : Met l yX1_isNumber wsX1_isNumber rm_X1_isNumber (gPre D (gT cI cC cF cO) [.ref a_this, .int x1, .int x2] [(a_this, .inr (1, [.ref a_numbers, .int v_size]))] sz) (va_Qi (S := Unit) (fun (r : Int32) (u : Unit) => post r ) (gB D (gT cI cC cF cO) (fun (u : Unit) => [(a_this, .inr (1, [.ref a_numbers, .int v_size]))]) [(a_this, .inr (1, [.ref a_numbers, .int v_size]))] sz) (va_A [(a_this, .inr (1, [.ref a_numbers, .int v_size]))] sz)) 0 0 (va_A [(a_this, .inr (1, [.ref a_numbers, .int v_size]))] sz) := by
  refine gOfz (own := RX1) (cc := cX1_isNumber) (maxL := 3) (ret := (some .boolean)) rfl (by decide) rfl (Nat.le_of_ble_eq_true rfl) rfl ?_
  intro p e s m below meth c A args Q hAe hx hb hr hts hown hml hlocks hname hA hK hX hT hP hD hS hret ls hl
  have hl : lv_has ls 3 [(0, .ref a_this), (1, .int x1), (2, .int x2)] := hl
  unfold wp_X1_isNumber at hwp
  refine lv_iload_n hx hb dX1_isNumber_0 rfl (lv_at hl 1 rfl) ?_
  refine lv_if_lt (tgt := 31) hx hb dX1_isNumber_1 (by decide) (fun hc => ?_) (fun hc => ?_)
  · have hwp := hwp.1 hc
    refine lv_iconst (v := 0) hx hb dX1_isNumber_31 (by decide) ?_
    exact hret () [0] dX1_isNumber_32 (Or.inl rfl) hwp rfl rfl hP hD hS
  · have hwp := hwp.2 hc
    refine lv_iload_n hx hb dX1_isNumber_4 rfl (lv_at hl 1 rfl) ?_
    refine lv_aload_n hx hb dX1_isNumber_5 rfl (lv_at hl 0 rfl) ?_
    refine va_get (D := D) (ci := 1) (v := .int v_size) (C := RX1) (T := TX1) (N := 2) hx hb hts mc_X1_isNumber_1 hown hK hP 0 rfl rfl 1 (by decide) (hts _ ml_X1_isNumber_1) (fun _ h9 => h9) rfl dX1_isNumber_6 ?_
    refine lv_icmp_ge (tgt := 31) hx hb dX1_isNumber_9 (by decide) (fun hc => ?_) (fun hc => ?_)
    · have hwp := hwp.1 hc
      refine lv_iconst (v := 0) hx hb dX1_isNumber_31 (by decide) ?_
      exact hret () [0] dX1_isNumber_32 (Or.inl rfl) hwp rfl rfl hP hD hS
    · have hwp := hwp.2 hc
      refine lv_iload_n hx hb dX1_isNumber_12 rfl (lv_at hl 1 rfl) ?_
      refine lv_bipush (v := 40) hx hb dX1_isNumber_13 (by decide) ?_
      refine lv_icmp_ge (tgt := 31) hx hb dX1_isNumber_15 (by decide) (fun hc => ?_) (fun hc => ?_)
      · have hwp := hwp.1 hc
        refine lv_iconst (v := 0) hx hb dX1_isNumber_31 (by decide) ?_
        exact hret () [0] dX1_isNumber_32 (Or.inl rfl) hwp rfl rfl hP hD hS
      · have hwp := hwp.2 hc
        refine lv_iload_n hx hb dX1_isNumber_18 rfl (lv_at hl 2 rfl) ?_
        refine lv_if_lt (tgt := 31) hx hb dX1_isNumber_19 (by decide) (fun hc => ?_) (fun hc => ?_)
        · have hwp := hwp.1 hc
          refine lv_iconst (v := 0) hx hb dX1_isNumber_31 (by decide) ?_
          exact hret () [0] dX1_isNumber_32 (Or.inl rfl) hwp rfl rfl hP hD hS
        · have hwp := hwp.2 hc
          refine lv_iload_n hx hb dX1_isNumber_22 rfl (lv_at hl 2 rfl) ?_
          refine lv_iconst (v := 5) hx hb dX1_isNumber_23 (by decide) ?_
          refine lv_icmp_ge (tgt := 31) hx hb dX1_isNumber_24 (by decide) (fun hc => ?_) (fun hc => ?_)
          · have hwp := hwp.1 hc
            refine lv_iconst (v := 0) hx hb dX1_isNumber_31 (by decide) ?_
            exact hret () [0] dX1_isNumber_32 (Or.inl rfl) hwp rfl rfl hP hD hS
          · have hwp := hwp.2 hc
            refine lv_iconst (v := 1) hx hb dX1_isNumber_27 (by decide) ?_
            refine lv_goto (tgt := 32) hx hb dX1_isNumber_28 (by decide) ?_
            exact hret () [0] dX1_isNumber_32 (Or.inr rfl) hwp rfl rfl hP hD hS
theorem mc_X1_put_1 : ∀ w ∈ u_ws RX1 TX1 2, w ∈ wsX1_put := fun w h => List.mem_cons_of_mem _ (List.mem_append_right _ h)
theorem ml_X1_put_1 : (.fieldLink RX1 9 "StoryWall$Cards" "numbers" "[I" : Cond) ∈ wsX1_put := List.mem_of_getElem? (i := 1) rfl
abbrev rm_X1_put : Room := { frames := 1, cells := 0, slots := 0, locals := 22 }
set_option maxHeartbeats 4000000 in
set_option maxRecDepth 100000 in
theorem c_X1_put (l : Launch) (D : va_G) (cI cC cF cO : ClassId) (a_this a_numbers : Nat)  (sz : Nat) (x1 : Int32) (x2 : Int32) (x3 : Int32) (v_size : Int32) (v_numbers : Nat → Int32) (post : (Nat → Int32) → Prop) (hwp : wp_X1_put x1 x2 x3 v_size v_numbers post) : Met l yX1_put wsX1_put rm_X1_put (gPre D (gT cI cC cF cO) [.ref a_this, .int x1, .int x2, .int x3] [(a_this, .inr (1, [.ref a_numbers, .int v_size])), (a_numbers, .inl (cI, 200, .inl v_numbers))] sz) (va_Qv (S := (Nat → Int32)) (fun (u : (Nat → Int32)) => post u) (gB D (gT cI cC cF cO) (fun (u : (Nat → Int32)) => [(a_this, .inr (1, [.ref a_numbers, .int v_size])), (a_numbers, .inl (cI, 200, .inl u))]) [(a_this, .inr (1, [.ref a_numbers, .int v_size])), (a_numbers, .inl (cI, 200, .inl v_numbers))] sz) (va_A [(a_this, .inr (1, [.ref a_numbers, .int v_size])), (a_numbers, .inl (cI, 200, .inl v_numbers))] sz)) 0 0 (va_A [(a_this, .inr (1, [.ref a_numbers, .int v_size])), (a_numbers, .inl (cI, 200, .inl v_numbers))] sz) := by
  refine gOfv (own := RX1) (cc := cX1_put) (maxL := 4) (ret := none) rfl (by decide) rfl (Nat.le_of_ble_eq_true rfl) rfl ?_
  intro p e s m below meth c A args Q hAe hx hb hr hts hown hml hlocks hname hA hK hX hT hP hD hS hret ls hl
  have hl : lv_has ls 4 [(0, .ref a_this), (1, .int x1), (2, .int x2), (3, .int x3)] := hl
  unfold wp_X1_put at hwp
  refine lv_aload_n hx hb dX1_put_0 rfl (lv_at hl 0 rfl) ?_
  refine lv_iload_n hx hb dX1_put_1 rfl (lv_at hl 1 rfl) ?_
  refine lv_iload_n hx hb dX1_put_2 rfl (lv_at hl 2 rfl) ?_
  refine gBacki (D := D) (tys := gT cI cC cF cO) (A := A) (wr := [(a_numbers, .inl (cI, 200, .inl v_numbers))]) (w1 := (fun u_2 : Unit => [(a_this, .inr (1, [.ref a_numbers, .int v_size]))])) (va_runV (As := [.int x1, .int x2]) (rest := []) ⟨hx, hb, hml, hown, hts⟩ (c_X1_isNumber l D cI cC cF cO a_this a_numbers _ _ _ _ _ hwp) (cwV 2 hts gX1_put_X1_isNumber rfl rfl rfl (by decide +kernel) ⟨Nat.le_of_ble_eq_true rfl, Nat.le_of_ble_eq_true rfl⟩) (gPreV (C := RX1) (T := TX1) (N := 2) (ci := 1) hK hX hT hP hD hS hA [0] rfl rfl rfl (qb := 0) rfl) rfl rfl hl.1 rfl (lv_room (Nat.le_of_ble_eq_true rfl)) dX1_put_3 ⟨Nat.le_of_ble_eq_true rfl, Nat.le_of_ble_eq_true rfl⟩) hP hD hS hA [0] [1] rfl rfl rfl (by decide) (fun r_1 u_2 H locs hwp hP hD hS => ?_)
  have hP : va_P D vwCl [(a_numbers, .inl (cI, 200, .inl v_numbers)), (a_this, .inr (1, [.ref a_numbers, .int v_size]))] H := hP
  have hD : va_D A [(a_numbers, .inl (cI, 200, .inl v_numbers)), (a_this, .inr (1, [.ref a_numbers, .int v_size]))] := hD
  refine lv_if_eq (tgt := 20) hx hb dX1_put_6 (by decide) (fun hc => ?_) (fun hc => ?_)
  · have hwp := hwp.1 hc
    exact hret v_numbers [1, 0] dX1_put_20 hwp rfl rfl hP hD hS
  · have hwp := hwp.2 hc
    refine lv_aload_n hx hb dX1_put_9 rfl (lv_at hl 0 rfl) ?_
    refine va_get (D := D) (ci := 1) (v := .ref a_numbers) (C := RX1) (T := TX1) (N := 2) hx hb hts mc_X1_put_1 hown hK hP 1 rfl rfl 0 (by decide) (hts _ ml_X1_put_1) (fun _ h9 => h9) rfl dX1_put_10 ?_
    refine lv_iload_n hx hb dX1_put_13 rfl (lv_at hl 1 rfl) ?_
    refine lv_iconst (v := 5) hx hb dX1_put_14 (by decide) ?_
    refine lv_imul hx hb dX1_put_15 ?_
    refine lv_iload_n hx hb dX1_put_16 rfl (lv_at hl 2 rfl) ?_
    refine lv_iadd hx hb dX1_put_17 ?_
    refine lv_iload_n hx hb dX1_put_18 rfl (lv_at hl 3 rfl) ?_
    have hn_3 := hwp.1
    have hwp := hwp.2
    refine va_iast (D := D) hx hb hK hP hD hS 0 0 rfl rfl hn_3 dX1_put_19 (fun H locs hP hD hS => ?_)
    have hP : va_P D vwCl [(a_numbers, .inl (cI, 200, .inl (upd v_numbers (((x1 * (5 : Int32)) + x2)).toNatClampNeg x3))), (a_this, .inr (1, [.ref a_numbers, .int v_size]))] H := hP
    have hD : va_D A [(a_numbers, .inl (cI, 200, .inl (upd v_numbers (((x1 * (5 : Int32)) + x2)).toNatClampNeg x3))), (a_this, .inr (1, [.ref a_numbers, .int v_size]))] := hD
    exact hret (upd v_numbers (((x1 * (5 : Int32)) + x2)).toNatClampNeg x3) [1, 0] dX1_put_20 hwp rfl rfl hP hD hS
theorem mc_X1_append_1 : ∀ w ∈ u_ws RX1 TX1 2, w ∈ wsX1_append := fun w h => List.mem_cons_of_mem _ (List.mem_append_right _ h)
theorem ml_X1_append_1 : (.fieldLink RX1 15 "StoryWall$Cards" "size" "I" : Cond) ∈ wsX1_append := List.mem_of_getElem? (i := 1) rfl
abbrev rm_X1_append : Room := { frames := 2, cells := 0, slots := 0, locals := 45 }
set_option maxHeartbeats 4000000 in
set_option maxRecDepth 100000 in
theorem c_X1_append (l : Launch) (D : va_G) (cI cC cF cO : ClassId) (a_this a_numbers : Nat)  (sz : Nat) (x1 : Int32) (x2 : Int32) (x3 : Int32) (x4 : Int32) (x5 : Int32) (v_size : Int32) (v_numbers : Nat → Int32) (post : Int32 → (Nat → Int32) → Prop) (hwp : wp_X1_append x1 x2 x3 x4 x5 v_size v_numbers post) : Met l yX1_append wsX1_append rm_X1_append (gPre D (gT cI cC cF cO) [.ref a_this, .int x1, .int x2, .int x3, .int x4, .int x5] [(a_this, .inr (1, [.ref a_numbers, .int v_size])), (a_numbers, .inl (cI, 200, .inl v_numbers))] sz) (va_Qv (S := Int32 × (Nat → Int32)) (fun (u : Int32 × (Nat → Int32)) => post u.1 u.2) (gB D (gT cI cC cF cO) (fun (u : Int32 × (Nat → Int32)) => [(a_this, .inr (1, [.ref a_numbers, .int u.1])), (a_numbers, .inl (cI, 200, .inl u.2))]) [(a_this, .inr (1, [.ref a_numbers, .int v_size])), (a_numbers, .inl (cI, 200, .inl v_numbers))] sz) (va_A [(a_this, .inr (1, [.ref a_numbers, .int v_size])), (a_numbers, .inl (cI, 200, .inl v_numbers))] sz)) 0 0 (va_A [(a_this, .inr (1, [.ref a_numbers, .int v_size])), (a_numbers, .inl (cI, 200, .inl v_numbers))] sz) := by
  refine gOfv (own := RX1) (cc := cX1_append) (maxL := 7) (ret := none) rfl (by decide) rfl (Nat.le_of_ble_eq_true rfl) rfl ?_
  intro p e s m below meth c A args Q hAe hx hb hr hts hown hml hlocks hname hA hK hX hT hP hD hS hret ls hl
  have hl : lv_has ls 7 [(0, .ref a_this), (1, .int x1), (2, .int x2), (3, .int x3), (4, .int x4), (5, .int x5)] := hl
  unfold wp_X1_append at hwp
  refine lv_aload_n hx hb dX1_append_0 rfl (lv_at hl 0 rfl) ?_
  refine lv_iconst (v := 1) hx hb dX1_append_1 (by decide) ?_
  refine gBacki (D := D) (tys := gT cI cC cF cO) (A := A) (wr := [(a_numbers, .inl (cI, 200, .inl v_numbers))]) (w1 := (fun u_2 : Unit => [(a_this, .inr (1, [.ref a_numbers, .int v_size]))])) (va_runV (As := [.int (1 : Int32)]) (rest := []) ⟨hx, hb, hml, hown, hts⟩ (c_X1_hasRoomFor l D cI cC cF cO a_this a_numbers _ _ _ _ hwp) (cwV 1 hts gX1_append_X1_hasRoomFor rfl rfl rfl (by decide +kernel) ⟨Nat.le_of_ble_eq_true rfl, Nat.le_of_ble_eq_true rfl⟩) (gPreV (C := RX1) (T := TX1) (N := 2) (ci := 1) hK hX hT hP hD hS hA [0] rfl rfl rfl (qb := 0) rfl) rfl rfl hl.1 rfl (lv_room (Nat.le_of_ble_eq_true rfl)) dX1_append_2 ⟨Nat.le_of_ble_eq_true rfl, Nat.le_of_ble_eq_true rfl⟩) hP hD hS hA [0] [1] rfl rfl rfl (by decide) (fun r_1 u_2 H locs hwp hP hD hS => ?_)
  have hP : va_P D vwCl [(a_numbers, .inl (cI, 200, .inl v_numbers)), (a_this, .inr (1, [.ref a_numbers, .int v_size]))] H := hP
  have hD : va_D A [(a_numbers, .inl (cI, 200, .inl v_numbers)), (a_this, .inr (1, [.ref a_numbers, .int v_size]))] := hD
  refine lv_if_ne (tgt := 9) hx hb dX1_append_5 (by decide) (fun hc => ?_) (fun hc => ?_)
  · have hwp := hwp.2 hc
    refine lv_aload_n hx hb dX1_append_9 rfl (lv_at hl 0 rfl) ?_
    refine va_get (D := D) (ci := 1) (v := .int v_size) (C := RX1) (T := TX1) (N := 2) hx hb hts mc_X1_append_1 hown hK hP 1 rfl rfl 1 (by decide) (hts _ ml_X1_append_1) (fun _ h9 => h9) rfl dX1_append_10 ?_
    refine lv_istore (lv' := [(6, .int v_size), (0, .ref a_this), (1, .int x1), (2, .int x2), (3, .int x3), (4, .int x4), (5, .int x5)]) hx hb dX1_append_13 hl (by decide) rfl (fun ls hl => ?_)
    refine lv_aload_n hx hb dX1_append_15 rfl (lv_at hl 1 rfl) ?_
    refine lv_dup hx hb dX1_append_16 rfl ?_
    refine va_get (D := D) (ci := 1) (v := .int v_size) (C := RX1) (T := TX1) (N := 2) hx hb hts mc_X1_append_1 hown hK hP 1 rfl rfl 1 (by decide) (hts _ ml_X1_append_1) (fun _ h9 => h9) rfl dX1_append_17 ?_
    refine lv_iconst (v := 1) hx hb dX1_append_20 (by decide) ?_
    refine lv_iadd hx hb dX1_append_21 ?_
    refine va_put (D := D) (ci := 1) (v := .int (v_size + (1 : Int32))) (ty := .int) (C := RX1) (T := TX1) (N := 2) hx hb hts mc_X1_append_1 tyX1 tyX1_ok nmX1 hown hK hP hD hS 1 rfl rfl 1 (by decide) (hts _ ml_X1_append_1) (fun _ h9 => h9) rfl (by decide +kernel) rfl rfl (Nat.le_of_ble_eq_true rfl) dX1_append_22 (fun H locs hP hD hS => ?_)
    have hP : va_P D vwCl [(a_numbers, .inl (cI, 200, .inl v_numbers)), (a_this, .inr (1, [.ref a_numbers, .int (v_size + (1 : Int32))]))] H := hP
    have hD : va_D A [(a_numbers, .inl (cI, 200, .inl v_numbers)), (a_this, .inr (1, [.ref a_numbers, .int (v_size + (1 : Int32))]))] := hD
    refine lv_aload_n hx hb dX1_append_25 rfl (lv_at hl 1 rfl) ?_
    refine lv_iload hx hb dX1_append_26 (lv_at hl 0 rfl) ?_
    refine lv_iconst (v := 0) hx hb dX1_append_28 (by decide) ?_
    refine lv_iload_n hx hb dX1_append_29 rfl (lv_at hl 2 rfl) ?_
    refine gBackv (D := D) (tys := gT cI cC cF cO) (A := A) (wr := []) (w1 := (fun u_4 : (Nat → Int32) => [(a_this, .inr (1, [.ref a_numbers, .int (v_size + (1 : Int32))])), (a_numbers, .inl (cI, 200, .inl u_4))])) (va_runV (As := [.int v_size, .int (0 : Int32), .int x1]) (rest := []) ⟨hx, hb, hml, hown, hts⟩ (c_X1_put l D cI cC cF cO a_this a_numbers _ _ _ _ _ _ _ hwp) (cwV 3 hts gX1_append_X1_put rfl rfl rfl (by decide +kernel) ⟨Nat.le_of_ble_eq_true rfl, Nat.le_of_ble_eq_true rfl⟩) (gPreV (C := RX1) (T := TX1) (N := 2) (ci := 1) hK hX hT hP hD hS hA [1, 0] rfl rfl rfl (qb := 1) rfl) rfl rfl hl.1 rfl (lv_room (Nat.le_of_ble_eq_true rfl)) dX1_append_30 ⟨Nat.le_of_ble_eq_true rfl, Nat.le_of_ble_eq_true rfl⟩) hP hD hS hA [1, 0] [] rfl rfl rfl (by decide) (fun u_4 H locs hwp hP hD hS => ?_)
    have hP : va_P D vwCl [(a_this, .inr (1, [.ref a_numbers, .int (v_size + (1 : Int32))])), (a_numbers, .inl (cI, 200, .inl u_4))] H := hP
    have hD : va_D A [(a_this, .inr (1, [.ref a_numbers, .int (v_size + (1 : Int32))])), (a_numbers, .inl (cI, 200, .inl u_4))] := hD
    refine lv_aload_n hx hb dX1_append_33 rfl (lv_at hl 1 rfl) ?_
    refine lv_iload hx hb dX1_append_34 (lv_at hl 0 rfl) ?_
    refine lv_iconst (v := 1) hx hb dX1_append_36 (by decide) ?_
    refine lv_iload_n hx hb dX1_append_37 rfl (lv_at hl 3 rfl) ?_
    refine gBackv (D := D) (tys := gT cI cC cF cO) (A := A) (wr := []) (w1 := (fun u_6 : (Nat → Int32) => [(a_this, .inr (1, [.ref a_numbers, .int (v_size + (1 : Int32))])), (a_numbers, .inl (cI, 200, .inl u_6))])) (va_runV (As := [.int v_size, .int (1 : Int32), .int x2]) (rest := []) ⟨hx, hb, hml, hown, hts⟩ (c_X1_put l D cI cC cF cO a_this a_numbers _ _ _ _ _ _ _ hwp) (cwV 3 hts gX1_append_X1_put rfl rfl rfl (by decide +kernel) ⟨Nat.le_of_ble_eq_true rfl, Nat.le_of_ble_eq_true rfl⟩) (gPreV (C := RX1) (T := TX1) (N := 2) (ci := 1) hK hX hT hP hD hS hA [0, 1] rfl rfl rfl (qb := 0) rfl) rfl rfl hl.1 rfl (lv_room (Nat.le_of_ble_eq_true rfl)) dX1_append_38 ⟨Nat.le_of_ble_eq_true rfl, Nat.le_of_ble_eq_true rfl⟩) hP hD hS hA [0, 1] [] rfl rfl rfl (by decide) (fun u_6 H locs hwp hP hD hS => ?_)
    have hP : va_P D vwCl [(a_this, .inr (1, [.ref a_numbers, .int (v_size + (1 : Int32))])), (a_numbers, .inl (cI, 200, .inl u_6))] H := hP
    have hD : va_D A [(a_this, .inr (1, [.ref a_numbers, .int (v_size + (1 : Int32))])), (a_numbers, .inl (cI, 200, .inl u_6))] := hD
    refine lv_aload_n hx hb dX1_append_41 rfl (lv_at hl 1 rfl) ?_
    refine lv_iload hx hb dX1_append_42 (lv_at hl 0 rfl) ?_
    refine lv_iconst (v := 2) hx hb dX1_append_44 (by decide) ?_
    refine lv_iload_n hx hb dX1_append_45 rfl (lv_at hl 4 rfl) ?_
    refine gBackv (D := D) (tys := gT cI cC cF cO) (A := A) (wr := []) (w1 := (fun u_8 : (Nat → Int32) => [(a_this, .inr (1, [.ref a_numbers, .int (v_size + (1 : Int32))])), (a_numbers, .inl (cI, 200, .inl u_8))])) (va_runV (As := [.int v_size, .int (2 : Int32), .int x3]) (rest := []) ⟨hx, hb, hml, hown, hts⟩ (c_X1_put l D cI cC cF cO a_this a_numbers _ _ _ _ _ _ _ hwp) (cwV 3 hts gX1_append_X1_put rfl rfl rfl (by decide +kernel) ⟨Nat.le_of_ble_eq_true rfl, Nat.le_of_ble_eq_true rfl⟩) (gPreV (C := RX1) (T := TX1) (N := 2) (ci := 1) hK hX hT hP hD hS hA [0, 1] rfl rfl rfl (qb := 0) rfl) rfl rfl hl.1 rfl (lv_room (Nat.le_of_ble_eq_true rfl)) dX1_append_46 ⟨Nat.le_of_ble_eq_true rfl, Nat.le_of_ble_eq_true rfl⟩) hP hD hS hA [0, 1] [] rfl rfl rfl (by decide) (fun u_8 H locs hwp hP hD hS => ?_)
    have hP : va_P D vwCl [(a_this, .inr (1, [.ref a_numbers, .int (v_size + (1 : Int32))])), (a_numbers, .inl (cI, 200, .inl u_8))] H := hP
    have hD : va_D A [(a_this, .inr (1, [.ref a_numbers, .int (v_size + (1 : Int32))])), (a_numbers, .inl (cI, 200, .inl u_8))] := hD
    refine lv_aload_n hx hb dX1_append_49 rfl (lv_at hl 1 rfl) ?_
    refine lv_iload hx hb dX1_append_50 (lv_at hl 0 rfl) ?_
    refine lv_iconst (v := 3) hx hb dX1_append_52 (by decide) ?_
    refine lv_iload hx hb dX1_append_53 (lv_at hl 5 rfl) ?_
    refine gBackv (D := D) (tys := gT cI cC cF cO) (A := A) (wr := []) (w1 := (fun u_10 : (Nat → Int32) => [(a_this, .inr (1, [.ref a_numbers, .int (v_size + (1 : Int32))])), (a_numbers, .inl (cI, 200, .inl u_10))])) (va_runV (As := [.int v_size, .int (3 : Int32), .int x4]) (rest := []) ⟨hx, hb, hml, hown, hts⟩ (c_X1_put l D cI cC cF cO a_this a_numbers _ _ _ _ _ _ _ hwp) (cwV 3 hts gX1_append_X1_put rfl rfl rfl (by decide +kernel) ⟨Nat.le_of_ble_eq_true rfl, Nat.le_of_ble_eq_true rfl⟩) (gPreV (C := RX1) (T := TX1) (N := 2) (ci := 1) hK hX hT hP hD hS hA [0, 1] rfl rfl rfl (qb := 0) rfl) rfl rfl hl.1 rfl (lv_room (Nat.le_of_ble_eq_true rfl)) dX1_append_55 ⟨Nat.le_of_ble_eq_true rfl, Nat.le_of_ble_eq_true rfl⟩) hP hD hS hA [0, 1] [] rfl rfl rfl (by decide) (fun u_10 H locs hwp hP hD hS => ?_)
    have hP : va_P D vwCl [(a_this, .inr (1, [.ref a_numbers, .int (v_size + (1 : Int32))])), (a_numbers, .inl (cI, 200, .inl u_10))] H := hP
    have hD : va_D A [(a_this, .inr (1, [.ref a_numbers, .int (v_size + (1 : Int32))])), (a_numbers, .inl (cI, 200, .inl u_10))] := hD
    refine lv_aload_n hx hb dX1_append_58 rfl (lv_at hl 1 rfl) ?_
    refine lv_iload hx hb dX1_append_59 (lv_at hl 0 rfl) ?_
    refine lv_iconst (v := 4) hx hb dX1_append_61 (by decide) ?_
    refine lv_iload hx hb dX1_append_62 (lv_at hl 6 rfl) ?_
    refine gBackv (D := D) (tys := gT cI cC cF cO) (A := A) (wr := []) (w1 := (fun u_12 : (Nat → Int32) => [(a_this, .inr (1, [.ref a_numbers, .int (v_size + (1 : Int32))])), (a_numbers, .inl (cI, 200, .inl u_12))])) (va_runV (As := [.int v_size, .int (4 : Int32), .int x5]) (rest := []) ⟨hx, hb, hml, hown, hts⟩ (c_X1_put l D cI cC cF cO a_this a_numbers _ _ _ _ _ _ _ hwp) (cwV 3 hts gX1_append_X1_put rfl rfl rfl (by decide +kernel) ⟨Nat.le_of_ble_eq_true rfl, Nat.le_of_ble_eq_true rfl⟩) (gPreV (C := RX1) (T := TX1) (N := 2) (ci := 1) hK hX hT hP hD hS hA [0, 1] rfl rfl rfl (qb := 0) rfl) rfl rfl hl.1 rfl (lv_room (Nat.le_of_ble_eq_true rfl)) dX1_append_64 ⟨Nat.le_of_ble_eq_true rfl, Nat.le_of_ble_eq_true rfl⟩) hP hD hS hA [0, 1] [] rfl rfl rfl (by decide) (fun u_12 H locs hwp hP hD hS => ?_)
    have hP : va_P D vwCl [(a_this, .inr (1, [.ref a_numbers, .int (v_size + (1 : Int32))])), (a_numbers, .inl (cI, 200, .inl u_12))] H := hP
    have hD : va_D A [(a_this, .inr (1, [.ref a_numbers, .int (v_size + (1 : Int32))])), (a_numbers, .inl (cI, 200, .inl u_12))] := hD
    exact hret ((v_size + (1 : Int32)), u_12) [0, 1] dX1_append_67 hwp rfl rfl hP hD hS
  · have hwp := hwp.1 hc
    exact hret (v_size, v_numbers) [1, 0] dX1_append_8 hwp rfl rfl hP hD hS
theorem mc_X0_readCard_0 : ∀ w ∈ u_ws RX0 TX0 5, w ∈ wsX0_readCard := fun w h => List.mem_cons_of_mem _ (List.mem_append_left _ (List.mem_append_right _ h))
theorem ml_X0_readCard_1 : (.fieldLink RX0 32 "StoryWall$CardText" "faulty" "Z" : Cond) ∈ wsX0_readCard := List.mem_of_getElem? (i := 1) rfl
theorem ml_X0_readCard_2 : (.fieldLink RX0 18 "StoryWall$CardText" "cards" "LStoryWall$Cards;" : Cond) ∈ wsX0_readCard := List.mem_of_getElem? (i := 3) rfl
theorem ml_X0_readCard_3 : (.fieldLink RX0 29 "StoryWall$CardText" "position" "I" : Cond) ∈ wsX0_readCard := List.mem_of_getElem? (i := 2) rfl
abbrev rm_X0_readCard : Room := { frames := 3, cells := 0, slots := 0, locals := 71 }
set_option maxHeartbeats 4000000 in
set_option maxRecDepth 100000 in
theorem c_X0_readCard (l : Launch) (D : va_G) (cI cC cF cO : ClassId) (a_this a_signs a_cards a_cards_numbers : Nat)  (sz : Nat)  (v_length : Int32) (v_position : Int32) (v_faulty : Int32) (v_signs : Nat → Int32) (v_cards_size : Int32) (v_cards_numbers : Nat → Int32) (post : Int32 → Int32 → Int32 → (Nat → Int32) → Prop) (hwp : wp_X0_readCard v_length v_position v_faulty v_signs v_cards_size v_cards_numbers post) : Met l yX0_readCard wsX0_readCard rm_X0_readCard (gPre D (gT cI cC cF cO) [.ref a_this] [(a_this, .inr (0, [.ref a_signs, .ref a_cards, .int v_length, .int v_position, .int v_faulty])), (a_signs, .inl (cC, 60, .inl v_signs)), (a_cards, .inr (1, [.ref a_cards_numbers, .int v_cards_size])), (a_cards_numbers, .inl (cI, 200, .inl v_cards_numbers))] sz) (va_Qv (S := Int32 × Int32 × Int32 × (Nat → Int32)) (fun (u : Int32 × Int32 × Int32 × (Nat → Int32)) => post u.1 u.2.1 u.2.2.1 u.2.2.2) (gB D (gT cI cC cF cO) (fun (u : Int32 × Int32 × Int32 × (Nat → Int32)) => [(a_this, .inr (0, [.ref a_signs, .ref a_cards, .int v_length, .int u.1, .int u.2.1])), (a_signs, .inl (cC, 60, .inl v_signs)), (a_cards, .inr (1, [.ref a_cards_numbers, .int u.2.2.1])), (a_cards_numbers, .inl (cI, 200, .inl u.2.2.2))]) [(a_this, .inr (0, [.ref a_signs, .ref a_cards, .int v_length, .int v_position, .int v_faulty])), (a_signs, .inl (cC, 60, .inl v_signs)), (a_cards, .inr (1, [.ref a_cards_numbers, .int v_cards_size])), (a_cards_numbers, .inl (cI, 200, .inl v_cards_numbers))] sz) (va_A [(a_this, .inr (0, [.ref a_signs, .ref a_cards, .int v_length, .int v_position, .int v_faulty])), (a_signs, .inl (cC, 60, .inl v_signs)), (a_cards, .inr (1, [.ref a_cards_numbers, .int v_cards_size])), (a_cards_numbers, .inl (cI, 200, .inl v_cards_numbers))] sz)) 0 0 (va_A [(a_this, .inr (0, [.ref a_signs, .ref a_cards, .int v_length, .int v_position, .int v_faulty])), (a_signs, .inl (cC, 60, .inl v_signs)), (a_cards, .inr (1, [.ref a_cards_numbers, .int v_cards_size])), (a_cards_numbers, .inl (cI, 200, .inl v_cards_numbers))] sz) := by
  refine gOfv (own := RX0) (cc := cX0_readCard) (maxL := 6) (ret := none) rfl (by decide) rfl (Nat.le_of_ble_eq_true rfl) rfl ?_
  intro p e s m below meth c A args Q hAe hx hb hr hts hown hml hlocks hname hA hK hX hT hP hD hS hret ls hl
  have hl : lv_has ls 6 [(0, .ref a_this)] := hl
  unfold wp_X0_readCard at hwp
  obtain ⟨⟨t_LEAST, hZ_LEAST, hT_LEAST⟩, ⟨t_MOST, hZ_MOST, hT_MOST⟩, ⟨t_LEAST_SETTING, hZ_LEAST_SETTING, hT_LEAST_SETTING⟩, ⟨t_MOST_SETTING, hZ_MOST_SETTING, hT_MOST_SETTING⟩⟩ := id hT
  have hj68 : ∀ (x1_68 : Int32) (x2_68 : Int32) (x3_68 : Int32) (x4_68 : Int32) (x5_68 : Int32) (v_position_68 : Int32) (v_faulty_68 : Int32) (v_cards_size_68 : Int32) (v_cards_numbers_68 : Nat → Int32) (H : Heap) (locs : List Loc), wp_X0_readCard_j68 x1_68 x2_68 x3_68 x4_68 x5_68 v_length v_position_68 v_faulty_68 v_signs v_cards_size_68 v_cards_numbers_68  post → va_P D vwCl [(a_this, .inr (0, [.ref a_signs, .ref a_cards, .int v_length, .int v_position_68, .int v_faulty_68])), (a_signs, .inl (cC, 60, .inl v_signs)), (a_cards, .inr (1, [.ref a_cards_numbers, .int v_cards_size_68])), (a_cards_numbers, .inl (cI, 200, .inl v_cards_numbers_68))] H → va_D A [(a_this, .inr (0, [.ref a_signs, .ref a_cards, .int v_length, .int v_position_68, .int v_faulty_68])), (a_signs, .inl (cC, 60, .inl v_signs)), (a_cards, .inr (1, [.ref a_cards_numbers, .int v_cards_size_68])), (a_cards_numbers, .inl (cI, 200, .inl v_cards_numbers_68))] → va_S A s.heap H locs → ∀ ls : Array Slot, lv_has ls 6 [(0, .ref a_this), (1, .int x1_68), (2, .int x2_68), (3, .int x3_68), (4, .int x4_68), (5, .int x5_68)] → W p l e rm_X0_readCard s m args below meth c H locs 0 0 Q (F0 m 68 ls []) := by
    intro x1_68 x2_68 x3_68 x4_68 x5_68 v_position_68 v_faulty_68 v_cards_size_68 v_cards_numbers_68 H locs hwp hP hD hS ls hl
    unfold wp_X0_readCard_j68 at hwp
    refine lv_aload_n hx hb dX0_readCard_68 rfl (lv_at hl 0 rfl) ?_
    refine va_get (D := D) (ci := 0) (v := .int v_faulty_68) (C := RX0) (T := TX0) (N := 5) hx hb hts mc_X0_readCard_0 hown hK hP 0 rfl rfl 4 (by decide) (hts _ ml_X0_readCard_1) (fun _ h9 => h9) rfl dX0_readCard_69 ?_
    refine lv_if_ne (tgt := 89) hx hb dX0_readCard_72 (by decide) (fun hc => ?_) (fun hc => ?_)
    · have hwp := hwp.2 hc
      exact hret (v_position_68, v_faulty_68, v_cards_size_68, v_cards_numbers_68) [0, 1, 2, 3] dX0_readCard_89 hwp rfl rfl hP hD hS
    · have hwp := hwp.1 hc
      refine lv_aload_n hx hb dX0_readCard_75 rfl (lv_at hl 0 rfl) ?_
      refine va_get (D := D) (ci := 0) (v := .ref a_cards) (C := RX0) (T := TX0) (N := 5) hx hb hts mc_X0_readCard_0 hown hK hP 0 rfl rfl 1 (by decide) (hts _ ml_X0_readCard_2) (fun _ h9 => h9) rfl dX0_readCard_76 ?_
      refine lv_iload_n hx hb dX0_readCard_79 rfl (lv_at hl 1 rfl) ?_
      refine lv_iload_n hx hb dX0_readCard_80 rfl (lv_at hl 2 rfl) ?_
      refine lv_iload_n hx hb dX0_readCard_81 rfl (lv_at hl 3 rfl) ?_
      refine lv_iload hx hb dX0_readCard_82 (lv_at hl 4 rfl) ?_
      refine lv_iload hx hb dX0_readCard_84 (lv_at hl 5 rfl) ?_
      refine gBackv (D := D) (tys := gT cI cC cF cO) (A := A) (wr := [(a_this, .inr (0, [.ref a_signs, .ref a_cards, .int v_length, .int v_position_68, .int v_faulty_68])), (a_signs, .inl (cC, 60, .inl v_signs))]) (w1 := (fun u_3 : Int32 × (Nat → Int32) => [(a_cards, .inr (1, [.ref a_cards_numbers, .int u_3.1])), (a_cards_numbers, .inl (cI, 200, .inl u_3.2))])) (va_runV (As := [.int x1_68, .int x2_68, .int x3_68, .int x4_68, .int x5_68]) (rest := []) ⟨hx, hb, hml, hown, hts⟩ (c_X1_append l D cI cC cF cO a_cards a_cards_numbers _ _ _ _ _ _ _ _ _ hwp) (cwV 5 hts gX0_readCard_X1_append rfl rfl rfl (by decide +kernel) ⟨Nat.le_of_ble_eq_true rfl, Nat.le_of_ble_eq_true rfl⟩) (gPreV (C := RX1) (T := TX1) (N := 2) (ci := 1) hK hX hT hP hD hS hA [2, 3] rfl rfl rfl (qb := 2) rfl) rfl rfl hl.1 rfl (lv_room (Nat.le_of_ble_eq_true rfl)) dX0_readCard_86 ⟨Nat.le_of_ble_eq_true rfl, Nat.le_of_ble_eq_true rfl⟩) hP hD hS hA [2, 3] [0, 1] rfl rfl rfl (by decide) (fun u_3 H locs hwp hP hD hS => ?_)
      obtain ⟨v_cards_size_1, v_cards_numbers_2⟩ := u_3
      have hP : va_P D vwCl [(a_this, .inr (0, [.ref a_signs, .ref a_cards, .int v_length, .int v_position_68, .int v_faulty_68])), (a_signs, .inl (cC, 60, .inl v_signs)), (a_cards, .inr (1, [.ref a_cards_numbers, .int v_cards_size_1])), (a_cards_numbers, .inl (cI, 200, .inl v_cards_numbers_2))] H := hP
      have hD : va_D A [(a_this, .inr (0, [.ref a_signs, .ref a_cards, .int v_length, .int v_position_68, .int v_faulty_68])), (a_signs, .inl (cC, 60, .inl v_signs)), (a_cards, .inr (1, [.ref a_cards_numbers, .int v_cards_size_1])), (a_cards_numbers, .inl (cI, 200, .inl v_cards_numbers_2))] := hD
      exact hret (v_position_68, v_faulty_68, v_cards_size_1, v_cards_numbers_2) [0, 1, 2, 3] dX0_readCard_89 hwp rfl rfl hP hD hS
  refine lv_aload_n hx hb dX0_readCard_0 rfl (lv_at hl 0 rfl) ?_
  refine gBacki (D := D) (tys := gT cI cC cF cO) (A := A) (wr := [(a_cards, .inr (1, [.ref a_cards_numbers, .int v_cards_size])), (a_cards_numbers, .inl (cI, 200, .inl v_cards_numbers))]) (w1 := (fun u_7 : Int32 × Int32 => [(a_this, .inr (0, [.ref a_signs, .ref a_cards, .int v_length, .int u_7.1, .int u_7.2])), (a_signs, .inl (cC, 60, .inl v_signs))])) (va_runV (As := []) (rest := []) ⟨hx, hb, hml, hown, hts⟩ (c_X0_readThread l D cI cC cF cO a_this a_signs a_cards _ _ _ _ _ _ hwp) (cwV 0 hts gX0_readCard_X0_readThread rfl rfl rfl (by decide +kernel) ⟨Nat.le_of_ble_eq_true rfl, Nat.le_of_ble_eq_true rfl⟩) (gPreV (C := RX0) (T := TX0) (N := 5) (ci := 0) hK hX hT hP hD hS hA [0, 1] rfl rfl rfl (qb := 0) rfl) rfl rfl hl.1 rfl (lv_room (Nat.le_of_ble_eq_true rfl)) dX0_readCard_1 ⟨Nat.le_of_ble_eq_true rfl, Nat.le_of_ble_eq_true rfl⟩) hP hD hS hA [0, 1] [2, 3] rfl rfl rfl (by decide) (fun r_4 u_7 H locs hwp hP hD hS => ?_)
  obtain ⟨v_position_5, v_faulty_6⟩ := u_7
  have hP : va_P D vwCl [(a_cards, .inr (1, [.ref a_cards_numbers, .int v_cards_size])), (a_cards_numbers, .inl (cI, 200, .inl v_cards_numbers)), (a_this, .inr (0, [.ref a_signs, .ref a_cards, .int v_length, .int v_position_5, .int v_faulty_6])), (a_signs, .inl (cC, 60, .inl v_signs))] H := hP
  have hD : va_D A [(a_cards, .inr (1, [.ref a_cards_numbers, .int v_cards_size])), (a_cards_numbers, .inl (cI, 200, .inl v_cards_numbers)), (a_this, .inr (0, [.ref a_signs, .ref a_cards, .int v_length, .int v_position_5, .int v_faulty_6])), (a_signs, .inl (cC, 60, .inl v_signs))] := hD
  refine lv_istore_n (lv' := [(1, .int r_4), (0, .ref a_this)]) hx hb dX0_readCard_4 rfl hl (by decide) rfl (fun ls hl => ?_)
  refine lv_aload_n hx hb dX0_readCard_5 rfl (lv_at hl 1 rfl) ?_
  refine lv_iconst (v := 1) hx hb dX0_readCard_6 (by decide) ?_
  refine gBacki (D := D) (tys := gT cI cC cF cO) (A := A) (wr := [(a_cards, .inr (1, [.ref a_cards_numbers, .int v_cards_size])), (a_cards_numbers, .inl (cI, 200, .inl v_cards_numbers))]) (w1 := (fun u_11 : Int32 × Int32 => [(a_this, .inr (0, [.ref a_signs, .ref a_cards, .int v_length, .int u_11.1, .int u_11.2])), (a_signs, .inl (cC, 60, .inl v_signs))])) (va_runV (As := [.int (1 : Int32)]) (rest := []) ⟨hx, hb, hml, hown, hts⟩ (c_X0_readNumber l D cI cC cF cO a_this a_signs a_cards _ _ _ _ _ _ _ hwp) (cwV 1 hts gX0_readCard_X0_readNumber rfl rfl rfl (by decide +kernel) ⟨Nat.le_of_ble_eq_true rfl, Nat.le_of_ble_eq_true rfl⟩) (gPreV (C := RX0) (T := TX0) (N := 5) (ci := 0) hK hX hT hP hD hS hA [2, 3] rfl rfl rfl (qb := 2) rfl) rfl rfl hl.1 rfl (lv_room (Nat.le_of_ble_eq_true rfl)) dX0_readCard_7 ⟨Nat.le_of_ble_eq_true rfl, Nat.le_of_ble_eq_true rfl⟩) hP hD hS hA [2, 3] [0, 1] rfl rfl rfl (by decide) (fun r_8 u_11 H locs hwp hP hD hS => ?_)
  obtain ⟨v_position_9, v_faulty_10⟩ := u_11
  have hP : va_P D vwCl [(a_cards, .inr (1, [.ref a_cards_numbers, .int v_cards_size])), (a_cards_numbers, .inl (cI, 200, .inl v_cards_numbers)), (a_this, .inr (0, [.ref a_signs, .ref a_cards, .int v_length, .int v_position_9, .int v_faulty_10])), (a_signs, .inl (cC, 60, .inl v_signs))] H := hP
  have hD : va_D A [(a_cards, .inr (1, [.ref a_cards_numbers, .int v_cards_size])), (a_cards_numbers, .inl (cI, 200, .inl v_cards_numbers)), (a_this, .inr (0, [.ref a_signs, .ref a_cards, .int v_length, .int v_position_9, .int v_faulty_10])), (a_signs, .inl (cC, 60, .inl v_signs))] := hD
  refine lv_istore_n (lv' := [(2, .int r_8), (1, .int r_4), (0, .ref a_this)]) hx hb dX0_readCard_10 rfl hl (by decide) rfl (fun ls hl => ?_)
  refine lv_aload_n hx hb dX0_readCard_11 rfl (lv_at hl 2 rfl) ?_
  refine lv_bipush (v := 44) hx hb dX0_readCard_12 (by decide) ?_
  refine gBackv (D := D) (tys := gT cI cC cF cO) (A := A) (wr := [(a_cards, .inr (1, [.ref a_cards_numbers, .int v_cards_size])), (a_cards_numbers, .inl (cI, 200, .inl v_cards_numbers))]) (w1 := (fun u_14 : Int32 × Int32 => [(a_this, .inr (0, [.ref a_signs, .ref a_cards, .int v_length, .int u_14.1, .int u_14.2])), (a_signs, .inl (cC, 60, .inl v_signs))])) (va_runV (As := [.int (44 : Int32)]) (rest := []) ⟨hx, hb, hml, hown, hts⟩ (c_X0_readSign l D cI cC cF cO a_this a_signs a_cards _ _ _ _ _ _ _ hwp) (cwV 1 hts gX0_readCard_X0_readSign rfl rfl rfl (by decide +kernel) ⟨Nat.le_of_ble_eq_true rfl, Nat.le_of_ble_eq_true rfl⟩) (gPreV (C := RX0) (T := TX0) (N := 5) (ci := 0) hK hX hT hP hD hS hA [2, 3] rfl rfl rfl (qb := 2) rfl) rfl rfl hl.1 rfl (lv_room (Nat.le_of_ble_eq_true rfl)) dX0_readCard_14 ⟨Nat.le_of_ble_eq_true rfl, Nat.le_of_ble_eq_true rfl⟩) hP hD hS hA [2, 3] [0, 1] rfl rfl rfl (by decide) (fun u_14 H locs hwp hP hD hS => ?_)
  obtain ⟨v_position_12, v_faulty_13⟩ := u_14
  have hP : va_P D vwCl [(a_cards, .inr (1, [.ref a_cards_numbers, .int v_cards_size])), (a_cards_numbers, .inl (cI, 200, .inl v_cards_numbers)), (a_this, .inr (0, [.ref a_signs, .ref a_cards, .int v_length, .int v_position_12, .int v_faulty_13])), (a_signs, .inl (cC, 60, .inl v_signs))] H := hP
  have hD : va_D A [(a_cards, .inr (1, [.ref a_cards_numbers, .int v_cards_size])), (a_cards_numbers, .inl (cI, 200, .inl v_cards_numbers)), (a_this, .inr (0, [.ref a_signs, .ref a_cards, .int v_length, .int v_position_12, .int v_faulty_13])), (a_signs, .inl (cC, 60, .inl v_signs))] := hD
  refine lv_aload_n hx hb dX0_readCard_17 rfl (lv_at hl 2 rfl) ?_
  refine lv_iconst (v := 2) hx hb dX0_readCard_18 (by decide) ?_
  refine gBacki (D := D) (tys := gT cI cC cF cO) (A := A) (wr := [(a_cards, .inr (1, [.ref a_cards_numbers, .int v_cards_size])), (a_cards_numbers, .inl (cI, 200, .inl v_cards_numbers))]) (w1 := (fun u_18 : Int32 × Int32 => [(a_this, .inr (0, [.ref a_signs, .ref a_cards, .int v_length, .int u_18.1, .int u_18.2])), (a_signs, .inl (cC, 60, .inl v_signs))])) (va_runV (As := [.int (2 : Int32)]) (rest := []) ⟨hx, hb, hml, hown, hts⟩ (c_X0_readNumber l D cI cC cF cO a_this a_signs a_cards _ _ _ _ _ _ _ hwp) (cwV 1 hts gX0_readCard_X0_readNumber rfl rfl rfl (by decide +kernel) ⟨Nat.le_of_ble_eq_true rfl, Nat.le_of_ble_eq_true rfl⟩) (gPreV (C := RX0) (T := TX0) (N := 5) (ci := 0) hK hX hT hP hD hS hA [2, 3] rfl rfl rfl (qb := 2) rfl) rfl rfl hl.1 rfl (lv_room (Nat.le_of_ble_eq_true rfl)) dX0_readCard_19 ⟨Nat.le_of_ble_eq_true rfl, Nat.le_of_ble_eq_true rfl⟩) hP hD hS hA [2, 3] [0, 1] rfl rfl rfl (by decide) (fun r_15 u_18 H locs hwp hP hD hS => ?_)
  obtain ⟨v_position_16, v_faulty_17⟩ := u_18
  have hP : va_P D vwCl [(a_cards, .inr (1, [.ref a_cards_numbers, .int v_cards_size])), (a_cards_numbers, .inl (cI, 200, .inl v_cards_numbers)), (a_this, .inr (0, [.ref a_signs, .ref a_cards, .int v_length, .int v_position_16, .int v_faulty_17])), (a_signs, .inl (cC, 60, .inl v_signs))] H := hP
  have hD : va_D A [(a_cards, .inr (1, [.ref a_cards_numbers, .int v_cards_size])), (a_cards_numbers, .inl (cI, 200, .inl v_cards_numbers)), (a_this, .inr (0, [.ref a_signs, .ref a_cards, .int v_length, .int v_position_16, .int v_faulty_17])), (a_signs, .inl (cC, 60, .inl v_signs))] := hD
  refine lv_istore_n (lv' := [(3, .int r_15), (2, .int r_8), (1, .int r_4), (0, .ref a_this)]) hx hb dX0_readCard_22 rfl hl (by decide) rfl (fun ls hl => ?_)
  refine lv_aload_n hx hb dX0_readCard_23 rfl (lv_at hl 3 rfl) ?_
  refine lv_bipush (v := 44) hx hb dX0_readCard_24 (by decide) ?_
  refine gBackv (D := D) (tys := gT cI cC cF cO) (A := A) (wr := [(a_cards, .inr (1, [.ref a_cards_numbers, .int v_cards_size])), (a_cards_numbers, .inl (cI, 200, .inl v_cards_numbers))]) (w1 := (fun u_21 : Int32 × Int32 => [(a_this, .inr (0, [.ref a_signs, .ref a_cards, .int v_length, .int u_21.1, .int u_21.2])), (a_signs, .inl (cC, 60, .inl v_signs))])) (va_runV (As := [.int (44 : Int32)]) (rest := []) ⟨hx, hb, hml, hown, hts⟩ (c_X0_readSign l D cI cC cF cO a_this a_signs a_cards _ _ _ _ _ _ _ hwp) (cwV 1 hts gX0_readCard_X0_readSign rfl rfl rfl (by decide +kernel) ⟨Nat.le_of_ble_eq_true rfl, Nat.le_of_ble_eq_true rfl⟩) (gPreV (C := RX0) (T := TX0) (N := 5) (ci := 0) hK hX hT hP hD hS hA [2, 3] rfl rfl rfl (qb := 2) rfl) rfl rfl hl.1 rfl (lv_room (Nat.le_of_ble_eq_true rfl)) dX0_readCard_26 ⟨Nat.le_of_ble_eq_true rfl, Nat.le_of_ble_eq_true rfl⟩) hP hD hS hA [2, 3] [0, 1] rfl rfl rfl (by decide) (fun u_21 H locs hwp hP hD hS => ?_)
  obtain ⟨v_position_19, v_faulty_20⟩ := u_21
  have hP : va_P D vwCl [(a_cards, .inr (1, [.ref a_cards_numbers, .int v_cards_size])), (a_cards_numbers, .inl (cI, 200, .inl v_cards_numbers)), (a_this, .inr (0, [.ref a_signs, .ref a_cards, .int v_length, .int v_position_19, .int v_faulty_20])), (a_signs, .inl (cC, 60, .inl v_signs))] H := hP
  have hD : va_D A [(a_cards, .inr (1, [.ref a_cards_numbers, .int v_cards_size])), (a_cards_numbers, .inl (cI, 200, .inl v_cards_numbers)), (a_this, .inr (0, [.ref a_signs, .ref a_cards, .int v_length, .int v_position_19, .int v_faulty_20])), (a_signs, .inl (cC, 60, .inl v_signs))] := hD
  refine lv_aload_n hx hb dX0_readCard_29 rfl (lv_at hl 3 rfl) ?_
  refine lv_iconst (v := 3) hx hb dX0_readCard_30 (by decide) ?_
  refine gBacki (D := D) (tys := gT cI cC cF cO) (A := A) (wr := [(a_cards, .inr (1, [.ref a_cards_numbers, .int v_cards_size])), (a_cards_numbers, .inl (cI, 200, .inl v_cards_numbers))]) (w1 := (fun u_25 : Int32 × Int32 => [(a_this, .inr (0, [.ref a_signs, .ref a_cards, .int v_length, .int u_25.1, .int u_25.2])), (a_signs, .inl (cC, 60, .inl v_signs))])) (va_runV (As := [.int (3 : Int32)]) (rest := []) ⟨hx, hb, hml, hown, hts⟩ (c_X0_readNumber l D cI cC cF cO a_this a_signs a_cards _ _ _ _ _ _ _ hwp) (cwV 1 hts gX0_readCard_X0_readNumber rfl rfl rfl (by decide +kernel) ⟨Nat.le_of_ble_eq_true rfl, Nat.le_of_ble_eq_true rfl⟩) (gPreV (C := RX0) (T := TX0) (N := 5) (ci := 0) hK hX hT hP hD hS hA [2, 3] rfl rfl rfl (qb := 2) rfl) rfl rfl hl.1 rfl (lv_room (Nat.le_of_ble_eq_true rfl)) dX0_readCard_31 ⟨Nat.le_of_ble_eq_true rfl, Nat.le_of_ble_eq_true rfl⟩) hP hD hS hA [2, 3] [0, 1] rfl rfl rfl (by decide) (fun r_22 u_25 H locs hwp hP hD hS => ?_)
  obtain ⟨v_position_23, v_faulty_24⟩ := u_25
  have hP : va_P D vwCl [(a_cards, .inr (1, [.ref a_cards_numbers, .int v_cards_size])), (a_cards_numbers, .inl (cI, 200, .inl v_cards_numbers)), (a_this, .inr (0, [.ref a_signs, .ref a_cards, .int v_length, .int v_position_23, .int v_faulty_24])), (a_signs, .inl (cC, 60, .inl v_signs))] H := hP
  have hD : va_D A [(a_cards, .inr (1, [.ref a_cards_numbers, .int v_cards_size])), (a_cards_numbers, .inl (cI, 200, .inl v_cards_numbers)), (a_this, .inr (0, [.ref a_signs, .ref a_cards, .int v_length, .int v_position_23, .int v_faulty_24])), (a_signs, .inl (cC, 60, .inl v_signs))] := hD
  refine lv_istore (lv' := [(4, .int r_22), (3, .int r_15), (2, .int r_8), (1, .int r_4), (0, .ref a_this)]) hx hb dX0_readCard_34 hl (by decide) rfl (fun ls hl => ?_)
  refine lv_iconst (v := 0) hx hb dX0_readCard_36 (by decide) ?_
  refine lv_istore (lv' := [(5, .int (0 : Int32)), (4, .int r_22), (3, .int r_15), (2, .int r_8), (1, .int r_4), (0, .ref a_this)]) hx hb dX0_readCard_37 hl (by decide) rfl (fun ls hl => ?_)
  refine lv_aload_n hx hb dX0_readCard_39 rfl (lv_at hl 5 rfl) ?_
  refine va_get (D := D) (ci := 0) (v := .int v_faulty_24) (C := RX0) (T := TX0) (N := 5) hx hb hts mc_X0_readCard_0 hown hK hP 2 rfl rfl 4 (by decide) (hts _ ml_X0_readCard_1) (fun _ h9 => h9) rfl dX0_readCard_40 ?_
  refine lv_if_ne (tgt := 68) hx hb dX0_readCard_43 (by decide) (fun hc => ?_) (fun hc => ?_)
  · have hwp := hwp.2 hc
    have hP : va_P D vwCl [(a_this, .inr (0, [.ref a_signs, .ref a_cards, .int v_length, .int v_position_23, .int v_faulty_24])), (a_signs, .inl (cC, 60, .inl v_signs)), (a_cards, .inr (1, [.ref a_cards_numbers, .int v_cards_size])), (a_cards_numbers, .inl (cI, 200, .inl v_cards_numbers))] H := hP.sub [2, 3, 0, 1] rfl
    have hD : va_D A [(a_this, .inr (0, [.ref a_signs, .ref a_cards, .int v_length, .int v_position_23, .int v_faulty_24])), (a_signs, .inl (cC, 60, .inl v_signs)), (a_cards, .inr (1, [.ref a_cards_numbers, .int v_cards_size])), (a_cards_numbers, .inl (cI, 200, .inl v_cards_numbers))] := hD.sub [2, 3, 0, 1] (by decide) rfl
    have hl : lv_has ls 6 [(0, .ref a_this), (1, .int r_4), (2, .int r_8), (3, .int r_15), (4, .int r_22), (5, .int (0 : Int32))] := lv_sub hl [5, 4, 3, 2, 1, 0] rfl
    exact hj68 r_4 r_8 r_15 r_22 (0 : Int32) v_position_23 v_faulty_24 v_cards_size v_cards_numbers _ _ hwp hP hD hS ls hl
  · have hwp := hwp.1 hc
    refine lv_aload_n hx hb dX0_readCard_46 rfl (lv_at hl 5 rfl) ?_
    refine lv_bipush (v := 42) hx hb dX0_readCard_47 (by decide) ?_
    refine gBacki (D := D) (tys := gT cI cC cF cO) (A := A) (wr := [(a_cards, .inr (1, [.ref a_cards_numbers, .int v_cards_size])), (a_cards_numbers, .inl (cI, 200, .inl v_cards_numbers))]) (w1 := (fun u_27 : Unit => [(a_this, .inr (0, [.ref a_signs, .ref a_cards, .int v_length, .int v_position_23, .int v_faulty_24])), (a_signs, .inl (cC, 60, .inl v_signs))])) (va_runV (As := [.int (42 : Int32)]) (rest := []) ⟨hx, hb, hml, hown, hts⟩ (c_X0_isAhead l D cI cC cF cO a_this a_signs a_cards v_faulty_24 _ _ _ _ _ _ hwp) (cwV 1 hts gX0_readCard_X0_isAhead rfl rfl rfl (by decide +kernel) ⟨Nat.le_of_ble_eq_true rfl, Nat.le_of_ble_eq_true rfl⟩) (gPreV (C := RX0) (T := TX0) (N := 5) (ci := 0) hK hX hT hP hD hS hA [2, 3] rfl rfl rfl (qb := 2) rfl) rfl rfl hl.1 rfl (lv_room (Nat.le_of_ble_eq_true rfl)) dX0_readCard_49 ⟨Nat.le_of_ble_eq_true rfl, Nat.le_of_ble_eq_true rfl⟩) hP hD hS hA [2, 3] [0, 1] rfl rfl rfl (by decide) (fun r_26 u_27 H locs hwp hP hD hS => ?_)
    have hP : va_P D vwCl [(a_cards, .inr (1, [.ref a_cards_numbers, .int v_cards_size])), (a_cards_numbers, .inl (cI, 200, .inl v_cards_numbers)), (a_this, .inr (0, [.ref a_signs, .ref a_cards, .int v_length, .int v_position_23, .int v_faulty_24])), (a_signs, .inl (cC, 60, .inl v_signs))] H := hP
    have hD : va_D A [(a_cards, .inr (1, [.ref a_cards_numbers, .int v_cards_size])), (a_cards_numbers, .inl (cI, 200, .inl v_cards_numbers)), (a_this, .inr (0, [.ref a_signs, .ref a_cards, .int v_length, .int v_position_23, .int v_faulty_24])), (a_signs, .inl (cC, 60, .inl v_signs))] := hD
    refine lv_if_eq (tgt := 68) hx hb dX0_readCard_52 (by decide) (fun hc => ?_) (fun hc => ?_)
    · have hwp := hwp.1 hc
      have hP : va_P D vwCl [(a_this, .inr (0, [.ref a_signs, .ref a_cards, .int v_length, .int v_position_23, .int v_faulty_24])), (a_signs, .inl (cC, 60, .inl v_signs)), (a_cards, .inr (1, [.ref a_cards_numbers, .int v_cards_size])), (a_cards_numbers, .inl (cI, 200, .inl v_cards_numbers))] H := hP.sub [2, 3, 0, 1] rfl
      have hD : va_D A [(a_this, .inr (0, [.ref a_signs, .ref a_cards, .int v_length, .int v_position_23, .int v_faulty_24])), (a_signs, .inl (cC, 60, .inl v_signs)), (a_cards, .inr (1, [.ref a_cards_numbers, .int v_cards_size])), (a_cards_numbers, .inl (cI, 200, .inl v_cards_numbers))] := hD.sub [2, 3, 0, 1] (by decide) rfl
      have hl : lv_has ls 6 [(0, .ref a_this), (1, .int r_4), (2, .int r_8), (3, .int r_15), (4, .int r_22), (5, .int (0 : Int32))] := lv_sub hl [5, 4, 3, 2, 1, 0] rfl
      exact hj68 r_4 r_8 r_15 r_22 (0 : Int32) v_position_23 v_faulty_24 v_cards_size v_cards_numbers _ _ hwp hP hD hS ls hl
    · have hwp := hwp.2 hc
      refine lv_iconst (v := 1) hx hb dX0_readCard_55 (by decide) ?_
      refine lv_istore (lv' := [(5, .int (1 : Int32)), (4, .int r_22), (3, .int r_15), (2, .int r_8), (1, .int r_4), (0, .ref a_this)]) hx hb dX0_readCard_56 hl (by decide) rfl (fun ls hl => ?_)
      refine lv_aload_n hx hb dX0_readCard_58 rfl (lv_at hl 5 rfl) ?_
      refine lv_dup hx hb dX0_readCard_59 rfl ?_
      refine va_get (D := D) (ci := 0) (v := .int v_position_23) (C := RX0) (T := TX0) (N := 5) hx hb hts mc_X0_readCard_0 hown hK hP 2 rfl rfl 3 (by decide) (hts _ ml_X0_readCard_3) (fun _ h9 => h9) rfl dX0_readCard_60 ?_
      refine lv_iconst (v := 1) hx hb dX0_readCard_63 (by decide) ?_
      refine lv_iadd hx hb dX0_readCard_64 ?_
      refine va_put (D := D) (ci := 0) (v := .int (v_position_23 + (1 : Int32))) (ty := .int) (C := RX0) (T := TX0) (N := 5) hx hb hts mc_X0_readCard_0 tyX0 tyX0_ok nmX0 hown hK hP hD hS 2 rfl rfl 3 (by decide) (hts _ ml_X0_readCard_3) (fun _ h9 => h9) rfl (by decide +kernel) rfl rfl (Nat.le_of_ble_eq_true rfl) dX0_readCard_65 (fun H locs hP hD hS => ?_)
      have hP : va_P D vwCl [(a_cards, .inr (1, [.ref a_cards_numbers, .int v_cards_size])), (a_cards_numbers, .inl (cI, 200, .inl v_cards_numbers)), (a_this, .inr (0, [.ref a_signs, .ref a_cards, .int v_length, .int (v_position_23 + (1 : Int32)), .int v_faulty_24])), (a_signs, .inl (cC, 60, .inl v_signs))] H := hP
      have hD : va_D A [(a_cards, .inr (1, [.ref a_cards_numbers, .int v_cards_size])), (a_cards_numbers, .inl (cI, 200, .inl v_cards_numbers)), (a_this, .inr (0, [.ref a_signs, .ref a_cards, .int v_length, .int (v_position_23 + (1 : Int32)), .int v_faulty_24])), (a_signs, .inl (cC, 60, .inl v_signs))] := hD
      have hP : va_P D vwCl [(a_this, .inr (0, [.ref a_signs, .ref a_cards, .int v_length, .int (v_position_23 + (1 : Int32)), .int v_faulty_24])), (a_signs, .inl (cC, 60, .inl v_signs)), (a_cards, .inr (1, [.ref a_cards_numbers, .int v_cards_size])), (a_cards_numbers, .inl (cI, 200, .inl v_cards_numbers))] H := hP.sub [2, 3, 0, 1] rfl
      have hD : va_D A [(a_this, .inr (0, [.ref a_signs, .ref a_cards, .int v_length, .int (v_position_23 + (1 : Int32)), .int v_faulty_24])), (a_signs, .inl (cC, 60, .inl v_signs)), (a_cards, .inr (1, [.ref a_cards_numbers, .int v_cards_size])), (a_cards_numbers, .inl (cI, 200, .inl v_cards_numbers))] := hD.sub [2, 3, 0, 1] (by decide) rfl
      have hl : lv_has ls 6 [(0, .ref a_this), (1, .int r_4), (2, .int r_8), (3, .int r_15), (4, .int r_22), (5, .int (1 : Int32))] := lv_sub hl [5, 4, 3, 2, 1, 0] rfl
      exact hj68 r_4 r_8 r_15 r_22 (1 : Int32) (v_position_23 + (1 : Int32)) v_faulty_24 v_cards_size v_cards_numbers _ _ hwp hP hD hS ls hl
theorem mc_X1_clear_1 : ∀ w ∈ u_ws RX1 TX1 2, w ∈ wsX1_clear := fun w h => List.mem_cons_of_mem _ (List.mem_append_right _ h)
theorem ml_X1_clear_1 : (.fieldLink RX1 15 "StoryWall$Cards" "size" "I" : Cond) ∈ wsX1_clear := List.mem_of_getElem? (i := 1) rfl
abbrev rm_X1_clear : Room := { frames := 0, cells := 0, slots := 0, locals := 0 }
set_option maxHeartbeats 4000000 in
set_option maxRecDepth 100000 in
theorem c_X1_clear (l : Launch) (D : va_G) (cI cC cF cO : ClassId) (a_this a_numbers : Nat)  (sz : Nat)  (v_size : Int32) (post : Int32 → Prop) (hwp : wp_X1_clear v_size post) : Met l yX1_clear wsX1_clear rm_X1_clear (gPre D (gT cI cC cF cO) [.ref a_this] [(a_this, .inr (1, [.ref a_numbers, .int v_size]))] sz) (va_Qv (S := Int32) (fun (u : Int32) => post u) (gB D (gT cI cC cF cO) (fun (u : Int32) => [(a_this, .inr (1, [.ref a_numbers, .int u]))]) [(a_this, .inr (1, [.ref a_numbers, .int v_size]))] sz) (va_A [(a_this, .inr (1, [.ref a_numbers, .int v_size]))] sz)) 0 0 (va_A [(a_this, .inr (1, [.ref a_numbers, .int v_size]))] sz) := by
  refine gOfv (own := RX1) (cc := cX1_clear) (maxL := 1) (ret := none) rfl (by decide) rfl (Nat.le_of_ble_eq_true rfl) rfl ?_
  intro p e s m below meth c A args Q hAe hx hb hr hts hown hml hlocks hname hA hK hX hT hP hD hS hret ls hl
  have hl : lv_has ls 1 [(0, .ref a_this)] := hl
  unfold wp_X1_clear at hwp
  refine lv_aload_n hx hb dX1_clear_0 rfl (lv_at hl 0 rfl) ?_
  refine lv_iconst (v := 0) hx hb dX1_clear_1 (by decide) ?_
  refine va_put (D := D) (ci := 1) (v := .int (0 : Int32)) (ty := .int) (C := RX1) (T := TX1) (N := 2) hx hb hts mc_X1_clear_1 tyX1 tyX1_ok nmX1 hown hK hP hD hS 0 rfl rfl 1 (by decide) (hts _ ml_X1_clear_1) (fun _ h9 => h9) rfl (by decide +kernel) rfl rfl (Nat.le_of_ble_eq_true rfl) dX1_clear_2 (fun H locs hP hD hS => ?_)
  have hP : va_P D vwCl [(a_this, .inr (1, [.ref a_numbers, .int (0 : Int32)]))] H := hP
  have hD : va_D A [(a_this, .inr (1, [.ref a_numbers, .int (0 : Int32)]))] := hD
  exact hret (0 : Int32) [0] dX1_clear_5 hwp rfl rfl hP hD hS
