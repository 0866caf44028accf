/-! contracts (by program): X7_takeOff X7_putIn X7_exchange X7_exchangeScenes X7_scenesWithCards X7_hasCards X7_isHole X7_holes X8_mayBe -/
theorem ml_X7_takeOff_0 : (.initialized RX8 : Cond) ∈ wsX7_takeOff := List.mem_of_getElem? (i := 12) rfl
theorem ml_X7_takeOff_1 : (.static yX8_slot : Cond) ∈ wsX7_takeOff := List.mem_of_getElem? (i := 11) rfl
abbrev rm_X7_takeOff : Room := { frames := 2, cells := 0, slots := 0, locals := 43 }
set_option maxHeartbeats 4000000 in
set_option maxRecDepth 100000 in
theorem c_X7_takeOff (l : Launch) (D : va_G) (cI cC cF cO : ClassId) (a_this a_slots : Nat)  (sz : Nat) (x1 : Int32) (v_slots : Nat → Int32) (post : (Nat → Int32) → Prop) (hwp : wp_X7_takeOff x1 v_slots post) : Met l yX7_takeOff wsX7_takeOff rm_X7_takeOff (gPre D (gT cI cC cF cO) [.ref a_this, .int x1] [(a_this, .inr (7, [.ref a_slots])), (a_slots, .inl (cI, 96, .inl v_slots))] sz) (va_Qv (S := (Nat → Int32)) (fun (u : (Nat → Int32)) => post u) (gB D (gT cI cC cF cO) (fun (u : (Nat → Int32)) => [(a_this, .inr (7, [.ref a_slots])), (a_slots, .inl (cI, 96, .inl u))]) [(a_this, .inr (7, [.ref a_slots])), (a_slots, .inl (cI, 96, .inl v_slots))] sz) (va_A [(a_this, .inr (7, [.ref a_slots])), (a_slots, .inl (cI, 96, .inl v_slots))] sz)) 0 0 (va_A [(a_this, .inr (7, [.ref a_slots])), (a_slots, .inl (cI, 96, .inl v_slots))] sz) := by
  refine gOfv (own := RX7) (cc := cX7_takeOff) (maxL := 5) (ret := none) rfl (by decide) rfl (Nat.le_of_ble_eq_true rfl) rfl ?_
  intro p e s m below meth c A args Q hAe hx hb hr hts hown hml hlocks hname hA hK hX hT hP hD hS hret ls hl
  have hl : lv_has ls 5 [(0, .ref a_this), (1, .int x1)] := hl
  unfold wp_X7_takeOff at hwp
  refine lv_aload_n hx hb dX7_takeOff_0 rfl (lv_at hl 0 rfl) ?_
  refine lv_iload_n hx hb dX7_takeOff_1 rfl (lv_at hl 1 rfl) ?_
  refine gBacki (D := D) (tys := gT cI cC cF cO) (A := A) (wr := []) (w1 := (fun u_2 : Unit => [(a_this, .inr (7, [.ref a_slots])), (a_slots, .inl (cI, 96, .inl v_slots))])) (va_runV (As := [.int x1]) (rest := []) ⟨hx, hb, hml, hown, hts⟩ (c_X7_slotOf l D cI cC cF cO a_this a_slots _ _ _ _ hwp) (cwV 1 hts gX7_takeOff_X7_slotOf rfl rfl rfl (by decide +kernel) ⟨Nat.le_of_ble_eq_true rfl, Nat.le_of_ble_eq_true rfl⟩) (gPreV (C := RX7) (T := TX7) (N := 1) (ci := 7) hK hX hT hP hD hS hA [0, 1] rfl rfl rfl (qb := 0) rfl) rfl rfl hl.1 rfl (lv_room (Nat.le_of_ble_eq_true rfl)) dX7_takeOff_2 ⟨Nat.le_of_ble_eq_true rfl, Nat.le_of_ble_eq_true rfl⟩) hP hD hS hA [0, 1] [] rfl rfl rfl (by decide) (fun r_1 u_2 H locs hwp hP hD hS => ?_)
  have hP : va_P D vwCl [(a_this, .inr (7, [.ref a_slots])), (a_slots, .inl (cI, 96, .inl v_slots))] H := hP
  have hD : va_D A [(a_this, .inr (7, [.ref a_slots])), (a_slots, .inl (cI, 96, .inl v_slots))] := hD
  refine lv_istore_n (lv' := [(2, .int r_1), (0, .ref a_this), (1, .int x1)]) hx hb dX7_takeOff_5 rfl hl (by decide) rfl (fun ls hl => ?_)
  refine lv_iload_n hx hb dX7_takeOff_6 rfl (lv_at hl 0 rfl) ?_
  refine lv_bipush (v := -5) hx hb dX7_takeOff_7 (by decide) ?_
  refine lv_icmp_ne (tgt := 13) hx hb dX7_takeOff_9 (by decide) (fun hc => ?_) (fun hc => ?_)
  · have hwp := hwp.2 hc
    refine lv_iload_n hx hb dX7_takeOff_13 rfl (lv_at hl 0 rfl) ?_
    refine lv_bipush (v := 6) hx hb dX7_takeOff_14 (by decide) ?_
    refine lv_idiv hx hb dX7_takeOff_16 (by decide) ?_
    refine lv_iconst (v := 5) hx hb dX7_takeOff_17 (by decide) ?_
    refine gBacki (D := D) (tys := gT cI cC cF cO) (A := A) (wr := [(a_this, .inr (7, [.ref a_slots])), (a_slots, .inl (cI, 96, .inl v_slots))]) (w1 := (fun u_4 : Unit => [])) (va_runSN (host := "StoryWall") (As := [.int (r_1 / (6 : Int32)), .int (5 : Int32)]) (rest := []) ⟨hx, hb, hml, hown, hts⟩ (c_X8_slot l D cI cC cF cO  _ _ _ _ hwp) ⟨va_cnB 2 hts gX7_takeOff_X8_slot_n25 rfl rfl rfl (hX.1 _ (List.mem_of_getElem? (i := 15) rfl)) (hts _ ml_X7_takeOff_0) (by decide +kernel) ⟨Nat.le_of_ble_eq_true rfl, Nat.le_of_ble_eq_true rfl⟩, (hts _ ml_X7_takeOff_1), trivial⟩ (gPreS hK hX hT hP hD hS hA [] rfl rfl) rfl rfl hl.1 rfl (lv_room (Nat.le_of_ble_eq_true rfl)) dX7_takeOff_18 ⟨Nat.le_of_ble_eq_true rfl, Nat.le_of_ble_eq_true rfl⟩) hP hD hS hA [] [0, 1] rfl rfl rfl (by decide) (fun r_3 u_4 H locs hwp hP hD hS => ?_)
    have hP : va_P D vwCl [(a_this, .inr (7, [.ref a_slots])), (a_slots, .inl (cI, 96, .inl v_slots))] H := hP
    have hD : va_D A [(a_this, .inr (7, [.ref a_slots])), (a_slots, .inl (cI, 96, .inl v_slots))] := hD
    refine lv_istore_n (lv' := [(3, .int r_3), (2, .int r_1), (0, .ref a_this), (1, .int x1)]) hx hb dX7_takeOff_21 rfl hl (by decide) rfl (fun ls hl => ?_)
    refine lv_iload_n hx hb dX7_takeOff_22 rfl (lv_at hl 1 rfl) ?_
    refine lv_istore (lv' := [(4, .int r_1), (3, .int r_3), (2, .int r_1), (0, .ref a_this), (1, .int x1)]) hx hb dX7_takeOff_23 hl (by decide) rfl (fun ls hl => ?_)
    have hl : lv_has ls 5 [(0, .ref a_this), (3, .int r_3), (4, .int r_1)] := lv_sub hl [3, 1, 0] rfl
    unfold wp_X7_takeOff_l25 at hwp
    obtain ⟨J25, μ25, hJ, hst25⟩ := hwp
    have hL25 : ∀ (n : Nat) (x4_25 : Int32) (v_slots_25 : Nat → Int32), μ25 x4_25 v_slots_25 < n → J25 x4_25 v_slots_25 → ∀ (H : Heap) (locs : List Loc), va_P D vwCl [(a_this, .inr (7, [.ref a_slots])), (a_slots, .inl (cI, 96, .inl v_slots_25))] H → va_D A [(a_this, .inr (7, [.ref a_slots])), (a_slots, .inl (cI, 96, .inl v_slots_25))] → va_S A s.heap H locs → ∀ ls : Array Slot, lv_has ls 5 [(0, .ref a_this), (3, .int r_3), (4, .int x4_25)] → W p l e rm_X7_takeOff s m args below meth c H locs 0 0 Q (F0 m 25 ls []) := by
      intro n
      induction n with
      | zero => intro x4_25 v_slots_25 h; exact absurd h (Nat.not_lt_zero _)
      | succ n ih25 =>
        intro x4_25 v_slots_25 hμ25 hJ H locs hP hD hS ls hl
        have hwp := hst25 x4_25 v_slots_25 hJ
        refine lv_iload hx hb dX7_takeOff_25 (lv_at hl 2 rfl) ?_
        refine lv_iload_n hx hb dX7_takeOff_27 rfl (lv_at hl 1 rfl) ?_
        refine lv_icmp_ge (tgt := 51) hx hb dX7_takeOff_28 (by decide) (fun hc => ?_) (fun hc => ?_)
        · have hwp := hwp.1 hc
          refine lv_aload_n hx hb dX7_takeOff_51 rfl (lv_at hl 0 rfl) ?_
          refine lv_iload_n hx hb dX7_takeOff_52 rfl (lv_at hl 1 rfl) ?_
          refine lv_bipush (v := -5) hx hb dX7_takeOff_53 (by decide) ?_
          refine gBackv (D := D) (tys := gT cI cC cF cO) (A := A) (wr := []) (w1 := (fun u_6 : (Nat → Int32) => [(a_this, .inr (7, [.ref a_slots])), (a_slots, .inl (cI, 96, .inl u_6))])) (va_runV (As := [.int r_3, .int (-5 : Int32)]) (rest := []) ⟨hx, hb, hml, hown, hts⟩ (c_X7_put l D cI cC cF cO a_this a_slots _ _ _ _ _ hwp) (cwV 2 hts gX7_takeOff_X7_put rfl rfl rfl (by decide +kernel) ⟨Nat.le_of_ble_eq_true rfl, Nat.le_of_ble_eq_true rfl⟩) (gPreV (C := RX7) (T := TX7) (N := 1) (ci := 7) hK hX hT hP hD hS hA [0, 1] rfl rfl rfl (qb := 0) rfl) rfl rfl hl.1 rfl (lv_room (Nat.le_of_ble_eq_true rfl)) dX7_takeOff_55 ⟨Nat.le_of_ble_eq_true rfl, Nat.le_of_ble_eq_true rfl⟩) hP hD hS hA [0, 1] [] rfl rfl rfl (by decide) (fun u_6 H locs hwp hP hD hS => ?_)
          have hP : va_P D vwCl [(a_this, .inr (7, [.ref a_slots])), (a_slots, .inl (cI, 96, .inl u_6))] H := hP
          have hD : va_D A [(a_this, .inr (7, [.ref a_slots])), (a_slots, .inl (cI, 96, .inl u_6))] := hD
          exact hret u_6 [0, 1] dX7_takeOff_58 hwp rfl rfl hP hD hS
        · have hwp := hwp.2 hc
          refine lv_aload_n hx hb dX7_takeOff_31 rfl (lv_at hl 0 rfl) ?_
          refine lv_iload hx hb dX7_takeOff_32 (lv_at hl 2 rfl) ?_
          refine lv_aload_n hx hb dX7_takeOff_34 rfl (lv_at hl 0 rfl) ?_
          refine lv_iload hx hb dX7_takeOff_35 (lv_at hl 2 rfl) ?_
          refine lv_iconst (v := 1) hx hb dX7_takeOff_37 (by decide) ?_
          refine lv_iadd hx hb dX7_takeOff_38 ?_
          refine gBacki (D := D) (tys := gT cI cC cF cO) (A := A) (wr := []) (w1 := (fun u_8 : Unit => [(a_this, .inr (7, [.ref a_slots])), (a_slots, .inl (cI, 96, .inl v_slots_25))])) (va_runV (As := [.int (x4_25 + (1 : Int32))]) (rest := [.int x4_25, .ref a_this]) ⟨hx, hb, hml, hown, hts⟩ (c_X7_cardAt l D cI cC cF cO a_this a_slots _ _ _ _ hwp) (cwV 1 hts gX7_takeOff_X7_cardAt rfl rfl rfl (by decide +kernel) ⟨Nat.le_of_ble_eq_true rfl, Nat.le_of_ble_eq_true rfl⟩) (gPreV (C := RX7) (T := TX7) (N := 1) (ci := 7) hK hX hT hP hD hS hA [0, 1] rfl rfl rfl (qb := 0) rfl) rfl rfl hl.1 rfl (lv_room (Nat.le_of_ble_eq_true rfl)) dX7_takeOff_39 ⟨Nat.le_of_ble_eq_true rfl, Nat.le_of_ble_eq_true rfl⟩) hP hD hS hA [0, 1] [] rfl rfl rfl (by decide) (fun r_7 u_8 H locs hwp hP hD hS => ?_)
          have hP : va_P D vwCl [(a_this, .inr (7, [.ref a_slots])), (a_slots, .inl (cI, 96, .inl v_slots_25))] H := hP
          have hD : va_D A [(a_this, .inr (7, [.ref a_slots])), (a_slots, .inl (cI, 96, .inl v_slots_25))] := hD
          refine gBackv (D := D) (tys := gT cI cC cF cO) (A := A) (wr := []) (w1 := (fun u_10 : (Nat → Int32) => [(a_this, .inr (7, [.ref a_slots])), (a_slots, .inl (cI, 96, .inl u_10))])) (va_runV (As := [.int x4_25, .int r_7]) (rest := []) ⟨hx, hb, hml, hown, hts⟩ (c_X7_put l D cI cC cF cO a_this a_slots _ _ _ _ _ hwp) (cwV 2 hts gX7_takeOff_X7_put rfl rfl rfl (by decide +kernel) ⟨Nat.le_of_ble_eq_true rfl, Nat.le_of_ble_eq_true rfl⟩) (gPreV (C := RX7) (T := TX7) (N := 1) (ci := 7) hK hX hT hP hD hS hA [0, 1] rfl rfl rfl (qb := 0) rfl) rfl rfl hl.1 rfl (lv_room (Nat.le_of_ble_eq_true rfl)) dX7_takeOff_42 ⟨Nat.le_of_ble_eq_true rfl, Nat.le_of_ble_eq_true rfl⟩) hP hD hS hA [0, 1] [] rfl rfl rfl (by decide) (fun u_10 H locs hwp hP hD hS => ?_)
          have hP : va_P D vwCl [(a_this, .inr (7, [.ref a_slots])), (a_slots, .inl (cI, 96, .inl u_10))] H := hP
          have hD : va_D A [(a_this, .inr (7, [.ref a_slots])), (a_slots, .inl (cI, 96, .inl u_10))] := hD
          refine lv_iinc (v := (x4_25 + (1 : Int32))) (lv' := [(4, .int (x4_25 + (1 : Int32))), (0, .ref a_this), (3, .int r_3)]) hx hb dX7_takeOff_45 hl (k := 2) rfl rfl (by decide) rfl (fun ls hl => ?_)
          refine lv_goto (tgt := 25) hx hb dX7_takeOff_48 (by decide) ?_
          have hl : lv_has ls 5 [(0, .ref a_this), (3, .int r_3), (4, .int (x4_25 + (1 : Int32)))] := lv_sub hl [1, 2, 0] rfl
          exact ih25 (x4_25 + (1 : Int32)) u_10 (Nat.lt_of_lt_of_le hwp.2 (Nat.le_of_lt_succ hμ25)) hwp.1 _ _ hP hD hS ls hl
    exact hL25 _ r_1 v_slots (Nat.lt_succ_self _) hJ _ _ hP hD hS ls hl
  · have hwp := hwp.1 hc
    exact hret v_slots [0, 1] dX7_takeOff_12 hwp rfl rfl hP hD hS
theorem ml_X7_putIn_0 : (.initialized RX8 : Cond) ∈ wsX7_putIn := List.mem_of_getElem? (i := 2) rfl
theorem ml_X7_putIn_1 : (.static yX8_slot : Cond) ∈ wsX7_putIn := List.mem_of_getElem? (i := 1) rfl
abbrev rm_X7_putIn : Room := { frames := 1, cells := 0, slots := 0, locals := 22 }
set_option maxHeartbeats 4000000 in
set_option maxRecDepth 100000 in
theorem c_X7_putIn (l : Launch) (D : va_G) (cI cC cF cO : ClassId) (a_this a_slots : Nat)  (sz : Nat) (x1 : Int32) (x2 : Int32) (x3 : Int32) (v_slots : Nat → Int32) (post : (Nat → Int32) → Prop) (hwp : wp_X7_putIn x1 x2 x3 v_slots post) : Met l yX7_putIn wsX7_putIn rm_X7_putIn (gPre D (gT cI cC cF cO) [.ref a_this, .int x1, .int x2, .int x3] [(a_this, .inr (7, [.ref a_slots])), (a_slots, .inl (cI, 96, .inl v_slots))] sz) (va_Qv (S := (Nat → Int32)) (fun (u : (Nat → Int32)) => post u) (gB D (gT cI cC cF cO) (fun (u : (Nat → Int32)) => [(a_this, .inr (7, [.ref a_slots])), (a_slots, .inl (cI, 96, .inl u))]) [(a_this, .inr (7, [.ref a_slots])), (a_slots, .inl (cI, 96, .inl v_slots))] sz) (va_A [(a_this, .inr (7, [.ref a_slots])), (a_slots, .inl (cI, 96, .inl v_slots))] sz)) 0 0 (va_A [(a_this, .inr (7, [.ref a_slots])), (a_slots, .inl (cI, 96, .inl v_slots))] sz) := by
  refine gOfv (own := RX7) (cc := cX7_putIn) (maxL := 6) (ret := none) rfl (by decide) rfl (Nat.le_of_ble_eq_true rfl) rfl ?_
  intro p e s m below meth c A args Q hAe hx hb hr hts hown hml hlocks hname hA hK hX hT hP hD hS hret ls hl
  have hl : lv_has ls 6 [(0, .ref a_this), (1, .int x1), (2, .int x2), (3, .int x3)] := hl
  unfold wp_X7_putIn at hwp
  refine lv_iload_n hx hb dX7_putIn_0 rfl (lv_at hl 2 rfl) ?_
  refine lv_iload_n hx hb dX7_putIn_1 rfl (lv_at hl 3 rfl) ?_
  refine gBacki (D := D) (tys := gT cI cC cF cO) (A := A) (wr := [(a_this, .inr (7, [.ref a_slots])), (a_slots, .inl (cI, 96, .inl v_slots))]) (w1 := (fun u_2 : Unit => [])) (va_runSN (host := "StoryWall") (As := [.int x2, .int x3]) (rest := []) ⟨hx, hb, hml, hown, hts⟩ (c_X8_slot l D cI cC cF cO  _ _ _ _ hwp) ⟨va_cnB 2 hts gX7_putIn_X8_slot_n25 rfl rfl rfl (hX.1 _ (List.mem_of_getElem? (i := 15) rfl)) (hts _ ml_X7_putIn_0) (by decide +kernel) ⟨Nat.le_of_ble_eq_true rfl, Nat.le_of_ble_eq_true rfl⟩, (hts _ ml_X7_putIn_1), trivial⟩ (gPreS hK hX hT hP hD hS hA [] rfl rfl) rfl rfl hl.1 rfl (lv_room (Nat.le_of_ble_eq_true rfl)) dX7_putIn_2 ⟨Nat.le_of_ble_eq_true rfl, Nat.le_of_ble_eq_true rfl⟩) hP hD hS hA [] [0, 1] rfl rfl rfl (by decide) (fun r_1 u_2 H locs hwp hP hD hS => ?_)
  have hP : va_P D vwCl [(a_this, .inr (7, [.ref a_slots])), (a_slots, .inl (cI, 96, .inl v_slots))] H := hP
  have hD : va_D A [(a_this, .inr (7, [.ref a_slots])), (a_slots, .inl (cI, 96, .inl v_slots))] := hD
  refine lv_istore (lv' := [(4, .int r_1), (0, .ref a_this), (1, .int x1), (2, .int x2), (3, .int x3)]) hx hb dX7_putIn_5 hl (by decide) rfl (fun ls hl => ?_)
  refine lv_iload_n hx hb dX7_putIn_7 rfl (lv_at hl 3 rfl) ?_
  refine lv_iconst (v := 5) hx hb dX7_putIn_8 (by decide) ?_
  refine gBacki (D := D) (tys := gT cI cC cF cO) (A := A) (wr := [(a_this, .inr (7, [.ref a_slots])), (a_slots, .inl (cI, 96, .inl v_slots))]) (w1 := (fun u_4 : Unit => [])) (va_runSN (host := "StoryWall") (As := [.int x2, .int (5 : Int32)]) (rest := []) ⟨hx, hb, hml, hown, hts⟩ (c_X8_slot l D cI cC cF cO  _ _ _ _ hwp) ⟨va_cnB 2 hts gX7_putIn_X8_slot_n25 rfl rfl rfl (hX.1 _ (List.mem_of_getElem? (i := 15) rfl)) (hts _ ml_X7_putIn_0) (by decide +kernel) ⟨Nat.le_of_ble_eq_true rfl, Nat.le_of_ble_eq_true rfl⟩, (hts _ ml_X7_putIn_1), trivial⟩ (gPreS hK hX hT hP hD hS hA [] rfl rfl) rfl rfl hl.1 rfl (lv_room (Nat.le_of_ble_eq_true rfl)) dX7_putIn_9 ⟨Nat.le_of_ble_eq_true rfl, Nat.le_of_ble_eq_true rfl⟩) hP hD hS hA [] [0, 1] rfl rfl rfl (by decide) (fun r_3 u_4 H locs hwp hP hD hS => ?_)
  have hP : va_P D vwCl [(a_this, .inr (7, [.ref a_slots])), (a_slots, .inl (cI, 96, .inl v_slots))] H := hP
  have hD : va_D A [(a_this, .inr (7, [.ref a_slots])), (a_slots, .inl (cI, 96, .inl v_slots))] := hD
  refine lv_istore (lv' := [(5, .int r_3), (4, .int r_1), (0, .ref a_this), (1, .int x1), (2, .int x2), (3, .int x3)]) hx hb dX7_putIn_12 hl (by decide) rfl (fun ls hl => ?_)
  have hl : lv_has ls 6 [(0, .ref a_this), (1, .int x1), (4, .int r_1), (5, .int r_3)] := lv_sub hl [2, 3, 1, 0] rfl
  unfold wp_X7_putIn_l14 at hwp
  obtain ⟨J14, μ14, hJ, hst14⟩ := hwp
  have hL14 : ∀ (n : Nat) (x5_14 : Int32) (v_slots_14 : Nat → Int32), μ14 x5_14 v_slots_14 < n → J14 x5_14 v_slots_14 → ∀ (H : Heap) (locs : List Loc), va_P D vwCl [(a_this, .inr (7, [.ref a_slots])), (a_slots, .inl (cI, 96, .inl v_slots_14))] H → va_D A [(a_this, .inr (7, [.ref a_slots])), (a_slots, .inl (cI, 96, .inl v_slots_14))] → va_S A s.heap H locs → ∀ ls : Array Slot, lv_has ls 6 [(0, .ref a_this), (1, .int x1), (4, .int r_1), (5, .int x5_14)] → W p l e rm_X7_putIn s m args below meth c H locs 0 0 Q (F0 m 14 ls []) := by
    intro n
    induction n with
    | zero => intro x5_14 v_slots_14 h; exact absurd h (Nat.not_lt_zero _)
    | succ n ih14 =>
      intro x5_14 v_slots_14 hμ14 hJ H locs hP hD hS ls hl
      have hwp := hst14 x5_14 v_slots_14 hJ
      refine lv_iload hx hb dX7_putIn_14 (lv_at hl 3 rfl) ?_
      refine lv_iload hx hb dX7_putIn_16 (lv_at hl 2 rfl) ?_
      refine lv_icmp_le (tgt := 41) hx hb dX7_putIn_18 (by decide) (fun hc => ?_) (fun hc => ?_)
      · have hwp := hwp.1 hc
        refine lv_aload_n hx hb dX7_putIn_41 rfl (lv_at hl 0 rfl) ?_
        refine lv_iload hx hb dX7_putIn_42 (lv_at hl 2 rfl) ?_
        refine lv_iload_n hx hb dX7_putIn_44 rfl (lv_at hl 1 rfl) ?_
        refine gBackv (D := D) (tys := gT cI cC cF cO) (A := A) (wr := []) (w1 := (fun u_6 : (Nat → Int32) => [(a_this, .inr (7, [.ref a_slots])), (a_slots, .inl (cI, 96, .inl u_6))])) (va_runV (As := [.int r_1, .int x1]) (rest := []) ⟨hx, hb, hml, hown, hts⟩ (c_X7_put l D cI cC cF cO a_this a_slots _ _ _ _ _ hwp) (cwV 2 hts gX7_putIn_X7_put rfl rfl rfl (by decide +kernel) ⟨Nat.le_of_ble_eq_true rfl, Nat.le_of_ble_eq_true rfl⟩) (gPreV (C := RX7) (T := TX7) (N := 1) (ci := 7) hK hX hT hP hD hS hA [0, 1] rfl rfl rfl (qb := 0) rfl) rfl rfl hl.1 rfl (lv_room (Nat.le_of_ble_eq_true rfl)) dX7_putIn_45 ⟨Nat.le_of_ble_eq_true rfl, Nat.le_of_ble_eq_true rfl⟩) hP hD hS hA [0, 1] [] rfl rfl rfl (by decide) (fun u_6 H locs hwp hP hD hS => ?_)
        have hP : va_P D vwCl [(a_this, .inr (7, [.ref a_slots])), (a_slots, .inl (cI, 96, .inl u_6))] H := hP
        have hD : va_D A [(a_this, .inr (7, [.ref a_slots])), (a_slots, .inl (cI, 96, .inl u_6))] := hD
        exact hret u_6 [0, 1] dX7_putIn_48 hwp rfl rfl hP hD hS
      · have hwp := hwp.2 hc
        refine lv_aload_n hx hb dX7_putIn_21 rfl (lv_at hl 0 rfl) ?_
        refine lv_iload hx hb dX7_putIn_22 (lv_at hl 3 rfl) ?_
        refine lv_aload_n hx hb dX7_putIn_24 rfl (lv_at hl 0 rfl) ?_
        refine lv_iload hx hb dX7_putIn_25 (lv_at hl 3 rfl) ?_
        refine lv_iconst (v := 1) hx hb dX7_putIn_27 (by decide) ?_
        refine lv_isub hx hb dX7_putIn_28 ?_
        refine gBacki (D := D) (tys := gT cI cC cF cO) (A := A) (wr := []) (w1 := (fun u_8 : Unit => [(a_this, .inr (7, [.ref a_slots])), (a_slots, .inl (cI, 96, .inl v_slots_14))])) (va_runV (As := [.int (x5_14 - (1 : Int32))]) (rest := [.int x5_14, .ref a_this]) ⟨hx, hb, hml, hown, hts⟩ (c_X7_cardAt l D cI cC cF cO a_this a_slots _ _ _ _ hwp) (cwV 1 hts gX7_putIn_X7_cardAt rfl rfl rfl (by decide +kernel) ⟨Nat.le_of_ble_eq_true rfl, Nat.le_of_ble_eq_true rfl⟩) (gPreV (C := RX7) (T := TX7) (N := 1) (ci := 7) hK hX hT hP hD hS hA [0, 1] rfl rfl rfl (qb := 0) rfl) rfl rfl hl.1 rfl (lv_room (Nat.le_of_ble_eq_true rfl)) dX7_putIn_29 ⟨Nat.le_of_ble_eq_true rfl, Nat.le_of_ble_eq_true rfl⟩) hP hD hS hA [0, 1] [] rfl rfl rfl (by decide) (fun r_7 u_8 H locs hwp hP hD hS => ?_)
        have hP : va_P D vwCl [(a_this, .inr (7, [.ref a_slots])), (a_slots, .inl (cI, 96, .inl v_slots_14))] H := hP
        have hD : va_D A [(a_this, .inr (7, [.ref a_slots])), (a_slots, .inl (cI, 96, .inl v_slots_14))] := hD
        refine gBackv (D := D) (tys := gT cI cC cF cO) (A := A) (wr := []) (w1 := (fun u_10 : (Nat → Int32) => [(a_this, .inr (7, [.ref a_slots])), (a_slots, .inl (cI, 96, .inl u_10))])) (va_runV (As := [.int x5_14, .int r_7]) (rest := []) ⟨hx, hb, hml, hown, hts⟩ (c_X7_put l D cI cC cF cO a_this a_slots _ _ _ _ _ hwp) (cwV 2 hts gX7_putIn_X7_put rfl rfl rfl (by decide +kernel) ⟨Nat.le_of_ble_eq_true rfl, Nat.le_of_ble_eq_true rfl⟩) (gPreV (C := RX7) (T := TX7) (N := 1) (ci := 7) hK hX hT hP hD hS hA [0, 1] rfl rfl rfl (qb := 0) rfl) rfl rfl hl.1 rfl (lv_room (Nat.le_of_ble_eq_true rfl)) dX7_putIn_32 ⟨Nat.le_of_ble_eq_true rfl, Nat.le_of_ble_eq_true rfl⟩) hP hD hS hA [0, 1] [] rfl rfl rfl (by decide) (fun u_10 H locs hwp hP hD hS => ?_)
        have hP : va_P D vwCl [(a_this, .inr (7, [.ref a_slots])), (a_slots, .inl (cI, 96, .inl u_10))] H := hP
        have hD : va_D A [(a_this, .inr (7, [.ref a_slots])), (a_slots, .inl (cI, 96, .inl u_10))] := hD
        refine lv_iinc (v := (x5_14 + (-1 : Int32))) (lv' := [(5, .int (x5_14 + (-1 : Int32))), (0, .ref a_this), (1, .int x1), (4, .int r_1)]) hx hb dX7_putIn_35 hl (k := 3) rfl rfl (by decide) rfl (fun ls hl => ?_)
        refine lv_goto (tgt := 14) hx hb dX7_putIn_38 (by decide) ?_
        have hl : lv_has ls 6 [(0, .ref a_this), (1, .int x1), (4, .int r_1), (5, .int (x5_14 + (-1 : Int32)))] := lv_sub hl [1, 2, 3, 0] rfl
        exact ih14 (x5_14 + (-1 : Int32)) u_10 (Nat.lt_of_lt_of_le hwp.2 (Nat.le_of_lt_succ hμ14)) hwp.1 _ _ hP hD hS ls hl
  exact hL14 _ r_3 v_slots (Nat.lt_succ_self _) hJ _ _ hP hD hS ls hl
abbrev rm_X7_exchange : Room := { frames := 1, cells := 0, slots := 0, locals := 22 }
set_option maxHeartbeats 4000000 in
set_option maxRecDepth 100000 in
theorem c_X7_exchange (l : Launch) (D : va_G) (cI cC cF cO : ClassId) (a_this a_slots : Nat)  (sz : Nat) (x1 : Int32) (x2 : Int32) (v_slots : Nat → Int32) (post : (Nat → Int32) → Prop) (hwp : wp_X7_exchange x1 x2 v_slots post) : Met l yX7_exchange wsX7_exchange rm_X7_exchange (gPre D (gT cI cC cF cO) [.ref a_this, .int x1, .int x2] [(a_this, .inr (7, [.ref a_slots])), (a_slots, .inl (cI, 96, .inl v_slots))] sz) (va_Qv (S := (Nat → Int32)) (fun (u : (Nat → Int32)) => post u) (gB D (gT cI cC cF cO) (fun (u : (Nat → Int32)) => [(a_this, .inr (7, [.ref a_slots])), (a_slots, .inl (cI, 96, .inl u))]) [(a_this, .inr (7, [.ref a_slots])), (a_slots, .inl (cI, 96, .inl v_slots))] sz) (va_A [(a_this, .inr (7, [.ref a_slots])), (a_slots, .inl (cI, 96, .inl v_slots))] sz)) 0 0 (va_A [(a_this, .inr (7, [.ref a_slots])), (a_slots, .inl (cI, 96, .inl v_slots))] sz) := by
  refine gOfv (own := RX7) (cc := cX7_exchange) (maxL := 4) (ret := none) rfl (by decide) rfl (Nat.le_of_ble_eq_true rfl) rfl ?_
  intro p e s m below meth c A args Q hAe hx hb hr hts hown hml hlocks hname hA hK hX hT hP hD hS hret ls hl
  have hl : lv_has ls 4 [(0, .ref a_this), (1, .int x1), (2, .int x2)] := hl
  unfold wp_X7_exchange at hwp
  refine lv_aload_n hx hb dX7_exchange_0 rfl (lv_at hl 0 rfl) ?_
  refine lv_iload_n hx hb dX7_exchange_1 rfl (lv_at hl 1 rfl) ?_
  refine gBacki (D := D) (tys := gT cI cC cF cO) (A := A) (wr := []) (w1 := (fun u_2 : Unit => [(a_this, .inr (7, [.ref a_slots])), (a_slots, .inl (cI, 96, .inl v_slots))])) (va_runV (As := [.int x1]) (rest := []) ⟨hx, hb, hml, hown, hts⟩ (c_X7_cardAt l D cI cC cF cO a_this a_slots _ _ _ _ hwp) (cwV 1 hts gX7_exchange_X7_cardAt rfl rfl rfl (by decide +kernel) ⟨Nat.le_of_ble_eq_true rfl, Nat.le_of_ble_eq_true rfl⟩) (gPreV (C := RX7) (T := TX7) (N := 1) (ci := 7) hK hX hT hP hD hS hA [0, 1] rfl rfl rfl (qb := 0) rfl) rfl rfl hl.1 rfl (lv_room (Nat.le_of_ble_eq_true rfl)) dX7_exchange_2 ⟨Nat.le_of_ble_eq_true rfl, Nat.le_of_ble_eq_true rfl⟩) hP hD hS hA [0, 1] [] rfl rfl rfl (by decide) (fun r_1 u_2 H locs hwp hP hD hS => ?_)
  have hP : va_P D vwCl [(a_this, .inr (7, [.ref a_slots])), (a_slots, .inl (cI, 96, .inl v_slots))] H := hP
  have hD : va_D A [(a_this, .inr (7, [.ref a_slots])), (a_slots, .inl (cI, 96, .inl v_slots))] := hD
  refine lv_istore_n (lv' := [(3, .int r_1), (0, .ref a_this), (1, .int x1), (2, .int x2)]) hx hb dX7_exchange_5 rfl hl (by decide) rfl (fun ls hl => ?_)
  refine lv_aload_n hx hb dX7_exchange_6 rfl (lv_at hl 1 rfl) ?_
  refine lv_iload_n hx hb dX7_exchange_7 rfl (lv_at hl 2 rfl) ?_
  refine lv_aload_n hx hb dX7_exchange_8 rfl (lv_at hl 1 rfl) ?_
  refine lv_iload_n hx hb dX7_exchange_9 rfl (lv_at hl 3 rfl) ?_
  refine gBacki (D := D) (tys := gT cI cC cF cO) (A := A) (wr := []) (w1 := (fun u_4 : Unit => [(a_this, .inr (7, [.ref a_slots])), (a_slots, .inl (cI, 96, .inl v_slots))])) (va_runV (As := [.int x2]) (rest := [.int x1, .ref a_this]) ⟨hx, hb, hml, hown, hts⟩ (c_X7_cardAt l D cI cC cF cO a_this a_slots _ _ _ _ hwp) (cwV 1 hts gX7_exchange_X7_cardAt rfl rfl rfl (by decide +kernel) ⟨Nat.le_of_ble_eq_true rfl, Nat.le_of_ble_eq_true rfl⟩) (gPreV (C := RX7) (T := TX7) (N := 1) (ci := 7) hK hX hT hP hD hS hA [0, 1] rfl rfl rfl (qb := 0) rfl) rfl rfl hl.1 rfl (lv_room (Nat.le_of_ble_eq_true rfl)) dX7_exchange_10 ⟨Nat.le_of_ble_eq_true rfl, Nat.le_of_ble_eq_true rfl⟩) hP hD hS hA [0, 1] [] rfl rfl rfl (by decide) (fun r_3 u_4 H locs hwp hP hD hS => ?_)
  have hP : va_P D vwCl [(a_this, .inr (7, [.ref a_slots])), (a_slots, .inl (cI, 96, .inl v_slots))] H := hP
  have hD : va_D A [(a_this, .inr (7, [.ref a_slots])), (a_slots, .inl (cI, 96, .inl v_slots))] := hD
  refine gBackv (D := D) (tys := gT cI cC cF cO) (A := A) (wr := []) (w1 := (fun u_6 : (Nat → Int32) => [(a_this, .inr (7, [.ref a_slots])), (a_slots, .inl (cI, 96, .inl u_6))])) (va_runV (As := [.int x1, .int r_3]) (rest := []) ⟨hx, hb, hml, hown, hts⟩ (c_X7_put l D cI cC cF cO a_this a_slots _ _ _ _ _ hwp) (cwV 2 hts gX7_exchange_X7_put rfl rfl rfl (by decide +kernel) ⟨Nat.le_of_ble_eq_true rfl, Nat.le_of_ble_eq_true rfl⟩) (gPreV (C := RX7) (T := TX7) (N := 1) (ci := 7) hK hX hT hP hD hS hA [0, 1] rfl rfl rfl (qb := 0) rfl) rfl rfl hl.1 rfl (lv_room (Nat.le_of_ble_eq_true rfl)) dX7_exchange_13 ⟨Nat.le_of_ble_eq_true rfl, Nat.le_of_ble_eq_true rfl⟩) hP hD hS hA [0, 1] [] rfl rfl rfl (by decide) (fun u_6 H locs hwp hP hD hS => ?_)
  have hP : va_P D vwCl [(a_this, .inr (7, [.ref a_slots])), (a_slots, .inl (cI, 96, .inl u_6))] H := hP
  have hD : va_D A [(a_this, .inr (7, [.ref a_slots])), (a_slots, .inl (cI, 96, .inl u_6))] := hD
  refine lv_aload_n hx hb dX7_exchange_16 rfl (lv_at hl 1 rfl) ?_
  refine lv_iload_n hx hb dX7_exchange_17 rfl (lv_at hl 3 rfl) ?_
  refine lv_iload_n hx hb dX7_exchange_18 rfl (lv_at hl 0 rfl) ?_
  refine gBackv (D := D) (tys := gT cI cC cF cO) (A := A) (wr := []) (w1 := (fun u_8 : (Nat → Int32) => [(a_this, .inr (7, [.ref a_slots])), (a_slots, .inl (cI, 96, .inl u_8))])) (va_runV (As := [.int x2, .int r_1]) (rest := []) ⟨hx, hb, hml, hown, hts⟩ (c_X7_put l D cI cC cF cO a_this a_slots _ _ _ _ _ hwp) (cwV 2 hts gX7_exchange_X7_put rfl rfl rfl (by decide +kernel) ⟨Nat.le_of_ble_eq_true rfl, Nat.le_of_ble_eq_true rfl⟩) (gPreV (C := RX7) (T := TX7) (N := 1) (ci := 7) hK hX hT hP hD hS hA [0, 1] rfl rfl rfl (qb := 0) rfl) rfl rfl hl.1 rfl (lv_room (Nat.le_of_ble_eq_true rfl)) dX7_exchange_19 ⟨Nat.le_of_ble_eq_true rfl, Nat.le_of_ble_eq_true rfl⟩) hP hD hS hA [0, 1] [] rfl rfl rfl (by decide) (fun u_8 H locs hwp hP hD hS => ?_)
  have hP : va_P D vwCl [(a_this, .inr (7, [.ref a_slots])), (a_slots, .inl (cI, 96, .inl u_8))] H := hP
  have hD : va_D A [(a_this, .inr (7, [.ref a_slots])), (a_slots, .inl (cI, 96, .inl u_8))] := hD
  exact hret u_8 [0, 1] dX7_exchange_22 hwp rfl rfl hP hD hS
theorem ml_X7_exchangeScenes_0 : (.initialized RX8 : Cond) ∈ wsX7_exchangeScenes := List.mem_of_getElem? (i := 2) rfl
theorem ml_X7_exchangeScenes_1 : (.static yX8_slot : Cond) ∈ wsX7_exchangeScenes := List.mem_of_getElem? (i := 1) rfl
abbrev rm_X7_exchangeScenes : Room := { frames := 2, cells := 0, slots := 0, locals := 45 }
set_option maxHeartbeats 4000000 in
set_option maxRecDepth 100000 in
theorem c_X7_exchangeScenes (l : Launch) (D : va_G) (cI cC cF cO : ClassId) (a_this a_slots : Nat)  (sz : Nat) (x1 : Int32) (x2 : Int32) (v_slots : Nat → Int32) (post : (Nat → Int32) → Prop) (hwp : wp_X7_exchangeScenes x1 x2 v_slots post) : Met l yX7_exchangeScenes wsX7_exchangeScenes rm_X7_exchangeScenes (gPre D (gT cI cC cF cO) [.ref a_this, .int x1, .int x2] [(a_this, .inr (7, [.ref a_slots])), (a_slots, .inl (cI, 96, .inl v_slots))] sz) (va_Qv (S := (Nat → Int32)) (fun (u : (Nat → Int32)) => post u) (gB D (gT cI cC cF cO) (fun (u : (Nat → Int32)) => [(a_this, .inr (7, [.ref a_slots])), (a_slots, .inl (cI, 96, .inl u))]) [(a_this, .inr (7, [.ref a_slots])), (a_slots, .inl (cI, 96, .inl v_slots))] sz) (va_A [(a_this, .inr (7, [.ref a_slots])), (a_slots, .inl (cI, 96, .inl v_slots))] sz)) 0 0 (va_A [(a_this, .inr (7, [.ref a_slots])), (a_slots, .inl (cI, 96, .inl v_slots))] sz) := by
  refine gOfv (own := RX7) (cc := cX7_exchangeScenes) (maxL := 4) (ret := none) rfl (by decide) rfl (Nat.le_of_ble_eq_true rfl) rfl ?_
  intro p e s m below meth c A args Q hAe hx hb hr hts hown hml hlocks hname hA hK hX hT hP hD hS hret ls hl
  have hl : lv_has ls 4 [(0, .ref a_this), (1, .int x1), (2, .int x2)] := hl
  unfold wp_X7_exchangeScenes at hwp
  refine lv_iconst (v := 0) hx hb dX7_exchangeScenes_0 (by decide) ?_
  refine lv_istore_n (lv' := [(3, .int (0 : Int32)), (0, .ref a_this), (1, .int x1), (2, .int x2)]) hx hb dX7_exchangeScenes_1 rfl hl (by decide) rfl (fun ls hl => ?_)
  have hl : lv_has ls 4 [(0, .ref a_this), (1, .int x1), (2, .int x2), (3, .int (0 : Int32))] := lv_sub hl [1, 2, 3, 0] rfl
  unfold wp_X7_exchangeScenes_l2 at hwp
  obtain ⟨J2, μ2, hJ, hst2⟩ := hwp
  have hL2 : ∀ (n : Nat) (x3_2 : Int32) (v_slots_2 : Nat → Int32), μ2 x3_2 v_slots_2 < n → J2 x3_2 v_slots_2 → ∀ (H : Heap) (locs : List Loc), va_P D vwCl [(a_this, .inr (7, [.ref a_slots])), (a_slots, .inl (cI, 96, .inl v_slots_2))] H → va_D A [(a_this, .inr (7, [.ref a_slots])), (a_slots, .inl (cI, 96, .inl v_slots_2))] → va_S A s.heap H locs → ∀ ls : Array Slot, lv_has ls 4 [(0, .ref a_this), (1, .int x1), (2, .int x2), (3, .int x3_2)] → W p l e rm_X7_exchangeScenes s m args below meth c H locs 0 0 Q (F0 m 2 ls []) := by
    intro n
    induction n with
    | zero => intro x3_2 v_slots_2 h; exact absurd h (Nat.not_lt_zero _)
    | succ n ih2 =>
      intro x3_2 v_slots_2 hμ2 hJ H locs hP hD hS ls hl
      have hwp := hst2 x3_2 v_slots_2 hJ
      refine lv_iload_n hx hb dX7_exchangeScenes_2 rfl (lv_at hl 3 rfl) ?_
      refine lv_bipush (v := 6) hx hb dX7_exchangeScenes_3 (by decide) ?_
      refine lv_icmp_ge (tgt := 28) hx hb dX7_exchangeScenes_5 (by decide) (fun hc => ?_) (fun hc => ?_)
      · have hwp := hwp.1 hc
        exact hret v_slots_2 [0, 1] dX7_exchangeScenes_28 hwp rfl rfl hP hD hS
      · have hwp := hwp.2 hc
        refine lv_aload_n hx hb dX7_exchangeScenes_8 rfl (lv_at hl 0 rfl) ?_
        refine lv_iload_n hx hb dX7_exchangeScenes_9 rfl (lv_at hl 1 rfl) ?_
        refine lv_iload_n hx hb dX7_exchangeScenes_10 rfl (lv_at hl 3 rfl) ?_
        refine gBacki (D := D) (tys := gT cI cC cF cO) (A := A) (wr := [(a_this, .inr (7, [.ref a_slots])), (a_slots, .inl (cI, 96, .inl v_slots_2))]) (w1 := (fun u_2 : Unit => [])) (va_runSN (host := "StoryWall") (As := [.int x1, .int x3_2]) (rest := [.ref a_this]) ⟨hx, hb, hml, hown, hts⟩ (c_X8_slot l D cI cC cF cO  _ _ _ _ hwp) ⟨va_cnB 2 hts gX7_exchangeScenes_X8_slot_n25 rfl rfl rfl (hX.1 _ (List.mem_of_getElem? (i := 15) rfl)) (hts _ ml_X7_exchangeScenes_0) (by decide +kernel) ⟨Nat.le_of_ble_eq_true rfl, Nat.le_of_ble_eq_true rfl⟩, (hts _ ml_X7_exchangeScenes_1), trivial⟩ (gPreS hK hX hT hP hD hS hA [] rfl rfl) rfl rfl hl.1 rfl (lv_room (Nat.le_of_ble_eq_true rfl)) dX7_exchangeScenes_11 ⟨Nat.le_of_ble_eq_true rfl, Nat.le_of_ble_eq_true rfl⟩) hP hD hS hA [] [0, 1] rfl rfl rfl (by decide) (fun r_1 u_2 H locs hwp hP hD hS => ?_)
        have hP : va_P D vwCl [(a_this, .inr (7, [.ref a_slots])), (a_slots, .inl (cI, 96, .inl v_slots_2))] H := hP
        have hD : va_D A [(a_this, .inr (7, [.ref a_slots])), (a_slots, .inl (cI, 96, .inl v_slots_2))] := hD
        refine lv_iload_n hx hb dX7_exchangeScenes_14 rfl (lv_at hl 2 rfl) ?_
        refine lv_iload_n hx hb dX7_exchangeScenes_15 rfl (lv_at hl 3 rfl) ?_
        refine gBacki (D := D) (tys := gT cI cC cF cO) (A := A) (wr := [(a_this, .inr (7, [.ref a_slots])), (a_slots, .inl (cI, 96, .inl v_slots_2))]) (w1 := (fun u_4 : Unit => [])) (va_runSN (host := "StoryWall") (As := [.int x2, .int x3_2]) (rest := [.int r_1, .ref a_this]) ⟨hx, hb, hml, hown, hts⟩ (c_X8_slot l D cI cC cF cO  _ _ _ _ hwp) ⟨va_cnB 2 hts gX7_exchangeScenes_X8_slot_n25 rfl rfl rfl (hX.1 _ (List.mem_of_getElem? (i := 15) rfl)) (hts _ ml_X7_exchangeScenes_0) (by decide +kernel) ⟨Nat.le_of_ble_eq_true rfl, Nat.le_of_ble_eq_true rfl⟩, (hts _ ml_X7_exchangeScenes_1), trivial⟩ (gPreS hK hX hT hP hD hS hA [] rfl rfl) rfl rfl hl.1 rfl (lv_room (Nat.le_of_ble_eq_true rfl)) dX7_exchangeScenes_16 ⟨Nat.le_of_ble_eq_true rfl, Nat.le_of_ble_eq_true rfl⟩) hP hD hS hA [] [0, 1] rfl rfl rfl (by decide) (fun r_3 u_4 H locs hwp hP hD hS => ?_)
        have hP : va_P D vwCl [(a_this, .inr (7, [.ref a_slots])), (a_slots, .inl (cI, 96, .inl v_slots_2))] H := hP
        have hD : va_D A [(a_this, .inr (7, [.ref a_slots])), (a_slots, .inl (cI, 96, .inl v_slots_2))] := hD
        refine gBackv (D := D) (tys := gT cI cC cF cO) (A := A) (wr := []) (w1 := (fun u_6 : (Nat → Int32) => [(a_this, .inr (7, [.ref a_slots])), (a_slots, .inl (cI, 96, .inl u_6))])) (va_runV (As := [.int r_1, .int r_3]) (rest := []) ⟨hx, hb, hml, hown, hts⟩ (c_X7_exchange l D cI cC cF cO a_this a_slots _ _ _ _ _ hwp) (cwV 2 hts gX7_exchangeScenes_X7_exchange rfl rfl rfl (by decide +kernel) ⟨Nat.le_of_ble_eq_true rfl, Nat.le_of_ble_eq_true rfl⟩) (gPreV (C := RX7) (T := TX7) (N := 1) (ci := 7) hK hX hT hP hD hS hA [0, 1] rfl rfl rfl (qb := 0) rfl) rfl rfl hl.1 rfl (lv_room (Nat.le_of_ble_eq_true rfl)) dX7_exchangeScenes_19 ⟨Nat.le_of_ble_eq_true rfl, Nat.le_of_ble_eq_true rfl⟩) hP hD hS hA [0, 1] [] rfl rfl rfl (by decide) (fun u_6 H locs hwp hP hD hS => ?_)
        have hP : va_P D vwCl [(a_this, .inr (7, [.ref a_slots])), (a_slots, .inl (cI, 96, .inl u_6))] H := hP
        have hD : va_D A [(a_this, .inr (7, [.ref a_slots])), (a_slots, .inl (cI, 96, .inl u_6))] := hD
        refine lv_iinc (v := (x3_2 + (1 : Int32))) (lv' := [(3, .int (x3_2 + (1 : Int32))), (0, .ref a_this), (1, .int x1), (2, .int x2)]) hx hb dX7_exchangeScenes_22 hl (k := 3) rfl rfl (by decide) rfl (fun ls hl => ?_)
        refine lv_goto (tgt := 2) hx hb dX7_exchangeScenes_25 (by decide) ?_
        have hl : lv_has ls 4 [(0, .ref a_this), (1, .int x1), (2, .int x2), (3, .int (x3_2 + (1 : Int32)))] := lv_sub hl [1, 2, 3, 0] rfl
        exact ih2 (x3_2 + (1 : Int32)) u_6 (Nat.lt_of_lt_of_le hwp.2 (Nat.le_of_lt_succ hμ2)) hwp.1 _ _ hP hD hS ls hl
  exact hL2 _ (0 : Int32) v_slots (Nat.lt_succ_self _) hJ _ _ hP hD hS ls hl
abbrev rm_X7_scenesWithCards : Room := { frames := 3, cells := 0, slots := 0, locals := 66 }
set_option maxHeartbeats 4000000 in
set_option maxRecDepth 100000 in
theorem c_X7_scenesWithCards (l : Launch) (D : va_G) (cI cC cF cO : ClassId) (a_this a_slots : Nat)  (sz : Nat)  (v_slots : Nat → Int32) (post : Int32 → Prop) (hwp : wp_X7_scenesWithCards v_slots post) : Met l yX7_scenesWithCards wsX7_scenesWithCards rm_X7_scenesWithCards (gPre D (gT cI cC cF cO) [.ref a_this] [(a_this, .inr (7, [.ref a_slots])), (a_slots, .inl (cI, 96, .inl v_slots))] sz) (va_Qi (S := Unit) (fun (r : Int32) (u : Unit) => post r ) (gB D (gT cI cC cF cO) (fun (u : Unit) => [(a_this, .inr (7, [.ref a_slots])), (a_slots, .inl (cI, 96, .inl v_slots))]) [(a_this, .inr (7, [.ref a_slots])), (a_slots, .inl (cI, 96, .inl v_slots))] sz) (va_A [(a_this, .inr (7, [.ref a_slots])), (a_slots, .inl (cI, 96, .inl v_slots))] sz)) 0 0 (va_A [(a_this, .inr (7, [.ref a_slots])), (a_slots, .inl (cI, 96, .inl v_slots))] sz) := by
  refine gOfi (own := RX7) (cc := cX7_scenesWithCards) (maxL := 3) (ret := (some .int)) rfl (by decide) rfl (Nat.le_of_ble_eq_true rfl) rfl ?_
  intro p e s m below meth c A args Q hAe hx hb hr hts hown hml hlocks hname hA hK hX hT hP hD hS hret ls hl
  have hl : lv_has ls 3 [(0, .ref a_this)] := hl
  unfold wp_X7_scenesWithCards at hwp
  refine lv_iconst (v := 0) hx hb dX7_scenesWithCards_0 (by decide) ?_
  refine lv_istore_n (lv' := [(1, .int (0 : Int32)), (0, .ref a_this)]) hx hb dX7_scenesWithCards_1 rfl hl (by decide) rfl (fun ls hl => ?_)
  refine lv_iconst (v := 0) hx hb dX7_scenesWithCards_2 (by decide) ?_
  refine lv_istore_n (lv' := [(2, .int (0 : Int32)), (1, .int (0 : Int32)), (0, .ref a_this)]) hx hb dX7_scenesWithCards_3 rfl hl (by decide) rfl (fun ls hl => ?_)
  have hl : lv_has ls 3 [(0, .ref a_this), (1, .int (0 : Int32)), (2, .int (0 : Int32))] := lv_sub hl [2, 1, 0] rfl
  unfold wp_X7_scenesWithCards_l4 at hwp
  obtain ⟨J4, μ4, hJ, hst4⟩ := hwp
  have hL4 : ∀ (n : Nat) (x1_4 : Int32) (x2_4 : Int32), μ4 x1_4 x2_4 < n → J4 x1_4 x2_4 → ∀ (H : Heap) (locs : List Loc), va_P D vwCl [(a_this, .inr (7, [.ref a_slots])), (a_slots, .inl (cI, 96, .inl v_slots))] H → va_D A [(a_this, .inr (7, [.ref a_slots])), (a_slots, .inl (cI, 96, .inl v_slots))] → va_S A s.heap H locs → ∀ ls : Array Slot, lv_has ls 3 [(0, .ref a_this), (1, .int x1_4), (2, .int x2_4)] → W p l e rm_X7_scenesWithCards s m args below meth c H locs 0 0 Q (F0 m 4 ls []) := by
    intro n
    induction n with
    | zero => intro x1_4 x2_4 h; exact absurd h (Nat.not_lt_zero _)
    | succ n ih4 =>
      intro x1_4 x2_4 hμ4 hJ H locs hP hD hS ls hl
      have hwp := hst4 x1_4 x2_4 hJ
      refine lv_iload_n hx hb dX7_scenesWithCards_4 rfl (lv_at hl 2 rfl) ?_
      refine lv_bipush (v := 16) hx hb dX7_scenesWithCards_5 (by decide) ?_
      refine lv_icmp_ge (tgt := 27) hx hb dX7_scenesWithCards_7 (by decide) (fun hc => ?_) (fun hc => ?_)
      · have hwp := hwp.1 hc
        refine lv_iload_n hx hb dX7_scenesWithCards_27 rfl (lv_at hl 1 rfl) ?_
        exact hret () [0, 1] dX7_scenesWithCards_28 hwp rfl rfl hP hD hS
      · have hwp := hwp.2 hc
        refine lv_aload_n hx hb dX7_scenesWithCards_10 rfl (lv_at hl 0 rfl) ?_
        refine lv_iload_n hx hb dX7_scenesWithCards_11 rfl (lv_at hl 2 rfl) ?_
        refine gBacki (D := D) (tys := gT cI cC cF cO) (A := A) (wr := []) (w1 := (fun u_2 : Unit => [(a_this, .inr (7, [.ref a_slots])), (a_slots, .inl (cI, 96, .inl v_slots))])) (va_runV (As := [.int x2_4]) (rest := []) ⟨hx, hb, hml, hown, hts⟩ (c_X7_sizeOf l D cI cC cF cO a_this a_slots _ _ _ _ hwp) (cwV 1 hts gX7_scenesWithCards_X7_sizeOf rfl rfl rfl (by decide +kernel) ⟨Nat.le_of_ble_eq_true rfl, Nat.le_of_ble_eq_true rfl⟩) (gPreV (C := RX7) (T := TX7) (N := 1) (ci := 7) hK hX hT hP hD hS hA [0, 1] rfl rfl rfl (qb := 0) rfl) rfl rfl hl.1 rfl (lv_room (Nat.le_of_ble_eq_true rfl)) dX7_scenesWithCards_12 ⟨Nat.le_of_ble_eq_true rfl, Nat.le_of_ble_eq_true rfl⟩) hP hD hS hA [0, 1] [] rfl rfl rfl (by decide) (fun r_1 u_2 H locs hwp hP hD hS => ?_)
        have hP : va_P D vwCl [(a_this, .inr (7, [.ref a_slots])), (a_slots, .inl (cI, 96, .inl v_slots))] H := hP
        have hD : va_D A [(a_this, .inr (7, [.ref a_slots])), (a_slots, .inl (cI, 96, .inl v_slots))] := hD
        refine lv_if_le (tgt := 21) hx hb dX7_scenesWithCards_15 (by decide) (fun hc => ?_) (fun hc => ?_)
        · have hwp := hwp.1 hc
          refine lv_iinc (v := (x2_4 + (1 : Int32))) (lv' := [(2, .int (x2_4 + (1 : Int32))), (0, .ref a_this), (1, .int x1_4)]) hx hb dX7_scenesWithCards_21 hl (k := 2) rfl rfl (by decide) rfl (fun ls hl => ?_)
          refine lv_goto (tgt := 4) hx hb dX7_scenesWithCards_24 (by decide) ?_
          have hl : lv_has ls 3 [(0, .ref a_this), (1, .int x1_4), (2, .int (x2_4 + (1 : Int32)))] := lv_sub hl [1, 2, 0] rfl
          exact ih4 x1_4 (x2_4 + (1 : Int32)) (Nat.lt_of_lt_of_le hwp.2 (Nat.le_of_lt_succ hμ4)) hwp.1 _ _ hP hD hS ls hl
        · have hwp := hwp.2 hc
          refine lv_iinc (v := (x1_4 + (1 : Int32))) (lv' := [(1, .int (x1_4 + (1 : Int32))), (0, .ref a_this), (2, .int x2_4)]) hx hb dX7_scenesWithCards_18 hl (k := 1) rfl rfl (by decide) rfl (fun ls hl => ?_)
          refine lv_iinc (v := (x2_4 + (1 : Int32))) (lv' := [(2, .int (x2_4 + (1 : Int32))), (1, .int (x1_4 + (1 : Int32))), (0, .ref a_this)]) hx hb dX7_scenesWithCards_21 hl (k := 2) rfl rfl (by decide) rfl (fun ls hl => ?_)
          refine lv_goto (tgt := 4) hx hb dX7_scenesWithCards_24 (by decide) ?_
          have hl : lv_has ls 3 [(0, .ref a_this), (1, .int (x1_4 + (1 : Int32))), (2, .int (x2_4 + (1 : Int32)))] := lv_sub hl [2, 1, 0] rfl
          exact ih4 (x1_4 + (1 : Int32)) (x2_4 + (1 : Int32)) (Nat.lt_of_lt_of_le hwp.2 (Nat.le_of_lt_succ hμ4)) hwp.1 _ _ hP hD hS ls hl
  exact hL4 _ (0 : Int32) (0 : Int32) (Nat.lt_succ_self _) hJ _ _ hP hD hS ls hl
abbrev rm_X7_hasCards : Room := { frames := 3, cells := 0, slots := 0, locals := 66 }
set_option maxHeartbeats 4000000 in
set_option maxRecDepth 100000 in
theorem c_X7_hasCards (l : Launch) (D : va_G) (cI cC cF cO : ClassId) (a_this a_slots : Nat)  (sz : Nat) (x1 : Int32) (x2 : Int32) (v_slots : Nat → Int32) (post : Int32 → Prop) (hwp : wp_X7_hasCards x1 x2 v_slots post) : Met l yX7_hasCards wsX7_hasCards rm_X7_hasCards (gPre D (gT cI cC cF cO) [.ref a_this, .int x1, .int x2] [(a_this, .inr (7, [.ref a_slots])), (a_slots, .inl (cI, 96, .inl v_slots))] sz) (va_Qi (S := Unit) (fun (r : Int32) (u : Unit) => post r ) (gB D (gT cI cC cF cO) (fun (u : Unit) => [(a_this, .inr (7, [.ref a_slots])), (a_slots, .inl (cI, 96, .inl v_slots))]) [(a_this, .inr (7, [.ref a_slots])), (a_slots, .inl (cI, 96, .inl v_slots))] sz) (va_A [(a_this, .inr (7, [.ref a_slots])), (a_slots, .inl (cI, 96, .inl v_slots))] sz)) 0 0 (va_A [(a_this, .inr (7, [.ref a_slots])), (a_slots, .inl (cI, 96, .inl v_slots))] sz) := by
  refine gOfz (own := RX7) (cc := cX7_hasCards) (maxL := 4) (ret := (some .boolean)) rfl (by decide) rfl (Nat.le_of_ble_eq_true rfl) rfl ?_
  intro p e s m below meth c A args Q hAe hx hb hr hts hown hml hlocks hname hA hK hX hT hP hD hS hret ls hl
  have hl : lv_has ls 4 [(0, .ref a_this), (1, .int x1), (2, .int x2)] := hl
  unfold wp_X7_hasCards at hwp
  refine lv_iload_n hx hb dX7_hasCards_0 rfl (lv_at hl 1 rfl) ?_
  refine lv_istore_n (lv' := [(3, .int x1), (0, .ref a_this), (1, .int x1), (2, .int x2)]) hx hb dX7_hasCards_1 rfl hl (by decide) rfl (fun ls hl => ?_)
  have hl : lv_has ls 4 [(0, .ref a_this), (2, .int x2), (3, .int x1)] := lv_sub hl [1, 3, 0] rfl
  unfold wp_X7_hasCards_l2 at hwp
  obtain ⟨J2, μ2, hJ, hst2⟩ := hwp
  have hL2 : ∀ (n : Nat) (x3_2 : Int32), μ2 x3_2 < n → J2 x3_2 → ∀ (H : Heap) (locs : List Loc), va_P D vwCl [(a_this, .inr (7, [.ref a_slots])), (a_slots, .inl (cI, 96, .inl v_slots))] H → va_D A [(a_this, .inr (7, [.ref a_slots])), (a_slots, .inl (cI, 96, .inl v_slots))] → va_S A s.heap H locs → ∀ ls : Array Slot, lv_has ls 4 [(0, .ref a_this), (2, .int x2), (3, .int x3_2)] → W p l e rm_X7_hasCards s m args below meth c H locs 0 0 Q (F0 m 2 ls []) := by
    intro n
    induction n with
    | zero => intro x3_2 h; exact absurd h (Nat.not_lt_zero _)
    | succ n ih2 =>
      intro x3_2 hμ2 hJ H locs hP hD hS ls hl
      have hwp := hst2 x3_2 hJ
      refine lv_iload_n hx hb dX7_hasCards_2 rfl (lv_at hl 2 rfl) ?_
      refine lv_iload_n hx hb dX7_hasCards_3 rfl (lv_at hl 1 rfl) ?_
      refine lv_icmp_ge (tgt := 29) hx hb dX7_hasCards_4 (by decide) (fun hc => ?_) (fun hc => ?_)
      · have hwp := hwp.1 hc
        refine lv_iconst (v := 0) hx hb dX7_hasCards_29 (by decide) ?_
        exact hret () [0, 1] dX7_hasCards_30 (Or.inl rfl) hwp rfl rfl hP hD hS
      · have hwp := hwp.2 hc
        refine lv_iload_n hx hb dX7_hasCards_7 rfl (lv_at hl 2 rfl) ?_
        refine lv_bipush (v := 16) hx hb dX7_hasCards_8 (by decide) ?_
        refine lv_icmp_ge (tgt := 29) hx hb dX7_hasCards_10 (by decide) (fun hc => ?_) (fun hc => ?_)
        · have hwp := hwp.1 hc
          refine lv_iconst (v := 0) hx hb dX7_hasCards_29 (by decide) ?_
          exact hret () [0, 1] dX7_hasCards_30 (Or.inl rfl) hwp rfl rfl hP hD hS
        · have hwp := hwp.2 hc
          refine lv_aload_n hx hb dX7_hasCards_13 rfl (lv_at hl 0 rfl) ?_
          refine lv_iload_n hx hb dX7_hasCards_14 rfl (lv_at hl 2 rfl) ?_
          refine gBacki (D := D) (tys := gT cI cC cF cO) (A := A) (wr := []) (w1 := (fun u_2 : Unit => [(a_this, .inr (7, [.ref a_slots])), (a_slots, .inl (cI, 96, .inl v_slots))])) (va_runV (As := [.int x3_2]) (rest := []) ⟨hx, hb, hml, hown, hts⟩ (c_X7_sizeOf l D cI cC cF cO a_this a_slots _ _ _ _ hwp) (cwV 1 hts gX7_hasCards_X7_sizeOf rfl rfl rfl (by decide +kernel) ⟨Nat.le_of_ble_eq_true rfl, Nat.le_of_ble_eq_true rfl⟩) (gPreV (C := RX7) (T := TX7) (N := 1) (ci := 7) hK hX hT hP hD hS hA [0, 1] rfl rfl rfl (qb := 0) rfl) rfl rfl hl.1 rfl (lv_room (Nat.le_of_ble_eq_true rfl)) dX7_hasCards_15 ⟨Nat.le_of_ble_eq_true rfl, Nat.le_of_ble_eq_true rfl⟩) hP hD hS hA [0, 1] [] rfl rfl rfl (by decide) (fun r_1 u_2 H locs hwp hP hD hS => ?_)
          have hP : va_P D vwCl [(a_this, .inr (7, [.ref a_slots])), (a_slots, .inl (cI, 96, .inl v_slots))] H := hP
          have hD : va_D A [(a_this, .inr (7, [.ref a_slots])), (a_slots, .inl (cI, 96, .inl v_slots))] := hD
          refine lv_if_le (tgt := 23) hx hb dX7_hasCards_18 (by decide) (fun hc => ?_) (fun hc => ?_)
          · have hwp := hwp.1 hc
            refine lv_iinc (v := (x3_2 + (1 : Int32))) (lv' := [(3, .int (x3_2 + (1 : Int32))), (0, .ref a_this), (2, .int x2)]) hx hb dX7_hasCards_23 hl (k := 2) rfl rfl (by decide) rfl (fun ls hl => ?_)
            refine lv_goto (tgt := 2) hx hb dX7_hasCards_26 (by decide) ?_
            have hl : lv_has ls 4 [(0, .ref a_this), (2, .int x2), (3, .int (x3_2 + (1 : Int32)))] := lv_sub hl [1, 2, 0] rfl
            exact ih2 (x3_2 + (1 : Int32)) (Nat.lt_of_lt_of_le hwp.2 (Nat.le_of_lt_succ hμ2)) hwp.1 _ _ hP hD hS ls hl
          · have hwp := hwp.2 hc
            refine lv_iconst (v := 1) hx hb dX7_hasCards_21 (by decide) ?_
            exact hret () [0, 1] dX7_hasCards_22 (Or.inr rfl) hwp rfl rfl hP hD hS
  exact hL2 _ x1 (Nat.lt_succ_self _) hJ _ _ hP hD hS ls hl
abbrev rm_X7_isHole : Room := { frames := 4, cells := 0, slots := 0, locals := 89 }
set_option maxHeartbeats 4000000 in
set_option maxRecDepth 100000 in
theorem c_X7_isHole (l : Launch) (D : va_G) (cI cC cF cO : ClassId) (a_this a_slots : Nat)  (sz : Nat) (x1 : Int32) (v_slots : Nat → Int32) (post : Int32 → Prop) (hwp : wp_X7_isHole x1 v_slots post) : Met l yX7_isHole wsX7_isHole rm_X7_isHole (gPre D (gT cI cC cF cO) [.ref a_this, .int x1] [(a_this, .inr (7, [.ref a_slots])), (a_slots, .inl (cI, 96, .inl v_slots))] sz) (va_Qi (S := Unit) (fun (r : Int32) (u : Unit) => post r ) (gB D (gT cI cC cF cO) (fun (u : Unit) => [(a_this, .inr (7, [.ref a_slots])), (a_slots, .inl (cI, 96, .inl v_slots))]) [(a_this, .inr (7, [.ref a_slots])), (a_slots, .inl (cI, 96, .inl v_slots))] sz) (va_A [(a_this, .inr (7, [.ref a_slots])), (a_slots, .inl (cI, 96, .inl v_slots))] sz)) 0 0 (va_A [(a_this, .inr (7, [.ref a_slots])), (a_slots, .inl (cI, 96, .inl v_slots))] sz) := by
  refine gOfz (own := RX7) (cc := cX7_isHole) (maxL := 2) (ret := (some .boolean)) rfl (by decide) rfl (Nat.le_of_ble_eq_true rfl) rfl ?_
  intro p e s m below meth c A args Q hAe hx hb hr hts hown hml hlocks hname hA hK hX hT hP hD hS hret ls hl
  have hl : lv_has ls 2 [(0, .ref a_this), (1, .int x1)] := hl
  unfold wp_X7_isHole at hwp
  refine lv_aload_n hx hb dX7_isHole_0 rfl (lv_at hl 0 rfl) ?_
  refine lv_iload_n hx hb dX7_isHole_1 rfl (lv_at hl 1 rfl) ?_
  refine gBacki (D := D) (tys := gT cI cC cF cO) (A := A) (wr := []) (w1 := (fun u_2 : Unit => [(a_this, .inr (7, [.ref a_slots])), (a_slots, .inl (cI, 96, .inl v_slots))])) (va_runV (As := [.int x1]) (rest := []) ⟨hx, hb, hml, hown, hts⟩ (c_X7_sizeOf l D cI cC cF cO a_this a_slots _ _ _ _ hwp) (cwV 1 hts gX7_isHole_X7_sizeOf rfl rfl rfl (by decide +kernel) ⟨Nat.le_of_ble_eq_true rfl, Nat.le_of_ble_eq_true rfl⟩) (gPreV (C := RX7) (T := TX7) (N := 1) (ci := 7) hK hX hT hP hD hS hA [0, 1] rfl rfl rfl (qb := 0) rfl) rfl rfl hl.1 rfl (lv_room (Nat.le_of_ble_eq_true rfl)) dX7_isHole_2 ⟨Nat.le_of_ble_eq_true rfl, Nat.le_of_ble_eq_true rfl⟩) hP hD hS hA [0, 1] [] rfl rfl rfl (by decide) (fun r_1 u_2 H locs hwp hP hD hS => ?_)
  have hP : va_P D vwCl [(a_this, .inr (7, [.ref a_slots])), (a_slots, .inl (cI, 96, .inl v_slots))] H := hP
  have hD : va_D A [(a_this, .inr (7, [.ref a_slots])), (a_slots, .inl (cI, 96, .inl v_slots))] := hD
  refine lv_if_ne (tgt := 33) hx hb dX7_isHole_5 (by decide) (fun hc => ?_) (fun hc => ?_)
  · have hwp := hwp.2 hc
    refine lv_iconst (v := 0) hx hb dX7_isHole_33 (by decide) ?_
    exact hret () [0, 1] dX7_isHole_34 (Or.inl rfl) hwp rfl rfl hP hD hS
  · have hwp := hwp.1 hc
    refine lv_aload_n hx hb dX7_isHole_8 rfl (lv_at hl 0 rfl) ?_
    refine lv_iconst (v := 0) hx hb dX7_isHole_9 (by decide) ?_
    refine lv_iload_n hx hb dX7_isHole_10 rfl (lv_at hl 1 rfl) ?_
    refine gBacki (D := D) (tys := gT cI cC cF cO) (A := A) (wr := []) (w1 := (fun u_4 : Unit => [(a_this, .inr (7, [.ref a_slots])), (a_slots, .inl (cI, 96, .inl v_slots))])) (va_runV (As := [.int (0 : Int32), .int x1]) (rest := []) ⟨hx, hb, hml, hown, hts⟩ (c_X7_hasCards l D cI cC cF cO a_this a_slots _ _ _ _ _ hwp) (cwV 2 hts gX7_isHole_X7_hasCards rfl rfl rfl (by decide +kernel) ⟨Nat.le_of_ble_eq_true rfl, Nat.le_of_ble_eq_true rfl⟩) (gPreV (C := RX7) (T := TX7) (N := 1) (ci := 7) hK hX hT hP hD hS hA [0, 1] rfl rfl rfl (qb := 0) rfl) rfl rfl hl.1 rfl (lv_room (Nat.le_of_ble_eq_true rfl)) dX7_isHole_11 ⟨Nat.le_of_ble_eq_true rfl, Nat.le_of_ble_eq_true rfl⟩) hP hD hS hA [0, 1] [] rfl rfl rfl (by decide) (fun r_3 u_4 H locs hwp hP hD hS => ?_)
    have hP : va_P D vwCl [(a_this, .inr (7, [.ref a_slots])), (a_slots, .inl (cI, 96, .inl v_slots))] H := hP
    have hD : va_D A [(a_this, .inr (7, [.ref a_slots])), (a_slots, .inl (cI, 96, .inl v_slots))] := hD
    refine lv_if_eq (tgt := 33) hx hb dX7_isHole_14 (by decide) (fun hc => ?_) (fun hc => ?_)
    · have hwp := hwp.1 hc
      refine lv_iconst (v := 0) hx hb dX7_isHole_33 (by decide) ?_
      exact hret () [0, 1] dX7_isHole_34 (Or.inl rfl) hwp rfl rfl hP hD hS
    · have hwp := hwp.2 hc
      refine lv_aload_n hx hb dX7_isHole_17 rfl (lv_at hl 0 rfl) ?_
      refine lv_iload_n hx hb dX7_isHole_18 rfl (lv_at hl 1 rfl) ?_
      refine lv_iconst (v := 1) hx hb dX7_isHole_19 (by decide) ?_
      refine lv_iadd hx hb dX7_isHole_20 ?_
      refine lv_bipush (v := 16) hx hb dX7_isHole_21 (by decide) ?_
      refine gBacki (D := D) (tys := gT cI cC cF cO) (A := A) (wr := []) (w1 := (fun u_6 : Unit => [(a_this, .inr (7, [.ref a_slots])), (a_slots, .inl (cI, 96, .inl v_slots))])) (va_runV (As := [.int (x1 + (1 : Int32)), .int (16 : Int32)]) (rest := []) ⟨hx, hb, hml, hown, hts⟩ (c_X7_hasCards l D cI cC cF cO a_this a_slots _ _ _ _ _ hwp) (cwV 2 hts gX7_isHole_X7_hasCards rfl rfl rfl (by decide +kernel) ⟨Nat.le_of_ble_eq_true rfl, Nat.le_of_ble_eq_true rfl⟩) (gPreV (C := RX7) (T := TX7) (N := 1) (ci := 7) hK hX hT hP hD hS hA [0, 1] rfl rfl rfl (qb := 0) rfl) rfl rfl hl.1 rfl (lv_room (Nat.le_of_ble_eq_true rfl)) dX7_isHole_23 ⟨Nat.le_of_ble_eq_true rfl, Nat.le_of_ble_eq_true rfl⟩) hP hD hS hA [0, 1] [] rfl rfl rfl (by decide) (fun r_5 u_6 H locs hwp hP hD hS => ?_)
      have hP : va_P D vwCl [(a_this, .inr (7, [.ref a_slots])), (a_slots, .inl (cI, 96, .inl v_slots))] H := hP
      have hD : va_D A [(a_this, .inr (7, [.ref a_slots])), (a_slots, .inl (cI, 96, .inl v_slots))] := hD
      refine lv_if_eq (tgt := 33) hx hb dX7_isHole_26 (by decide) (fun hc => ?_) (fun hc => ?_)
      · have hwp := hwp.1 hc
        refine lv_iconst (v := 0) hx hb dX7_isHole_33 (by decide) ?_
        exact hret () [0, 1] dX7_isHole_34 (Or.inl rfl) hwp rfl rfl hP hD hS
      · have hwp := hwp.2 hc
        refine lv_iconst (v := 1) hx hb dX7_isHole_29 (by decide) ?_
        refine lv_goto (tgt := 34) hx hb dX7_isHole_30 (by decide) ?_
        exact hret () [0, 1] dX7_isHole_34 (Or.inr rfl) hwp rfl rfl hP hD hS
abbrev rm_X7_holes : Room := { frames := 5, cells := 0, slots := 0, locals := 110 }
set_option maxHeartbeats 4000000 in
set_option maxRecDepth 100000 in
theorem c_X7_holes (l : Launch) (D : va_G) (cI cC cF cO : ClassId) (a_this a_slots : Nat)  (sz : Nat)  (v_slots : Nat → Int32) (post : Int32 → Prop) (hwp : wp_X7_holes v_slots post) : Met l yX7_holes wsX7_holes rm_X7_holes (gPre D (gT cI cC cF cO) [.ref a_this] [(a_this, .inr (7, [.ref a_slots])), (a_slots, .inl (cI, 96, .inl v_slots))] sz) (va_Qi (S := Unit) (fun (r : Int32) (u : Unit) => post r ) (gB D (gT cI cC cF cO) (fun (u : Unit) => [(a_this, .inr (7, [.ref a_slots])), (a_slots, .inl (cI, 96, .inl v_slots))]) [(a_this, .inr (7, [.ref a_slots])), (a_slots, .inl (cI, 96, .inl v_slots))] sz) (va_A [(a_this, .inr (7, [.ref a_slots])), (a_slots, .inl (cI, 96, .inl v_slots))] sz)) 0 0 (va_A [(a_this, .inr (7, [.ref a_slots])), (a_slots, .inl (cI, 96, .inl v_slots))] sz) := by
  refine gOfi (own := RX7) (cc := cX7_holes) (maxL := 3) (ret := (some .int)) rfl (by decide) rfl (Nat.le_of_ble_eq_true rfl) rfl ?_
  intro p e s m below meth c A args Q hAe hx hb hr hts hown hml hlocks hname hA hK hX hT hP hD hS hret ls hl
  have hl : lv_has ls 3 [(0, .ref a_this)] := hl
  unfold wp_X7_holes at hwp
  refine lv_iconst (v := 0) hx hb dX7_holes_0 (by decide) ?_
  refine lv_istore_n (lv' := [(1, .int (0 : Int32)), (0, .ref a_this)]) hx hb dX7_holes_1 rfl hl (by decide) rfl (fun ls hl => ?_)
  refine lv_iconst (v := 0) hx hb dX7_holes_2 (by decide) ?_
  refine lv_istore_n (lv' := [(2, .int (0 : Int32)), (1, .int (0 : Int32)), (0, .ref a_this)]) hx hb dX7_holes_3 rfl hl (by decide) rfl (fun ls hl => ?_)
  have hl : lv_has ls 3 [(0, .ref a_this), (1, .int (0 : Int32)), (2, .int (0 : Int32))] := lv_sub hl [2, 1, 0] rfl
  unfold wp_X7_holes_l4 at hwp
  obtain ⟨J4, μ4, hJ, hst4⟩ := hwp
  have hL4 : ∀ (n : Nat) (x1_4 : Int32) (x2_4 : Int32), μ4 x1_4 x2_4 < n → J4 x1_4 x2_4 → ∀ (H : Heap) (locs : List Loc), va_P D vwCl [(a_this, .inr (7, [.ref a_slots])), (a_slots, .inl (cI, 96, .inl v_slots))] H → va_D A [(a_this, .inr (7, [.ref a_slots])), (a_slots, .inl (cI, 96, .inl v_slots))] → va_S A s.heap H locs → ∀ ls : Array Slot, lv_has ls 3 [(0, .ref a_this), (1, .int x1_4), (2, .int x2_4)] → W p l e rm_X7_holes s m args below meth c H locs 0 0 Q (F0 m 4 ls []) := by
    intro n
    induction n with
    | zero => intro x1_4 x2_4 h; exact absurd h (Nat.not_lt_zero _)
    | succ n ih4 =>
      intro x1_4 x2_4 hμ4 hJ H locs hP hD hS ls hl
      have hwp := hst4 x1_4 x2_4 hJ
      refine lv_iload_n hx hb dX7_holes_4 rfl (lv_at hl 2 rfl) ?_
      refine lv_bipush (v := 16) hx hb dX7_holes_5 (by decide) ?_
      refine lv_icmp_ge (tgt := 27) hx hb dX7_holes_7 (by decide) (fun hc => ?_) (fun hc => ?_)
      · have hwp := hwp.1 hc
        refine lv_iload_n hx hb dX7_holes_27 rfl (lv_at hl 1 rfl) ?_
        exact hret () [0, 1] dX7_holes_28 hwp rfl rfl hP hD hS
      · have hwp := hwp.2 hc
        refine lv_aload_n hx hb dX7_holes_10 rfl (lv_at hl 0 rfl) ?_
        refine lv_iload_n hx hb dX7_holes_11 rfl (lv_at hl 2 rfl) ?_
        refine gBacki (D := D) (tys := gT cI cC cF cO) (A := A) (wr := []) (w1 := (fun u_2 : Unit => [(a_this, .inr (7, [.ref a_slots])), (a_slots, .inl (cI, 96, .inl v_slots))])) (va_runV (As := [.int x2_4]) (rest := []) ⟨hx, hb, hml, hown, hts⟩ (c_X7_isHole l D cI cC cF cO a_this a_slots _ _ _ _ hwp) (cwV 1 hts gX7_holes_X7_isHole rfl rfl rfl (by decide +kernel) ⟨Nat.le_of_ble_eq_true rfl, Nat.le_of_ble_eq_true rfl⟩) (gPreV (C := RX7) (T := TX7) (N := 1) (ci := 7) hK hX hT hP hD hS hA [0, 1] rfl rfl rfl (qb := 0) rfl) rfl rfl hl.1 rfl (lv_room (Nat.le_of_ble_eq_true rfl)) dX7_holes_12 ⟨Nat.le_of_ble_eq_true rfl, Nat.le_of_ble_eq_true rfl⟩) hP hD hS hA [0, 1] [] rfl rfl rfl (by decide) (fun r_1 u_2 H locs hwp hP hD hS => ?_)
        have hP : va_P D vwCl [(a_this, .inr (7, [.ref a_slots])), (a_slots, .inl (cI, 96, .inl v_slots))] H := hP
        have hD : va_D A [(a_this, .inr (7, [.ref a_slots])), (a_slots, .inl (cI, 96, .inl v_slots))] := hD
        refine lv_if_eq (tgt := 21) hx hb dX7_holes_15 (by decide) (fun hc => ?_) (fun hc => ?_)
        · have hwp := hwp.1 hc
          refine lv_iinc (v := (x2_4 + (1 : Int32))) (lv' := [(2, .int (x2_4 + (1 : Int32))), (0, .ref a_this), (1, .int x1_4)]) hx hb dX7_holes_21 hl (k := 2) rfl rfl (by decide) rfl (fun ls hl => ?_)
          refine lv_goto (tgt := 4) hx hb dX7_holes_24 (by decide) ?_
          have hl : lv_has ls 3 [(0, .ref a_this), (1, .int x1_4), (2, .int (x2_4 + (1 : Int32)))] := lv_sub hl [1, 2, 0] rfl
          exact ih4 x1_4 (x2_4 + (1 : Int32)) (Nat.lt_of_lt_of_le hwp.2 (Nat.le_of_lt_succ hμ4)) hwp.1 _ _ hP hD hS ls hl
        · have hwp := hwp.2 hc
          refine lv_iinc (v := (x1_4 + (1 : Int32))) (lv' := [(1, .int (x1_4 + (1 : Int32))), (0, .ref a_this), (2, .int x2_4)]) hx hb dX7_holes_18 hl (k := 1) rfl rfl (by decide) rfl (fun ls hl => ?_)
          refine lv_iinc (v := (x2_4 + (1 : Int32))) (lv' := [(2, .int (x2_4 + (1 : Int32))), (1, .int (x1_4 + (1 : Int32))), (0, .ref a_this)]) hx hb dX7_holes_21 hl (k := 2) rfl rfl (by decide) rfl (fun ls hl => ?_)
          refine lv_goto (tgt := 4) hx hb dX7_holes_24 (by decide) ?_
          have hl : lv_has ls 3 [(0, .ref a_this), (1, .int (x1_4 + (1 : Int32))), (2, .int (x2_4 + (1 : Int32)))] := lv_sub hl [2, 1, 0] rfl
          exact ih4 (x1_4 + (1 : Int32)) (x2_4 + (1 : Int32)) (Nat.lt_of_lt_of_le hwp.2 (Nat.le_of_lt_succ hμ4)) hwp.1 _ _ hP hD hS ls hl
  exact hL4 _ (0 : Int32) (0 : Int32) (Nat.lt_succ_self _) hJ _ _ hP hD hS ls hl
theorem ml_X8_mayBe_0 : (.fieldLink RX8 286 "StoryWall" "LEAST" "[I" : Cond) ∈ wsX8_mayBe := List.mem_of_getElem? (i := 1) rfl
theorem ml_X8_mayBe_1 : (.fieldLink RX8 289 "StoryWall" "MOST" "[I" : Cond) ∈ wsX8_mayBe := List.mem_of_getElem? (i := 2) rfl
abbrev rm_X8_mayBe : Room := { frames := 0, cells := 0, slots := 0, locals := 0 }
set_option maxHeartbeats 4000000 in
set_option maxRecDepth 100000 in
theorem c_X8_mayBe (l : Launch) (D : va_G) (cI cC cF cO : ClassId)   (sz : Nat) (x0 : Int32) (x1 : Int32)  (post : Int32 → Prop) (hwp : wp_X8_mayBe x0 x1 post) : Met l yX8_mayBe wsX8_mayBe rm_X8_mayBe (gPre D (gT cI cC cF cO) [.int x0, .int x1] [] sz) (va_Qi (S := Unit) (fun (r : Int32) (u : Unit) => post r ) (gB D (gT cI cC cF cO) (fun (u : Unit) => []) [] sz) (va_A [] sz)) 0 0 (va_A [] sz) := by
  refine gOfz (own := RX8) (cc := cX8_mayBe) (maxL := 2) (ret := (some .boolean)) rfl (by decide) rfl (Nat.le_of_ble_eq_true rfl) rfl ?_
  intro p e s m below meth c A args Q hAe hx hb hr hts hown hml hlocks hname hA hK hX hT hP hD hS hret ls hl
  have hl : lv_has ls 2 [(0, .int x0), (1, .int x1)] := hl
  unfold wp_X8_mayBe at hwp
  obtain ⟨⟨t_LEAST, hZ_LEAST, hT_LEAST⟩, ⟨t_MOST, hZ_MOST, hT_MOST⟩⟩ := id hT
  refine lv_iload_n hx hb dX8_mayBe_0 rfl (lv_at hl 0 rfl) ?_
  refine lv_if_lt (tgt := 31) hx hb dX8_mayBe_1 (by decide) (fun hc => ?_) (fun hc => ?_)
  · have hwp := hwp.1 hc
    refine lv_iconst (v := 0) hx hb dX8_mayBe_31 (by decide) ?_
    exact hret () [] dX8_mayBe_32 (Or.inl rfl) hwp rfl rfl hP hD hS
  · have hwp := hwp.2 hc
    refine lv_iload_n hx hb dX8_mayBe_4 rfl (lv_at hl 0 rfl) ?_
    refine lv_iconst (v := 5) hx hb dX8_mayBe_5 (by decide) ?_
    refine lv_icmp_ge (tgt := 31) hx hb dX8_mayBe_6 (by decide) (fun hc => ?_) (fun hc => ?_)
    · have hwp := hwp.1 hc
      refine lv_iconst (v := 0) hx hb dX8_mayBe_31 (by decide) ?_
      exact hret () [] dX8_mayBe_32 (Or.inl rfl) hwp rfl rfl hP hD hS
    · have hwp := hwp.2 hc
      refine lv_iload_n hx hb dX8_mayBe_9 rfl (lv_at hl 1 rfl) ?_
      refine va_gets hx hb hZ_LEAST hS hown (hts _ ml_X8_mayBe_0) (fun _ h9 => h9) dX8_mayBe_10 ?_
      refine lv_iload_n hx hb dX8_mayBe_13 rfl (lv_at hl 0 rfl) ?_
      have hn_1 := hwp.1
      have hwp := hwp.2
      refine va_ti (v := .int (gLEAST (x0).toNatClampNeg)) hx hb hT_LEAST hS hn_1 rfl dX8_mayBe_14 ?_
      refine lv_icmp_lt (tgt := 31) hx hb dX8_mayBe_15 (by decide) (fun hc => ?_) (fun hc => ?_)
      · have hwp := hwp.1 hc
        refine lv_iconst (v := 0) hx hb dX8_mayBe_31 (by decide) ?_
        exact hret () [] dX8_mayBe_32 (Or.inl rfl) hwp rfl rfl hP hD hS
      · have hwp := hwp.2 hc
        refine lv_iload_n hx hb dX8_mayBe_18 rfl (lv_at hl 1 rfl) ?_
        refine va_gets hx hb hZ_MOST hS hown (hts _ ml_X8_mayBe_1) (fun _ h9 => h9) dX8_mayBe_19 ?_
        refine lv_iload_n hx hb dX8_mayBe_22 rfl (lv_at hl 0 rfl) ?_
        have hn_2 := hwp.1
        have hwp := hwp.2
        refine va_ti (v := .int (gMOST (x0).toNatClampNeg)) hx hb hT_MOST hS hn_2 rfl dX8_mayBe_23 ?_
        refine lv_icmp_gt (tgt := 31) hx hb dX8_mayBe_24 (by decide) (fun hc => ?_) (fun hc => ?_)
        · have hwp := hwp.1 hc
          refine lv_iconst (v := 0) hx hb dX8_mayBe_31 (by decide) ?_
          exact hret () [] dX8_mayBe_32 (Or.inl rfl) hwp rfl rfl hP hD hS
        · have hwp := hwp.2 hc
          refine lv_iconst (v := 1) hx hb dX8_mayBe_27 (by decide) ?_
          refine lv_goto (tgt := 32) hx hb dX8_mayBe_28 (by decide) ?_
          exact hret () [] dX8_mayBe_32 (Or.inr rfl) hwp rfl rfl hP hD hS
