/-! contracts (by program): X6_measureScene X6_tensionOf X6_measure X6_rises X6_longestClimb X6_span X7_cardsAheadOf X7_cards X7_slotOf X7_isIn -/
theorem mc_X6_measureScene_4 : ∀ w ∈ u_ws RX4 TX4 3, w ∈ wsX6_measureScene := fun w h => List.mem_cons_of_mem _ (List.mem_append_left _ (List.mem_append_left _ (List.mem_append_right _ h)))
theorem ml_X6_measureScene_1 : (.constantFloat RX6 26 (3212836864) : Cond) ∈ wsX6_measureScene := List.mem_of_getElem? (i := 1) rfl
abbrev rm_X6_measureScene : Room := { frames := 3, cells := 0, slots := 0, locals := 66 }
set_option maxHeartbeats 4000000 in
set_option maxRecDepth 100000 in
theorem c_X6_measureScene (l : Launch) (D : va_G) (cI cC cF cO : ClassId) (a_p0 a_p0_cards a_p0_cards_numbers a_p0_wall a_p0_wall_slots a_p0_settings : Nat)  (sz : Nat) (x1 : Int32) (v_p0_cards_size : Int32) (v_p0_cards_numbers : Nat → Int32) (v_p0_wall_slots : Nat → Int32) (post : UInt32 → Prop) (hwp : wp_X6_measureScene x1 v_p0_cards_size v_p0_cards_numbers v_p0_wall_slots post) : Met l yX6_measureScene wsX6_measureScene rm_X6_measureScene (gPre D (gT cI cC cF cO) [.ref a_p0, .int x1] [(a_p0, .inr (4, [.ref a_p0_cards, .ref a_p0_wall, .ref a_p0_settings])), (a_p0_cards, .inr (1, [.ref a_p0_cards_numbers, .int v_p0_cards_size])), (a_p0_cards_numbers, .inl (cI, 200, .inl v_p0_cards_numbers)), (a_p0_wall, .inr (7, [.ref a_p0_wall_slots])), (a_p0_wall_slots, .inl (cI, 96, .inl v_p0_wall_slots))] sz) (va_Qf (S := Unit) (fun (r : UInt32) (u : Unit) => post r ) (gB D (gT cI cC cF cO) (fun (u : Unit) => [(a_p0, .inr (4, [.ref a_p0_cards, .ref a_p0_wall, .ref a_p0_settings])), (a_p0_cards, .inr (1, [.ref a_p0_cards_numbers, .int v_p0_cards_size])), (a_p0_cards_numbers, .inl (cI, 200, .inl v_p0_cards_numbers)), (a_p0_wall, .inr (7, [.ref a_p0_wall_slots])), (a_p0_wall_slots, .inl (cI, 96, .inl v_p0_wall_slots))]) [(a_p0, .inr (4, [.ref a_p0_cards, .ref a_p0_wall, .ref a_p0_settings])), (a_p0_cards, .inr (1, [.ref a_p0_cards_numbers, .int v_p0_cards_size])), (a_p0_cards_numbers, .inl (cI, 200, .inl v_p0_cards_numbers)), (a_p0_wall, .inr (7, [.ref a_p0_wall_slots])), (a_p0_wall_slots, .inl (cI, 96, .inl v_p0_wall_slots))] sz) (va_A [(a_p0, .inr (4, [.ref a_p0_cards, .ref a_p0_wall, .ref a_p0_settings])), (a_p0_cards, .inr (1, [.ref a_p0_cards_numbers, .int v_p0_cards_size])), (a_p0_cards_numbers, .inl (cI, 200, .inl v_p0_cards_numbers)), (a_p0_wall, .inr (7, [.ref a_p0_wall_slots])), (a_p0_wall_slots, .inl (cI, 96, .inl v_p0_wall_slots))] sz)) 0 0 (va_A [(a_p0, .inr (4, [.ref a_p0_cards, .ref a_p0_wall, .ref a_p0_settings])), (a_p0_cards, .inr (1, [.ref a_p0_cards_numbers, .int v_p0_cards_size])), (a_p0_cards_numbers, .inl (cI, 200, .inl v_p0_cards_numbers)), (a_p0_wall, .inr (7, [.ref a_p0_wall_slots])), (a_p0_wall_slots, .inl (cI, 96, .inl v_p0_wall_slots))] sz) := by
  refine gOff (own := RX6) (cc := cX6_measureScene) (maxL := 7) (ret := (some .float)) rfl (by decide) rfl (Nat.le_of_ble_eq_true rfl) rfl ?_
  intro p e s m below meth c A args Q hAe hx hb hr hts hown hml hlocks hname hA hK hX hT hP hD hS hret ls hl
  have hl : lv_has ls 7 [(0, .ref a_p0), (1, .int x1)] := hl
  unfold wp_X6_measureScene at hwp
  refine lv_fconst0 hx hb dX6_measureScene_0 ?_
  refine lv_fstore_n (lv' := [(2, .float FP.fconst0), (0, .ref a_p0), (1, .int x1)]) hx hb dX6_measureScene_1 rfl hl (by decide) rfl (fun ls hl => ?_)
  refine lv_iconst (v := 0) hx hb dX6_measureScene_2 (by decide) ?_
  refine lv_istore_n (lv' := [(3, .int (0 : Int32)), (2, .float FP.fconst0), (0, .ref a_p0), (1, .int x1)]) hx hb dX6_measureScene_3 rfl hl (by decide) rfl (fun ls hl => ?_)
  refine lv_iconst (v := 0) hx hb dX6_measureScene_4 (by decide) ?_
  refine lv_istore (lv' := [(4, .int (0 : Int32)), (3, .int (0 : Int32)), (2, .float FP.fconst0), (0, .ref a_p0), (1, .int x1)]) hx hb dX6_measureScene_5 hl (by decide) rfl (fun ls hl => ?_)
  have hl : lv_has ls 7 [(0, .ref a_p0), (1, .int x1), (2, .float FP.fconst0), (3, .int (0 : Int32)), (4, .int (0 : Int32))] := lv_sub hl [3, 4, 2, 1, 0] rfl
  unfold wp_X6_measureScene_l7 at hwp
  obtain ⟨J7, μ7, hJ, hst7⟩ := hwp
  have hL7 : ∀ (n : Nat) (x2_7 : UInt32) (x3_7 : Int32) (x4_7 : Int32), μ7 x2_7 x3_7 x4_7 < n → J7 x2_7 x3_7 x4_7 → ∀ (H : Heap) (locs : List Loc), va_P D vwCl [(a_p0, .inr (4, [.ref a_p0_cards, .ref a_p0_wall, .ref a_p0_settings])), (a_p0_cards, .inr (1, [.ref a_p0_cards_numbers, .int v_p0_cards_size])), (a_p0_cards_numbers, .inl (cI, 200, .inl v_p0_cards_numbers)), (a_p0_wall, .inr (7, [.ref a_p0_wall_slots])), (a_p0_wall_slots, .inl (cI, 96, .inl v_p0_wall_slots))] H → va_D A [(a_p0, .inr (4, [.ref a_p0_cards, .ref a_p0_wall, .ref a_p0_settings])), (a_p0_cards, .inr (1, [.ref a_p0_cards_numbers, .int v_p0_cards_size])), (a_p0_cards_numbers, .inl (cI, 200, .inl v_p0_cards_numbers)), (a_p0_wall, .inr (7, [.ref a_p0_wall_slots])), (a_p0_wall_slots, .inl (cI, 96, .inl v_p0_wall_slots))] → va_S A s.heap H locs → ∀ ls : Array Slot, lv_has ls 7 [(0, .ref a_p0), (1, .int x1), (2, .float x2_7), (3, .int x3_7), (4, .int x4_7)] → W p l e rm_X6_measureScene s m args below meth c H locs 0 0 Q (F0 m 7 ls []) := by
    intro n
    induction n with
    | zero => intro x2_7 x3_7 x4_7 h; exact absurd h (Nat.not_lt_zero _)
    | succ n ih7 =>
      intro x2_7 x3_7 x4_7 hμ7 hJ H locs hP hD hS ls hl
      have hwp := hst7 x2_7 x3_7 x4_7 hJ
      refine lv_iload hx hb dX6_measureScene_7 (lv_at hl 4 rfl) ?_
      refine lv_aload_n hx hb dX6_measureScene_9 rfl (lv_at hl 0 rfl) ?_
      refine va_getN (D := D) (ci := 4) (v := .ref a_p0_wall) (C := RX4) (T := TX4) (N := 3) hx hb hts mc_X6_measureScene_4 hown hK hP 0 rfl rfl 1 (by decide) (gX_use hX 5 rfl) (fun _ h9 => h9) rfl dX6_measureScene_10 ?_
      refine lv_iload_n hx hb dX6_measureScene_13 rfl (lv_at hl 1 rfl) ?_
      refine gBacki (D := D) (tys := gT cI cC cF cO) (A := A) (wr := [(a_p0, .inr (4, [.ref a_p0_cards, .ref a_p0_wall, .ref a_p0_settings])), (a_p0_cards, .inr (1, [.ref a_p0_cards_numbers, .int v_p0_cards_size])), (a_p0_cards_numbers, .inl (cI, 200, .inl v_p0_cards_numbers))]) (w1 := (fun u_2 : Unit => [(a_p0_wall, .inr (7, [.ref a_p0_wall_slots])), (a_p0_wall_slots, .inl (cI, 96, .inl v_p0_wall_slots))])) (va_runV (As := [.int x1]) (rest := [.int x4_7]) ⟨hx, hb, hml, hown, hts⟩ (c_X7_sizeOf l D cI cC cF cO a_p0_wall a_p0_wall_slots _ _ _ _ hwp) (cwV 1 hts gX6_measureScene_X7_sizeOf rfl rfl rfl (by decide +kernel) ⟨Nat.le_of_ble_eq_true rfl, Nat.le_of_ble_eq_true rfl⟩) (gPreV (C := RX7) (T := TX7) (N := 1) (ci := 7) hK hX hT hP hD hS hA [3, 4] rfl rfl rfl (qb := 3) rfl) rfl rfl hl.1 rfl (lv_room (Nat.le_of_ble_eq_true rfl)) dX6_measureScene_14 ⟨Nat.le_of_ble_eq_true rfl, Nat.le_of_ble_eq_true rfl⟩) hP hD hS hA [3, 4] [0, 1, 2] rfl rfl rfl (by decide) (fun r_1 u_2 H locs hwp hP hD hS => ?_)
      have hP : va_P D vwCl [(a_p0, .inr (4, [.ref a_p0_cards, .ref a_p0_wall, .ref a_p0_settings])), (a_p0_cards, .inr (1, [.ref a_p0_cards_numbers, .int v_p0_cards_size])), (a_p0_cards_numbers, .inl (cI, 200, .inl v_p0_cards_numbers)), (a_p0_wall, .inr (7, [.ref a_p0_wall_slots])), (a_p0_wall_slots, .inl (cI, 96, .inl v_p0_wall_slots))] H := hP
      have hD : va_D A [(a_p0, .inr (4, [.ref a_p0_cards, .ref a_p0_wall, .ref a_p0_settings])), (a_p0_cards, .inr (1, [.ref a_p0_cards_numbers, .int v_p0_cards_size])), (a_p0_cards_numbers, .inl (cI, 200, .inl v_p0_cards_numbers)), (a_p0_wall, .inr (7, [.ref a_p0_wall_slots])), (a_p0_wall_slots, .inl (cI, 96, .inl v_p0_wall_slots))] := hD
      refine lv_icmp_ge (tgt := 73) hx hb dX6_measureScene_17 (by decide) (fun hc => ?_) (fun hc => ?_)
      · have hwp := hwp.1 hc
        refine lv_iload_n hx hb dX6_measureScene_73 rfl (lv_at hl 3 rfl) ?_
        refine lv_if_le (tgt := 84) hx hb dX6_measureScene_74 (by decide) (fun hc => ?_) (fun hc => ?_)
        · have hwp := hwp.1 hc
          refine lv_ldcf (v := 3212836864) hx hb hown (hts _ ml_X6_measureScene_1) dX6_measureScene_84 ?_
          exact hret () [0, 1, 2, 3, 4] dX6_measureScene_86 hwp rfl rfl hP hD hS
        · have hwp := hwp.2 hc
          refine lv_fload_n hx hb dX6_measureScene_77 rfl (lv_at hl 2 rfl) ?_
          refine lv_iload_n hx hb dX6_measureScene_78 rfl (lv_at hl 3 rfl) ?_
          refine lv_i2f hx hb dX6_measureScene_79 ?_
          have hn_3 := hwp.1
          have hwp := hwp.2
          refine lv_fdiv hx hb dX6_measureScene_80 hn_3 ?_
          refine lv_goto (tgt := 86) hx hb dX6_measureScene_81 (by decide) ?_
          exact hret () [0, 1, 2, 3, 4] dX6_measureScene_86 hwp rfl rfl hP hD hS
      · have hwp := hwp.2 hc
        refine lv_aload_n hx hb dX6_measureScene_20 rfl (lv_at hl 0 rfl) ?_
        refine va_getN (D := D) (ci := 4) (v := .ref a_p0_wall) (C := RX4) (T := TX4) (N := 3) hx hb hts mc_X6_measureScene_4 hown hK hP 0 rfl rfl 1 (by decide) (gX_use hX 5 rfl) (fun _ h9 => h9) rfl dX6_measureScene_21 ?_
        refine lv_iload_n hx hb dX6_measureScene_24 rfl (lv_at hl 1 rfl) ?_
        refine lv_iload hx hb dX6_measureScene_25 (lv_at hl 4 rfl) ?_
        refine gBacki (D := D) (tys := gT cI cC cF cO) (A := A) (wr := [(a_p0, .inr (4, [.ref a_p0_cards, .ref a_p0_wall, .ref a_p0_settings])), (a_p0_cards, .inr (1, [.ref a_p0_cards_numbers, .int v_p0_cards_size])), (a_p0_cards_numbers, .inl (cI, 200, .inl v_p0_cards_numbers))]) (w1 := (fun u_5 : Unit => [(a_p0_wall, .inr (7, [.ref a_p0_wall_slots])), (a_p0_wall_slots, .inl (cI, 96, .inl v_p0_wall_slots))])) (va_runV (As := [.int x1, .int x4_7]) (rest := []) ⟨hx, hb, hml, hown, hts⟩ (c_X7_cardIn l D cI cC cF cO a_p0_wall a_p0_wall_slots _ _ _ _ _ hwp) (cwV 2 hts gX6_measureScene_X7_cardIn rfl rfl rfl (by decide +kernel) ⟨Nat.le_of_ble_eq_true rfl, Nat.le_of_ble_eq_true rfl⟩) (gPreV (C := RX7) (T := TX7) (N := 1) (ci := 7) hK hX hT hP hD hS hA [3, 4] rfl rfl rfl (qb := 3) rfl) rfl rfl hl.1 rfl (lv_room (Nat.le_of_ble_eq_true rfl)) dX6_measureScene_27 ⟨Nat.le_of_ble_eq_true rfl, Nat.le_of_ble_eq_true rfl⟩) hP hD hS hA [3, 4] [0, 1, 2] rfl rfl rfl (by decide) (fun r_4 u_5 H locs hwp hP hD hS => ?_)
        have hP : va_P D vwCl [(a_p0, .inr (4, [.ref a_p0_cards, .ref a_p0_wall, .ref a_p0_settings])), (a_p0_cards, .inr (1, [.ref a_p0_cards_numbers, .int v_p0_cards_size])), (a_p0_cards_numbers, .inl (cI, 200, .inl v_p0_cards_numbers)), (a_p0_wall, .inr (7, [.ref a_p0_wall_slots])), (a_p0_wall_slots, .inl (cI, 96, .inl v_p0_wall_slots))] H := hP
        have hD : va_D A [(a_p0, .inr (4, [.ref a_p0_cards, .ref a_p0_wall, .ref a_p0_settings])), (a_p0_cards, .inr (1, [.ref a_p0_cards_numbers, .int v_p0_cards_size])), (a_p0_cards_numbers, .inl (cI, 200, .inl v_p0_cards_numbers)), (a_p0_wall, .inr (7, [.ref a_p0_wall_slots])), (a_p0_wall_slots, .inl (cI, 96, .inl v_p0_wall_slots))] := hD
        refine lv_istore (lv' := [(5, .int r_4), (0, .ref a_p0), (1, .int x1), (2, .float x2_7), (3, .int x3_7), (4, .int x4_7)]) hx hb dX6_measureScene_30 hl (by decide) rfl (fun ls hl => ?_)
        refine lv_aload_n hx hb dX6_measureScene_32 rfl (lv_at hl 1 rfl) ?_
        refine va_getN (D := D) (ci := 4) (v := .ref a_p0_cards) (C := RX4) (T := TX4) (N := 3) hx hb hts mc_X6_measureScene_4 hown hK hP 0 rfl rfl 0 (by decide) (gX_use hX 4 rfl) (fun _ h9 => h9) rfl dX6_measureScene_33 ?_
        refine lv_iload hx hb dX6_measureScene_36 (lv_at hl 0 rfl) ?_
        refine lv_iconst (v := 2) hx hb dX6_measureScene_38 (by decide) ?_
        refine gBacki (D := D) (tys := gT cI cC cF cO) (A := A) (wr := [(a_p0, .inr (4, [.ref a_p0_cards, .ref a_p0_wall, .ref a_p0_settings])), (a_p0_wall, .inr (7, [.ref a_p0_wall_slots])), (a_p0_wall_slots, .inl (cI, 96, .inl v_p0_wall_slots))]) (w1 := (fun u_7 : Unit => [(a_p0_cards, .inr (1, [.ref a_p0_cards_numbers, .int v_p0_cards_size])), (a_p0_cards_numbers, .inl (cI, 200, .inl v_p0_cards_numbers))])) (va_runV (As := [.int r_4, .int (2 : Int32)]) (rest := []) ⟨hx, hb, hml, hown, hts⟩ (c_X1_number l D cI cC cF cO a_p0_cards a_p0_cards_numbers _ _ _ _ _ _ hwp) (cwV 2 hts gX6_measureScene_X1_number rfl rfl rfl (by decide +kernel) ⟨Nat.le_of_ble_eq_true rfl, Nat.le_of_ble_eq_true rfl⟩) (gPreV (C := RX1) (T := TX1) (N := 2) (ci := 1) hK hX hT hP hD hS hA [1, 2] rfl rfl rfl (qb := 1) rfl) rfl rfl hl.1 rfl (lv_room (Nat.le_of_ble_eq_true rfl)) dX6_measureScene_39 ⟨Nat.le_of_ble_eq_true rfl, Nat.le_of_ble_eq_true rfl⟩) hP hD hS hA [1, 2] [0, 3, 4] rfl rfl rfl (by decide) (fun r_6 u_7 H locs hwp hP hD hS => ?_)
        have hP : va_P D vwCl [(a_p0, .inr (4, [.ref a_p0_cards, .ref a_p0_wall, .ref a_p0_settings])), (a_p0_wall, .inr (7, [.ref a_p0_wall_slots])), (a_p0_wall_slots, .inl (cI, 96, .inl v_p0_wall_slots)), (a_p0_cards, .inr (1, [.ref a_p0_cards_numbers, .int v_p0_cards_size])), (a_p0_cards_numbers, .inl (cI, 200, .inl v_p0_cards_numbers))] H := hP
        have hD : va_D A [(a_p0, .inr (4, [.ref a_p0_cards, .ref a_p0_wall, .ref a_p0_settings])), (a_p0_wall, .inr (7, [.ref a_p0_wall_slots])), (a_p0_wall_slots, .inl (cI, 96, .inl v_p0_wall_slots)), (a_p0_cards, .inr (1, [.ref a_p0_cards_numbers, .int v_p0_cards_size])), (a_p0_cards_numbers, .inl (cI, 200, .inl v_p0_cards_numbers))] := hD
        refine lv_istore (lv' := [(6, .int r_6), (5, .int r_4), (0, .ref a_p0), (1, .int x1), (2, .float x2_7), (3, .int x3_7), (4, .int x4_7)]) hx hb dX6_measureScene_42 hl (by decide) rfl (fun ls hl => ?_)
        refine lv_fload_n hx hb dX6_measureScene_44 rfl (lv_at hl 4 rfl) ?_
        refine lv_aload_n hx hb dX6_measureScene_45 rfl (lv_at hl 2 rfl) ?_
        refine va_getN (D := D) (ci := 4) (v := .ref a_p0_cards) (C := RX4) (T := TX4) (N := 3) hx hb hts mc_X6_measureScene_4 hown hK hP 0 rfl rfl 0 (by decide) (gX_use hX 4 rfl) (fun _ h9 => h9) rfl dX6_measureScene_46 ?_
        refine lv_iload hx hb dX6_measureScene_49 (lv_at hl 1 rfl) ?_
        refine lv_iconst (v := 3) hx hb dX6_measureScene_51 (by decide) ?_
        refine gBacki (D := D) (tys := gT cI cC cF cO) (A := A) (wr := [(a_p0, .inr (4, [.ref a_p0_cards, .ref a_p0_wall, .ref a_p0_settings])), (a_p0_wall, .inr (7, [.ref a_p0_wall_slots])), (a_p0_wall_slots, .inl (cI, 96, .inl v_p0_wall_slots))]) (w1 := (fun u_9 : Unit => [(a_p0_cards, .inr (1, [.ref a_p0_cards_numbers, .int v_p0_cards_size])), (a_p0_cards_numbers, .inl (cI, 200, .inl v_p0_cards_numbers))])) (va_runV (As := [.int r_4, .int (3 : Int32)]) (rest := [.float x2_7]) ⟨hx, hb, hml, hown, hts⟩ (c_X1_number l D cI cC cF cO a_p0_cards a_p0_cards_numbers _ _ _ _ _ _ hwp) (cwV 2 hts gX6_measureScene_X1_number rfl rfl rfl (by decide +kernel) ⟨Nat.le_of_ble_eq_true rfl, Nat.le_of_ble_eq_true rfl⟩) (gPreV (C := RX1) (T := TX1) (N := 2) (ci := 1) hK hX hT hP hD hS hA [3, 4] rfl rfl rfl (qb := 3) rfl) rfl rfl hl.1 rfl (lv_room (Nat.le_of_ble_eq_true rfl)) dX6_measureScene_52 ⟨Nat.le_of_ble_eq_true rfl, Nat.le_of_ble_eq_true rfl⟩) hP hD hS hA [3, 4] [0, 1, 2] rfl rfl rfl (by decide) (fun r_8 u_9 H locs hwp hP hD hS => ?_)
        have hP : va_P D vwCl [(a_p0, .inr (4, [.ref a_p0_cards, .ref a_p0_wall, .ref a_p0_settings])), (a_p0_wall, .inr (7, [.ref a_p0_wall_slots])), (a_p0_wall_slots, .inl (cI, 96, .inl v_p0_wall_slots)), (a_p0_cards, .inr (1, [.ref a_p0_cards_numbers, .int v_p0_cards_size])), (a_p0_cards_numbers, .inl (cI, 200, .inl v_p0_cards_numbers))] H := hP
        have hD : va_D A [(a_p0, .inr (4, [.ref a_p0_cards, .ref a_p0_wall, .ref a_p0_settings])), (a_p0_wall, .inr (7, [.ref a_p0_wall_slots])), (a_p0_wall_slots, .inl (cI, 96, .inl v_p0_wall_slots)), (a_p0_cards, .inr (1, [.ref a_p0_cards_numbers, .int v_p0_cards_size])), (a_p0_cards_numbers, .inl (cI, 200, .inl v_p0_cards_numbers))] := hD
        refine lv_i2f hx hb dX6_measureScene_55 ?_
        refine lv_iload hx hb dX6_measureScene_56 (lv_at hl 0 rfl) ?_
        refine lv_i2f hx hb dX6_measureScene_58 ?_
        have hn_10 := hwp.1
        have hwp := hwp.2
        refine lv_fmul hx hb dX6_measureScene_59 hn_10 ?_
        have hn_11 := hwp.1
        have hwp := hwp.2
        refine lv_fadd hx hb dX6_measureScene_60 hn_11 ?_
        refine lv_fstore_n (lv' := [(2, .float (FP.fadd x2_7 (FP.fmul (FP.i2f r_8) (FP.i2f r_6)))), (6, .int r_6), (5, .int r_4), (0, .ref a_p0), (1, .int x1), (3, .int x3_7), (4, .int x4_7)]) hx hb dX6_measureScene_61 rfl hl (by decide) rfl (fun ls hl => ?_)
        refine lv_iload_n hx hb dX6_measureScene_62 rfl (lv_at hl 5 rfl) ?_
        refine lv_iload hx hb dX6_measureScene_63 (lv_at hl 1 rfl) ?_
        refine lv_iadd hx hb dX6_measureScene_65 ?_
        refine lv_istore_n (lv' := [(3, .int (x3_7 + r_6)), (2, .float (FP.fadd x2_7 (FP.fmul (FP.i2f r_8) (FP.i2f r_6)))), (6, .int r_6), (5, .int r_4), (0, .ref a_p0), (1, .int x1), (4, .int x4_7)]) hx hb dX6_measureScene_66 rfl hl (by decide) rfl (fun ls hl => ?_)
        refine lv_iinc (v := (x4_7 + (1 : Int32))) (lv' := [(4, .int (x4_7 + (1 : Int32))), (3, .int (x3_7 + r_6)), (2, .float (FP.fadd x2_7 (FP.fmul (FP.i2f r_8) (FP.i2f r_6)))), (6, .int r_6), (5, .int r_4), (0, .ref a_p0), (1, .int x1)]) hx hb dX6_measureScene_67 hl (k := 6) rfl rfl (by decide) rfl (fun ls hl => ?_)
        refine lv_goto (tgt := 7) hx hb dX6_measureScene_70 (by decide) ?_
        have hP : va_P D vwCl [(a_p0, .inr (4, [.ref a_p0_cards, .ref a_p0_wall, .ref a_p0_settings])), (a_p0_cards, .inr (1, [.ref a_p0_cards_numbers, .int v_p0_cards_size])), (a_p0_cards_numbers, .inl (cI, 200, .inl v_p0_cards_numbers)), (a_p0_wall, .inr (7, [.ref a_p0_wall_slots])), (a_p0_wall_slots, .inl (cI, 96, .inl v_p0_wall_slots))] H := hP.sub [0, 3, 4, 1, 2] rfl
        have hD : va_D A [(a_p0, .inr (4, [.ref a_p0_cards, .ref a_p0_wall, .ref a_p0_settings])), (a_p0_cards, .inr (1, [.ref a_p0_cards_numbers, .int v_p0_cards_size])), (a_p0_cards_numbers, .inl (cI, 200, .inl v_p0_cards_numbers)), (a_p0_wall, .inr (7, [.ref a_p0_wall_slots])), (a_p0_wall_slots, .inl (cI, 96, .inl v_p0_wall_slots))] := hD.sub [0, 3, 4, 1, 2] (by decide) rfl
        have hl : lv_has ls 7 [(0, .ref a_p0), (1, .int x1), (2, .float (FP.fadd x2_7 (FP.fmul (FP.i2f r_8) (FP.i2f r_6)))), (3, .int (x3_7 + r_6)), (4, .int (x4_7 + (1 : Int32)))] := lv_sub hl [5, 6, 2, 1, 0] rfl
        exact ih7 (FP.fadd x2_7 (FP.fmul (FP.i2f r_8) (FP.i2f r_6))) (x3_7 + r_6) (x4_7 + (1 : Int32)) (Nat.lt_of_lt_of_le hwp.2 (Nat.le_of_lt_succ hμ7)) hwp.1 _ _ hP hD hS ls hl
  exact hL7 _ FP.fconst0 (0 : Int32) (0 : Int32) (Nat.lt_succ_self _) hJ _ _ hP hD hS ls hl
theorem ml_X6_tensionOf_0 : (.constantFloat RX6 26 (3212836864) : Cond) ∈ wsX6_tensionOf := List.mem_of_getElem? (i := 2) rfl
theorem mc_X6_tensionOf_6 : ∀ w ∈ u_ws RX6 TX6 2, w ∈ wsX6_tensionOf := fun w h => List.mem_cons_of_mem _ (List.mem_append_right _ h)
theorem ml_X6_tensionOf_2 : (.fieldLink RX6 9 "StoryWall$Tensions" "values" "[F" : Cond) ∈ wsX6_tensionOf := List.mem_of_getElem? (i := 1) rfl
abbrev rm_X6_tensionOf : Room := { frames := 0, cells := 0, slots := 0, locals := 0 }
set_option maxHeartbeats 4000000 in
set_option maxRecDepth 100000 in
theorem c_X6_tensionOf (l : Launch) (D : va_G) (cI cC cF cO : ClassId) (a_this a_values a_climbs : Nat)  (sz : Nat) (x1 : Int32) (v_values : Nat → UInt32) (post : UInt32 → Prop) (hwp : wp_X6_tensionOf x1 v_values post) : Met l yX6_tensionOf wsX6_tensionOf rm_X6_tensionOf (gPre D (gT cI cC cF cO) [.ref a_this, .int x1] [(a_this, .inr (6, [.ref a_values, .ref a_climbs])), (a_values, .inl (cF, 16, .inr (.inr (.inl v_values))))] sz) (va_Qf (S := Unit) (fun (r : UInt32) (u : Unit) => post r ) (gB D (gT cI cC cF cO) (fun (u : Unit) => [(a_this, .inr (6, [.ref a_values, .ref a_climbs])), (a_values, .inl (cF, 16, .inr (.inr (.inl v_values))))]) [(a_this, .inr (6, [.ref a_values, .ref a_climbs])), (a_values, .inl (cF, 16, .inr (.inr (.inl v_values))))] sz) (va_A [(a_this, .inr (6, [.ref a_values, .ref a_climbs])), (a_values, .inl (cF, 16, .inr (.inr (.inl v_values))))] sz)) 0 0 (va_A [(a_this, .inr (6, [.ref a_values, .ref a_climbs])), (a_values, .inl (cF, 16, .inr (.inr (.inl v_values))))] sz) := by
  refine gOff (own := RX6) (cc := cX6_tensionOf) (maxL := 2) (ret := (some .float)) rfl (by decide) rfl (Nat.le_of_ble_eq_true rfl) rfl ?_
  intro p e s m below meth c A args Q hAe hx hb hr hts hown hml hlocks hname hA hK hX hT hP hD hS hret ls hl
  have hl : lv_has ls 2 [(0, .ref a_this), (1, .int x1)] := hl
  unfold wp_X6_tensionOf at hwp
  refine lv_iload_n hx hb dX6_tensionOf_0 rfl (lv_at hl 1 rfl) ?_
  refine lv_if_lt (tgt := 22) hx hb dX6_tensionOf_1 (by decide) (fun hc => ?_) (fun hc => ?_)
  · have hwp := hwp.1 hc
    refine lv_ldcf (v := 3212836864) hx hb hown (hts _ ml_X6_tensionOf_0) dX6_tensionOf_22 ?_
    exact hret () [0, 1] dX6_tensionOf_24 hwp rfl rfl hP hD hS
  · have hwp := hwp.2 hc
    refine lv_iload_n hx hb dX6_tensionOf_4 rfl (lv_at hl 1 rfl) ?_
    refine lv_aload_n hx hb dX6_tensionOf_5 rfl (lv_at hl 0 rfl) ?_
    refine va_get (D := D) (ci := 6) (v := .ref a_values) (C := RX6) (T := TX6) (N := 2) hx hb hts mc_X6_tensionOf_6 hown hK hP 0 rfl rfl 0 (by decide) (hts _ ml_X6_tensionOf_2) (fun _ h9 => h9) rfl dX6_tensionOf_6 ?_
    refine va_alen (D := D) (v := 16) hx hb hK hP 1 2 rfl rfl rfl dX6_tensionOf_9 ?_
    refine lv_icmp_ge (tgt := 22) hx hb dX6_tensionOf_10 (by decide) (fun hc => ?_) (fun hc => ?_)
    · have hwp := hwp.1 hc
      refine lv_ldcf (v := 3212836864) hx hb hown (hts _ ml_X6_tensionOf_0) dX6_tensionOf_22 ?_
      exact hret () [0, 1] dX6_tensionOf_24 hwp rfl rfl hP hD hS
    · have hwp := hwp.2 hc
      refine lv_aload_n hx hb dX6_tensionOf_13 rfl (lv_at hl 0 rfl) ?_
      refine va_get (D := D) (ci := 6) (v := .ref a_values) (C := RX6) (T := TX6) (N := 2) hx hb hts mc_X6_tensionOf_6 hown hK hP 0 rfl rfl 0 (by decide) (hts _ ml_X6_tensionOf_2) (fun _ h9 => h9) rfl dX6_tensionOf_14 ?_
      refine lv_iload_n hx hb dX6_tensionOf_17 rfl (lv_at hl 1 rfl) ?_
      have hn_1 := hwp.1
      have hwp := hwp.2
      refine va_fald (D := D) hx hb hK hP 1 2 rfl rfl hn_1 dX6_tensionOf_18 ?_
      refine lv_goto (tgt := 24) hx hb dX6_tensionOf_19 (by decide) ?_
      exact hret () [0, 1] dX6_tensionOf_24 hwp rfl rfl hP hD hS
theorem ml_X6_measure_0 : (.constantFloat RX6 25 (1120403456) : Cond) ∈ wsX6_measure := List.mem_of_getElem? (i := 1) rfl
theorem mc_X6_measure_6 : ∀ w ∈ u_ws RX6 TX6 2, w ∈ wsX6_measure := fun w h => List.mem_cons_of_mem _ (List.mem_append_left _ (List.mem_append_left _ (List.mem_append_left _ (List.mem_append_right _ h))))
theorem ml_X6_measure_2 : (.fieldLink RX6 9 "StoryWall$Tensions" "values" "[F" : Cond) ∈ wsX6_measure := List.mem_of_getElem? (i := 2) rfl
theorem ml_X6_measure_3 : (.constantFloat RX6 26 (3212836864) : Cond) ∈ wsX6_measure := List.mem_of_getElem? (i := 3) rfl
theorem ml_X6_measure_4 : (.fieldLink RX6 15 "StoryWall$Tensions" "climbs" "[I" : Cond) ∈ wsX6_measure := List.mem_of_getElem? (i := 4) rfl
theorem mc_X6_measure_4 : ∀ w ∈ u_ws RX4 TX4 3, w ∈ wsX6_measure := fun w h => List.mem_cons_of_mem _ (List.mem_append_left _ (List.mem_append_left _ (List.mem_append_right _ h)))
abbrev rm_X6_measure : Room := { frames := 4, cells := 0, slots := 0, locals := 92 }
set_option maxHeartbeats 4000000 in
set_option maxRecDepth 100000 in
theorem c_X6_measure (l : Launch) (D : va_G) (cI cC cF cO : ClassId) (a_this a_values a_climbs a_p1 a_p1_cards a_p1_cards_numbers a_p1_wall a_p1_wall_slots a_p1_settings : Nat)  (sz : Nat)  (v_values : Nat → UInt32) (v_climbs : Nat → Int32) (v_p1_cards_size : Int32) (v_p1_cards_numbers : Nat → Int32) (v_p1_wall_slots : Nat → Int32) (v_p1_settings : Nat → Int32) (post : (Nat → UInt32) → (Nat → Int32) → Prop) (hwp : wp_X6_measure v_values v_climbs v_p1_cards_size v_p1_cards_numbers v_p1_wall_slots v_p1_settings post) : Met l yX6_measure wsX6_measure rm_X6_measure (gPre D (gT cI cC cF cO) [.ref a_this, .ref a_p1] [(a_this, .inr (6, [.ref a_values, .ref a_climbs])), (a_values, .inl (cF, 16, .inr (.inr (.inl v_values)))), (a_climbs, .inl (cI, 16, .inl v_climbs)), (a_p1, .inr (4, [.ref a_p1_cards, .ref a_p1_wall, .ref a_p1_settings])), (a_p1_cards, .inr (1, [.ref a_p1_cards_numbers, .int v_p1_cards_size])), (a_p1_cards_numbers, .inl (cI, 200, .inl v_p1_cards_numbers)), (a_p1_wall, .inr (7, [.ref a_p1_wall_slots])), (a_p1_wall_slots, .inl (cI, 96, .inl v_p1_wall_slots)), (a_p1_settings, .inl (cI, 3, .inl v_p1_settings))] sz) (va_Qv (S := (Nat → UInt32) × (Nat → Int32)) (fun (u : (Nat → UInt32) × (Nat → Int32)) => post u.1 u.2) (gB D (gT cI cC cF cO) (fun (u : (Nat → UInt32) × (Nat → Int32)) => [(a_this, .inr (6, [.ref a_values, .ref a_climbs])), (a_values, .inl (cF, 16, .inr (.inr (.inl u.1)))), (a_climbs, .inl (cI, 16, .inl u.2)), (a_p1, .inr (4, [.ref a_p1_cards, .ref a_p1_wall, .ref a_p1_settings])), (a_p1_cards, .inr (1, [.ref a_p1_cards_numbers, .int v_p1_cards_size])), (a_p1_cards_numbers, .inl (cI, 200, .inl v_p1_cards_numbers)), (a_p1_wall, .inr (7, [.ref a_p1_wall_slots])), (a_p1_wall_slots, .inl (cI, 96, .inl v_p1_wall_slots)), (a_p1_settings, .inl (cI, 3, .inl v_p1_settings))]) [(a_this, .inr (6, [.ref a_values, .ref a_climbs])), (a_values, .inl (cF, 16, .inr (.inr (.inl v_values)))), (a_climbs, .inl (cI, 16, .inl v_climbs)), (a_p1, .inr (4, [.ref a_p1_cards, .ref a_p1_wall, .ref a_p1_settings])), (a_p1_cards, .inr (1, [.ref a_p1_cards_numbers, .int v_p1_cards_size])), (a_p1_cards_numbers, .inl (cI, 200, .inl v_p1_cards_numbers)), (a_p1_wall, .inr (7, [.ref a_p1_wall_slots])), (a_p1_wall_slots, .inl (cI, 96, .inl v_p1_wall_slots)), (a_p1_settings, .inl (cI, 3, .inl v_p1_settings))] sz) (va_A [(a_this, .inr (6, [.ref a_values, .ref a_climbs])), (a_values, .inl (cF, 16, .inr (.inr (.inl v_values)))), (a_climbs, .inl (cI, 16, .inl v_climbs)), (a_p1, .inr (4, [.ref a_p1_cards, .ref a_p1_wall, .ref a_p1_settings])), (a_p1_cards, .inr (1, [.ref a_p1_cards_numbers, .int v_p1_cards_size])), (a_p1_cards_numbers, .inl (cI, 200, .inl v_p1_cards_numbers)), (a_p1_wall, .inr (7, [.ref a_p1_wall_slots])), (a_p1_wall_slots, .inl (cI, 96, .inl v_p1_wall_slots)), (a_p1_settings, .inl (cI, 3, .inl v_p1_settings))] sz)) 0 0 (va_A [(a_this, .inr (6, [.ref a_values, .ref a_climbs])), (a_values, .inl (cF, 16, .inr (.inr (.inl v_values)))), (a_climbs, .inl (cI, 16, .inl v_climbs)), (a_p1, .inr (4, [.ref a_p1_cards, .ref a_p1_wall, .ref a_p1_settings])), (a_p1_cards, .inr (1, [.ref a_p1_cards_numbers, .int v_p1_cards_size])), (a_p1_cards_numbers, .inl (cI, 200, .inl v_p1_cards_numbers)), (a_p1_wall, .inr (7, [.ref a_p1_wall_slots])), (a_p1_wall_slots, .inl (cI, 96, .inl v_p1_wall_slots)), (a_p1_settings, .inl (cI, 3, .inl v_p1_settings))] sz) := by
  refine gOfv (own := RX6) (cc := cX6_measure) (maxL := 6) (ret := none) rfl (by decide) rfl (Nat.le_of_ble_eq_true rfl) rfl ?_
  intro p e s m below meth c A args Q hAe hx hb hr hts hown hml hlocks hname hA hK hX hT hP hD hS hret ls hl
  have hl : lv_has ls 6 [(0, .ref a_this), (1, .ref a_p1)] := hl
  unfold wp_X6_measure at hwp
  refine lv_aload_n hx hb dX6_measure_0 rfl (lv_at hl 1 rfl) ?_
  refine lv_iconst (v := 2) hx hb dX6_measure_1 (by decide) ?_
  refine gBacki (D := D) (tys := gT cI cC cF cO) (A := A) (wr := [(a_this, .inr (6, [.ref a_values, .ref a_climbs])), (a_values, .inl (cF, 16, .inr (.inr (.inl v_values)))), (a_climbs, .inl (cI, 16, .inl v_climbs)), (a_p1_cards, .inr (1, [.ref a_p1_cards_numbers, .int v_p1_cards_size])), (a_p1_cards_numbers, .inl (cI, 200, .inl v_p1_cards_numbers)), (a_p1_wall, .inr (7, [.ref a_p1_wall_slots])), (a_p1_wall_slots, .inl (cI, 96, .inl v_p1_wall_slots))]) (w1 := (fun u_2 : Unit => [(a_p1, .inr (4, [.ref a_p1_cards, .ref a_p1_wall, .ref a_p1_settings])), (a_p1_settings, .inl (cI, 3, .inl v_p1_settings))])) (va_runV (As := [.int (2 : Int32)]) (rest := []) ⟨hx, hb, hml, hown, hts⟩ (c_X4_setting l D cI cC cF cO a_p1 a_p1_settings a_p1_cards a_p1_wall _ _ _ _ hwp) (cwV 1 hts gX6_measure_X4_setting rfl rfl rfl (by decide +kernel) ⟨Nat.le_of_ble_eq_true rfl, Nat.le_of_ble_eq_true rfl⟩) (gPreV (C := RX4) (T := TX4) (N := 3) (ci := 4) hK hX hT hP hD hS hA [3, 8] rfl rfl rfl (qb := 3) rfl) rfl rfl hl.1 rfl (lv_room (Nat.le_of_ble_eq_true rfl)) dX6_measure_2 ⟨Nat.le_of_ble_eq_true rfl, Nat.le_of_ble_eq_true rfl⟩) hP hD hS hA [3, 8] [0, 1, 2, 4, 5, 6, 7] rfl rfl rfl (by decide) (fun r_1 u_2 H locs hwp hP hD hS => ?_)
  have hP : va_P D vwCl [(a_this, .inr (6, [.ref a_values, .ref a_climbs])), (a_values, .inl (cF, 16, .inr (.inr (.inl v_values)))), (a_climbs, .inl (cI, 16, .inl v_climbs)), (a_p1_cards, .inr (1, [.ref a_p1_cards_numbers, .int v_p1_cards_size])), (a_p1_cards_numbers, .inl (cI, 200, .inl v_p1_cards_numbers)), (a_p1_wall, .inr (7, [.ref a_p1_wall_slots])), (a_p1_wall_slots, .inl (cI, 96, .inl v_p1_wall_slots)), (a_p1, .inr (4, [.ref a_p1_cards, .ref a_p1_wall, .ref a_p1_settings])), (a_p1_settings, .inl (cI, 3, .inl v_p1_settings))] H := hP
  have hD : va_D A [(a_this, .inr (6, [.ref a_values, .ref a_climbs])), (a_values, .inl (cF, 16, .inr (.inr (.inl v_values)))), (a_climbs, .inl (cI, 16, .inl v_climbs)), (a_p1_cards, .inr (1, [.ref a_p1_cards_numbers, .int v_p1_cards_size])), (a_p1_cards_numbers, .inl (cI, 200, .inl v_p1_cards_numbers)), (a_p1_wall, .inr (7, [.ref a_p1_wall_slots])), (a_p1_wall_slots, .inl (cI, 96, .inl v_p1_wall_slots)), (a_p1, .inr (4, [.ref a_p1_cards, .ref a_p1_wall, .ref a_p1_settings])), (a_p1_settings, .inl (cI, 3, .inl v_p1_settings))] := hD
  refine lv_i2f hx hb dX6_measure_5 ?_
  refine lv_ldcf (v := 1120403456) hx hb hown (hts _ ml_X6_measure_0) dX6_measure_6 ?_
  have hn_3 := hwp.1
  have hwp := hwp.2
  refine lv_fdiv hx hb dX6_measure_8 hn_3 ?_
  refine lv_fstore_n (lv' := [(2, .float (FP.fdiv (FP.i2f r_1) (1120403456 : UInt32))), (0, .ref a_this), (1, .ref a_p1)]) hx hb dX6_measure_9 rfl hl (by decide) rfl (fun ls hl => ?_)
  refine lv_bipush (v := -5) hx hb dX6_measure_10 (by decide) ?_
  refine lv_istore_n (lv' := [(3, .int (-5 : Int32)), (2, .float (FP.fdiv (FP.i2f r_1) (1120403456 : UInt32))), (0, .ref a_this), (1, .ref a_p1)]) hx hb dX6_measure_12 rfl hl (by decide) rfl (fun ls hl => ?_)
  refine lv_iconst (v := 0) hx hb dX6_measure_13 (by decide) ?_
  refine lv_istore (lv' := [(4, .int (0 : Int32)), (3, .int (-5 : Int32)), (2, .float (FP.fdiv (FP.i2f r_1) (1120403456 : UInt32))), (0, .ref a_this), (1, .ref a_p1)]) hx hb dX6_measure_14 hl (by decide) rfl (fun ls hl => ?_)
  have hP : va_P D vwCl [(a_this, .inr (6, [.ref a_values, .ref a_climbs])), (a_values, .inl (cF, 16, .inr (.inr (.inl v_values)))), (a_climbs, .inl (cI, 16, .inl v_climbs)), (a_p1, .inr (4, [.ref a_p1_cards, .ref a_p1_wall, .ref a_p1_settings])), (a_p1_cards, .inr (1, [.ref a_p1_cards_numbers, .int v_p1_cards_size])), (a_p1_cards_numbers, .inl (cI, 200, .inl v_p1_cards_numbers)), (a_p1_wall, .inr (7, [.ref a_p1_wall_slots])), (a_p1_wall_slots, .inl (cI, 96, .inl v_p1_wall_slots)), (a_p1_settings, .inl (cI, 3, .inl v_p1_settings))] H := hP.sub [0, 1, 2, 7, 3, 4, 5, 6, 8] rfl
  have hD : va_D A [(a_this, .inr (6, [.ref a_values, .ref a_climbs])), (a_values, .inl (cF, 16, .inr (.inr (.inl v_values)))), (a_climbs, .inl (cI, 16, .inl v_climbs)), (a_p1, .inr (4, [.ref a_p1_cards, .ref a_p1_wall, .ref a_p1_settings])), (a_p1_cards, .inr (1, [.ref a_p1_cards_numbers, .int v_p1_cards_size])), (a_p1_cards_numbers, .inl (cI, 200, .inl v_p1_cards_numbers)), (a_p1_wall, .inr (7, [.ref a_p1_wall_slots])), (a_p1_wall_slots, .inl (cI, 96, .inl v_p1_wall_slots)), (a_p1_settings, .inl (cI, 3, .inl v_p1_settings))] := hD.sub [0, 1, 2, 7, 3, 4, 5, 6, 8] (by decide) rfl
  have hl : lv_has ls 6 [(0, .ref a_this), (1, .ref a_p1), (2, .float (FP.fdiv (FP.i2f r_1) (1120403456 : UInt32))), (3, .int (-5 : Int32)), (4, .int (0 : Int32))] := lv_sub hl [3, 4, 2, 1, 0] rfl
  unfold wp_X6_measure_l16 at hwp
  obtain ⟨J16, μ16, hJ, hst16⟩ := hwp
  have hL16 : ∀ (n : Nat) (x3_16 : Int32) (x4_16 : Int32) (v_values_16 : Nat → UInt32) (v_climbs_16 : Nat → Int32), μ16 x3_16 x4_16 v_values_16 v_climbs_16 < n → J16 x3_16 x4_16 v_values_16 v_climbs_16 → ∀ (H : Heap) (locs : List Loc), va_P D vwCl [(a_this, .inr (6, [.ref a_values, .ref a_climbs])), (a_values, .inl (cF, 16, .inr (.inr (.inl v_values_16)))), (a_climbs, .inl (cI, 16, .inl v_climbs_16)), (a_p1, .inr (4, [.ref a_p1_cards, .ref a_p1_wall, .ref a_p1_settings])), (a_p1_cards, .inr (1, [.ref a_p1_cards_numbers, .int v_p1_cards_size])), (a_p1_cards_numbers, .inl (cI, 200, .inl v_p1_cards_numbers)), (a_p1_wall, .inr (7, [.ref a_p1_wall_slots])), (a_p1_wall_slots, .inl (cI, 96, .inl v_p1_wall_slots)), (a_p1_settings, .inl (cI, 3, .inl v_p1_settings))] H → va_D A [(a_this, .inr (6, [.ref a_values, .ref a_climbs])), (a_values, .inl (cF, 16, .inr (.inr (.inl v_values_16)))), (a_climbs, .inl (cI, 16, .inl v_climbs_16)), (a_p1, .inr (4, [.ref a_p1_cards, .ref a_p1_wall, .ref a_p1_settings])), (a_p1_cards, .inr (1, [.ref a_p1_cards_numbers, .int v_p1_cards_size])), (a_p1_cards_numbers, .inl (cI, 200, .inl v_p1_cards_numbers)), (a_p1_wall, .inr (7, [.ref a_p1_wall_slots])), (a_p1_wall_slots, .inl (cI, 96, .inl v_p1_wall_slots)), (a_p1_settings, .inl (cI, 3, .inl v_p1_settings))] → va_S A s.heap H locs → ∀ ls : Array Slot, lv_has ls 6 [(0, .ref a_this), (1, .ref a_p1), (2, .float (FP.fdiv (FP.i2f r_1) (1120403456 : UInt32))), (3, .int x3_16), (4, .int x4_16)] → W p l e rm_X6_measure s m args below meth c H locs 0 0 Q (F0 m 16 ls []) := by
    intro n
    induction n with
    | zero => intro x3_16 x4_16 v_values_16 v_climbs_16 h; exact absurd h (Nat.not_lt_zero _)
    | succ n ih16 =>
      intro x3_16 x4_16 v_values_16 v_climbs_16 hμ16 hJ H locs hP hD hS ls hl
      have hwp := hst16 x3_16 x4_16 v_values_16 v_climbs_16 hJ
      have hj118 : ∀ (x4_118 : Int32) (k0_118 : Int32) (k1_118 : Int32) (v_values_118 : Nat → UInt32) (v_climbs_118 : Nat → Int32) (H : Heap) (locs : List Loc), wp_X6_measure_j118 (FP.fdiv (FP.i2f r_1) (1120403456 : UInt32)) x4_118 k0_118 k1_118 v_values_118 v_climbs_118 v_p1_cards_size v_p1_cards_numbers v_p1_wall_slots v_p1_settings (fun u0 u1 u2 u3 => J16 u0 u1 u2 u3 ∧ μ16 u0 u1 u2 u3 < μ16 x3_16 x4_16 v_values_16 v_climbs_16) post → va_P D vwCl [(a_this, .inr (6, [.ref a_values, .ref a_climbs])), (a_values, .inl (cF, 16, .inr (.inr (.inl v_values_118)))), (a_climbs, .inl (cI, 16, .inl v_climbs_118)), (a_p1, .inr (4, [.ref a_p1_cards, .ref a_p1_wall, .ref a_p1_settings])), (a_p1_cards, .inr (1, [.ref a_p1_cards_numbers, .int v_p1_cards_size])), (a_p1_cards_numbers, .inl (cI, 200, .inl v_p1_cards_numbers)), (a_p1_wall, .inr (7, [.ref a_p1_wall_slots])), (a_p1_wall_slots, .inl (cI, 96, .inl v_p1_wall_slots)), (a_p1_settings, .inl (cI, 3, .inl v_p1_settings))] H → va_D A [(a_this, .inr (6, [.ref a_values, .ref a_climbs])), (a_values, .inl (cF, 16, .inr (.inr (.inl v_values_118)))), (a_climbs, .inl (cI, 16, .inl v_climbs_118)), (a_p1, .inr (4, [.ref a_p1_cards, .ref a_p1_wall, .ref a_p1_settings])), (a_p1_cards, .inr (1, [.ref a_p1_cards_numbers, .int v_p1_cards_size])), (a_p1_cards_numbers, .inl (cI, 200, .inl v_p1_cards_numbers)), (a_p1_wall, .inr (7, [.ref a_p1_wall_slots])), (a_p1_wall_slots, .inl (cI, 96, .inl v_p1_wall_slots)), (a_p1_settings, .inl (cI, 3, .inl v_p1_settings))] → va_S A s.heap H locs → ∀ ls : Array Slot, lv_has ls 6 [(0, .ref a_this), (1, .ref a_p1), (2, .float (FP.fdiv (FP.i2f r_1) (1120403456 : UInt32))), (4, .int x4_118)] → W p l e rm_X6_measure s m args below meth c H locs 0 0 Q (F0 m 118 ls [.int k0_118, .int k1_118, .ref a_climbs]) := by
        intro x4_118 k0_118 k1_118 v_values_118 v_climbs_118 H locs hwp hP hD hS ls hl
        unfold wp_X6_measure_j118 at hwp
        have hn_4 := hwp.1
        have hwp := hwp.2
        refine va_iast (D := D) hx hb hK hP hD hS 2 0 rfl rfl hn_4 dX6_measure_118 (fun H locs hP hD hS => ?_)
        have hP : va_P D vwCl [(a_this, .inr (6, [.ref a_values, .ref a_climbs])), (a_values, .inl (cF, 16, .inr (.inr (.inl v_values_118)))), (a_climbs, .inl (cI, 16, .inl (upd v_climbs_118 (k1_118).toNatClampNeg k0_118))), (a_p1, .inr (4, [.ref a_p1_cards, .ref a_p1_wall, .ref a_p1_settings])), (a_p1_cards, .inr (1, [.ref a_p1_cards_numbers, .int v_p1_cards_size])), (a_p1_cards_numbers, .inl (cI, 200, .inl v_p1_cards_numbers)), (a_p1_wall, .inr (7, [.ref a_p1_wall_slots])), (a_p1_wall_slots, .inl (cI, 96, .inl v_p1_wall_slots)), (a_p1_settings, .inl (cI, 3, .inl v_p1_settings))] H := hP
        have hD : va_D A [(a_this, .inr (6, [.ref a_values, .ref a_climbs])), (a_values, .inl (cF, 16, .inr (.inr (.inl v_values_118)))), (a_climbs, .inl (cI, 16, .inl (upd v_climbs_118 (k1_118).toNatClampNeg k0_118))), (a_p1, .inr (4, [.ref a_p1_cards, .ref a_p1_wall, .ref a_p1_settings])), (a_p1_cards, .inr (1, [.ref a_p1_cards_numbers, .int v_p1_cards_size])), (a_p1_cards_numbers, .inl (cI, 200, .inl v_p1_cards_numbers)), (a_p1_wall, .inr (7, [.ref a_p1_wall_slots])), (a_p1_wall_slots, .inl (cI, 96, .inl v_p1_wall_slots)), (a_p1_settings, .inl (cI, 3, .inl v_p1_settings))] := hD
        refine lv_iload hx hb dX6_measure_119 (lv_at hl 3 rfl) ?_
        refine lv_istore_n (lv' := [(3, .int x4_118), (0, .ref a_this), (1, .ref a_p1), (2, .float (FP.fdiv (FP.i2f r_1) (1120403456 : UInt32))), (4, .int x4_118)]) hx hb dX6_measure_121 rfl hl (by decide) rfl (fun ls hl => ?_)
        refine lv_iinc (v := (x4_118 + (1 : Int32))) (lv' := [(4, .int (x4_118 + (1 : Int32))), (3, .int x4_118), (0, .ref a_this), (1, .ref a_p1), (2, .float (FP.fdiv (FP.i2f r_1) (1120403456 : UInt32)))]) hx hb dX6_measure_122 hl (k := 4) rfl rfl (by decide) rfl (fun ls hl => ?_)
        refine lv_goto (tgt := 16) hx hb dX6_measure_125 (by decide) ?_
        have hl : lv_has ls 6 [(0, .ref a_this), (1, .ref a_p1), (2, .float (FP.fdiv (FP.i2f r_1) (1120403456 : UInt32))), (3, .int x4_118), (4, .int (x4_118 + (1 : Int32)))] := lv_sub hl [2, 3, 4, 1, 0] rfl
        exact ih16 x4_118 (x4_118 + (1 : Int32)) v_values_118 (upd v_climbs_118 (k1_118).toNatClampNeg k0_118) (Nat.lt_of_lt_of_le hwp.2 (Nat.le_of_lt_succ hμ16)) hwp.1 _ _ hP hD hS ls hl
      have hj94 : ∀ (x3_94 : Int32) (x4_94 : Int32) (k0_94 : Int32) (v_values_94 : Nat → UInt32) (v_climbs_94 : Nat → Int32) (H : Heap) (locs : List Loc), wp_X6_measure_j94 (FP.fdiv (FP.i2f r_1) (1120403456 : UInt32)) x3_94 x4_94 k0_94 v_values_94 v_climbs_94 v_p1_cards_size v_p1_cards_numbers v_p1_wall_slots v_p1_settings (fun u0 u1 u2 u3 => J16 u0 u1 u2 u3 ∧ μ16 u0 u1 u2 u3 < μ16 x3_16 x4_16 v_values_16 v_climbs_16) post → va_P D vwCl [(a_this, .inr (6, [.ref a_values, .ref a_climbs])), (a_values, .inl (cF, 16, .inr (.inr (.inl v_values_94)))), (a_climbs, .inl (cI, 16, .inl v_climbs_94)), (a_p1, .inr (4, [.ref a_p1_cards, .ref a_p1_wall, .ref a_p1_settings])), (a_p1_cards, .inr (1, [.ref a_p1_cards_numbers, .int v_p1_cards_size])), (a_p1_cards_numbers, .inl (cI, 200, .inl v_p1_cards_numbers)), (a_p1_wall, .inr (7, [.ref a_p1_wall_slots])), (a_p1_wall_slots, .inl (cI, 96, .inl v_p1_wall_slots)), (a_p1_settings, .inl (cI, 3, .inl v_p1_settings))] H → va_D A [(a_this, .inr (6, [.ref a_values, .ref a_climbs])), (a_values, .inl (cF, 16, .inr (.inr (.inl v_values_94)))), (a_climbs, .inl (cI, 16, .inl v_climbs_94)), (a_p1, .inr (4, [.ref a_p1_cards, .ref a_p1_wall, .ref a_p1_settings])), (a_p1_cards, .inr (1, [.ref a_p1_cards_numbers, .int v_p1_cards_size])), (a_p1_cards_numbers, .inl (cI, 200, .inl v_p1_cards_numbers)), (a_p1_wall, .inr (7, [.ref a_p1_wall_slots])), (a_p1_wall_slots, .inl (cI, 96, .inl v_p1_wall_slots)), (a_p1_settings, .inl (cI, 3, .inl v_p1_settings))] → va_S A s.heap H locs → ∀ ls : Array Slot, lv_has ls 6 [(0, .ref a_this), (1, .ref a_p1), (2, .float (FP.fdiv (FP.i2f r_1) (1120403456 : UInt32))), (3, .int x3_94), (4, .int x4_94)] → W p l e rm_X6_measure s m args below meth c H locs 0 0 Q (F0 m 94 ls [.int k0_94]) := by
        intro x3_94 x4_94 k0_94 v_values_94 v_climbs_94 H locs hwp hP hD hS ls hl
        unfold wp_X6_measure_j94 at hwp
        refine lv_istore (lv' := [(5, .int k0_94), (0, .ref a_this), (1, .ref a_p1), (2, .float (FP.fdiv (FP.i2f r_1) (1120403456 : UInt32))), (3, .int x3_94), (4, .int x4_94)]) hx hb dX6_measure_94 hl (by decide) rfl (fun ls hl => ?_)
        refine lv_aload_n hx hb dX6_measure_96 rfl (lv_at hl 1 rfl) ?_
        refine va_get (D := D) (ci := 6) (v := .ref a_climbs) (C := RX6) (T := TX6) (N := 2) hx hb hts mc_X6_measure_6 hown hK hP 0 rfl rfl 1 (by decide) (hts _ ml_X6_measure_4) (fun _ h9 => h9) rfl dX6_measure_97 ?_
        refine lv_iload hx hb dX6_measure_100 (lv_at hl 5 rfl) ?_
        refine lv_iload hx hb dX6_measure_102 (lv_at hl 0 rfl) ?_
        refine lv_if_eq (tgt := 117) hx hb dX6_measure_104 (by decide) (fun hc => ?_) (fun hc => ?_)
        · have hwp := hwp.1 hc
          refine lv_iconst (v := 1) hx hb dX6_measure_117 (by decide) ?_
          have hl : lv_has ls 6 [(0, .ref a_this), (1, .ref a_p1), (2, .float (FP.fdiv (FP.i2f r_1) (1120403456 : UInt32))), (4, .int x4_94)] := lv_sub hl [1, 2, 3, 5] rfl
          exact hj118 x4_94 (1 : Int32) x4_94 v_values_94 v_climbs_94 _ _ hwp hP hD hS ls hl
        · have hwp := hwp.2 hc
          refine lv_aload_n hx hb dX6_measure_107 rfl (lv_at hl 1 rfl) ?_
          refine lv_iload_n hx hb dX6_measure_108 rfl (lv_at hl 4 rfl) ?_
          refine gBacki (D := D) (tys := gT cI cC cF cO) (A := A) (wr := [(a_values, .inl (cF, 16, .inr (.inr (.inl v_values_94)))), (a_p1, .inr (4, [.ref a_p1_cards, .ref a_p1_wall, .ref a_p1_settings])), (a_p1_cards, .inr (1, [.ref a_p1_cards_numbers, .int v_p1_cards_size])), (a_p1_cards_numbers, .inl (cI, 200, .inl v_p1_cards_numbers)), (a_p1_wall, .inr (7, [.ref a_p1_wall_slots])), (a_p1_wall_slots, .inl (cI, 96, .inl v_p1_wall_slots)), (a_p1_settings, .inl (cI, 3, .inl v_p1_settings))]) (w1 := (fun u_6 : Unit => [(a_this, .inr (6, [.ref a_values, .ref a_climbs])), (a_climbs, .inl (cI, 16, .inl v_climbs_94))])) (va_runV (As := [.int x3_94]) (rest := [.int x4_94, .ref a_climbs]) ⟨hx, hb, hml, hown, hts⟩ (c_X6_climbTo l D cI cC cF cO a_this a_climbs a_values _ _ _ _ hwp) (cwV 1 hts gX6_measure_X6_climbTo rfl rfl rfl (by decide +kernel) ⟨Nat.le_of_ble_eq_true rfl, Nat.le_of_ble_eq_true rfl⟩) (gPreV (C := RX6) (T := TX6) (N := 2) (ci := 6) hK hX hT hP hD hS hA [0, 2] rfl rfl rfl (qb := 0) rfl) rfl rfl hl.1 rfl (lv_room (Nat.le_of_ble_eq_true rfl)) dX6_measure_109 ⟨Nat.le_of_ble_eq_true rfl, Nat.le_of_ble_eq_true rfl⟩) hP hD hS hA [0, 2] [1, 3, 4, 5, 6, 7, 8] rfl rfl rfl (by decide) (fun r_5 u_6 H locs hwp hP hD hS => ?_)
          have hP : va_P D vwCl [(a_values, .inl (cF, 16, .inr (.inr (.inl v_values_94)))), (a_p1, .inr (4, [.ref a_p1_cards, .ref a_p1_wall, .ref a_p1_settings])), (a_p1_cards, .inr (1, [.ref a_p1_cards_numbers, .int v_p1_cards_size])), (a_p1_cards_numbers, .inl (cI, 200, .inl v_p1_cards_numbers)), (a_p1_wall, .inr (7, [.ref a_p1_wall_slots])), (a_p1_wall_slots, .inl (cI, 96, .inl v_p1_wall_slots)), (a_p1_settings, .inl (cI, 3, .inl v_p1_settings)), (a_this, .inr (6, [.ref a_values, .ref a_climbs])), (a_climbs, .inl (cI, 16, .inl v_climbs_94))] H := hP
          have hD : va_D A [(a_values, .inl (cF, 16, .inr (.inr (.inl v_values_94)))), (a_p1, .inr (4, [.ref a_p1_cards, .ref a_p1_wall, .ref a_p1_settings])), (a_p1_cards, .inr (1, [.ref a_p1_cards_numbers, .int v_p1_cards_size])), (a_p1_cards_numbers, .inl (cI, 200, .inl v_p1_cards_numbers)), (a_p1_wall, .inr (7, [.ref a_p1_wall_slots])), (a_p1_wall_slots, .inl (cI, 96, .inl v_p1_wall_slots)), (a_p1_settings, .inl (cI, 3, .inl v_p1_settings)), (a_this, .inr (6, [.ref a_values, .ref a_climbs])), (a_climbs, .inl (cI, 16, .inl v_climbs_94))] := hD
          refine lv_iconst (v := 1) hx hb dX6_measure_112 (by decide) ?_
          refine lv_iadd hx hb dX6_measure_113 ?_
          refine lv_goto (tgt := 118) hx hb dX6_measure_114 (by decide) ?_
          have hP : va_P D vwCl [(a_this, .inr (6, [.ref a_values, .ref a_climbs])), (a_values, .inl (cF, 16, .inr (.inr (.inl v_values_94)))), (a_climbs, .inl (cI, 16, .inl v_climbs_94)), (a_p1, .inr (4, [.ref a_p1_cards, .ref a_p1_wall, .ref a_p1_settings])), (a_p1_cards, .inr (1, [.ref a_p1_cards_numbers, .int v_p1_cards_size])), (a_p1_cards_numbers, .inl (cI, 200, .inl v_p1_cards_numbers)), (a_p1_wall, .inr (7, [.ref a_p1_wall_slots])), (a_p1_wall_slots, .inl (cI, 96, .inl v_p1_wall_slots)), (a_p1_settings, .inl (cI, 3, .inl v_p1_settings))] H := hP.sub [7, 0, 8, 1, 2, 3, 4, 5, 6] rfl
          have hD : va_D A [(a_this, .inr (6, [.ref a_values, .ref a_climbs])), (a_values, .inl (cF, 16, .inr (.inr (.inl v_values_94)))), (a_climbs, .inl (cI, 16, .inl v_climbs_94)), (a_p1, .inr (4, [.ref a_p1_cards, .ref a_p1_wall, .ref a_p1_settings])), (a_p1_cards, .inr (1, [.ref a_p1_cards_numbers, .int v_p1_cards_size])), (a_p1_cards_numbers, .inl (cI, 200, .inl v_p1_cards_numbers)), (a_p1_wall, .inr (7, [.ref a_p1_wall_slots])), (a_p1_wall_slots, .inl (cI, 96, .inl v_p1_wall_slots)), (a_p1_settings, .inl (cI, 3, .inl v_p1_settings))] := hD.sub [7, 0, 8, 1, 2, 3, 4, 5, 6] (by decide) rfl
          have hl : lv_has ls 6 [(0, .ref a_this), (1, .ref a_p1), (2, .float (FP.fdiv (FP.i2f r_1) (1120403456 : UInt32))), (4, .int x4_94)] := lv_sub hl [1, 2, 3, 5] rfl
          exact hj118 x4_94 (r_5 + (1 : Int32)) x4_94 v_values_94 v_climbs_94 _ _ hwp hP hD hS ls hl
      have hj93 : ∀ (x3_93 : Int32) (x4_93 : Int32) (v_values_93 : Nat → UInt32) (v_climbs_93 : Nat → Int32) (H : Heap) (locs : List Loc), wp_X6_measure_j93 (FP.fdiv (FP.i2f r_1) (1120403456 : UInt32)) x3_93 x4_93 v_values_93 v_climbs_93 v_p1_cards_size v_p1_cards_numbers v_p1_wall_slots v_p1_settings (fun u0 u1 u2 u3 => J16 u0 u1 u2 u3 ∧ μ16 u0 u1 u2 u3 < μ16 x3_16 x4_16 v_values_16 v_climbs_16) post → va_P D vwCl [(a_this, .inr (6, [.ref a_values, .ref a_climbs])), (a_values, .inl (cF, 16, .inr (.inr (.inl v_values_93)))), (a_climbs, .inl (cI, 16, .inl v_climbs_93)), (a_p1, .inr (4, [.ref a_p1_cards, .ref a_p1_wall, .ref a_p1_settings])), (a_p1_cards, .inr (1, [.ref a_p1_cards_numbers, .int v_p1_cards_size])), (a_p1_cards_numbers, .inl (cI, 200, .inl v_p1_cards_numbers)), (a_p1_wall, .inr (7, [.ref a_p1_wall_slots])), (a_p1_wall_slots, .inl (cI, 96, .inl v_p1_wall_slots)), (a_p1_settings, .inl (cI, 3, .inl v_p1_settings))] H → va_D A [(a_this, .inr (6, [.ref a_values, .ref a_climbs])), (a_values, .inl (cF, 16, .inr (.inr (.inl v_values_93)))), (a_climbs, .inl (cI, 16, .inl v_climbs_93)), (a_p1, .inr (4, [.ref a_p1_cards, .ref a_p1_wall, .ref a_p1_settings])), (a_p1_cards, .inr (1, [.ref a_p1_cards_numbers, .int v_p1_cards_size])), (a_p1_cards_numbers, .inl (cI, 200, .inl v_p1_cards_numbers)), (a_p1_wall, .inr (7, [.ref a_p1_wall_slots])), (a_p1_wall_slots, .inl (cI, 96, .inl v_p1_wall_slots)), (a_p1_settings, .inl (cI, 3, .inl v_p1_settings))] → va_S A s.heap H locs → ∀ ls : Array Slot, lv_has ls 6 [(0, .ref a_this), (1, .ref a_p1), (2, .float (FP.fdiv (FP.i2f r_1) (1120403456 : UInt32))), (3, .int x3_93), (4, .int x4_93)] → W p l e rm_X6_measure s m args below meth c H locs 0 0 Q (F0 m 93 ls []) := by
        intro x3_93 x4_93 v_values_93 v_climbs_93 H locs hwp hP hD hS ls hl
        unfold wp_X6_measure_j93 at hwp
        refine lv_iconst (v := 0) hx hb dX6_measure_93 (by decide) ?_
        have hl : lv_has ls 6 [(0, .ref a_this), (1, .ref a_p1), (2, .float (FP.fdiv (FP.i2f r_1) (1120403456 : UInt32))), (3, .int x3_93), (4, .int x4_93)] := lv_sub hl [0, 1, 2, 3, 4] rfl
        exact hj94 x3_93 x4_93 (0 : Int32) v_values_93 v_climbs_93 _ _ hwp hP hD hS ls hl
      refine lv_iload hx hb dX6_measure_16 (lv_at hl 4 rfl) ?_
      refine lv_bipush (v := 16) hx hb dX6_measure_18 (by decide) ?_
      refine lv_icmp_ge (tgt := 128) hx hb dX6_measure_20 (by decide) (fun hc => ?_) (fun hc => ?_)
      · have hwp := hwp.1 hc
        exact hret (v_values_16, v_climbs_16) [0, 1, 2, 3, 4, 5, 6, 7, 8] dX6_measure_128 hwp rfl rfl hP hD hS
      · have hwp := hwp.2 hc
        refine lv_aload_n hx hb dX6_measure_23 rfl (lv_at hl 0 rfl) ?_
        refine va_get (D := D) (ci := 6) (v := .ref a_values) (C := RX6) (T := TX6) (N := 2) hx hb hts mc_X6_measure_6 hown hK hP 0 rfl rfl 0 (by decide) (hts _ ml_X6_measure_2) (fun _ h9 => h9) rfl dX6_measure_24 ?_
        refine lv_iload hx hb dX6_measure_27 (lv_at hl 4 rfl) ?_
        refine lv_ldcf (v := 3212836864) hx hb hown (hts _ ml_X6_measure_3) dX6_measure_29 ?_
        have hn_7 := hwp.1
        have hwp := hwp.2
        refine va_fast (D := D) hx hb hK hP hD hS 1 2 rfl rfl hn_7 dX6_measure_31 (fun H locs hP hD hS => ?_)
        have hP : va_P D vwCl [(a_this, .inr (6, [.ref a_values, .ref a_climbs])), (a_values, .inl (cF, 16, .inr (.inr (.inl (vf_upd v_values_16 (x4_16).toNatClampNeg (3212836864 : UInt32)))))), (a_climbs, .inl (cI, 16, .inl v_climbs_16)), (a_p1, .inr (4, [.ref a_p1_cards, .ref a_p1_wall, .ref a_p1_settings])), (a_p1_cards, .inr (1, [.ref a_p1_cards_numbers, .int v_p1_cards_size])), (a_p1_cards_numbers, .inl (cI, 200, .inl v_p1_cards_numbers)), (a_p1_wall, .inr (7, [.ref a_p1_wall_slots])), (a_p1_wall_slots, .inl (cI, 96, .inl v_p1_wall_slots)), (a_p1_settings, .inl (cI, 3, .inl v_p1_settings))] H := hP
        have hD : va_D A [(a_this, .inr (6, [.ref a_values, .ref a_climbs])), (a_values, .inl (cF, 16, .inr (.inr (.inl (vf_upd v_values_16 (x4_16).toNatClampNeg (3212836864 : UInt32)))))), (a_climbs, .inl (cI, 16, .inl v_climbs_16)), (a_p1, .inr (4, [.ref a_p1_cards, .ref a_p1_wall, .ref a_p1_settings])), (a_p1_cards, .inr (1, [.ref a_p1_cards_numbers, .int v_p1_cards_size])), (a_p1_cards_numbers, .inl (cI, 200, .inl v_p1_cards_numbers)), (a_p1_wall, .inr (7, [.ref a_p1_wall_slots])), (a_p1_wall_slots, .inl (cI, 96, .inl v_p1_wall_slots)), (a_p1_settings, .inl (cI, 3, .inl v_p1_settings))] := hD
        refine lv_aload_n hx hb dX6_measure_32 rfl (lv_at hl 0 rfl) ?_
        refine va_get (D := D) (ci := 6) (v := .ref a_climbs) (C := RX6) (T := TX6) (N := 2) hx hb hts mc_X6_measure_6 hown hK hP 0 rfl rfl 1 (by decide) (hts _ ml_X6_measure_4) (fun _ h9 => h9) rfl dX6_measure_33 ?_
        refine lv_iload hx hb dX6_measure_36 (lv_at hl 4 rfl) ?_
        refine lv_iconst (v := 0) hx hb dX6_measure_38 (by decide) ?_
        have hn_8 := hwp.1
        have hwp := hwp.2
        refine va_iast (D := D) hx hb hK hP hD hS 2 0 rfl rfl hn_8 dX6_measure_39 (fun H locs hP hD hS => ?_)
        have hP : va_P D vwCl [(a_this, .inr (6, [.ref a_values, .ref a_climbs])), (a_values, .inl (cF, 16, .inr (.inr (.inl (vf_upd v_values_16 (x4_16).toNatClampNeg (3212836864 : UInt32)))))), (a_climbs, .inl (cI, 16, .inl (upd v_climbs_16 (x4_16).toNatClampNeg (0 : Int32)))), (a_p1, .inr (4, [.ref a_p1_cards, .ref a_p1_wall, .ref a_p1_settings])), (a_p1_cards, .inr (1, [.ref a_p1_cards_numbers, .int v_p1_cards_size])), (a_p1_cards_numbers, .inl (cI, 200, .inl v_p1_cards_numbers)), (a_p1_wall, .inr (7, [.ref a_p1_wall_slots])), (a_p1_wall_slots, .inl (cI, 96, .inl v_p1_wall_slots)), (a_p1_settings, .inl (cI, 3, .inl v_p1_settings))] H := hP
        have hD : va_D A [(a_this, .inr (6, [.ref a_values, .ref a_climbs])), (a_values, .inl (cF, 16, .inr (.inr (.inl (vf_upd v_values_16 (x4_16).toNatClampNeg (3212836864 : UInt32)))))), (a_climbs, .inl (cI, 16, .inl (upd v_climbs_16 (x4_16).toNatClampNeg (0 : Int32)))), (a_p1, .inr (4, [.ref a_p1_cards, .ref a_p1_wall, .ref a_p1_settings])), (a_p1_cards, .inr (1, [.ref a_p1_cards_numbers, .int v_p1_cards_size])), (a_p1_cards_numbers, .inl (cI, 200, .inl v_p1_cards_numbers)), (a_p1_wall, .inr (7, [.ref a_p1_wall_slots])), (a_p1_wall_slots, .inl (cI, 96, .inl v_p1_wall_slots)), (a_p1_settings, .inl (cI, 3, .inl v_p1_settings))] := hD
        refine lv_aload_n hx hb dX6_measure_40 rfl (lv_at hl 1 rfl) ?_
        refine va_getN (D := D) (ci := 4) (v := .ref a_p1_wall) (C := RX4) (T := TX4) (N := 3) hx hb hts mc_X6_measure_4 hown hK hP 3 rfl rfl 1 (by decide) (gX_use hX 5 rfl) (fun _ h9 => h9) rfl dX6_measure_41 ?_
        refine lv_iload hx hb dX6_measure_44 (lv_at hl 4 rfl) ?_
        refine gBacki (D := D) (tys := gT cI cC cF cO) (A := A) (wr := [(a_this, .inr (6, [.ref a_values, .ref a_climbs])), (a_values, .inl (cF, 16, .inr (.inr (.inl (vf_upd v_values_16 (x4_16).toNatClampNeg (3212836864 : UInt32)))))), (a_climbs, .inl (cI, 16, .inl (upd v_climbs_16 (x4_16).toNatClampNeg (0 : Int32)))), (a_p1, .inr (4, [.ref a_p1_cards, .ref a_p1_wall, .ref a_p1_settings])), (a_p1_cards, .inr (1, [.ref a_p1_cards_numbers, .int v_p1_cards_size])), (a_p1_cards_numbers, .inl (cI, 200, .inl v_p1_cards_numbers)), (a_p1_settings, .inl (cI, 3, .inl v_p1_settings))]) (w1 := (fun u_10 : Unit => [(a_p1_wall, .inr (7, [.ref a_p1_wall_slots])), (a_p1_wall_slots, .inl (cI, 96, .inl v_p1_wall_slots))])) (va_runV (As := [.int x4_16]) (rest := []) ⟨hx, hb, hml, hown, hts⟩ (c_X7_sizeOf l D cI cC cF cO a_p1_wall a_p1_wall_slots _ _ _ _ hwp) (cwV 1 hts gX6_measure_X7_sizeOf rfl rfl rfl (by decide +kernel) ⟨Nat.le_of_ble_eq_true rfl, Nat.le_of_ble_eq_true rfl⟩) (gPreV (C := RX7) (T := TX7) (N := 1) (ci := 7) hK hX hT hP hD hS hA [6, 7] rfl rfl rfl (qb := 6) rfl) rfl rfl hl.1 rfl (lv_room (Nat.le_of_ble_eq_true rfl)) dX6_measure_46 ⟨Nat.le_of_ble_eq_true rfl, Nat.le_of_ble_eq_true rfl⟩) hP hD hS hA [6, 7] [0, 1, 2, 3, 4, 5, 8] rfl rfl rfl (by decide) (fun r_9 u_10 H locs hwp hP hD hS => ?_)
        have hP : va_P D vwCl [(a_this, .inr (6, [.ref a_values, .ref a_climbs])), (a_values, .inl (cF, 16, .inr (.inr (.inl (vf_upd v_values_16 (x4_16).toNatClampNeg (3212836864 : UInt32)))))), (a_climbs, .inl (cI, 16, .inl (upd v_climbs_16 (x4_16).toNatClampNeg (0 : Int32)))), (a_p1, .inr (4, [.ref a_p1_cards, .ref a_p1_wall, .ref a_p1_settings])), (a_p1_cards, .inr (1, [.ref a_p1_cards_numbers, .int v_p1_cards_size])), (a_p1_cards_numbers, .inl (cI, 200, .inl v_p1_cards_numbers)), (a_p1_settings, .inl (cI, 3, .inl v_p1_settings)), (a_p1_wall, .inr (7, [.ref a_p1_wall_slots])), (a_p1_wall_slots, .inl (cI, 96, .inl v_p1_wall_slots))] H := hP
        have hD : va_D A [(a_this, .inr (6, [.ref a_values, .ref a_climbs])), (a_values, .inl (cF, 16, .inr (.inr (.inl (vf_upd v_values_16 (x4_16).toNatClampNeg (3212836864 : UInt32)))))), (a_climbs, .inl (cI, 16, .inl (upd v_climbs_16 (x4_16).toNatClampNeg (0 : Int32)))), (a_p1, .inr (4, [.ref a_p1_cards, .ref a_p1_wall, .ref a_p1_settings])), (a_p1_cards, .inr (1, [.ref a_p1_cards_numbers, .int v_p1_cards_size])), (a_p1_cards_numbers, .inl (cI, 200, .inl v_p1_cards_numbers)), (a_p1_settings, .inl (cI, 3, .inl v_p1_settings)), (a_p1_wall, .inr (7, [.ref a_p1_wall_slots])), (a_p1_wall_slots, .inl (cI, 96, .inl v_p1_wall_slots))] := hD
        refine lv_if_le (tgt := 122) hx hb dX6_measure_49 (by decide) (fun hc => ?_) (fun hc => ?_)
        · have hwp := hwp.1 hc
          refine lv_iinc (v := (x4_16 + (1 : Int32))) (lv' := [(4, .int (x4_16 + (1 : Int32))), (0, .ref a_this), (1, .ref a_p1), (2, .float (FP.fdiv (FP.i2f r_1) (1120403456 : UInt32))), (3, .int x3_16)]) hx hb dX6_measure_122 hl (k := 4) rfl rfl (by decide) rfl (fun ls hl => ?_)
          refine lv_goto (tgt := 16) hx hb dX6_measure_125 (by decide) ?_
          have hP : va_P D vwCl [(a_this, .inr (6, [.ref a_values, .ref a_climbs])), (a_values, .inl (cF, 16, .inr (.inr (.inl (vf_upd v_values_16 (x4_16).toNatClampNeg (3212836864 : UInt32)))))), (a_climbs, .inl (cI, 16, .inl (upd v_climbs_16 (x4_16).toNatClampNeg (0 : Int32)))), (a_p1, .inr (4, [.ref a_p1_cards, .ref a_p1_wall, .ref a_p1_settings])), (a_p1_cards, .inr (1, [.ref a_p1_cards_numbers, .int v_p1_cards_size])), (a_p1_cards_numbers, .inl (cI, 200, .inl v_p1_cards_numbers)), (a_p1_wall, .inr (7, [.ref a_p1_wall_slots])), (a_p1_wall_slots, .inl (cI, 96, .inl v_p1_wall_slots)), (a_p1_settings, .inl (cI, 3, .inl v_p1_settings))] H := hP.sub [0, 1, 2, 3, 4, 5, 7, 8, 6] rfl
          have hD : va_D A [(a_this, .inr (6, [.ref a_values, .ref a_climbs])), (a_values, .inl (cF, 16, .inr (.inr (.inl (vf_upd v_values_16 (x4_16).toNatClampNeg (3212836864 : UInt32)))))), (a_climbs, .inl (cI, 16, .inl (upd v_climbs_16 (x4_16).toNatClampNeg (0 : Int32)))), (a_p1, .inr (4, [.ref a_p1_cards, .ref a_p1_wall, .ref a_p1_settings])), (a_p1_cards, .inr (1, [.ref a_p1_cards_numbers, .int v_p1_cards_size])), (a_p1_cards_numbers, .inl (cI, 200, .inl v_p1_cards_numbers)), (a_p1_wall, .inr (7, [.ref a_p1_wall_slots])), (a_p1_wall_slots, .inl (cI, 96, .inl v_p1_wall_slots)), (a_p1_settings, .inl (cI, 3, .inl v_p1_settings))] := hD.sub [0, 1, 2, 3, 4, 5, 7, 8, 6] (by decide) rfl
          have hl : lv_has ls 6 [(0, .ref a_this), (1, .ref a_p1), (2, .float (FP.fdiv (FP.i2f r_1) (1120403456 : UInt32))), (3, .int x3_16), (4, .int (x4_16 + (1 : Int32)))] := lv_sub hl [1, 2, 3, 4, 0] rfl
          exact ih16 x3_16 (x4_16 + (1 : Int32)) (vf_upd v_values_16 (x4_16).toNatClampNeg (3212836864 : UInt32)) (upd v_climbs_16 (x4_16).toNatClampNeg (0 : Int32)) (Nat.lt_of_lt_of_le hwp.2 (Nat.le_of_lt_succ hμ16)) hwp.1 _ _ hP hD hS ls hl
        · have hwp := hwp.2 hc
          refine lv_aload_n hx hb dX6_measure_52 rfl (lv_at hl 0 rfl) ?_
          refine va_get (D := D) (ci := 6) (v := .ref a_values) (C := RX6) (T := TX6) (N := 2) hx hb hts mc_X6_measure_6 hown hK hP 0 rfl rfl 0 (by decide) (hts _ ml_X6_measure_2) (fun _ h9 => h9) rfl dX6_measure_53 ?_
          refine lv_iload hx hb dX6_measure_56 (lv_at hl 4 rfl) ?_
          refine lv_aload_n hx hb dX6_measure_58 rfl (lv_at hl 1 rfl) ?_
          refine lv_iload hx hb dX6_measure_59 (lv_at hl 4 rfl) ?_
          refine gBackf (D := D) (tys := gT cI cC cF cO) (A := A) (wr := [(a_this, .inr (6, [.ref a_values, .ref a_climbs])), (a_values, .inl (cF, 16, .inr (.inr (.inl (vf_upd v_values_16 (x4_16).toNatClampNeg (3212836864 : UInt32)))))), (a_climbs, .inl (cI, 16, .inl (upd v_climbs_16 (x4_16).toNatClampNeg (0 : Int32)))), (a_p1_settings, .inl (cI, 3, .inl v_p1_settings))]) (w1 := (fun u_12 : Unit => [(a_p1, .inr (4, [.ref a_p1_cards, .ref a_p1_wall, .ref a_p1_settings])), (a_p1_cards, .inr (1, [.ref a_p1_cards_numbers, .int v_p1_cards_size])), (a_p1_cards_numbers, .inl (cI, 200, .inl v_p1_cards_numbers)), (a_p1_wall, .inr (7, [.ref a_p1_wall_slots])), (a_p1_wall_slots, .inl (cI, 96, .inl v_p1_wall_slots))])) (va_runS (As := [.ref a_p1, .int x4_16]) (rest := [.int x4_16, .ref a_values]) ⟨hx, hb, hml, hown, hts⟩ (c_X6_measureScene l D cI cC cF cO a_p1 a_p1_cards a_p1_cards_numbers a_p1_wall a_p1_wall_slots a_p1_settings _ _ _ _ _ _ hwp) (va_cwS 2 hts gX6_measure_X6_measureScene rfl rfl rfl (by decide +kernel) ⟨Nat.le_of_ble_eq_true rfl, Nat.le_of_ble_eq_true rfl⟩) (gPreS hK hX hT hP hD hS hA [3, 4, 5, 7, 8] rfl rfl) rfl rfl hl.1 rfl (lv_room (Nat.le_of_ble_eq_true rfl)) dX6_measure_61 ⟨Nat.le_of_ble_eq_true rfl, Nat.le_of_ble_eq_true rfl⟩) hP hD hS hA [3, 4, 5, 7, 8] [0, 1, 2, 6] rfl rfl rfl (by decide) (fun r_11 u_12 H locs hwp hP hD hS => ?_)
          have hP : va_P D vwCl [(a_this, .inr (6, [.ref a_values, .ref a_climbs])), (a_values, .inl (cF, 16, .inr (.inr (.inl (vf_upd v_values_16 (x4_16).toNatClampNeg (3212836864 : UInt32)))))), (a_climbs, .inl (cI, 16, .inl (upd v_climbs_16 (x4_16).toNatClampNeg (0 : Int32)))), (a_p1_settings, .inl (cI, 3, .inl v_p1_settings)), (a_p1, .inr (4, [.ref a_p1_cards, .ref a_p1_wall, .ref a_p1_settings])), (a_p1_cards, .inr (1, [.ref a_p1_cards_numbers, .int v_p1_cards_size])), (a_p1_cards_numbers, .inl (cI, 200, .inl v_p1_cards_numbers)), (a_p1_wall, .inr (7, [.ref a_p1_wall_slots])), (a_p1_wall_slots, .inl (cI, 96, .inl v_p1_wall_slots))] H := hP
          have hD : va_D A [(a_this, .inr (6, [.ref a_values, .ref a_climbs])), (a_values, .inl (cF, 16, .inr (.inr (.inl (vf_upd v_values_16 (x4_16).toNatClampNeg (3212836864 : UInt32)))))), (a_climbs, .inl (cI, 16, .inl (upd v_climbs_16 (x4_16).toNatClampNeg (0 : Int32)))), (a_p1_settings, .inl (cI, 3, .inl v_p1_settings)), (a_p1, .inr (4, [.ref a_p1_cards, .ref a_p1_wall, .ref a_p1_settings])), (a_p1_cards, .inr (1, [.ref a_p1_cards_numbers, .int v_p1_cards_size])), (a_p1_cards_numbers, .inl (cI, 200, .inl v_p1_cards_numbers)), (a_p1_wall, .inr (7, [.ref a_p1_wall_slots])), (a_p1_wall_slots, .inl (cI, 96, .inl v_p1_wall_slots))] := hD
          have hn_13 := hwp.1
          have hwp := hwp.2
          refine va_fast (D := D) hx hb hK hP hD hS 1 2 rfl rfl hn_13 dX6_measure_64 (fun H locs hP hD hS => ?_)
          have hP : va_P D vwCl [(a_this, .inr (6, [.ref a_values, .ref a_climbs])), (a_values, .inl (cF, 16, .inr (.inr (.inl (vf_upd (vf_upd v_values_16 (x4_16).toNatClampNeg (3212836864 : UInt32)) (x4_16).toNatClampNeg r_11))))), (a_climbs, .inl (cI, 16, .inl (upd v_climbs_16 (x4_16).toNatClampNeg (0 : Int32)))), (a_p1_settings, .inl (cI, 3, .inl v_p1_settings)), (a_p1, .inr (4, [.ref a_p1_cards, .ref a_p1_wall, .ref a_p1_settings])), (a_p1_cards, .inr (1, [.ref a_p1_cards_numbers, .int v_p1_cards_size])), (a_p1_cards_numbers, .inl (cI, 200, .inl v_p1_cards_numbers)), (a_p1_wall, .inr (7, [.ref a_p1_wall_slots])), (a_p1_wall_slots, .inl (cI, 96, .inl v_p1_wall_slots))] H := hP
          have hD : va_D A [(a_this, .inr (6, [.ref a_values, .ref a_climbs])), (a_values, .inl (cF, 16, .inr (.inr (.inl (vf_upd (vf_upd v_values_16 (x4_16).toNatClampNeg (3212836864 : UInt32)) (x4_16).toNatClampNeg r_11))))), (a_climbs, .inl (cI, 16, .inl (upd v_climbs_16 (x4_16).toNatClampNeg (0 : Int32)))), (a_p1_settings, .inl (cI, 3, .inl v_p1_settings)), (a_p1, .inr (4, [.ref a_p1_cards, .ref a_p1_wall, .ref a_p1_settings])), (a_p1_cards, .inr (1, [.ref a_p1_cards_numbers, .int v_p1_cards_size])), (a_p1_cards_numbers, .inl (cI, 200, .inl v_p1_cards_numbers)), (a_p1_wall, .inr (7, [.ref a_p1_wall_slots])), (a_p1_wall_slots, .inl (cI, 96, .inl v_p1_wall_slots))] := hD
          refine lv_iload_n hx hb dX6_measure_65 rfl (lv_at hl 3 rfl) ?_
          refine lv_bipush (v := -5) hx hb dX6_measure_66 (by decide) ?_
          refine lv_icmp_eq (tgt := 93) hx hb dX6_measure_68 (by decide) (fun hc => ?_) (fun hc => ?_)
          · have hwp := hwp.1 hc
            have hP : va_P D vwCl [(a_this, .inr (6, [.ref a_values, .ref a_climbs])), (a_values, .inl (cF, 16, .inr (.inr (.inl (vf_upd (vf_upd v_values_16 (x4_16).toNatClampNeg (3212836864 : UInt32)) (x4_16).toNatClampNeg r_11))))), (a_climbs, .inl (cI, 16, .inl (upd v_climbs_16 (x4_16).toNatClampNeg (0 : Int32)))), (a_p1, .inr (4, [.ref a_p1_cards, .ref a_p1_wall, .ref a_p1_settings])), (a_p1_cards, .inr (1, [.ref a_p1_cards_numbers, .int v_p1_cards_size])), (a_p1_cards_numbers, .inl (cI, 200, .inl v_p1_cards_numbers)), (a_p1_wall, .inr (7, [.ref a_p1_wall_slots])), (a_p1_wall_slots, .inl (cI, 96, .inl v_p1_wall_slots)), (a_p1_settings, .inl (cI, 3, .inl v_p1_settings))] H := hP.sub [0, 1, 2, 4, 5, 6, 7, 8, 3] rfl
            have hD : va_D A [(a_this, .inr (6, [.ref a_values, .ref a_climbs])), (a_values, .inl (cF, 16, .inr (.inr (.inl (vf_upd (vf_upd v_values_16 (x4_16).toNatClampNeg (3212836864 : UInt32)) (x4_16).toNatClampNeg r_11))))), (a_climbs, .inl (cI, 16, .inl (upd v_climbs_16 (x4_16).toNatClampNeg (0 : Int32)))), (a_p1, .inr (4, [.ref a_p1_cards, .ref a_p1_wall, .ref a_p1_settings])), (a_p1_cards, .inr (1, [.ref a_p1_cards_numbers, .int v_p1_cards_size])), (a_p1_cards_numbers, .inl (cI, 200, .inl v_p1_cards_numbers)), (a_p1_wall, .inr (7, [.ref a_p1_wall_slots])), (a_p1_wall_slots, .inl (cI, 96, .inl v_p1_wall_slots)), (a_p1_settings, .inl (cI, 3, .inl v_p1_settings))] := hD.sub [0, 1, 2, 4, 5, 6, 7, 8, 3] (by decide) rfl
            have hl : lv_has ls 6 [(0, .ref a_this), (1, .ref a_p1), (2, .float (FP.fdiv (FP.i2f r_1) (1120403456 : UInt32))), (3, .int x3_16), (4, .int x4_16)] := lv_sub hl [0, 1, 2, 3, 4] rfl
            exact hj93 x3_16 x4_16 (vf_upd (vf_upd v_values_16 (x4_16).toNatClampNeg (3212836864 : UInt32)) (x4_16).toNatClampNeg r_11) (upd v_climbs_16 (x4_16).toNatClampNeg (0 : Int32)) _ _ hwp hP hD hS ls hl
          · have hwp := hwp.2 hc
            refine lv_aload_n hx hb dX6_measure_71 rfl (lv_at hl 0 rfl) ?_
            refine va_get (D := D) (ci := 6) (v := .ref a_values) (C := RX6) (T := TX6) (N := 2) hx hb hts mc_X6_measure_6 hown hK hP 0 rfl rfl 0 (by decide) (hts _ ml_X6_measure_2) (fun _ h9 => h9) rfl dX6_measure_72 ?_
            refine lv_iload hx hb dX6_measure_75 (lv_at hl 4 rfl) ?_
            have hn_14 := hwp.1
            have hwp := hwp.2
            refine va_fald (D := D) hx hb hK hP 1 2 rfl rfl hn_14 dX6_measure_77 ?_
            refine lv_aload_n hx hb dX6_measure_78 rfl (lv_at hl 0 rfl) ?_
            refine lv_iload_n hx hb dX6_measure_79 rfl (lv_at hl 3 rfl) ?_
            refine gBackf (D := D) (tys := gT cI cC cF cO) (A := A) (wr := [(a_climbs, .inl (cI, 16, .inl (upd v_climbs_16 (x4_16).toNatClampNeg (0 : Int32)))), (a_p1_settings, .inl (cI, 3, .inl v_p1_settings)), (a_p1, .inr (4, [.ref a_p1_cards, .ref a_p1_wall, .ref a_p1_settings])), (a_p1_cards, .inr (1, [.ref a_p1_cards_numbers, .int v_p1_cards_size])), (a_p1_cards_numbers, .inl (cI, 200, .inl v_p1_cards_numbers)), (a_p1_wall, .inr (7, [.ref a_p1_wall_slots])), (a_p1_wall_slots, .inl (cI, 96, .inl v_p1_wall_slots))]) (w1 := (fun u_16 : Unit => [(a_this, .inr (6, [.ref a_values, .ref a_climbs])), (a_values, .inl (cF, 16, .inr (.inr (.inl (vf_upd (vf_upd v_values_16 (x4_16).toNatClampNeg (3212836864 : UInt32)) (x4_16).toNatClampNeg r_11)))))])) (va_runV (As := [.int x3_16]) (rest := [.float ((vf_upd (vf_upd v_values_16 (x4_16).toNatClampNeg (3212836864 : UInt32)) (x4_16).toNatClampNeg r_11) (x4_16).toNatClampNeg)]) ⟨hx, hb, hml, hown, hts⟩ (c_X6_tensionOf l D cI cC cF cO a_this a_values a_climbs _ _ _ _ hwp) (cwV 1 hts gX6_measure_X6_tensionOf rfl rfl rfl (by decide +kernel) ⟨Nat.le_of_ble_eq_true rfl, Nat.le_of_ble_eq_true rfl⟩) (gPreV (C := RX6) (T := TX6) (N := 2) (ci := 6) hK hX hT hP hD hS hA [0, 1] rfl rfl rfl (qb := 0) rfl) rfl rfl hl.1 rfl (lv_room (Nat.le_of_ble_eq_true rfl)) dX6_measure_80 ⟨Nat.le_of_ble_eq_true rfl, Nat.le_of_ble_eq_true rfl⟩) hP hD hS hA [0, 1] [2, 3, 4, 5, 6, 7, 8] rfl rfl rfl (by decide) (fun r_15 u_16 H locs hwp hP hD hS => ?_)
            have hP : va_P D vwCl [(a_climbs, .inl (cI, 16, .inl (upd v_climbs_16 (x4_16).toNatClampNeg (0 : Int32)))), (a_p1_settings, .inl (cI, 3, .inl v_p1_settings)), (a_p1, .inr (4, [.ref a_p1_cards, .ref a_p1_wall, .ref a_p1_settings])), (a_p1_cards, .inr (1, [.ref a_p1_cards_numbers, .int v_p1_cards_size])), (a_p1_cards_numbers, .inl (cI, 200, .inl v_p1_cards_numbers)), (a_p1_wall, .inr (7, [.ref a_p1_wall_slots])), (a_p1_wall_slots, .inl (cI, 96, .inl v_p1_wall_slots)), (a_this, .inr (6, [.ref a_values, .ref a_climbs])), (a_values, .inl (cF, 16, .inr (.inr (.inl (vf_upd (vf_upd v_values_16 (x4_16).toNatClampNeg (3212836864 : UInt32)) (x4_16).toNatClampNeg r_11)))))] H := hP
            have hD : va_D A [(a_climbs, .inl (cI, 16, .inl (upd v_climbs_16 (x4_16).toNatClampNeg (0 : Int32)))), (a_p1_settings, .inl (cI, 3, .inl v_p1_settings)), (a_p1, .inr (4, [.ref a_p1_cards, .ref a_p1_wall, .ref a_p1_settings])), (a_p1_cards, .inr (1, [.ref a_p1_cards_numbers, .int v_p1_cards_size])), (a_p1_cards_numbers, .inl (cI, 200, .inl v_p1_cards_numbers)), (a_p1_wall, .inr (7, [.ref a_p1_wall_slots])), (a_p1_wall_slots, .inl (cI, 96, .inl v_p1_wall_slots)), (a_this, .inr (6, [.ref a_values, .ref a_climbs])), (a_values, .inl (cF, 16, .inr (.inr (.inl (vf_upd (vf_upd v_values_16 (x4_16).toNatClampNeg (3212836864 : UInt32)) (x4_16).toNatClampNeg r_11)))))] := hD
            have hn_17 := hwp.1
            have hwp := hwp.2
            refine lv_fsub hx hb dX6_measure_83 hn_17 ?_
            refine lv_fload_n hx hb dX6_measure_84 rfl (lv_at hl 2 rfl) ?_
            refine lv_fcmp hx hb dX6_measure_85 ?_
            refine lv_if_lt (tgt := 93) hx hb dX6_measure_86 (by decide) (fun hc => ?_) (fun hc => ?_)
            · have hwp := hwp.1 hc
              have hP : va_P D vwCl [(a_this, .inr (6, [.ref a_values, .ref a_climbs])), (a_values, .inl (cF, 16, .inr (.inr (.inl (vf_upd (vf_upd v_values_16 (x4_16).toNatClampNeg (3212836864 : UInt32)) (x4_16).toNatClampNeg r_11))))), (a_climbs, .inl (cI, 16, .inl (upd v_climbs_16 (x4_16).toNatClampNeg (0 : Int32)))), (a_p1, .inr (4, [.ref a_p1_cards, .ref a_p1_wall, .ref a_p1_settings])), (a_p1_cards, .inr (1, [.ref a_p1_cards_numbers, .int v_p1_cards_size])), (a_p1_cards_numbers, .inl (cI, 200, .inl v_p1_cards_numbers)), (a_p1_wall, .inr (7, [.ref a_p1_wall_slots])), (a_p1_wall_slots, .inl (cI, 96, .inl v_p1_wall_slots)), (a_p1_settings, .inl (cI, 3, .inl v_p1_settings))] H := hP.sub [7, 8, 0, 2, 3, 4, 5, 6, 1] rfl
              have hD : va_D A [(a_this, .inr (6, [.ref a_values, .ref a_climbs])), (a_values, .inl (cF, 16, .inr (.inr (.inl (vf_upd (vf_upd v_values_16 (x4_16).toNatClampNeg (3212836864 : UInt32)) (x4_16).toNatClampNeg r_11))))), (a_climbs, .inl (cI, 16, .inl (upd v_climbs_16 (x4_16).toNatClampNeg (0 : Int32)))), (a_p1, .inr (4, [.ref a_p1_cards, .ref a_p1_wall, .ref a_p1_settings])), (a_p1_cards, .inr (1, [.ref a_p1_cards_numbers, .int v_p1_cards_size])), (a_p1_cards_numbers, .inl (cI, 200, .inl v_p1_cards_numbers)), (a_p1_wall, .inr (7, [.ref a_p1_wall_slots])), (a_p1_wall_slots, .inl (cI, 96, .inl v_p1_wall_slots)), (a_p1_settings, .inl (cI, 3, .inl v_p1_settings))] := hD.sub [7, 8, 0, 2, 3, 4, 5, 6, 1] (by decide) rfl
              have hl : lv_has ls 6 [(0, .ref a_this), (1, .ref a_p1), (2, .float (FP.fdiv (FP.i2f r_1) (1120403456 : UInt32))), (3, .int x3_16), (4, .int x4_16)] := lv_sub hl [0, 1, 2, 3, 4] rfl
              exact hj93 x3_16 x4_16 (vf_upd (vf_upd v_values_16 (x4_16).toNatClampNeg (3212836864 : UInt32)) (x4_16).toNatClampNeg r_11) (upd v_climbs_16 (x4_16).toNatClampNeg (0 : Int32)) _ _ hwp hP hD hS ls hl
            · have hwp := hwp.2 hc
              refine lv_iconst (v := 1) hx hb dX6_measure_89 (by decide) ?_
              refine lv_goto (tgt := 94) hx hb dX6_measure_90 (by decide) ?_
              have hP : va_P D vwCl [(a_this, .inr (6, [.ref a_values, .ref a_climbs])), (a_values, .inl (cF, 16, .inr (.inr (.inl (vf_upd (vf_upd v_values_16 (x4_16).toNatClampNeg (3212836864 : UInt32)) (x4_16).toNatClampNeg r_11))))), (a_climbs, .inl (cI, 16, .inl (upd v_climbs_16 (x4_16).toNatClampNeg (0 : Int32)))), (a_p1, .inr (4, [.ref a_p1_cards, .ref a_p1_wall, .ref a_p1_settings])), (a_p1_cards, .inr (1, [.ref a_p1_cards_numbers, .int v_p1_cards_size])), (a_p1_cards_numbers, .inl (cI, 200, .inl v_p1_cards_numbers)), (a_p1_wall, .inr (7, [.ref a_p1_wall_slots])), (a_p1_wall_slots, .inl (cI, 96, .inl v_p1_wall_slots)), (a_p1_settings, .inl (cI, 3, .inl v_p1_settings))] H := hP.sub [7, 8, 0, 2, 3, 4, 5, 6, 1] rfl
              have hD : va_D A [(a_this, .inr (6, [.ref a_values, .ref a_climbs])), (a_values, .inl (cF, 16, .inr (.inr (.inl (vf_upd (vf_upd v_values_16 (x4_16).toNatClampNeg (3212836864 : UInt32)) (x4_16).toNatClampNeg r_11))))), (a_climbs, .inl (cI, 16, .inl (upd v_climbs_16 (x4_16).toNatClampNeg (0 : Int32)))), (a_p1, .inr (4, [.ref a_p1_cards, .ref a_p1_wall, .ref a_p1_settings])), (a_p1_cards, .inr (1, [.ref a_p1_cards_numbers, .int v_p1_cards_size])), (a_p1_cards_numbers, .inl (cI, 200, .inl v_p1_cards_numbers)), (a_p1_wall, .inr (7, [.ref a_p1_wall_slots])), (a_p1_wall_slots, .inl (cI, 96, .inl v_p1_wall_slots)), (a_p1_settings, .inl (cI, 3, .inl v_p1_settings))] := hD.sub [7, 8, 0, 2, 3, 4, 5, 6, 1] (by decide) rfl
              have hl : lv_has ls 6 [(0, .ref a_this), (1, .ref a_p1), (2, .float (FP.fdiv (FP.i2f r_1) (1120403456 : UInt32))), (3, .int x3_16), (4, .int x4_16)] := lv_sub hl [0, 1, 2, 3, 4] rfl
              exact hj94 x3_16 x4_16 (1 : Int32) (vf_upd (vf_upd v_values_16 (x4_16).toNatClampNeg (3212836864 : UInt32)) (x4_16).toNatClampNeg r_11) (upd v_climbs_16 (x4_16).toNatClampNeg (0 : Int32)) _ _ hwp hP hD hS ls hl
  exact hL16 _ (-5 : Int32) (0 : Int32) v_values v_climbs (Nat.lt_succ_self _) hJ _ _ hP hD hS ls hl
abbrev rm_X6_rises : Room := { frames := 1, cells := 0, slots := 0, locals := 21 }
set_option maxHeartbeats 4000000 in
set_option maxRecDepth 100000 in
theorem c_X6_rises (l : Launch) (D : va_G) (cI cC cF cO : ClassId) (a_this a_climbs a_values : Nat)  (sz : Nat) (x1 : Int32) (v_climbs : Nat → Int32) (post : Int32 → Prop) (hwp : wp_X6_rises x1 v_climbs post) : Met l yX6_rises wsX6_rises rm_X6_rises (gPre D (gT cI cC cF cO) [.ref a_this, .int x1] [(a_this, .inr (6, [.ref a_values, .ref a_climbs])), (a_climbs, .inl (cI, 16, .inl v_climbs))] sz) (va_Qi (S := Unit) (fun (r : Int32) (u : Unit) => post r ) (gB D (gT cI cC cF cO) (fun (u : Unit) => [(a_this, .inr (6, [.ref a_values, .ref a_climbs])), (a_climbs, .inl (cI, 16, .inl v_climbs))]) [(a_this, .inr (6, [.ref a_values, .ref a_climbs])), (a_climbs, .inl (cI, 16, .inl v_climbs))] sz) (va_A [(a_this, .inr (6, [.ref a_values, .ref a_climbs])), (a_climbs, .inl (cI, 16, .inl v_climbs))] sz)) 0 0 (va_A [(a_this, .inr (6, [.ref a_values, .ref a_climbs])), (a_climbs, .inl (cI, 16, .inl v_climbs))] sz) := by
  refine gOfz (own := RX6) (cc := cX6_rises) (maxL := 2) (ret := (some .boolean)) rfl (by decide) rfl (Nat.le_of_ble_eq_true rfl) rfl ?_
  intro p e s m below meth c A args Q hAe hx hb hr hts hown hml hlocks hname hA hK hX hT hP hD hS hret ls hl
  have hl : lv_has ls 2 [(0, .ref a_this), (1, .int x1)] := hl
  unfold wp_X6_rises at hwp
  refine lv_aload_n hx hb dX6_rises_0 rfl (lv_at hl 0 rfl) ?_
  refine lv_iload_n hx hb dX6_rises_1 rfl (lv_at hl 1 rfl) ?_
  refine gBacki (D := D) (tys := gT cI cC cF cO) (A := A) (wr := []) (w1 := (fun u_2 : Unit => [(a_this, .inr (6, [.ref a_values, .ref a_climbs])), (a_climbs, .inl (cI, 16, .inl v_climbs))])) (va_runV (As := [.int x1]) (rest := []) ⟨hx, hb, hml, hown, hts⟩ (c_X6_climbTo l D cI cC cF cO a_this a_climbs a_values _ _ _ _ hwp) (cwV 1 hts gX6_rises_X6_climbTo rfl rfl rfl (by decide +kernel) ⟨Nat.le_of_ble_eq_true rfl, Nat.le_of_ble_eq_true rfl⟩) (gPreV (C := RX6) (T := TX6) (N := 2) (ci := 6) hK hX hT hP hD hS hA [0, 1] rfl rfl rfl (qb := 0) rfl) rfl rfl hl.1 rfl (lv_room (Nat.le_of_ble_eq_true rfl)) dX6_rises_2 ⟨Nat.le_of_ble_eq_true rfl, Nat.le_of_ble_eq_true rfl⟩) hP hD hS hA [0, 1] [] rfl rfl rfl (by decide) (fun r_1 u_2 H locs hwp hP hD hS => ?_)
  have hP : va_P D vwCl [(a_this, .inr (6, [.ref a_values, .ref a_climbs])), (a_climbs, .inl (cI, 16, .inl v_climbs))] H := hP
  have hD : va_D A [(a_this, .inr (6, [.ref a_values, .ref a_climbs])), (a_climbs, .inl (cI, 16, .inl v_climbs))] := hD
  refine lv_iconst (v := 1) hx hb dX6_rises_5 (by decide) ?_
  refine lv_icmp_le (tgt := 13) hx hb dX6_rises_6 (by decide) (fun hc => ?_) (fun hc => ?_)
  · have hwp := hwp.1 hc
    refine lv_iconst (v := 0) hx hb dX6_rises_13 (by decide) ?_
    exact hret () [0, 1] dX6_rises_14 (Or.inl rfl) hwp rfl rfl hP hD hS
  · have hwp := hwp.2 hc
    refine lv_iconst (v := 1) hx hb dX6_rises_9 (by decide) ?_
    refine lv_goto (tgt := 14) hx hb dX6_rises_10 (by decide) ?_
    exact hret () [0, 1] dX6_rises_14 (Or.inr rfl) hwp rfl rfl hP hD hS
theorem ml_X6_longestClimb_0 : (.methodLink RX6 60 Lib.Math.max.name : Cond) ∈ wsX6_longestClimb := List.mem_of_getElem? (i := 1) rfl
theorem ml_X6_longestClimb_1 : (.static Lib.Math.max.name : Cond) ∈ wsX6_longestClimb := List.mem_of_getElem? (i := 2) rfl
theorem ml_X6_longestClimb_2 : (.initialized "java/lang/Math" : Cond) ∈ wsX6_longestClimb := List.mem_of_getElem? (i := 3) rfl
theorem ml_X6_longestClimb_3 : (.code Lib.Math.max.name Lib.Math.max.code 2 (some .int) : Cond) ∈ wsX6_longestClimb := List.mem_of_getElem? (i := 4) rfl
abbrev rm_X6_longestClimb : Room := { frames := 1, cells := 0, slots := 0, locals := 21 }
set_option maxHeartbeats 4000000 in
set_option maxRecDepth 100000 in
theorem c_X6_longestClimb (l : Launch) (D : va_G) (cI cC cF cO : ClassId) (a_this a_climbs a_values : Nat)  (sz : Nat)  (v_climbs : Nat → Int32) (post : Int32 → Prop) (hwp : wp_X6_longestClimb v_climbs post) : Met l yX6_longestClimb wsX6_longestClimb rm_X6_longestClimb (gPre D (gT cI cC cF cO) [.ref a_this] [(a_this, .inr (6, [.ref a_values, .ref a_climbs])), (a_climbs, .inl (cI, 16, .inl v_climbs))] sz) (va_Qi (S := Unit) (fun (r : Int32) (u : Unit) => post r ) (gB D (gT cI cC cF cO) (fun (u : Unit) => [(a_this, .inr (6, [.ref a_values, .ref a_climbs])), (a_climbs, .inl (cI, 16, .inl v_climbs))]) [(a_this, .inr (6, [.ref a_values, .ref a_climbs])), (a_climbs, .inl (cI, 16, .inl v_climbs))] sz) (va_A [(a_this, .inr (6, [.ref a_values, .ref a_climbs])), (a_climbs, .inl (cI, 16, .inl v_climbs))] sz)) 0 0 (va_A [(a_this, .inr (6, [.ref a_values, .ref a_climbs])), (a_climbs, .inl (cI, 16, .inl v_climbs))] sz) := by
  refine gOfi (own := RX6) (cc := cX6_longestClimb) (maxL := 3) (ret := (some .int)) rfl (by decide) rfl (Nat.le_of_ble_eq_true rfl) rfl ?_
  intro p e s m below meth c A args Q hAe hx hb hr hts hown hml hlocks hname hA hK hX hT hP hD hS hret ls hl
  have hl : lv_has ls 3 [(0, .ref a_this)] := hl
  unfold wp_X6_longestClimb at hwp
  refine lv_iconst (v := 0) hx hb dX6_longestClimb_0 (by decide) ?_
  refine lv_istore_n (lv' := [(1, .int (0 : Int32)), (0, .ref a_this)]) hx hb dX6_longestClimb_1 rfl hl (by decide) rfl (fun ls hl => ?_)
  refine lv_iconst (v := 0) hx hb dX6_longestClimb_2 (by decide) ?_
  refine lv_istore_n (lv' := [(2, .int (0 : Int32)), (1, .int (0 : Int32)), (0, .ref a_this)]) hx hb dX6_longestClimb_3 rfl hl (by decide) rfl (fun ls hl => ?_)
  have hl : lv_has ls 3 [(0, .ref a_this), (1, .int (0 : Int32)), (2, .int (0 : Int32))] := lv_sub hl [2, 1, 0] rfl
  unfold wp_X6_longestClimb_l4 at hwp
  obtain ⟨J4, μ4, hJ, hst4⟩ := hwp
  have hL4 : ∀ (n : Nat) (x1_4 : Int32) (x2_4 : Int32), μ4 x1_4 x2_4 < n → J4 x1_4 x2_4 → ∀ (H : Heap) (locs : List Loc), va_P D vwCl [(a_this, .inr (6, [.ref a_values, .ref a_climbs])), (a_climbs, .inl (cI, 16, .inl v_climbs))] H → va_D A [(a_this, .inr (6, [.ref a_values, .ref a_climbs])), (a_climbs, .inl (cI, 16, .inl v_climbs))] → va_S A s.heap H locs → ∀ ls : Array Slot, lv_has ls 3 [(0, .ref a_this), (1, .int x1_4), (2, .int x2_4)] → W p l e rm_X6_longestClimb s m args below meth c H locs 0 0 Q (F0 m 4 ls []) := by
    intro n
    induction n with
    | zero => intro x1_4 x2_4 h; exact absurd h (Nat.not_lt_zero _)
    | succ n ih4 =>
      intro x1_4 x2_4 hμ4 hJ H locs hP hD hS ls hl
      have hwp := hst4 x1_4 x2_4 hJ
      refine lv_iload_n hx hb dX6_longestClimb_4 rfl (lv_at hl 2 rfl) ?_
      refine lv_bipush (v := 16) hx hb dX6_longestClimb_5 (by decide) ?_
      refine lv_icmp_ge (tgt := 26) hx hb dX6_longestClimb_7 (by decide) (fun hc => ?_) (fun hc => ?_)
      · have hwp := hwp.1 hc
        refine lv_iload_n hx hb dX6_longestClimb_26 rfl (lv_at hl 1 rfl) ?_
        exact hret () [0, 1] dX6_longestClimb_27 hwp rfl rfl hP hD hS
      · have hwp := hwp.2 hc
        refine lv_iload_n hx hb dX6_longestClimb_10 rfl (lv_at hl 1 rfl) ?_
        refine lv_aload_n hx hb dX6_longestClimb_11 rfl (lv_at hl 0 rfl) ?_
        refine lv_iload_n hx hb dX6_longestClimb_12 rfl (lv_at hl 2 rfl) ?_
        refine gBacki (D := D) (tys := gT cI cC cF cO) (A := A) (wr := []) (w1 := (fun u_2 : Unit => [(a_this, .inr (6, [.ref a_values, .ref a_climbs])), (a_climbs, .inl (cI, 16, .inl v_climbs))])) (va_runV (As := [.int x2_4]) (rest := [.int x1_4]) ⟨hx, hb, hml, hown, hts⟩ (c_X6_climbTo l D cI cC cF cO a_this a_climbs a_values _ _ _ _ hwp) (cwV 1 hts gX6_longestClimb_X6_climbTo rfl rfl rfl (by decide +kernel) ⟨Nat.le_of_ble_eq_true rfl, Nat.le_of_ble_eq_true rfl⟩) (gPreV (C := RX6) (T := TX6) (N := 2) (ci := 6) hK hX hT hP hD hS hA [0, 1] rfl rfl rfl (qb := 0) rfl) rfl rfl hl.1 rfl (lv_room (Nat.le_of_ble_eq_true rfl)) dX6_longestClimb_13 ⟨Nat.le_of_ble_eq_true rfl, Nat.le_of_ble_eq_true rfl⟩) hP hD hS hA [0, 1] [] rfl rfl rfl (by decide) (fun r_1 u_2 H locs hwp hP hD hS => ?_)
        have hP : va_P D vwCl [(a_this, .inr (6, [.ref a_values, .ref a_climbs])), (a_climbs, .inl (cI, 16, .inl v_climbs))] H := hP
        have hD : va_D A [(a_this, .inr (6, [.ref a_values, .ref a_climbs])), (a_climbs, .inl (cI, 16, .inl v_climbs))] := hD
        refine va_mmax hx hb (by rw [hml]; exact hl.1.symm) hown (hts _ ml_X6_longestClimb_0) (hts _ ml_X6_longestClimb_1) (hts _ ml_X6_longestClimb_2) (hts _ ml_X6_longestClimb_3) (Nat.le_of_ble_eq_true rfl) (Nat.le_of_ble_eq_true rfl) (Nat.le_of_ble_eq_true rfl) (Nat.le_of_ble_eq_true rfl) dX6_longestClimb_16 ?_
        refine lv_istore_n (lv' := [(1, .int (if x1_4 < r_1 then r_1 else x1_4)), (0, .ref a_this), (2, .int x2_4)]) hx hb dX6_longestClimb_19 rfl hl (by decide) rfl (fun ls hl => ?_)
        refine lv_iinc (v := (x2_4 + (1 : Int32))) (lv' := [(2, .int (x2_4 + (1 : Int32))), (1, .int (if x1_4 < r_1 then r_1 else x1_4)), (0, .ref a_this)]) hx hb dX6_longestClimb_20 hl (k := 2) rfl rfl (by decide) rfl (fun ls hl => ?_)
        refine lv_goto (tgt := 4) hx hb dX6_longestClimb_23 (by decide) ?_
        have hl : lv_has ls 3 [(0, .ref a_this), (1, .int (if x1_4 < r_1 then r_1 else x1_4)), (2, .int (x2_4 + (1 : Int32)))] := lv_sub hl [2, 1, 0] rfl
        exact ih4 (if x1_4 < r_1 then r_1 else x1_4) (x2_4 + (1 : Int32)) (Nat.lt_of_lt_of_le hwp.2 (Nat.le_of_lt_succ hμ4)) hwp.1 _ _ hP hD hS ls hl
  exact hL4 _ (0 : Int32) (0 : Int32) (Nat.lt_succ_self _) hJ _ _ hP hD hS ls hl
abbrev rm_X6_span : Room := { frames := 1, cells := 0, slots := 0, locals := 21 }
set_option maxHeartbeats 4000000 in
set_option maxRecDepth 100000 in
theorem c_X6_span (l : Launch) (D : va_G) (cI cC cF cO : ClassId) (a_this a_values a_climbs : Nat)  (sz : Nat)  (v_values : Nat → UInt32) (v_climbs : Nat → Int32) (post : UInt32 → Prop) (hwp : wp_X6_span v_values v_climbs post) : Met l yX6_span wsX6_span rm_X6_span (gPre D (gT cI cC cF cO) [.ref a_this] [(a_this, .inr (6, [.ref a_values, .ref a_climbs])), (a_values, .inl (cF, 16, .inr (.inr (.inl v_values)))), (a_climbs, .inl (cI, 16, .inl v_climbs))] sz) (va_Qf (S := Unit) (fun (r : UInt32) (u : Unit) => post r ) (gB D (gT cI cC cF cO) (fun (u : Unit) => [(a_this, .inr (6, [.ref a_values, .ref a_climbs])), (a_values, .inl (cF, 16, .inr (.inr (.inl v_values)))), (a_climbs, .inl (cI, 16, .inl v_climbs))]) [(a_this, .inr (6, [.ref a_values, .ref a_climbs])), (a_values, .inl (cF, 16, .inr (.inr (.inl v_values)))), (a_climbs, .inl (cI, 16, .inl v_climbs))] sz) (va_A [(a_this, .inr (6, [.ref a_values, .ref a_climbs])), (a_values, .inl (cF, 16, .inr (.inr (.inl v_values)))), (a_climbs, .inl (cI, 16, .inl v_climbs))] sz)) 0 0 (va_A [(a_this, .inr (6, [.ref a_values, .ref a_climbs])), (a_values, .inl (cF, 16, .inr (.inr (.inl v_values)))), (a_climbs, .inl (cI, 16, .inl v_climbs))] sz) := by
  refine gOff (own := RX6) (cc := cX6_span) (maxL := 6) (ret := (some .float)) rfl (by decide) rfl (Nat.le_of_ble_eq_true rfl) rfl ?_
  intro p e s m below meth c A args Q hAe hx hb hr hts hown hml hlocks hname hA hK hX hT hP hD hS hret ls hl
  have hl : lv_has ls 6 [(0, .ref a_this)] := hl
  unfold wp_X6_span at hwp
  refine lv_iconst (v := 0) hx hb dX6_span_0 (by decide) ?_
  refine lv_istore_n (lv' := [(1, .int (0 : Int32)), (0, .ref a_this)]) hx hb dX6_span_1 rfl hl (by decide) rfl (fun ls hl => ?_)
  refine lv_fconst0 hx hb dX6_span_2 ?_
  refine lv_fstore_n (lv' := [(2, .float FP.fconst0), (1, .int (0 : Int32)), (0, .ref a_this)]) hx hb dX6_span_3 rfl hl (by decide) rfl (fun ls hl => ?_)
  refine lv_fconst0 hx hb dX6_span_4 ?_
  refine lv_fstore_n (lv' := [(3, .float FP.fconst0), (2, .float FP.fconst0), (1, .int (0 : Int32)), (0, .ref a_this)]) hx hb dX6_span_5 rfl hl (by decide) rfl (fun ls hl => ?_)
  refine lv_iconst (v := 0) hx hb dX6_span_6 (by decide) ?_
  refine lv_istore (lv' := [(4, .int (0 : Int32)), (3, .float FP.fconst0), (2, .float FP.fconst0), (1, .int (0 : Int32)), (0, .ref a_this)]) hx hb dX6_span_7 hl (by decide) rfl (fun ls hl => ?_)
  have hl : lv_has ls 6 [(0, .ref a_this), (1, .int (0 : Int32)), (2, .float FP.fconst0), (3, .float FP.fconst0), (4, .int (0 : Int32))] := lv_sub hl [4, 3, 2, 1, 0] rfl
  unfold wp_X6_span_l9 at hwp
  obtain ⟨J9, μ9, hJ, hst9⟩ := hwp
  have hL9 : ∀ (n : Nat) (x1_9 : Int32) (x2_9 : UInt32) (x3_9 : UInt32) (x4_9 : Int32), μ9 x1_9 x2_9 x3_9 x4_9 < n → J9 x1_9 x2_9 x3_9 x4_9 → ∀ (H : Heap) (locs : List Loc), va_P D vwCl [(a_this, .inr (6, [.ref a_values, .ref a_climbs])), (a_values, .inl (cF, 16, .inr (.inr (.inl v_values)))), (a_climbs, .inl (cI, 16, .inl v_climbs))] H → va_D A [(a_this, .inr (6, [.ref a_values, .ref a_climbs])), (a_values, .inl (cF, 16, .inr (.inr (.inl v_values)))), (a_climbs, .inl (cI, 16, .inl v_climbs))] → va_S A s.heap H locs → ∀ ls : Array Slot, lv_has ls 6 [(0, .ref a_this), (1, .int x1_9), (2, .float x2_9), (3, .float x3_9), (4, .int x4_9)] → W p l e rm_X6_span s m args below meth c H locs 0 0 Q (F0 m 9 ls []) := by
    intro n
    induction n with
    | zero => intro x1_9 x2_9 x3_9 x4_9 h; exact absurd h (Nat.not_lt_zero _)
    | succ n ih9 =>
      intro x1_9 x2_9 x3_9 x4_9 hμ9 hJ H locs hP hD hS ls hl
      have hwp := hst9 x1_9 x2_9 x3_9 x4_9 hJ
      have hj62 : ∀ (x2_62 : UInt32) (x4_62 : Int32) (x5_62 : UInt32) (H : Heap) (locs : List Loc), wp_X6_span_j62 x2_62 x4_62 x5_62 v_values v_climbs (fun u0 u1 u2 u3 => J9 u0 u1 u2 u3 ∧ μ9 u0 u1 u2 u3 < μ9 x1_9 x2_9 x3_9 x4_9) post → va_P D vwCl [(a_this, .inr (6, [.ref a_values, .ref a_climbs])), (a_values, .inl (cF, 16, .inr (.inr (.inl v_values)))), (a_climbs, .inl (cI, 16, .inl v_climbs))] H → va_D A [(a_this, .inr (6, [.ref a_values, .ref a_climbs])), (a_values, .inl (cF, 16, .inr (.inr (.inl v_values)))), (a_climbs, .inl (cI, 16, .inl v_climbs))] → va_S A s.heap H locs → ∀ ls : Array Slot, lv_has ls 6 [(0, .ref a_this), (2, .float x2_62), (4, .int x4_62), (5, .float x5_62)] → W p l e rm_X6_span s m args below meth c H locs 0 0 Q (F0 m 62 ls []) := by
        intro x2_62 x4_62 x5_62 H locs hwp hP hD hS ls hl
        unfold wp_X6_span_j62 at hwp
        refine lv_fload hx hb dX6_span_62 (lv_at hl 3 rfl) ?_
        refine lv_goto (tgt := 68) hx hb dX6_span_64 (by decide) ?_
        refine lv_fstore_n (lv' := [(3, .float x5_62), (0, .ref a_this), (2, .float x2_62), (4, .int x4_62), (5, .float x5_62)]) hx hb dX6_span_68 rfl hl (by decide) rfl (fun ls hl => ?_)
        refine lv_iconst (v := 1) hx hb dX6_span_69 (by decide) ?_
        refine lv_istore_n (lv' := [(1, .int (1 : Int32)), (3, .float x5_62), (0, .ref a_this), (2, .float x2_62), (4, .int x4_62), (5, .float x5_62)]) hx hb dX6_span_70 rfl hl (by decide) rfl (fun ls hl => ?_)
        refine lv_iinc (v := (x4_62 + (1 : Int32))) (lv' := [(4, .int (x4_62 + (1 : Int32))), (1, .int (1 : Int32)), (3, .float x5_62), (0, .ref a_this), (2, .float x2_62), (5, .float x5_62)]) hx hb dX6_span_71 hl (k := 4) rfl rfl (by decide) rfl (fun ls hl => ?_)
        refine lv_goto (tgt := 9) hx hb dX6_span_74 (by decide) ?_
        have hl : lv_has ls 6 [(0, .ref a_this), (1, .int (1 : Int32)), (2, .float x2_62), (3, .float x5_62), (4, .int (x4_62 + (1 : Int32)))] := lv_sub hl [3, 1, 4, 2, 0] rfl
        exact ih9 (1 : Int32) x2_62 x5_62 (x4_62 + (1 : Int32)) (Nat.lt_of_lt_of_le hwp.2 (Nat.le_of_lt_succ hμ9)) hwp.1 _ _ hP hD hS ls hl
      have hj50 : ∀ (x1_50 : Int32) (x3_50 : UInt32) (x4_50 : Int32) (x5_50 : UInt32) (k0_50 : UInt32) (H : Heap) (locs : List Loc), wp_X6_span_j50 x1_50 x3_50 x4_50 x5_50 k0_50 v_values v_climbs (fun u0 u1 u2 u3 => J9 u0 u1 u2 u3 ∧ μ9 u0 u1 u2 u3 < μ9 x1_9 x2_9 x3_9 x4_9) post → va_P D vwCl [(a_this, .inr (6, [.ref a_values, .ref a_climbs])), (a_values, .inl (cF, 16, .inr (.inr (.inl v_values)))), (a_climbs, .inl (cI, 16, .inl v_climbs))] H → va_D A [(a_this, .inr (6, [.ref a_values, .ref a_climbs])), (a_values, .inl (cF, 16, .inr (.inr (.inl v_values)))), (a_climbs, .inl (cI, 16, .inl v_climbs))] → va_S A s.heap H locs → ∀ ls : Array Slot, lv_has ls 6 [(0, .ref a_this), (1, .int x1_50), (3, .float x3_50), (4, .int x4_50), (5, .float x5_50)] → W p l e rm_X6_span s m args below meth c H locs 0 0 Q (F0 m 50 ls [.float k0_50]) := by
        intro x1_50 x3_50 x4_50 x5_50 k0_50 H locs hwp hP hD hS ls hl
        unfold wp_X6_span_j50 at hwp
        refine lv_fstore_n (lv' := [(2, .float k0_50), (0, .ref a_this), (1, .int x1_50), (3, .float x3_50), (4, .int x4_50), (5, .float x5_50)]) hx hb dX6_span_50 rfl hl (by decide) rfl (fun ls hl => ?_)
        refine lv_iload_n hx hb dX6_span_51 rfl (lv_at hl 2 rfl) ?_
        refine lv_if_eq (tgt := 62) hx hb dX6_span_52 (by decide) (fun hc => ?_) (fun hc => ?_)
        · have hwp := hwp.1 hc
          have hl : lv_has ls 6 [(0, .ref a_this), (2, .float k0_50), (4, .int x4_50), (5, .float x5_50)] := lv_sub hl [1, 0, 4, 5] rfl
          exact hj62 k0_50 x4_50 x5_50 _ _ hwp hP hD hS ls hl
        · have hwp := hwp.2 hc
          refine lv_fload hx hb dX6_span_55 (lv_at hl 5 rfl) ?_
          refine lv_fload_n hx hb dX6_span_57 rfl (lv_at hl 3 rfl) ?_
          refine lv_fcmp hx hb dX6_span_58 ?_
          refine lv_if_le (tgt := 67) hx hb dX6_span_59 (by decide) (fun hc => ?_) (fun hc => ?_)
          · have hwp := hwp.1 hc
            refine lv_fload_n hx hb dX6_span_67 rfl (lv_at hl 3 rfl) ?_
            refine lv_fstore_n (lv' := [(3, .float x3_50), (2, .float k0_50), (0, .ref a_this), (1, .int x1_50), (4, .int x4_50), (5, .float x5_50)]) hx hb dX6_span_68 rfl hl (by decide) rfl (fun ls hl => ?_)
            refine lv_iconst (v := 1) hx hb dX6_span_69 (by decide) ?_
            refine lv_istore_n (lv' := [(1, .int (1 : Int32)), (3, .float x3_50), (2, .float k0_50), (0, .ref a_this), (4, .int x4_50), (5, .float x5_50)]) hx hb dX6_span_70 rfl hl (by decide) rfl (fun ls hl => ?_)
            refine lv_iinc (v := (x4_50 + (1 : Int32))) (lv' := [(4, .int (x4_50 + (1 : Int32))), (1, .int (1 : Int32)), (3, .float x3_50), (2, .float k0_50), (0, .ref a_this), (5, .float x5_50)]) hx hb dX6_span_71 hl (k := 4) rfl rfl (by decide) rfl (fun ls hl => ?_)
            refine lv_goto (tgt := 9) hx hb dX6_span_74 (by decide) ?_
            have hl : lv_has ls 6 [(0, .ref a_this), (1, .int (1 : Int32)), (2, .float k0_50), (3, .float x3_50), (4, .int (x4_50 + (1 : Int32)))] := lv_sub hl [4, 1, 3, 2, 0] rfl
            exact ih9 (1 : Int32) k0_50 x3_50 (x4_50 + (1 : Int32)) (Nat.lt_of_lt_of_le hwp.2 (Nat.le_of_lt_succ hμ9)) hwp.1 _ _ hP hD hS ls hl
          · have hwp := hwp.2 hc
            have hl : lv_has ls 6 [(0, .ref a_this), (2, .float k0_50), (4, .int x4_50), (5, .float x5_50)] := lv_sub hl [1, 0, 4, 5] rfl
            exact hj62 k0_50 x4_50 x5_50 _ _ hwp hP hD hS ls hl
      have hj44 : ∀ (x1_44 : Int32) (x3_44 : UInt32) (x4_44 : Int32) (x5_44 : UInt32) (H : Heap) (locs : List Loc), wp_X6_span_j44 x1_44 x3_44 x4_44 x5_44 v_values v_climbs (fun u0 u1 u2 u3 => J9 u0 u1 u2 u3 ∧ μ9 u0 u1 u2 u3 < μ9 x1_9 x2_9 x3_9 x4_9) post → va_P D vwCl [(a_this, .inr (6, [.ref a_values, .ref a_climbs])), (a_values, .inl (cF, 16, .inr (.inr (.inl v_values)))), (a_climbs, .inl (cI, 16, .inl v_climbs))] H → va_D A [(a_this, .inr (6, [.ref a_values, .ref a_climbs])), (a_values, .inl (cF, 16, .inr (.inr (.inl v_values)))), (a_climbs, .inl (cI, 16, .inl v_climbs))] → va_S A s.heap H locs → ∀ ls : Array Slot, lv_has ls 6 [(0, .ref a_this), (1, .int x1_44), (3, .float x3_44), (4, .int x4_44), (5, .float x5_44)] → W p l e rm_X6_span s m args below meth c H locs 0 0 Q (F0 m 44 ls []) := by
        intro x1_44 x3_44 x4_44 x5_44 H locs hwp hP hD hS ls hl
        unfold wp_X6_span_j44 at hwp
        refine lv_fload hx hb dX6_span_44 (lv_at hl 4 rfl) ?_
        refine lv_goto (tgt := 50) hx hb dX6_span_46 (by decide) ?_
        have hl : lv_has ls 6 [(0, .ref a_this), (1, .int x1_44), (3, .float x3_44), (4, .int x4_44), (5, .float x5_44)] := lv_sub hl [0, 1, 2, 3, 4] rfl
        exact hj50 x1_44 x3_44 x4_44 x5_44 x5_44 _ _ hwp hP hD hS ls hl
      refine lv_iload hx hb dX6_span_9 (lv_at hl 4 rfl) ?_
      refine lv_bipush (v := 16) hx hb dX6_span_11 (by decide) ?_
      refine lv_icmp_ge (tgt := 77) hx hb dX6_span_13 (by decide) (fun hc => ?_) (fun hc => ?_)
      · have hwp := hwp.1 hc
        refine lv_fload_n hx hb dX6_span_77 rfl (lv_at hl 3 rfl) ?_
        refine lv_fload_n hx hb dX6_span_78 rfl (lv_at hl 2 rfl) ?_
        have hn_1 := hwp.1
        have hwp := hwp.2
        refine lv_fsub hx hb dX6_span_79 hn_1 ?_
        exact hret () [0, 1, 2] dX6_span_80 hwp rfl rfl hP hD hS
      · have hwp := hwp.2 hc
        refine lv_aload_n hx hb dX6_span_16 rfl (lv_at hl 0 rfl) ?_
        refine lv_iload hx hb dX6_span_17 (lv_at hl 4 rfl) ?_
        refine gBacki (D := D) (tys := gT cI cC cF cO) (A := A) (wr := [(a_values, .inl (cF, 16, .inr (.inr (.inl v_values))))]) (w1 := (fun u_3 : Unit => [(a_this, .inr (6, [.ref a_values, .ref a_climbs])), (a_climbs, .inl (cI, 16, .inl v_climbs))])) (va_runV (As := [.int x4_9]) (rest := []) ⟨hx, hb, hml, hown, hts⟩ (c_X6_climbTo l D cI cC cF cO a_this a_climbs a_values _ _ _ _ hwp) (cwV 1 hts gX6_span_X6_climbTo rfl rfl rfl (by decide +kernel) ⟨Nat.le_of_ble_eq_true rfl, Nat.le_of_ble_eq_true rfl⟩) (gPreV (C := RX6) (T := TX6) (N := 2) (ci := 6) hK hX hT hP hD hS hA [0, 2] rfl rfl rfl (qb := 0) rfl) rfl rfl hl.1 rfl (lv_room (Nat.le_of_ble_eq_true rfl)) dX6_span_19 ⟨Nat.le_of_ble_eq_true rfl, Nat.le_of_ble_eq_true rfl⟩) hP hD hS hA [0, 2] [1] rfl rfl rfl (by decide) (fun r_2 u_3 H locs hwp hP hD hS => ?_)
        have hP : va_P D vwCl [(a_values, .inl (cF, 16, .inr (.inr (.inl v_values)))), (a_this, .inr (6, [.ref a_values, .ref a_climbs])), (a_climbs, .inl (cI, 16, .inl v_climbs))] H := hP
        have hD : va_D A [(a_values, .inl (cF, 16, .inr (.inr (.inl v_values)))), (a_this, .inr (6, [.ref a_values, .ref a_climbs])), (a_climbs, .inl (cI, 16, .inl v_climbs))] := hD
        refine lv_if_le (tgt := 71) hx hb dX6_span_22 (by decide) (fun hc => ?_) (fun hc => ?_)
        · have hwp := hwp.1 hc
          refine lv_iinc (v := (x4_9 + (1 : Int32))) (lv' := [(4, .int (x4_9 + (1 : Int32))), (0, .ref a_this), (1, .int x1_9), (2, .float x2_9), (3, .float x3_9)]) hx hb dX6_span_71 hl (k := 4) rfl rfl (by decide) rfl (fun ls hl => ?_)
          refine lv_goto (tgt := 9) hx hb dX6_span_74 (by decide) ?_
          have hP : va_P D vwCl [(a_this, .inr (6, [.ref a_values, .ref a_climbs])), (a_values, .inl (cF, 16, .inr (.inr (.inl v_values)))), (a_climbs, .inl (cI, 16, .inl v_climbs))] H := hP.sub [1, 0, 2] rfl
          have hD : va_D A [(a_this, .inr (6, [.ref a_values, .ref a_climbs])), (a_values, .inl (cF, 16, .inr (.inr (.inl v_values)))), (a_climbs, .inl (cI, 16, .inl v_climbs))] := hD.sub [1, 0, 2] (by decide) rfl
          have hl : lv_has ls 6 [(0, .ref a_this), (1, .int x1_9), (2, .float x2_9), (3, .float x3_9), (4, .int (x4_9 + (1 : Int32)))] := lv_sub hl [1, 2, 3, 4, 0] rfl
          exact ih9 x1_9 x2_9 x3_9 (x4_9 + (1 : Int32)) (Nat.lt_of_lt_of_le hwp.2 (Nat.le_of_lt_succ hμ9)) hwp.1 _ _ hP hD hS ls hl
        · have hwp := hwp.2 hc
          refine lv_aload_n hx hb dX6_span_25 rfl (lv_at hl 0 rfl) ?_
          refine lv_iload hx hb dX6_span_26 (lv_at hl 4 rfl) ?_
          refine gBackf (D := D) (tys := gT cI cC cF cO) (A := A) (wr := [(a_climbs, .inl (cI, 16, .inl v_climbs))]) (w1 := (fun u_5 : Unit => [(a_this, .inr (6, [.ref a_values, .ref a_climbs])), (a_values, .inl (cF, 16, .inr (.inr (.inl v_values))))])) (va_runV (As := [.int x4_9]) (rest := []) ⟨hx, hb, hml, hown, hts⟩ (c_X6_tensionOf l D cI cC cF cO a_this a_values a_climbs _ _ _ _ hwp) (cwV 1 hts gX6_span_X6_tensionOf rfl rfl rfl (by decide +kernel) ⟨Nat.le_of_ble_eq_true rfl, Nat.le_of_ble_eq_true rfl⟩) (gPreV (C := RX6) (T := TX6) (N := 2) (ci := 6) hK hX hT hP hD hS hA [1, 0] rfl rfl rfl (qb := 1) rfl) rfl rfl hl.1 rfl (lv_room (Nat.le_of_ble_eq_true rfl)) dX6_span_28 ⟨Nat.le_of_ble_eq_true rfl, Nat.le_of_ble_eq_true rfl⟩) hP hD hS hA [1, 0] [2] rfl rfl rfl (by decide) (fun r_4 u_5 H locs hwp hP hD hS => ?_)
          have hP : va_P D vwCl [(a_climbs, .inl (cI, 16, .inl v_climbs)), (a_this, .inr (6, [.ref a_values, .ref a_climbs])), (a_values, .inl (cF, 16, .inr (.inr (.inl v_values))))] H := hP
          have hD : va_D A [(a_climbs, .inl (cI, 16, .inl v_climbs)), (a_this, .inr (6, [.ref a_values, .ref a_climbs])), (a_values, .inl (cF, 16, .inr (.inr (.inl v_values))))] := hD
          refine lv_fstore (lv' := [(5, .float r_4), (0, .ref a_this), (1, .int x1_9), (2, .float x2_9), (3, .float x3_9), (4, .int x4_9)]) hx hb dX6_span_31 hl (by decide) rfl (fun ls hl => ?_)
          refine lv_iload_n hx hb dX6_span_33 rfl (lv_at hl 2 rfl) ?_
          refine lv_if_eq (tgt := 44) hx hb dX6_span_34 (by decide) (fun hc => ?_) (fun hc => ?_)
          · have hwp := hwp.1 hc
            have hP : va_P D vwCl [(a_this, .inr (6, [.ref a_values, .ref a_climbs])), (a_values, .inl (cF, 16, .inr (.inr (.inl v_values)))), (a_climbs, .inl (cI, 16, .inl v_climbs))] H := hP.sub [1, 2, 0] rfl
            have hD : va_D A [(a_this, .inr (6, [.ref a_values, .ref a_climbs])), (a_values, .inl (cF, 16, .inr (.inr (.inl v_values)))), (a_climbs, .inl (cI, 16, .inl v_climbs))] := hD.sub [1, 2, 0] (by decide) rfl
            have hl : lv_has ls 6 [(0, .ref a_this), (1, .int x1_9), (3, .float x3_9), (4, .int x4_9), (5, .float r_4)] := lv_sub hl [1, 2, 4, 5, 0] rfl
            exact hj44 x1_9 x3_9 x4_9 r_4 _ _ hwp hP hD hS ls hl
          · have hwp := hwp.2 hc
            refine lv_fload hx hb dX6_span_37 (lv_at hl 0 rfl) ?_
            refine lv_fload_n hx hb dX6_span_39 rfl (lv_at hl 3 rfl) ?_
            refine lv_fcmp hx hb dX6_span_40 ?_
            refine lv_if_ge (tgt := 49) hx hb dX6_span_41 (by decide) (fun hc => ?_) (fun hc => ?_)
            · have hwp := hwp.1 hc
              refine lv_fload_n hx hb dX6_span_49 rfl (lv_at hl 3 rfl) ?_
              have hP : va_P D vwCl [(a_this, .inr (6, [.ref a_values, .ref a_climbs])), (a_values, .inl (cF, 16, .inr (.inr (.inl v_values)))), (a_climbs, .inl (cI, 16, .inl v_climbs))] H := hP.sub [1, 2, 0] rfl
              have hD : va_D A [(a_this, .inr (6, [.ref a_values, .ref a_climbs])), (a_values, .inl (cF, 16, .inr (.inr (.inl v_values)))), (a_climbs, .inl (cI, 16, .inl v_climbs))] := hD.sub [1, 2, 0] (by decide) rfl
              have hl : lv_has ls 6 [(0, .ref a_this), (1, .int x1_9), (3, .float x3_9), (4, .int x4_9), (5, .float r_4)] := lv_sub hl [1, 2, 4, 5, 0] rfl
              exact hj50 x1_9 x3_9 x4_9 r_4 x2_9 _ _ hwp hP hD hS ls hl
            · have hwp := hwp.2 hc
              have hP : va_P D vwCl [(a_this, .inr (6, [.ref a_values, .ref a_climbs])), (a_values, .inl (cF, 16, .inr (.inr (.inl v_values)))), (a_climbs, .inl (cI, 16, .inl v_climbs))] H := hP.sub [1, 2, 0] rfl
              have hD : va_D A [(a_this, .inr (6, [.ref a_values, .ref a_climbs])), (a_values, .inl (cF, 16, .inr (.inr (.inl v_values)))), (a_climbs, .inl (cI, 16, .inl v_climbs))] := hD.sub [1, 2, 0] (by decide) rfl
              have hl : lv_has ls 6 [(0, .ref a_this), (1, .int x1_9), (3, .float x3_9), (4, .int x4_9), (5, .float r_4)] := lv_sub hl [1, 2, 4, 5, 0] rfl
              exact hj44 x1_9 x3_9 x4_9 r_4 _ _ hwp hP hD hS ls hl
  exact hL9 _ (0 : Int32) FP.fconst0 FP.fconst0 (0 : Int32) (Nat.lt_succ_self _) hJ _ _ hP hD hS ls hl
theorem mc_X7_cardsAheadOf_7 : ∀ w ∈ u_ws RX7 TX7 1, w ∈ wsX7_cardsAheadOf := fun w h => List.mem_cons_of_mem _ (List.mem_append_right _ h)
theorem ml_X7_cardsAheadOf_1 : (.fieldLink RX7 9 "StoryWall$Wall" "slots" "[I" : Cond) ∈ wsX7_cardsAheadOf := List.mem_of_getElem? (i := 1) rfl
abbrev rm_X7_cardsAheadOf : Room := { frames := 1, cells := 0, slots := 0, locals := 21 }
set_option maxHeartbeats 4000000 in
set_option maxRecDepth 100000 in
theorem c_X7_cardsAheadOf (l : Launch) (D : va_G) (cI cC cF cO : ClassId) (a_this a_slots : Nat)  (sz : Nat) (x1 : Int32) (v_slots : Nat → Int32) (post : Int32 → Prop) (hwp : wp_X7_cardsAheadOf x1 v_slots post) : Met l yX7_cardsAheadOf wsX7_cardsAheadOf rm_X7_cardsAheadOf (gPre D (gT cI cC cF cO) [.ref a_this, .int x1] [(a_this, .inr (7, [.ref a_slots])), (a_slots, .inl (cI, 96, .inl v_slots))] sz) (va_Qi (S := Unit) (fun (r : Int32) (u : Unit) => post r ) (gB D (gT cI cC cF cO) (fun (u : Unit) => [(a_this, .inr (7, [.ref a_slots])), (a_slots, .inl (cI, 96, .inl v_slots))]) [(a_this, .inr (7, [.ref a_slots])), (a_slots, .inl (cI, 96, .inl v_slots))] sz) (va_A [(a_this, .inr (7, [.ref a_slots])), (a_slots, .inl (cI, 96, .inl v_slots))] sz)) 0 0 (va_A [(a_this, .inr (7, [.ref a_slots])), (a_slots, .inl (cI, 96, .inl v_slots))] sz) := by
  refine gOfi (own := RX7) (cc := cX7_cardsAheadOf) (maxL := 4) (ret := (some .int)) rfl (by decide) rfl (Nat.le_of_ble_eq_true rfl) rfl ?_
  intro p e s m below meth c A args Q hAe hx hb hr hts hown hml hlocks hname hA hK hX hT hP hD hS hret ls hl
  have hl : lv_has ls 4 [(0, .ref a_this), (1, .int x1)] := hl
  unfold wp_X7_cardsAheadOf at hwp
  refine lv_iconst (v := 0) hx hb dX7_cardsAheadOf_0 (by decide) ?_
  refine lv_istore_n (lv' := [(2, .int (0 : Int32)), (0, .ref a_this), (1, .int x1)]) hx hb dX7_cardsAheadOf_1 rfl hl (by decide) rfl (fun ls hl => ?_)
  refine lv_iconst (v := 0) hx hb dX7_cardsAheadOf_2 (by decide) ?_
  refine lv_istore_n (lv' := [(3, .int (0 : Int32)), (2, .int (0 : Int32)), (0, .ref a_this), (1, .int x1)]) hx hb dX7_cardsAheadOf_3 rfl hl (by decide) rfl (fun ls hl => ?_)
  have hl : lv_has ls 4 [(0, .ref a_this), (1, .int x1), (2, .int (0 : Int32)), (3, .int (0 : Int32))] := lv_sub hl [2, 3, 1, 0] rfl
  unfold wp_X7_cardsAheadOf_l4 at hwp
  obtain ⟨J4, μ4, hJ, hst4⟩ := hwp
  have hL4 : ∀ (n : Nat) (x2_4 : Int32) (x3_4 : Int32), μ4 x2_4 x3_4 < n → J4 x2_4 x3_4 → ∀ (H : Heap) (locs : List Loc), va_P D vwCl [(a_this, .inr (7, [.ref a_slots])), (a_slots, .inl (cI, 96, .inl v_slots))] H → va_D A [(a_this, .inr (7, [.ref a_slots])), (a_slots, .inl (cI, 96, .inl v_slots))] → va_S A s.heap H locs → ∀ ls : Array Slot, lv_has ls 4 [(0, .ref a_this), (1, .int x1), (2, .int x2_4), (3, .int x3_4)] → W p l e rm_X7_cardsAheadOf s m args below meth c H locs 0 0 Q (F0 m 4 ls []) := by
    intro n
    induction n with
    | zero => intro x2_4 x3_4 h; exact absurd h (Nat.not_lt_zero _)
    | succ n ih4 =>
      intro x2_4 x3_4 hμ4 hJ H locs hP hD hS ls hl
      have hwp := hst4 x2_4 x3_4 hJ
      refine lv_iload_n hx hb dX7_cardsAheadOf_4 rfl (lv_at hl 3 rfl) ?_
      refine lv_iload_n hx hb dX7_cardsAheadOf_5 rfl (lv_at hl 1 rfl) ?_
      refine lv_icmp_ge (tgt := 37) hx hb dX7_cardsAheadOf_6 (by decide) (fun hc => ?_) (fun hc => ?_)
      · have hwp := hwp.1 hc
        refine lv_iload_n hx hb dX7_cardsAheadOf_37 rfl (lv_at hl 2 rfl) ?_
        exact hret () [0, 1] dX7_cardsAheadOf_38 hwp rfl rfl hP hD hS
      · have hwp := hwp.2 hc
        refine lv_iload_n hx hb dX7_cardsAheadOf_9 rfl (lv_at hl 3 rfl) ?_
        refine lv_aload_n hx hb dX7_cardsAheadOf_10 rfl (lv_at hl 0 rfl) ?_
        refine va_get (D := D) (ci := 7) (v := .ref a_slots) (C := RX7) (T := TX7) (N := 1) hx hb hts mc_X7_cardsAheadOf_7 hown hK hP 0 rfl rfl 0 (by decide) (hts _ ml_X7_cardsAheadOf_1) (fun _ h9 => h9) rfl dX7_cardsAheadOf_11 ?_
        refine va_alen (D := D) (v := 96) hx hb hK hP 1 0 rfl rfl rfl dX7_cardsAheadOf_14 ?_
        refine lv_icmp_ge (tgt := 37) hx hb dX7_cardsAheadOf_15 (by decide) (fun hc => ?_) (fun hc => ?_)
        · have hwp := hwp.1 hc
          refine lv_iload_n hx hb dX7_cardsAheadOf_37 rfl (lv_at hl 2 rfl) ?_
          exact hret () [0, 1] dX7_cardsAheadOf_38 hwp rfl rfl hP hD hS
        · have hwp := hwp.2 hc
          refine lv_aload_n hx hb dX7_cardsAheadOf_18 rfl (lv_at hl 0 rfl) ?_
          refine lv_iload_n hx hb dX7_cardsAheadOf_19 rfl (lv_at hl 3 rfl) ?_
          refine gBacki (D := D) (tys := gT cI cC cF cO) (A := A) (wr := []) (w1 := (fun u_2 : Unit => [(a_this, .inr (7, [.ref a_slots])), (a_slots, .inl (cI, 96, .inl v_slots))])) (va_runV (As := [.int x3_4]) (rest := []) ⟨hx, hb, hml, hown, hts⟩ (c_X7_cardAt l D cI cC cF cO a_this a_slots _ _ _ _ hwp) (cwV 1 hts gX7_cardsAheadOf_X7_cardAt rfl rfl rfl (by decide +kernel) ⟨Nat.le_of_ble_eq_true rfl, Nat.le_of_ble_eq_true rfl⟩) (gPreV (C := RX7) (T := TX7) (N := 1) (ci := 7) hK hX hT hP hD hS hA [0, 1] rfl rfl rfl (qb := 0) rfl) rfl rfl hl.1 rfl (lv_room (Nat.le_of_ble_eq_true rfl)) dX7_cardsAheadOf_20 ⟨Nat.le_of_ble_eq_true rfl, Nat.le_of_ble_eq_true rfl⟩) hP hD hS hA [0, 1] [] rfl rfl rfl (by decide) (fun r_1 u_2 H locs hwp hP hD hS => ?_)
          have hP : va_P D vwCl [(a_this, .inr (7, [.ref a_slots])), (a_slots, .inl (cI, 96, .inl v_slots))] H := hP
          have hD : va_D A [(a_this, .inr (7, [.ref a_slots])), (a_slots, .inl (cI, 96, .inl v_slots))] := hD
          refine lv_bipush (v := -5) hx hb dX7_cardsAheadOf_23 (by decide) ?_
          refine lv_icmp_eq (tgt := 31) hx hb dX7_cardsAheadOf_25 (by decide) (fun hc => ?_) (fun hc => ?_)
          · have hwp := hwp.1 hc
            refine lv_iinc (v := (x3_4 + (1 : Int32))) (lv' := [(3, .int (x3_4 + (1 : Int32))), (0, .ref a_this), (1, .int x1), (2, .int x2_4)]) hx hb dX7_cardsAheadOf_31 hl (k := 3) rfl rfl (by decide) rfl (fun ls hl => ?_)
            refine lv_goto (tgt := 4) hx hb dX7_cardsAheadOf_34 (by decide) ?_
            have hl : lv_has ls 4 [(0, .ref a_this), (1, .int x1), (2, .int x2_4), (3, .int (x3_4 + (1 : Int32)))] := lv_sub hl [1, 2, 3, 0] rfl
            exact ih4 x2_4 (x3_4 + (1 : Int32)) (Nat.lt_of_lt_of_le hwp.2 (Nat.le_of_lt_succ hμ4)) hwp.1 _ _ hP hD hS ls hl
          · have hwp := hwp.2 hc
            refine lv_iinc (v := (x2_4 + (1 : Int32))) (lv' := [(2, .int (x2_4 + (1 : Int32))), (0, .ref a_this), (1, .int x1), (3, .int x3_4)]) hx hb dX7_cardsAheadOf_28 hl (k := 2) rfl rfl (by decide) rfl (fun ls hl => ?_)
            refine lv_iinc (v := (x3_4 + (1 : Int32))) (lv' := [(3, .int (x3_4 + (1 : Int32))), (2, .int (x2_4 + (1 : Int32))), (0, .ref a_this), (1, .int x1)]) hx hb dX7_cardsAheadOf_31 hl (k := 3) rfl rfl (by decide) rfl (fun ls hl => ?_)
            refine lv_goto (tgt := 4) hx hb dX7_cardsAheadOf_34 (by decide) ?_
            have hl : lv_has ls 4 [(0, .ref a_this), (1, .int x1), (2, .int (x2_4 + (1 : Int32))), (3, .int (x3_4 + (1 : Int32)))] := lv_sub hl [2, 3, 1, 0] rfl
            exact ih4 (x2_4 + (1 : Int32)) (x3_4 + (1 : Int32)) (Nat.lt_of_lt_of_le hwp.2 (Nat.le_of_lt_succ hμ4)) hwp.1 _ _ hP hD hS ls hl
  exact hL4 _ (0 : Int32) (0 : Int32) (Nat.lt_succ_self _) hJ _ _ hP hD hS ls hl
theorem mc_X7_cards_7 : ∀ w ∈ u_ws RX7 TX7 1, w ∈ wsX7_cards := fun w h => List.mem_cons_of_mem _ (List.mem_append_right _ h)
theorem ml_X7_cards_1 : (.fieldLink RX7 9 "StoryWall$Wall" "slots" "[I" : Cond) ∈ wsX7_cards := List.mem_of_getElem? (i := 1) rfl
abbrev rm_X7_cards : Room := { frames := 2, cells := 0, slots := 0, locals := 44 }
set_option maxHeartbeats 4000000 in
set_option maxRecDepth 100000 in
theorem c_X7_cards (l : Launch) (D : va_G) (cI cC cF cO : ClassId) (a_this a_slots : Nat)  (sz : Nat)  (v_slots : Nat → Int32) (post : Int32 → Prop) (hwp : wp_X7_cards v_slots post) : Met l yX7_cards wsX7_cards rm_X7_cards (gPre D (gT cI cC cF cO) [.ref a_this] [(a_this, .inr (7, [.ref a_slots])), (a_slots, .inl (cI, 96, .inl v_slots))] sz) (va_Qi (S := Unit) (fun (r : Int32) (u : Unit) => post r ) (gB D (gT cI cC cF cO) (fun (u : Unit) => [(a_this, .inr (7, [.ref a_slots])), (a_slots, .inl (cI, 96, .inl v_slots))]) [(a_this, .inr (7, [.ref a_slots])), (a_slots, .inl (cI, 96, .inl v_slots))] sz) (va_A [(a_this, .inr (7, [.ref a_slots])), (a_slots, .inl (cI, 96, .inl v_slots))] sz)) 0 0 (va_A [(a_this, .inr (7, [.ref a_slots])), (a_slots, .inl (cI, 96, .inl v_slots))] sz) := by
  refine gOfi (own := RX7) (cc := cX7_cards) (maxL := 1) (ret := (some .int)) rfl (by decide) rfl (Nat.le_of_ble_eq_true rfl) rfl ?_
  intro p e s m below meth c A args Q hAe hx hb hr hts hown hml hlocks hname hA hK hX hT hP hD hS hret ls hl
  have hl : lv_has ls 1 [(0, .ref a_this)] := hl
  unfold wp_X7_cards at hwp
  refine lv_aload_n hx hb dX7_cards_0 rfl (lv_at hl 0 rfl) ?_
  refine lv_aload_n hx hb dX7_cards_1 rfl (lv_at hl 0 rfl) ?_
  refine va_get (D := D) (ci := 7) (v := .ref a_slots) (C := RX7) (T := TX7) (N := 1) hx hb hts mc_X7_cards_7 hown hK hP 0 rfl rfl 0 (by decide) (hts _ ml_X7_cards_1) (fun _ h9 => h9) rfl dX7_cards_2 ?_
  refine va_alen (D := D) (v := 96) hx hb hK hP 1 0 rfl rfl rfl dX7_cards_5 ?_
  refine gBacki (D := D) (tys := gT cI cC cF cO) (A := A) (wr := []) (w1 := (fun u_2 : Unit => [(a_this, .inr (7, [.ref a_slots])), (a_slots, .inl (cI, 96, .inl v_slots))])) (va_runV (As := [.int (96 : Int32)]) (rest := []) ⟨hx, hb, hml, hown, hts⟩ (c_X7_cardsAheadOf l D cI cC cF cO a_this a_slots _ _ _ _ hwp) (cwV 1 hts gX7_cards_X7_cardsAheadOf rfl rfl rfl (by decide +kernel) ⟨Nat.le_of_ble_eq_true rfl, Nat.le_of_ble_eq_true rfl⟩) (gPreV (C := RX7) (T := TX7) (N := 1) (ci := 7) hK hX hT hP hD hS hA [0, 1] rfl rfl rfl (qb := 0) rfl) rfl rfl hl.1 rfl (lv_room (Nat.le_of_ble_eq_true rfl)) dX7_cards_6 ⟨Nat.le_of_ble_eq_true rfl, Nat.le_of_ble_eq_true rfl⟩) hP hD hS hA [0, 1] [] rfl rfl rfl (by decide) (fun r_1 u_2 H locs hwp hP hD hS => ?_)
  have hP : va_P D vwCl [(a_this, .inr (7, [.ref a_slots])), (a_slots, .inl (cI, 96, .inl v_slots))] H := hP
  have hD : va_D A [(a_this, .inr (7, [.ref a_slots])), (a_slots, .inl (cI, 96, .inl v_slots))] := hD
  exact hret () [0, 1] dX7_cards_9 hwp rfl rfl hP hD hS
theorem mc_X7_slotOf_7 : ∀ w ∈ u_ws RX7 TX7 1, w ∈ wsX7_slotOf := fun w h => List.mem_cons_of_mem _ (List.mem_append_right _ h)
theorem ml_X7_slotOf_1 : (.fieldLink RX7 9 "StoryWall$Wall" "slots" "[I" : Cond) ∈ wsX7_slotOf := List.mem_of_getElem? (i := 1) rfl
abbrev rm_X7_slotOf : Room := { frames := 1, cells := 0, slots := 0, locals := 21 }
set_option maxHeartbeats 4000000 in
set_option maxRecDepth 100000 in
theorem c_X7_slotOf (l : Launch) (D : va_G) (cI cC cF cO : ClassId) (a_this a_slots : Nat)  (sz : Nat) (x1 : Int32) (v_slots : Nat → Int32) (post : Int32 → Prop) (hwp : wp_X7_slotOf x1 v_slots post) : Met l yX7_slotOf wsX7_slotOf rm_X7_slotOf (gPre D (gT cI cC cF cO) [.ref a_this, .int x1] [(a_this, .inr (7, [.ref a_slots])), (a_slots, .inl (cI, 96, .inl v_slots))] sz) (va_Qi (S := Unit) (fun (r : Int32) (u : Unit) => post r ) (gB D (gT cI cC cF cO) (fun (u : Unit) => [(a_this, .inr (7, [.ref a_slots])), (a_slots, .inl (cI, 96, .inl v_slots))]) [(a_this, .inr (7, [.ref a_slots])), (a_slots, .inl (cI, 96, .inl v_slots))] sz) (va_A [(a_this, .inr (7, [.ref a_slots])), (a_slots, .inl (cI, 96, .inl v_slots))] sz)) 0 0 (va_A [(a_this, .inr (7, [.ref a_slots])), (a_slots, .inl (cI, 96, .inl v_slots))] sz) := by
  refine gOfi (own := RX7) (cc := cX7_slotOf) (maxL := 3) (ret := (some .int)) rfl (by decide) rfl (Nat.le_of_ble_eq_true rfl) rfl ?_
  intro p e s m below meth c A args Q hAe hx hb hr hts hown hml hlocks hname hA hK hX hT hP hD hS hret ls hl
  have hl : lv_has ls 3 [(0, .ref a_this), (1, .int x1)] := hl
  unfold wp_X7_slotOf at hwp
  refine lv_iconst (v := 0) hx hb dX7_slotOf_0 (by decide) ?_
  refine lv_istore_n (lv' := [(2, .int (0 : Int32)), (0, .ref a_this), (1, .int x1)]) hx hb dX7_slotOf_1 rfl hl (by decide) rfl (fun ls hl => ?_)
  have hl : lv_has ls 3 [(0, .ref a_this), (1, .int x1), (2, .int (0 : Int32))] := lv_sub hl [1, 2, 0] rfl
  unfold wp_X7_slotOf_l2 at hwp
  obtain ⟨J2, μ2, hJ, hst2⟩ := hwp
  have hL2 : ∀ (n : Nat) (x2_2 : Int32), μ2 x2_2 < n → J2 x2_2 → ∀ (H : Heap) (locs : List Loc), va_P D vwCl [(a_this, .inr (7, [.ref a_slots])), (a_slots, .inl (cI, 96, .inl v_slots))] H → va_D A [(a_this, .inr (7, [.ref a_slots])), (a_slots, .inl (cI, 96, .inl v_slots))] → va_S A s.heap H locs → ∀ ls : Array Slot, lv_has ls 3 [(0, .ref a_this), (1, .int x1), (2, .int x2_2)] → W p l e rm_X7_slotOf s m args below meth c H locs 0 0 Q (F0 m 2 ls []) := by
    intro n
    induction n with
    | zero => intro x2_2 h; exact absurd h (Nat.not_lt_zero _)
    | succ n ih2 =>
      intro x2_2 hμ2 hJ H locs hP hD hS ls hl
      have hwp := hst2 x2_2 hJ
      refine lv_iload_n hx hb dX7_slotOf_2 rfl (lv_at hl 2 rfl) ?_
      refine lv_aload_n hx hb dX7_slotOf_3 rfl (lv_at hl 0 rfl) ?_
      refine va_get (D := D) (ci := 7) (v := .ref a_slots) (C := RX7) (T := TX7) (N := 1) hx hb hts mc_X7_slotOf_7 hown hK hP 0 rfl rfl 0 (by decide) (hts _ ml_X7_slotOf_1) (fun _ h9 => h9) rfl dX7_slotOf_4 ?_
      refine va_alen (D := D) (v := 96) hx hb hK hP 1 0 rfl rfl rfl dX7_slotOf_7 ?_
      refine lv_icmp_ge (tgt := 28) hx hb dX7_slotOf_8 (by decide) (fun hc => ?_) (fun hc => ?_)
      · have hwp := hwp.1 hc
        refine lv_bipush (v := -5) hx hb dX7_slotOf_28 (by decide) ?_
        exact hret () [0, 1] dX7_slotOf_30 hwp rfl rfl hP hD hS
      · have hwp := hwp.2 hc
        refine lv_aload_n hx hb dX7_slotOf_11 rfl (lv_at hl 0 rfl) ?_
        refine lv_iload_n hx hb dX7_slotOf_12 rfl (lv_at hl 2 rfl) ?_
        refine gBacki (D := D) (tys := gT cI cC cF cO) (A := A) (wr := []) (w1 := (fun u_2 : Unit => [(a_this, .inr (7, [.ref a_slots])), (a_slots, .inl (cI, 96, .inl v_slots))])) (va_runV (As := [.int x2_2]) (rest := []) ⟨hx, hb, hml, hown, hts⟩ (c_X7_cardAt l D cI cC cF cO a_this a_slots _ _ _ _ hwp) (cwV 1 hts gX7_slotOf_X7_cardAt rfl rfl rfl (by decide +kernel) ⟨Nat.le_of_ble_eq_true rfl, Nat.le_of_ble_eq_true rfl⟩) (gPreV (C := RX7) (T := TX7) (N := 1) (ci := 7) hK hX hT hP hD hS hA [0, 1] rfl rfl rfl (qb := 0) rfl) rfl rfl hl.1 rfl (lv_room (Nat.le_of_ble_eq_true rfl)) dX7_slotOf_13 ⟨Nat.le_of_ble_eq_true rfl, Nat.le_of_ble_eq_true rfl⟩) hP hD hS hA [0, 1] [] rfl rfl rfl (by decide) (fun r_1 u_2 H locs hwp hP hD hS => ?_)
        have hP : va_P D vwCl [(a_this, .inr (7, [.ref a_slots])), (a_slots, .inl (cI, 96, .inl v_slots))] H := hP
        have hD : va_D A [(a_this, .inr (7, [.ref a_slots])), (a_slots, .inl (cI, 96, .inl v_slots))] := hD
        refine lv_iload_n hx hb dX7_slotOf_16 rfl (lv_at hl 1 rfl) ?_
        refine lv_icmp_ne (tgt := 22) hx hb dX7_slotOf_17 (by decide) (fun hc => ?_) (fun hc => ?_)
        · have hwp := hwp.2 hc
          refine lv_iinc (v := (x2_2 + (1 : Int32))) (lv' := [(2, .int (x2_2 + (1 : Int32))), (0, .ref a_this), (1, .int x1)]) hx hb dX7_slotOf_22 hl (k := 2) rfl rfl (by decide) rfl (fun ls hl => ?_)
          refine lv_goto (tgt := 2) hx hb dX7_slotOf_25 (by decide) ?_
          have hl : lv_has ls 3 [(0, .ref a_this), (1, .int x1), (2, .int (x2_2 + (1 : Int32)))] := lv_sub hl [1, 2, 0] rfl
          exact ih2 (x2_2 + (1 : Int32)) (Nat.lt_of_lt_of_le hwp.2 (Nat.le_of_lt_succ hμ2)) hwp.1 _ _ hP hD hS ls hl
        · have hwp := hwp.1 hc
          refine lv_iload_n hx hb dX7_slotOf_20 rfl (lv_at hl 2 rfl) ?_
          exact hret () [0, 1] dX7_slotOf_21 hwp rfl rfl hP hD hS
  exact hL2 _ (0 : Int32) (Nat.lt_succ_self _) hJ _ _ hP hD hS ls hl
abbrev rm_X7_isIn : Room := { frames := 2, cells := 0, slots := 0, locals := 43 }
set_option maxHeartbeats 4000000 in
set_option maxRecDepth 100000 in
theorem c_X7_isIn (l : Launch) (D : va_G) (cI cC cF cO : ClassId) (a_this a_slots : Nat)  (sz : Nat) (x1 : Int32) (x2 : Int32) (v_slots : Nat → Int32) (post : Int32 → Prop) (hwp : wp_X7_isIn x1 x2 v_slots post) : Met l yX7_isIn wsX7_isIn rm_X7_isIn (gPre D (gT cI cC cF cO) [.ref a_this, .int x1, .int x2] [(a_this, .inr (7, [.ref a_slots])), (a_slots, .inl (cI, 96, .inl v_slots))] sz) (va_Qi (S := Unit) (fun (r : Int32) (u : Unit) => post r ) (gB D (gT cI cC cF cO) (fun (u : Unit) => [(a_this, .inr (7, [.ref a_slots])), (a_slots, .inl (cI, 96, .inl v_slots))]) [(a_this, .inr (7, [.ref a_slots])), (a_slots, .inl (cI, 96, .inl v_slots))] sz) (va_A [(a_this, .inr (7, [.ref a_slots])), (a_slots, .inl (cI, 96, .inl v_slots))] sz)) 0 0 (va_A [(a_this, .inr (7, [.ref a_slots])), (a_slots, .inl (cI, 96, .inl v_slots))] sz) := by
  refine gOfz (own := RX7) (cc := cX7_isIn) (maxL := 4) (ret := (some .boolean)) rfl (by decide) rfl (Nat.le_of_ble_eq_true rfl) rfl ?_
  intro p e s m below meth c A args Q hAe hx hb hr hts hown hml hlocks hname hA hK hX hT hP hD hS hret ls hl
  have hl : lv_has ls 4 [(0, .ref a_this), (1, .int x1), (2, .int x2)] := hl
  unfold wp_X7_isIn at hwp
  refine lv_aload_n hx hb dX7_isIn_0 rfl (lv_at hl 0 rfl) ?_
  refine lv_iload_n hx hb dX7_isIn_1 rfl (lv_at hl 1 rfl) ?_
  refine gBacki (D := D) (tys := gT cI cC cF cO) (A := A) (wr := []) (w1 := (fun u_2 : Unit => [(a_this, .inr (7, [.ref a_slots])), (a_slots, .inl (cI, 96, .inl v_slots))])) (va_runV (As := [.int x1]) (rest := []) ⟨hx, hb, hml, hown, hts⟩ (c_X7_slotOf l D cI cC cF cO a_this a_slots _ _ _ _ hwp) (cwV 1 hts gX7_isIn_X7_slotOf rfl rfl rfl (by decide +kernel) ⟨Nat.le_of_ble_eq_true rfl, Nat.le_of_ble_eq_true rfl⟩) (gPreV (C := RX7) (T := TX7) (N := 1) (ci := 7) hK hX hT hP hD hS hA [0, 1] rfl rfl rfl (qb := 0) rfl) rfl rfl hl.1 rfl (lv_room (Nat.le_of_ble_eq_true rfl)) dX7_isIn_2 ⟨Nat.le_of_ble_eq_true rfl, Nat.le_of_ble_eq_true rfl⟩) hP hD hS hA [0, 1] [] rfl rfl rfl (by decide) (fun r_1 u_2 H locs hwp hP hD hS => ?_)
  have hP : va_P D vwCl [(a_this, .inr (7, [.ref a_slots])), (a_slots, .inl (cI, 96, .inl v_slots))] H := hP
  have hD : va_D A [(a_this, .inr (7, [.ref a_slots])), (a_slots, .inl (cI, 96, .inl v_slots))] := hD
  refine lv_istore_n (lv' := [(3, .int r_1), (0, .ref a_this), (1, .int x1), (2, .int x2)]) hx hb dX7_isIn_5 rfl hl (by decide) rfl (fun ls hl => ?_)
  refine lv_iload_n hx hb dX7_isIn_6 rfl (lv_at hl 0 rfl) ?_
  refine lv_bipush (v := -5) hx hb dX7_isIn_7 (by decide) ?_
  refine lv_icmp_eq (tgt := 24) hx hb dX7_isIn_9 (by decide) (fun hc => ?_) (fun hc => ?_)
  · have hwp := hwp.1 hc
    refine lv_iconst (v := 0) hx hb dX7_isIn_24 (by decide) ?_
    exact hret () [0, 1] dX7_isIn_25 (Or.inl rfl) hwp rfl rfl hP hD hS
  · have hwp := hwp.2 hc
    refine lv_iload_n hx hb dX7_isIn_12 rfl (lv_at hl 0 rfl) ?_
    refine lv_bipush (v := 6) hx hb dX7_isIn_13 (by decide) ?_
    refine lv_idiv hx hb dX7_isIn_15 (by decide) ?_
    refine lv_iload_n hx hb dX7_isIn_16 rfl (lv_at hl 3 rfl) ?_
    refine lv_icmp_ne (tgt := 24) hx hb dX7_isIn_17 (by decide) (fun hc => ?_) (fun hc => ?_)
    · have hwp := hwp.2 hc
      refine lv_iconst (v := 0) hx hb dX7_isIn_24 (by decide) ?_
      exact hret () [0, 1] dX7_isIn_25 (Or.inl rfl) hwp rfl rfl hP hD hS
    · have hwp := hwp.1 hc
      refine lv_iconst (v := 1) hx hb dX7_isIn_20 (by decide) ?_
      refine lv_goto (tgt := 25) hx hb dX7_isIn_21 (by decide) ?_
      exact hret () [0, 1] dX7_isIn_25 (Or.inr rfl) hwp rfl rfl hP hD hS
