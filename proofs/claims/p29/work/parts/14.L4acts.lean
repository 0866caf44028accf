/-! contract of the law's acts (by program) -/
abbrev rm_L_acts : Room := { frames := 8, cells := 0, slots := 0, locals := 190 }
set_option maxHeartbeats 40000000 in
set_option maxRecDepth 100000 in
theorem c_L_acts (l : Launch) (D : va_G) (cI cC cF cO : ClassId) (xa : Nat → Nat) (v : VT) (sz : Nat) (x1 : Int32) (post : Int32 → VT → Prop) (hwp : wv_L_acts x1 v post) : Met l yL_acts wsL_acts rm_L_acts (gPre D (gT cI cC cF cO) [.ref (xa 0), .int x1] (gW cI cC cF cO xa v) sz) (va_Qi post (gB D (gT cI cC cF cO) (gW cI cC cF cO xa) (gW cI cC cF cO xa v) sz) (va_A (gW cI cC cF cO xa v) sz)) 0 0 (va_A (gW cI cC cF cO xa v) sz) := by
  refine gOfz (own := RL) (cc := cL_acts) (maxL := 18) (ret := (some .boolean)) rfl (by decide) rfl (Nat.le_of_ble_eq_true rfl) rfl ?_
  intro p e s m below meth c A args Q hAe hx hb hr hts hown hml hlocks hname hA hK hX hT hP hD hS hret ls hl
  have hl : lv_has ls 18 [(0, .ref (xa 0)), (1, .int x1)] := hl
  unfold wv_L_acts at hwp
  have hj599 : ∀ (x2_599 : Int32) (x17_599 : Int32) (k0_599 : Int32) (k1_599 : Int32) (v_599 : VT) (H : Heap) (locs : List Loc), wv_L_acts_j599 x2_599 x17_599 k0_599 k1_599 v_599  post → va_P D vwCl (gW cI cC cF cO xa v_599) H → va_D A (gW cI cC cF cO xa v_599) → va_S A s.heap H locs → ∀ ls : Array Slot, lv_has ls 18 [(0, .ref (xa 0)), (2, .int x2_599), (17, .int x17_599)] → W p l e rm_L_acts s m args below meth c H locs 0 0 Q (F0 m 599 ls [.int k0_599, .int k1_599]) := by
    intro x2_599 x17_599 k0_599 k1_599 v_599 H locs hwp hP hD hS ls hl
    unfold wv_L_acts_j599 at hwp
    refine lv_icmp_ne (tgt := 617) hx hb dL_acts_599 (by decide) (fun hc => ?_) (fun hc => ?_)
    · have hwp := hwp.2 hc
      refine lv_iconst (v := 0) hx hb dL_acts_617 (by decide) ?_
      exact hret v_599 gI dL_acts_618 (Or.inl rfl) hwp (gI_at cI cC cF cO xa v_599) gI_nd hP hD hS
    · have hwp := hwp.1 hc
      refine lv_aload_n hx hb dL_acts_602 rfl (lv_at hl 0 rfl) ?_
      refine lv_iload_n hx hb dL_acts_603 rfl (lv_at hl 1 rfl) ?_
      refine lv_iconst (v := 1) hx hb dL_acts_604 (by decide) ?_
      refine gBacki (D := D) (tys := gT cI cC cF cO) (A := A) (wr := []) (w1 := gW cI cC cF cO xa) (va_runV (As := [.int x2_599, .int (1 : Int32)]) (rest := []) ⟨hx, hb, hml, hown, hts⟩ (d_X8_card l D cI cC cF cO xa v_599 _ (x2_599) ((1 : Int32)) _ hwp) (cwV 2 hts gL_acts_X8_card rfl rfl rfl (by decide +kernel) ⟨Nat.le_of_ble_eq_true rfl, Nat.le_of_ble_eq_true rfl⟩) (gPreV (C := RX8) (T := TX8) (N := 9) (ci := 8) hK hX hT hP hD hS hA gI (gI_at cI cC cF cO xa v_599) gI_nd rfl (qb := 0) rfl) rfl rfl hl.1 rfl (lv_room (Nat.le_of_ble_eq_true rfl)) dL_acts_605 ⟨Nat.le_of_ble_eq_true rfl, Nat.le_of_ble_eq_true rfl⟩) hP hD hS hA gI [] (gI_at cI cC cF cO xa v_599) rfl rfl (fun i h => absurd h List.not_mem_nil) (fun r_1 v_2 H locs hwp hP hD hS => ?_)
      have hP : va_P D vwCl (gW cI cC cF cO xa v_2) H := hP
      have hD : va_D A (gW cI cC cF cO xa v_2) := hD
      refine lv_iload hx hb dL_acts_608 (lv_at hl 2 rfl) ?_
      refine lv_icmp_ne (tgt := 617) hx hb dL_acts_610 (by decide) (fun hc => ?_) (fun hc => ?_)
      · have hwp := hwp.2 hc
        refine lv_iconst (v := 0) hx hb dL_acts_617 (by decide) ?_
        exact hret v_2 gI dL_acts_618 (Or.inl rfl) hwp (gI_at cI cC cF cO xa v_2) gI_nd hP hD hS
      · have hwp := hwp.1 hc
        refine lv_iconst (v := 1) hx hb dL_acts_613 (by decide) ?_
        refine lv_goto (tgt := 618) hx hb dL_acts_614 (by decide) ?_
        exact hret v_2 gI dL_acts_618 (Or.inr rfl) hwp (gI_at cI cC cF cO xa v_2) gI_nd hP hD hS
  have hj538 : ∀ (x2_538 : Int32) (k0_538 : Int32) (k1_538 : Int32) (k2_538 : Int32) (v_538 : VT) (H : Heap) (locs : List Loc), wv_L_acts_j538 x2_538 k0_538 k1_538 k2_538 v_538  post → va_P D vwCl (gW cI cC cF cO xa v_538) H → va_D A (gW cI cC cF cO xa v_538) → va_S A s.heap H locs → ∀ ls : Array Slot, lv_has ls 18 [(0, .ref (xa 0)), (2, .int x2_538)] → W p l e rm_L_acts s m args below meth c H locs 0 0 Q (F0 m 538 ls [.int k0_538, .int k1_538, .int k2_538]) := by
    intro x2_538 k0_538 k1_538 k2_538 v_538 H locs hwp hP hD hS ls hl
    unfold wv_L_acts_j538 at hwp
    refine lv_isub hx hb dL_acts_538 ?_
    refine lv_icmp_ne (tgt := 557) hx hb dL_acts_539 (by decide) (fun hc => ?_) (fun hc => ?_)
    · have hwp := hwp.2 hc
      refine lv_iconst (v := 0) hx hb dL_acts_557 (by decide) ?_
      exact hret v_538 gI dL_acts_558 (Or.inl rfl) hwp (gI_at cI cC cF cO xa v_538) gI_nd hP hD hS
    · have hwp := hwp.1 hc
      refine lv_aload_n hx hb dL_acts_542 rfl (lv_at hl 0 rfl) ?_
      refine lv_iload_n hx hb dL_acts_543 rfl (lv_at hl 1 rfl) ?_
      refine lv_iconst (v := 5) hx hb dL_acts_544 (by decide) ?_
      refine gBacki (D := D) (tys := gT cI cC cF cO) (A := A) (wr := []) (w1 := gW cI cC cF cO xa) (va_runV (As := [.int x2_538, .int (5 : Int32)]) (rest := []) ⟨hx, hb, hml, hown, hts⟩ (d_X8_card l D cI cC cF cO xa v_538 _ (x2_538) ((5 : Int32)) _ hwp) (cwV 2 hts gL_acts_X8_card rfl rfl rfl (by decide +kernel) ⟨Nat.le_of_ble_eq_true rfl, Nat.le_of_ble_eq_true rfl⟩) (gPreV (C := RX8) (T := TX8) (N := 9) (ci := 8) hK hX hT hP hD hS hA gI (gI_at cI cC cF cO xa v_538) gI_nd rfl (qb := 0) rfl) rfl rfl hl.1 rfl (lv_room (Nat.le_of_ble_eq_true rfl)) dL_acts_545 ⟨Nat.le_of_ble_eq_true rfl, Nat.le_of_ble_eq_true rfl⟩) hP hD hS hA gI [] (gI_at cI cC cF cO xa v_538) rfl rfl (fun i h => absurd h List.not_mem_nil) (fun r_3 v_4 H locs hwp hP hD hS => ?_)
      have hP : va_P D vwCl (gW cI cC cF cO xa v_4) H := hP
      have hD : va_D A (gW cI cC cF cO xa v_4) := hD
      refine lv_bipush (v := -5) hx hb dL_acts_548 (by decide) ?_
      refine lv_icmp_ne (tgt := 557) hx hb dL_acts_550 (by decide) (fun hc => ?_) (fun hc => ?_)
      · have hwp := hwp.2 hc
        refine lv_iconst (v := 0) hx hb dL_acts_557 (by decide) ?_
        exact hret v_4 gI dL_acts_558 (Or.inl rfl) hwp (gI_at cI cC cF cO xa v_4) gI_nd hP hD hS
      · have hwp := hwp.1 hc
        refine lv_iconst (v := 1) hx hb dL_acts_553 (by decide) ?_
        refine lv_goto (tgt := 558) hx hb dL_acts_554 (by decide) ?_
        exact hret v_4 gI dL_acts_558 (Or.inr rfl) hwp (gI_at cI cC cF cO xa v_4) gI_nd hP hD hS
  have hj518 : ∀ (x2_518 : Int32) (x13_518 : Int32) (x14_518 : Int32) (k0_518 : Int32) (k1_518 : Int32) (v_518 : VT) (H : Heap) (locs : List Loc), wv_L_acts_j518 x2_518 x13_518 x14_518 k0_518 k1_518 v_518  post → va_P D vwCl (gW cI cC cF cO xa v_518) H → va_D A (gW cI cC cF cO xa v_518) → va_S A s.heap H locs → ∀ ls : Array Slot, lv_has ls 18 [(0, .ref (xa 0)), (2, .int x2_518), (13, .int x13_518), (14, .int x14_518)] → W p l e rm_L_acts s m args below meth c H locs 0 0 Q (F0 m 518 ls [.int k0_518, .int k1_518]) := by
    intro x2_518 x13_518 x14_518 k0_518 k1_518 v_518 H locs hwp hP hD hS ls hl
    unfold wv_L_acts_j518 at hwp
    refine lv_icmp_ne (tgt := 557) hx hb dL_acts_518 (by decide) (fun hc => ?_) (fun hc => ?_)
    · have hwp := hwp.2 hc
      refine lv_iconst (v := 0) hx hb dL_acts_557 (by decide) ?_
      exact hret v_518 gI dL_acts_558 (Or.inl rfl) hwp (gI_at cI cC cF cO xa v_518) gI_nd hP hD hS
    · have hwp := hwp.1 hc
      refine lv_aload_n hx hb dL_acts_521 rfl (lv_at hl 0 rfl) ?_
      refine lv_iconst (v := 1) hx hb dL_acts_522 (by decide) ?_
      refine gBacki (D := D) (tys := gT cI cC cF cO) (A := A) (wr := []) (w1 := gW cI cC cF cO xa) (va_runV (As := [.int (1 : Int32)]) (rest := []) ⟨hx, hb, hml, hown, hts⟩ (d_X8_count l D cI cC cF cO xa v_518 _ ((1 : Int32)) _ hwp) (cwV 1 hts gL_acts_X8_count rfl rfl rfl (by decide +kernel) ⟨Nat.le_of_ble_eq_true rfl, Nat.le_of_ble_eq_true rfl⟩) (gPreV (C := RX8) (T := TX8) (N := 9) (ci := 8) hK hX hT hP hD hS hA gI (gI_at cI cC cF cO xa v_518) gI_nd rfl (qb := 0) rfl) rfl rfl hl.1 rfl (lv_room (Nat.le_of_ble_eq_true rfl)) dL_acts_523 ⟨Nat.le_of_ble_eq_true rfl, Nat.le_of_ble_eq_true rfl⟩) hP hD hS hA gI [] (gI_at cI cC cF cO xa v_518) rfl rfl (fun i h => absurd h List.not_mem_nil) (fun r_5 v_6 H locs hwp hP hD hS => ?_)
      have hP : va_P D vwCl (gW cI cC cF cO xa v_6) H := hP
      have hD : va_D A (gW cI cC cF cO xa v_6) := hD
      refine lv_iload hx hb dL_acts_526 (lv_at hl 3 rfl) ?_
      refine lv_iload hx hb dL_acts_528 (lv_at hl 2 rfl) ?_
      refine lv_if_eq (tgt := 537) hx hb dL_acts_530 (by decide) (fun hc => ?_) (fun hc => ?_)
      · have hwp := hwp.1 hc
        refine lv_iconst (v := 0) hx hb dL_acts_537 (by decide) ?_
        have hl : lv_has ls 18 [(0, .ref (xa 0)), (2, .int x2_518)] := lv_sub hl [0, 1] rfl
        exact hj538 x2_518 (0 : Int32) x14_518 r_5 v_6 _ _ hwp hP hD hS ls hl
      · have hwp := hwp.2 hc
        refine lv_iconst (v := 1) hx hb dL_acts_533 (by decide) ?_
        refine lv_goto (tgt := 538) hx hb dL_acts_534 (by decide) ?_
        have hl : lv_has ls 18 [(0, .ref (xa 0)), (2, .int x2_518)] := lv_sub hl [0, 1] rfl
        exact hj538 x2_518 (1 : Int32) x14_518 r_5 v_6 _ _ hwp hP hD hS ls hl
  have hj461 : ∀ (x2_461 : Int32) (x13_461 : Int32) (x14_461 : Int32) (k0_461 : Int32) (v_461 : VT) (H : Heap) (locs : List Loc), wv_L_acts_j461 x2_461 x13_461 x14_461 k0_461 v_461  post → va_P D vwCl (gW cI cC cF cO xa v_461) H → va_D A (gW cI cC cF cO xa v_461) → va_S A s.heap H locs → ∀ ls : Array Slot, lv_has ls 18 [(0, .ref (xa 0)), (2, .int x2_461), (13, .int x13_461), (14, .int x14_461)] → W p l e rm_L_acts s m args below meth c H locs 0 0 Q (F0 m 461 ls [.int k0_461]) := by
    intro x2_461 x13_461 x14_461 k0_461 v_461 H locs hwp hP hD hS ls hl
    unfold wv_L_acts_j461 at hwp
    refine lv_istore (lv' := [(15, .int k0_461), (0, .ref (xa 0)), (2, .int x2_461), (13, .int x13_461), (14, .int x14_461)]) hx hb dL_acts_461 hl (by decide) rfl (fun ls hl => ?_)
    refine lv_iload hx hb dL_acts_463 (lv_at hl 0 rfl) ?_
    refine lv_bipush (v := -9) hx hb dL_acts_465 (by decide) ?_
    refine lv_icmp_ne (tgt := 495) hx hb dL_acts_467 (by decide) (fun hc => ?_) (fun hc => ?_)
    · have hwp := hwp.2 hc
      refine lv_iload hx hb dL_acts_495 (lv_at hl 0 rfl) ?_
      refine lv_iload hx hb dL_acts_497 (lv_at hl 3 rfl) ?_
      refine lv_if_eq (tgt := 516) hx hb dL_acts_499 (by decide) (fun hc => ?_) (fun hc => ?_)
      · have hwp := hwp.1 hc
        refine lv_bipush (v := -5) hx hb dL_acts_516 (by decide) ?_
        have hl : lv_has ls 18 [(0, .ref (xa 0)), (2, .int x2_461), (13, .int x13_461), (14, .int x14_461)] := lv_sub hl [1, 2, 3, 4] rfl
        exact hj518 x2_461 x13_461 x14_461 (-5 : Int32) k0_461 v_461 _ _ hwp hP hD hS ls hl
      · have hwp := hwp.2 hc
        refine lv_aload_n hx hb dL_acts_502 rfl (lv_at hl 1 rfl) ?_
        refine lv_aload_n hx hb dL_acts_503 rfl (lv_at hl 1 rfl) ?_
        refine lv_iload_n hx hb dL_acts_504 rfl (lv_at hl 2 rfl) ?_
        refine lv_iconst (v := 0) hx hb dL_acts_505 (by decide) ?_
        refine gBacki (D := D) (tys := gT cI cC cF cO) (A := A) (wr := []) (w1 := gW cI cC cF cO xa) (va_runV (As := [.int x2_461, .int (0 : Int32)]) (rest := [.ref (xa 0), .int k0_461]) ⟨hx, hb, hml, hown, hts⟩ (d_X8_card l D cI cC cF cO xa v_461 _ (x2_461) ((0 : Int32)) _ hwp) (cwV 2 hts gL_acts_X8_card rfl rfl rfl (by decide +kernel) ⟨Nat.le_of_ble_eq_true rfl, Nat.le_of_ble_eq_true rfl⟩) (gPreV (C := RX8) (T := TX8) (N := 9) (ci := 8) hK hX hT hP hD hS hA gI (gI_at cI cC cF cO xa v_461) gI_nd rfl (qb := 0) rfl) rfl rfl hl.1 rfl (lv_room (Nat.le_of_ble_eq_true rfl)) dL_acts_506 ⟨Nat.le_of_ble_eq_true rfl, Nat.le_of_ble_eq_true rfl⟩) hP hD hS hA gI [] (gI_at cI cC cF cO xa v_461) rfl rfl (fun i h => absurd h List.not_mem_nil) (fun r_7 v_8 H locs hwp hP hD hS => ?_)
        have hP : va_P D vwCl (gW cI cC cF cO xa v_8) H := hP
        have hD : va_D A (gW cI cC cF cO xa v_8) := hD
        refine lv_iconst (v := 3) hx hb dL_acts_509 (by decide) ?_
        refine gBacki (D := D) (tys := gT cI cC cF cO) (A := A) (wr := []) (w1 := gW cI cC cF cO xa) (va_runV (As := [.int r_7, .int (3 : Int32)]) (rest := [.int k0_461]) ⟨hx, hb, hml, hown, hts⟩ (d_X8_thread l D cI cC cF cO xa v_8 _ (r_7) ((3 : Int32)) _ hwp) (cwV 2 hts gL_acts_X8_thread rfl rfl rfl (by decide +kernel) ⟨Nat.le_of_ble_eq_true rfl, Nat.le_of_ble_eq_true rfl⟩) (gPreV (C := RX8) (T := TX8) (N := 9) (ci := 8) hK hX hT hP hD hS hA gI (gI_at cI cC cF cO xa v_8) gI_nd rfl (qb := 0) rfl) rfl rfl hl.1 rfl (lv_room (Nat.le_of_ble_eq_true rfl)) dL_acts_510 ⟨Nat.le_of_ble_eq_true rfl, Nat.le_of_ble_eq_true rfl⟩) hP hD hS hA gI [] (gI_at cI cC cF cO xa v_8) rfl rfl (fun i h => absurd h List.not_mem_nil) (fun r_9 v_10 H locs hwp hP hD hS => ?_)
        have hP : va_P D vwCl (gW cI cC cF cO xa v_10) H := hP
        have hD : va_D A (gW cI cC cF cO xa v_10) := hD
        refine lv_goto (tgt := 518) hx hb dL_acts_513 (by decide) ?_
        have hl : lv_has ls 18 [(0, .ref (xa 0)), (2, .int x2_461), (13, .int x13_461), (14, .int x14_461)] := lv_sub hl [1, 2, 3, 4] rfl
        exact hj518 x2_461 x13_461 x14_461 r_9 k0_461 v_10 _ _ hwp hP hD hS ls hl
    · have hwp := hwp.1 hc
      refine lv_aload_n hx hb dL_acts_470 rfl (lv_at hl 1 rfl) ?_
      refine lv_iload_n hx hb dL_acts_471 rfl (lv_at hl 2 rfl) ?_
      refine lv_iconst (v := 3) hx hb dL_acts_472 (by decide) ?_
      refine lv_iconst (v := 1) hx hb dL_acts_473 (by decide) ?_
      refine lv_aload_n hx hb dL_acts_474 rfl (lv_at hl 1 rfl) ?_
      refine lv_iload_n hx hb dL_acts_475 rfl (lv_at hl 2 rfl) ?_
      refine lv_iconst (v := 4) hx hb dL_acts_476 (by decide) ?_
      refine gBacki (D := D) (tys := gT cI cC cF cO) (A := A) (wr := []) (w1 := gW cI cC cF cO xa) (va_runV (As := [.int x2_461, .int (4 : Int32)]) (rest := [.int (1 : Int32), .int (3 : Int32), .int x2_461, .ref (xa 0)]) ⟨hx, hb, hml, hown, hts⟩ (d_X8_card l D cI cC cF cO xa v_461 _ (x2_461) ((4 : Int32)) _ hwp) (cwV 2 hts gL_acts_X8_card rfl rfl rfl (by decide +kernel) ⟨Nat.le_of_ble_eq_true rfl, Nat.le_of_ble_eq_true rfl⟩) (gPreV (C := RX8) (T := TX8) (N := 9) (ci := 8) hK hX hT hP hD hS hA gI (gI_at cI cC cF cO xa v_461) gI_nd rfl (qb := 0) rfl) rfl rfl hl.1 rfl (lv_room (Nat.le_of_ble_eq_true rfl)) dL_acts_477 ⟨Nat.le_of_ble_eq_true rfl, Nat.le_of_ble_eq_true rfl⟩) hP hD hS hA gI [] (gI_at cI cC cF cO xa v_461) rfl rfl (fun i h => absurd h List.not_mem_nil) (fun r_11 v_12 H locs hwp hP hD hS => ?_)
      have hP : va_P D vwCl (gW cI cC cF cO xa v_12) H := hP
      have hD : va_D A (gW cI cC cF cO xa v_12) := hD
      refine lv_isub hx hb dL_acts_480 ?_
      refine gBacki (D := D) (tys := gT cI cC cF cO) (A := A) (wr := []) (w1 := gW cI cC cF cO xa) (va_runV (As := [.int x2_461, .int (3 : Int32), .int ((1 : Int32) - r_11)]) (rest := []) ⟨hx, hb, hml, hown, hts⟩ (d_X8_change l D cI cC cF cO xa v_12 _ (x2_461) ((3 : Int32)) (((1 : Int32) - r_11)) _ hwp) (cwV 3 hts gL_acts_X8_change rfl rfl rfl (by decide +kernel) ⟨Nat.le_of_ble_eq_true rfl, Nat.le_of_ble_eq_true rfl⟩) (gPreV (C := RX8) (T := TX8) (N := 9) (ci := 8) hK hX hT hP hD hS hA gI (gI_at cI cC cF cO xa v_12) gI_nd rfl (qb := 0) rfl) rfl rfl hl.1 rfl (lv_room (Nat.le_of_ble_eq_true rfl)) dL_acts_481 ⟨Nat.le_of_ble_eq_true rfl, Nat.le_of_ble_eq_true rfl⟩) hP hD hS hA gI [] (gI_at cI cC cF cO xa v_12) rfl rfl (fun i h => absurd h List.not_mem_nil) (fun r_13 v_14 H locs hwp hP hD hS => ?_)
      have hP : va_P D vwCl (gW cI cC cF cO xa v_14) H := hP
      have hD : va_D A (gW cI cC cF cO xa v_14) := hD
      refine lv_if_lt (tgt := 491) hx hb dL_acts_484 (by decide) (fun hc => ?_) (fun hc => ?_)
      · have hwp := hwp.1 hc
        refine lv_iconst (v := 0) hx hb dL_acts_491 (by decide) ?_
        refine lv_goto (tgt := 558) hx hb dL_acts_492 (by decide) ?_
        exact hret v_14 gI dL_acts_558 (Or.inl rfl) hwp (gI_at cI cC cF cO xa v_14) gI_nd hP hD hS
      · have hwp := hwp.2 hc
        refine lv_iconst (v := 1) hx hb dL_acts_487 (by decide) ?_
        refine lv_goto (tgt := 558) hx hb dL_acts_488 (by decide) ?_
        exact hret v_14 gI dL_acts_558 (Or.inr rfl) hwp (gI_at cI cC cF cO xa v_14) gI_nd hP hD hS
  have hj433 : ∀ (x2_433 : Int32) (k0_433 : Int32) (v_433 : VT) (H : Heap) (locs : List Loc), wv_L_acts_j433 x1 x2_433 k0_433 v_433  post → va_P D vwCl (gW cI cC cF cO xa v_433) H → va_D A (gW cI cC cF cO xa v_433) → va_S A s.heap H locs → ∀ ls : Array Slot, lv_has ls 18 [(0, .ref (xa 0)), (1, .int x1), (2, .int x2_433)] → W p l e rm_L_acts s m args below meth c H locs 0 0 Q (F0 m 433 ls [.int k0_433]) := by
    intro x2_433 k0_433 v_433 H locs hwp hP hD hS ls hl
    unfold wv_L_acts_j433 at hwp
    refine lv_istore (lv' := [(13, .int k0_433), (0, .ref (xa 0)), (1, .int x1), (2, .int x2_433)]) hx hb dL_acts_433 hl (by decide) rfl (fun ls hl => ?_)
    refine lv_aload_n hx hb dL_acts_435 rfl (lv_at hl 1 rfl) ?_
    refine lv_iconst (v := 1) hx hb dL_acts_436 (by decide) ?_
    refine gBacki (D := D) (tys := gT cI cC cF cO) (A := A) (wr := []) (w1 := gW cI cC cF cO xa) (va_runV (As := [.int (1 : Int32)]) (rest := []) ⟨hx, hb, hml, hown, hts⟩ (d_X8_count l D cI cC cF cO xa v_433 _ ((1 : Int32)) _ hwp) (cwV 1 hts gL_acts_X8_count rfl rfl rfl (by decide +kernel) ⟨Nat.le_of_ble_eq_true rfl, Nat.le_of_ble_eq_true rfl⟩) (gPreV (C := RX8) (T := TX8) (N := 9) (ci := 8) hK hX hT hP hD hS hA gI (gI_at cI cC cF cO xa v_433) gI_nd rfl (qb := 0) rfl) rfl rfl hl.1 rfl (lv_room (Nat.le_of_ble_eq_true rfl)) dL_acts_437 ⟨Nat.le_of_ble_eq_true rfl, Nat.le_of_ble_eq_true rfl⟩) hP hD hS hA gI [] (gI_at cI cC cF cO xa v_433) rfl rfl (fun i h => absurd h List.not_mem_nil) (fun r_15 v_16 H locs hwp hP hD hS => ?_)
    have hP : va_P D vwCl (gW cI cC cF cO xa v_16) H := hP
    have hD : va_D A (gW cI cC cF cO xa v_16) := hD
    refine lv_istore (lv' := [(14, .int r_15), (13, .int k0_433), (0, .ref (xa 0)), (1, .int x1), (2, .int x2_433)]) hx hb dL_acts_440 hl (by decide) rfl (fun ls hl => ?_)
    refine lv_iload_n hx hb dL_acts_442 rfl (lv_at hl 3 rfl) ?_
    refine lv_bipush (v := 13) hx hb dL_acts_443 (by decide) ?_
    refine lv_ishr hx hb dL_acts_445 ?_
    refine lv_iconst (v := 2) hx hb dL_acts_446 (by decide) ?_
    refine lv_irem hx hb dL_acts_447 (by decide) ?_
    refine lv_if_ne (tgt := 459) hx hb dL_acts_448 (by decide) (fun hc => ?_) (fun hc => ?_)
    · have hwp := hwp.2 hc
      refine lv_bipush (v := -9) hx hb dL_acts_459 (by decide) ?_
      have hl : lv_has ls 18 [(0, .ref (xa 0)), (2, .int x2_433), (13, .int k0_433), (14, .int r_15)] := lv_sub hl [2, 4, 1, 0] rfl
      exact hj461 x2_433 k0_433 r_15 (-9 : Int32) v_16 _ _ hwp hP hD hS ls hl
    · have hwp := hwp.1 hc
      refine lv_aload_n hx hb dL_acts_451 rfl (lv_at hl 2 rfl) ?_
      refine lv_iload_n hx hb dL_acts_452 rfl (lv_at hl 4 rfl) ?_
      refine gBacki (D := D) (tys := gT cI cC cF cO) (A := A) (wr := []) (w1 := gW cI cC cF cO xa) (va_runV (As := [.int x2_433]) (rest := []) ⟨hx, hb, hml, hown, hts⟩ (d_X8_unpin l D cI cC cF cO xa v_16 _ (x2_433) _ hwp) (cwV 1 hts gL_acts_X8_unpin rfl rfl rfl (by decide +kernel) ⟨Nat.le_of_ble_eq_true rfl, Nat.le_of_ble_eq_true rfl⟩) (gPreV (C := RX8) (T := TX8) (N := 9) (ci := 8) hK hX hT hP hD hS hA gI (gI_at cI cC cF cO xa v_16) gI_nd rfl (qb := 0) rfl) rfl rfl hl.1 rfl (lv_room (Nat.le_of_ble_eq_true rfl)) dL_acts_453 ⟨Nat.le_of_ble_eq_true rfl, Nat.le_of_ble_eq_true rfl⟩) hP hD hS hA gI [] (gI_at cI cC cF cO xa v_16) rfl rfl (fun i h => absurd h List.not_mem_nil) (fun r_17 v_18 H locs hwp hP hD hS => ?_)
      have hP : va_P D vwCl (gW cI cC cF cO xa v_18) H := hP
      have hD : va_D A (gW cI cC cF cO xa v_18) := hD
      refine lv_goto (tgt := 461) hx hb dL_acts_456 (by decide) ?_
      have hl : lv_has ls 18 [(0, .ref (xa 0)), (2, .int x2_433), (13, .int k0_433), (14, .int r_15)] := lv_sub hl [2, 4, 1, 0] rfl
      exact hj461 x2_433 k0_433 r_15 r_17 v_18 _ _ hwp hP hD hS ls hl
  have hj409 : ∀ (k0_409 : Int32) (k1_409 : Int32) (k2_409 : Int32) (v_409 : VT) (H : Heap) (locs : List Loc), wv_L_acts_j409 k0_409 k1_409 k2_409 v_409  post → va_P D vwCl (gW cI cC cF cO xa v_409) H → va_D A (gW cI cC cF cO xa v_409) → va_S A s.heap H locs → ∀ ls : Array Slot, lv_has ls 18 [] → W p l e rm_L_acts s m args below meth c H locs 0 0 Q (F0 m 409 ls [.int k0_409, .int k1_409, .int k2_409]) := by
    intro k0_409 k1_409 k2_409 v_409 H locs hwp hP hD hS ls hl
    unfold wv_L_acts_j409 at hwp
    refine lv_iadd hx hb dL_acts_409 ?_
    refine lv_icmp_gt (tgt := 417) hx hb dL_acts_410 (by decide) (fun hc => ?_) (fun hc => ?_)
    · have hwp := hwp.1 hc
      refine lv_iconst (v := 0) hx hb dL_acts_417 (by decide) ?_
      exact hret v_409 gI dL_acts_418 (Or.inl rfl) hwp (gI_at cI cC cF cO xa v_409) gI_nd hP hD hS
    · have hwp := hwp.2 hc
      refine lv_iconst (v := 1) hx hb dL_acts_413 (by decide) ?_
      refine lv_goto (tgt := 418) hx hb dL_acts_414 (by decide) ?_
      exact hret v_409 gI dL_acts_418 (Or.inr rfl) hwp (gI_at cI cC cF cO xa v_409) gI_nd hP hD hS
  have hj389 : ∀ (x3_389 : Int32) (k0_389 : Int32) (k1_389 : Int32) (k2_389 : Int32) (k4_389 : Int32) (v_389 : VT) (H : Heap) (locs : List Loc), wv_L_acts_j389 x3_389 k0_389 k1_389 k2_389 k4_389 v_389  post → va_P D vwCl (gW cI cC cF cO xa v_389) H → va_D A (gW cI cC cF cO xa v_389) → va_S A s.heap H locs → ∀ ls : Array Slot, lv_has ls 18 [(0, .ref (xa 0)), (3, .int x3_389)] → W p l e rm_L_acts s m args below meth c H locs 0 0 Q (F0 m 389 ls [.int k0_389, .int k1_389, .int k2_389, .ref (xa 0), .int k4_389]) := by
    intro x3_389 k0_389 k1_389 k2_389 k4_389 v_389 H locs hwp hP hD hS ls hl
    unfold wv_L_acts_j389 at hwp
    refine gBacki (D := D) (tys := gT cI cC cF cO) (A := A) (wr := []) (w1 := gW cI cC cF cO xa) (va_runV (As := [.int k2_389, .int k1_389, .int k0_389]) (rest := [.int k4_389]) ⟨hx, hb, hml, hown, hts⟩ (d_X8_would l D cI cC cF cO xa v_389 _ (k2_389) (k1_389) (k0_389) _ hwp) (cwV 3 hts gL_acts_X8_would rfl rfl rfl (by decide +kernel) ⟨Nat.le_of_ble_eq_true rfl, Nat.le_of_ble_eq_true rfl⟩) (gPreV (C := RX8) (T := TX8) (N := 9) (ci := 8) hK hX hT hP hD hS hA gI (gI_at cI cC cF cO xa v_389) gI_nd rfl (qb := 0) rfl) rfl rfl hl.1 rfl (lv_room (Nat.le_of_ble_eq_true rfl)) dL_acts_389 ⟨Nat.le_of_ble_eq_true rfl, Nat.le_of_ble_eq_true rfl⟩) hP hD hS hA gI [] (gI_at cI cC cF cO xa v_389) rfl rfl (fun i h => absurd h List.not_mem_nil) (fun r_19 v_20 H locs hwp hP hD hS => ?_)
    have hP : va_P D vwCl (gW cI cC cF cO xa v_20) H := hP
    have hD : va_D A (gW cI cC cF cO xa v_20) := hD
    refine lv_aload_n hx hb dL_acts_392 rfl (lv_at hl 0 rfl) ?_
    refine lv_iload_n hx hb dL_acts_393 rfl (lv_at hl 1 rfl) ?_
    refine lv_iconst (v := 0) hx hb dL_acts_394 (by decide) ?_
    refine gBacki (D := D) (tys := gT cI cC cF cO) (A := A) (wr := []) (w1 := gW cI cC cF cO xa) (va_runV (As := [.int x3_389, .int (0 : Int32)]) (rest := [.int r_19, .int k4_389]) ⟨hx, hb, hml, hown, hts⟩ (d_X8_scene l D cI cC cF cO xa v_20 _ (x3_389) ((0 : Int32)) _ hwp) (cwV 2 hts gL_acts_X8_scene rfl rfl rfl (by decide +kernel) ⟨Nat.le_of_ble_eq_true rfl, Nat.le_of_ble_eq_true rfl⟩) (gPreV (C := RX8) (T := TX8) (N := 9) (ci := 8) hK hX hT hP hD hS hA gI (gI_at cI cC cF cO xa v_20) gI_nd rfl (qb := 0) rfl) rfl rfl hl.1 rfl (lv_room (Nat.le_of_ble_eq_true rfl)) dL_acts_395 ⟨Nat.le_of_ble_eq_true rfl, Nat.le_of_ble_eq_true rfl⟩) hP hD hS hA gI [] (gI_at cI cC cF cO xa v_20) rfl rfl (fun i h => absurd h List.not_mem_nil) (fun r_21 v_22 H locs hwp hP hD hS => ?_)
    have hP : va_P D vwCl (gW cI cC cF cO xa v_22) H := hP
    have hD : va_D A (gW cI cC cF cO xa v_22) := hD
    refine lv_bipush (v := 6) hx hb dL_acts_398 (by decide) ?_
    refine lv_icmp_ne (tgt := 408) hx hb dL_acts_400 (by decide) (fun hc => ?_) (fun hc => ?_)
    · have hwp := hwp.2 hc
      refine lv_iconst (v := 0) hx hb dL_acts_408 (by decide) ?_
      have hl : lv_has ls 18 [] := lv_sub hl [] rfl
      exact hj409 (0 : Int32) r_19 k4_389 v_22 _ _ hwp hP hD hS ls hl
    · have hwp := hwp.1 hc
      refine lv_bipush (v := 100) hx hb dL_acts_403 (by decide) ?_
      refine lv_goto (tgt := 409) hx hb dL_acts_405 (by decide) ?_
      have hl : lv_has ls 18 [] := lv_sub hl [] rfl
      exact hj409 (100 : Int32) r_19 k4_389 v_22 _ _ hwp hP hD hS ls hl
  have hj340 : ∀ (x2_340 : Int32) (x3_340 : Int32) (x12_340 : Int32) (k0_340 : Int32) (k1_340 : Int32) (k2_340 : Int32) (v_340 : VT) (H : Heap) (locs : List Loc), wv_L_acts_j340 x2_340 x3_340 x12_340 k0_340 k1_340 k2_340 v_340  post → va_P D vwCl (gW cI cC cF cO xa v_340) H → va_D A (gW cI cC cF cO xa v_340) → va_S A s.heap H locs → ∀ ls : Array Slot, lv_has ls 18 [(0, .ref (xa 0)), (2, .int x2_340), (3, .int x3_340), (12, .int x12_340)] → W p l e rm_L_acts s m args below meth c H locs 0 0 Q (F0 m 340 ls [.int k0_340, .int k1_340, .int k2_340]) := by
    intro x2_340 x3_340 x12_340 k0_340 k1_340 k2_340 v_340 H locs hwp hP hD hS ls hl
    unfold wv_L_acts_j340 at hwp
    refine lv_iadd hx hb dL_acts_340 ?_
    refine lv_icmp_gt (tgt := 417) hx hb dL_acts_341 (by decide) (fun hc => ?_) (fun hc => ?_)
    · have hwp := hwp.1 hc
      refine lv_iconst (v := 0) hx hb dL_acts_417 (by decide) ?_
      exact hret v_340 gI dL_acts_418 (Or.inl rfl) hwp (gI_at cI cC cF cO xa v_340) gI_nd hP hD hS
    · have hwp := hwp.2 hc
      refine lv_iload hx hb dL_acts_344 (lv_at hl 3 rfl) ?_
      refine lv_aload_n hx hb dL_acts_346 rfl (lv_at hl 0 rfl) ?_
      refine lv_iload_n hx hb dL_acts_347 rfl (lv_at hl 1 rfl) ?_
      refine lv_iload_n hx hb dL_acts_348 rfl (lv_at hl 2 rfl) ?_
      refine lv_aload_n hx hb dL_acts_349 rfl (lv_at hl 0 rfl) ?_
      refine lv_iload_n hx hb dL_acts_350 rfl (lv_at hl 2 rfl) ?_
      refine lv_iconst (v := 0) hx hb dL_acts_351 (by decide) ?_
      refine gBacki (D := D) (tys := gT cI cC cF cO) (A := A) (wr := []) (w1 := gW cI cC cF cO xa) (va_runV (As := [.int x3_340, .int (0 : Int32)]) (rest := [.int x3_340, .int x2_340, .ref (xa 0), .int x12_340]) ⟨hx, hb, hml, hown, hts⟩ (d_X8_scene l D cI cC cF cO xa v_340 _ (x3_340) ((0 : Int32)) _ hwp) (cwV 2 hts gL_acts_X8_scene rfl rfl rfl (by decide +kernel) ⟨Nat.le_of_ble_eq_true rfl, Nat.le_of_ble_eq_true rfl⟩) (gPreV (C := RX8) (T := TX8) (N := 9) (ci := 8) hK hX hT hP hD hS hA gI (gI_at cI cC cF cO xa v_340) gI_nd rfl (qb := 0) rfl) rfl rfl hl.1 rfl (lv_room (Nat.le_of_ble_eq_true rfl)) dL_acts_352 ⟨Nat.le_of_ble_eq_true rfl, Nat.le_of_ble_eq_true rfl⟩) hP hD hS hA gI [] (gI_at cI cC cF cO xa v_340) rfl rfl (fun i h => absurd h List.not_mem_nil) (fun r_23 v_24 H locs hwp hP hD hS => ?_)
      have hP : va_P D vwCl (gW cI cC cF cO xa v_24) H := hP
      have hD : va_D A (gW cI cC cF cO xa v_24) := hD
      refine lv_if_ne (tgt := 362) hx hb dL_acts_355 (by decide) (fun hc => ?_) (fun hc => ?_)
      · have hwp := hwp.2 hc
        refine lv_aload_n hx hb dL_acts_362 rfl (lv_at hl 0 rfl) ?_
        refine lv_iload_n hx hb dL_acts_363 rfl (lv_at hl 1 rfl) ?_
        refine lv_iconst (v := 5) hx hb dL_acts_364 (by decide) ?_
        refine gBacki (D := D) (tys := gT cI cC cF cO) (A := A) (wr := []) (w1 := gW cI cC cF cO xa) (va_runV (As := [.int x2_340, .int (5 : Int32)]) (rest := [.int x3_340, .int x2_340, .ref (xa 0), .int x12_340]) ⟨hx, hb, hml, hown, hts⟩ (d_X8_card l D cI cC cF cO xa v_24 _ (x2_340) ((5 : Int32)) _ hwp) (cwV 2 hts gL_acts_X8_card rfl rfl rfl (by decide +kernel) ⟨Nat.le_of_ble_eq_true rfl, Nat.le_of_ble_eq_true rfl⟩) (gPreV (C := RX8) (T := TX8) (N := 9) (ci := 8) hK hX hT hP hD hS hA gI (gI_at cI cC cF cO xa v_24) gI_nd rfl (qb := 0) rfl) rfl rfl hl.1 rfl (lv_room (Nat.le_of_ble_eq_true rfl)) dL_acts_365 ⟨Nat.le_of_ble_eq_true rfl, Nat.le_of_ble_eq_true rfl⟩) hP hD hS hA gI [] (gI_at cI cC cF cO xa v_24) rfl rfl (fun i h => absurd h List.not_mem_nil) (fun r_25 v_26 H locs hwp hP hD hS => ?_)
        have hP : va_P D vwCl (gW cI cC cF cO xa v_26) H := hP
        have hD : va_D A (gW cI cC cF cO xa v_26) := hD
        refine lv_iload_n hx hb dL_acts_368 rfl (lv_at hl 2 rfl) ?_
        refine lv_icmp_ne (tgt := 383) hx hb dL_acts_369 (by decide) (fun hc => ?_) (fun hc => ?_)
        · have hwp := hwp.2 hc
          refine lv_aload_n hx hb dL_acts_383 rfl (lv_at hl 0 rfl) ?_
          refine lv_iload_n hx hb dL_acts_384 rfl (lv_at hl 2 rfl) ?_
          refine lv_iconst (v := 0) hx hb dL_acts_385 (by decide) ?_
          refine gBacki (D := D) (tys := gT cI cC cF cO) (A := A) (wr := []) (w1 := gW cI cC cF cO xa) (va_runV (As := [.int x3_340, .int (0 : Int32)]) (rest := [.int x3_340, .int x2_340, .ref (xa 0), .int x12_340]) ⟨hx, hb, hml, hown, hts⟩ (d_X8_scene l D cI cC cF cO xa v_26 _ (x3_340) ((0 : Int32)) _ hwp) (cwV 2 hts gL_acts_X8_scene rfl rfl rfl (by decide +kernel) ⟨Nat.le_of_ble_eq_true rfl, Nat.le_of_ble_eq_true rfl⟩) (gPreV (C := RX8) (T := TX8) (N := 9) (ci := 8) hK hX hT hP hD hS hA gI (gI_at cI cC cF cO xa v_26) gI_nd rfl (qb := 0) rfl) rfl rfl hl.1 rfl (lv_room (Nat.le_of_ble_eq_true rfl)) dL_acts_386 ⟨Nat.le_of_ble_eq_true rfl, Nat.le_of_ble_eq_true rfl⟩) hP hD hS hA gI [] (gI_at cI cC cF cO xa v_26) rfl rfl (fun i h => absurd h List.not_mem_nil) (fun r_27 v_28 H locs hwp hP hD hS => ?_)
          have hP : va_P D vwCl (gW cI cC cF cO xa v_28) H := hP
          have hD : va_D A (gW cI cC cF cO xa v_28) := hD
          have hl : lv_has ls 18 [(0, .ref (xa 0)), (3, .int x3_340)] := lv_sub hl [0, 2] rfl
          exact hj389 x3_340 r_27 x3_340 x2_340 x12_340 v_28 _ _ hwp hP hD hS ls hl
        · have hwp := hwp.1 hc
          refine lv_aload_n hx hb dL_acts_372 rfl (lv_at hl 0 rfl) ?_
          refine lv_iload_n hx hb dL_acts_373 rfl (lv_at hl 2 rfl) ?_
          refine lv_iconst (v := 0) hx hb dL_acts_374 (by decide) ?_
          refine gBacki (D := D) (tys := gT cI cC cF cO) (A := A) (wr := []) (w1 := gW cI cC cF cO xa) (va_runV (As := [.int x3_340, .int (0 : Int32)]) (rest := [.int x3_340, .int x2_340, .ref (xa 0), .int x12_340]) ⟨hx, hb, hml, hown, hts⟩ (d_X8_scene l D cI cC cF cO xa v_26 _ (x3_340) ((0 : Int32)) _ hwp) (cwV 2 hts gL_acts_X8_scene rfl rfl rfl (by decide +kernel) ⟨Nat.le_of_ble_eq_true rfl, Nat.le_of_ble_eq_true rfl⟩) (gPreV (C := RX8) (T := TX8) (N := 9) (ci := 8) hK hX hT hP hD hS hA gI (gI_at cI cC cF cO xa v_26) gI_nd rfl (qb := 0) rfl) rfl rfl hl.1 rfl (lv_room (Nat.le_of_ble_eq_true rfl)) dL_acts_375 ⟨Nat.le_of_ble_eq_true rfl, Nat.le_of_ble_eq_true rfl⟩) hP hD hS hA gI [] (gI_at cI cC cF cO xa v_26) rfl rfl (fun i h => absurd h List.not_mem_nil) (fun r_29 v_30 H locs hwp hP hD hS => ?_)
          have hP : va_P D vwCl (gW cI cC cF cO xa v_30) H := hP
          have hD : va_D A (gW cI cC cF cO xa v_30) := hD
          refine lv_iconst (v := 1) hx hb dL_acts_378 (by decide) ?_
          refine lv_isub hx hb dL_acts_379 ?_
          refine lv_goto (tgt := 389) hx hb dL_acts_380 (by decide) ?_
          have hl : lv_has ls 18 [(0, .ref (xa 0)), (3, .int x3_340)] := lv_sub hl [0, 2] rfl
          exact hj389 x3_340 (r_29 - (1 : Int32)) x3_340 x2_340 x12_340 v_30 _ _ hwp hP hD hS ls hl
      · have hwp := hwp.1 hc
        refine lv_iconst (v := 0) hx hb dL_acts_358 (by decide) ?_
        refine lv_goto (tgt := 389) hx hb dL_acts_359 (by decide) ?_
        have hl : lv_has ls 18 [(0, .ref (xa 0)), (3, .int x3_340)] := lv_sub hl [0, 2] rfl
        exact hj389 x3_340 (0 : Int32) x3_340 x2_340 x12_340 v_24 _ _ hwp hP hD hS ls hl
  have hj204 : ∀ (x2_204 : Int32) (x7_204 : Int32) (k0_204 : Int32) (v_204 : VT) (H : Heap) (locs : List Loc), wv_L_acts_j204 x2_204 x7_204 k0_204 v_204  post → va_P D vwCl (gW cI cC cF cO xa v_204) H → va_D A (gW cI cC cF cO xa v_204) → va_S A s.heap H locs → ∀ ls : Array Slot, lv_has ls 18 [(0, .ref (xa 0)), (2, .int x2_204), (7, .int x7_204)] → W p l e rm_L_acts s m args below meth c H locs 0 0 Q (F0 m 204 ls [.int k0_204]) := by
    intro x2_204 x7_204 k0_204 v_204 H locs hwp hP hD hS ls hl
    unfold wv_L_acts_j204 at hwp
    refine lv_istore (lv' := [(8, .int k0_204), (0, .ref (xa 0)), (2, .int x2_204), (7, .int x7_204)]) hx hb dL_acts_204 hl (by decide) rfl (fun ls hl => ?_)
    refine lv_aload_n hx hb dL_acts_206 rfl (lv_at hl 1 rfl) ?_
    refine lv_iload_n hx hb dL_acts_207 rfl (lv_at hl 2 rfl) ?_
    refine lv_bipush (v := 8) hx hb dL_acts_208 (by decide) ?_
    refine gBacki (D := D) (tys := gT cI cC cF cO) (A := A) (wr := []) (w1 := gW cI cC cF cO xa) (va_runV (As := [.int x2_204, .int (8 : Int32)]) (rest := []) ⟨hx, hb, hml, hown, hts⟩ (d_X8_card l D cI cC cF cO xa v_204 _ (x2_204) ((8 : Int32)) _ hwp) (cwV 2 hts gL_acts_X8_card rfl rfl rfl (by decide +kernel) ⟨Nat.le_of_ble_eq_true rfl, Nat.le_of_ble_eq_true rfl⟩) (gPreV (C := RX8) (T := TX8) (N := 9) (ci := 8) hK hX hT hP hD hS hA gI (gI_at cI cC cF cO xa v_204) gI_nd rfl (qb := 0) rfl) rfl rfl hl.1 rfl (lv_room (Nat.le_of_ble_eq_true rfl)) dL_acts_210 ⟨Nat.le_of_ble_eq_true rfl, Nat.le_of_ble_eq_true rfl⟩) hP hD hS hA gI [] (gI_at cI cC cF cO xa v_204) rfl rfl (fun i h => absurd h List.not_mem_nil) (fun r_31 v_32 H locs hwp hP hD hS => ?_)
    have hP : va_P D vwCl (gW cI cC cF cO xa v_32) H := hP
    have hD : va_D A (gW cI cC cF cO xa v_32) := hD
    refine lv_istore (lv' := [(9, .int r_31), (8, .int k0_204), (0, .ref (xa 0)), (2, .int x2_204), (7, .int x7_204)]) hx hb dL_acts_213 hl (by decide) rfl (fun ls hl => ?_)
    refine lv_aload_n hx hb dL_acts_215 rfl (lv_at hl 2 rfl) ?_
    refine lv_iload_n hx hb dL_acts_216 rfl (lv_at hl 3 rfl) ?_
    refine lv_iload hx hb dL_acts_217 (lv_at hl 4 rfl) ?_
    refine gBacki (D := D) (tys := gT cI cC cF cO) (A := A) (wr := []) (w1 := gW cI cC cF cO xa) (va_runV (As := [.int x2_204, .int x7_204]) (rest := []) ⟨hx, hb, hml, hown, hts⟩ (d_X8_swap l D cI cC cF cO xa v_32 _ (x2_204) (x7_204) _ hwp) (cwV 2 hts gL_acts_X8_swap rfl rfl rfl (by decide +kernel) ⟨Nat.le_of_ble_eq_true rfl, Nat.le_of_ble_eq_true rfl⟩) (gPreV (C := RX8) (T := TX8) (N := 9) (ci := 8) hK hX hT hP hD hS hA gI (gI_at cI cC cF cO xa v_32) gI_nd rfl (qb := 0) rfl) rfl rfl hl.1 rfl (lv_room (Nat.le_of_ble_eq_true rfl)) dL_acts_219 ⟨Nat.le_of_ble_eq_true rfl, Nat.le_of_ble_eq_true rfl⟩) hP hD hS hA gI [] (gI_at cI cC cF cO xa v_32) rfl rfl (fun i h => absurd h List.not_mem_nil) (fun r_33 v_34 H locs hwp hP hD hS => ?_)
    have hP : va_P D vwCl (gW cI cC cF cO xa v_34) H := hP
    have hD : va_D A (gW cI cC cF cO xa v_34) := hD
    refine lv_istore (lv' := [(10, .int r_33), (9, .int r_31), (8, .int k0_204), (0, .ref (xa 0)), (2, .int x2_204), (7, .int x7_204)]) hx hb dL_acts_222 hl (by decide) rfl (fun ls hl => ?_)
    refine lv_iload_n hx hb dL_acts_224 rfl (lv_at hl 4 rfl) ?_
    refine lv_iload hx hb dL_acts_225 (lv_at hl 5 rfl) ?_
    refine lv_icmp_ne (tgt := 245) hx hb dL_acts_227 (by decide) (fun hc => ?_) (fun hc => ?_)
    · have hwp := hwp.2 hc
      refine lv_iload hx hb dL_acts_245 (lv_at hl 2 rfl) ?_
      refine lv_if_ne (tgt := 265) hx hb dL_acts_247 (by decide) (fun hc => ?_) (fun hc => ?_)
      · have hwp := hwp.2 hc
        refine lv_iload hx hb dL_acts_265 (lv_at hl 0 rfl) ?_
        refine lv_aload_n hx hb dL_acts_267 rfl (lv_at hl 3 rfl) ?_
        refine lv_iconst (v := 3) hx hb dL_acts_268 (by decide) ?_
        refine gBacki (D := D) (tys := gT cI cC cF cO) (A := A) (wr := []) (w1 := gW cI cC cF cO xa) (va_runV (As := [.int (3 : Int32)]) (rest := [.int r_33]) ⟨hx, hb, hml, hown, hts⟩ (d_X8_count l D cI cC cF cO xa v_34 _ ((3 : Int32)) _ hwp) (cwV 1 hts gL_acts_X8_count rfl rfl rfl (by decide +kernel) ⟨Nat.le_of_ble_eq_true rfl, Nat.le_of_ble_eq_true rfl⟩) (gPreV (C := RX8) (T := TX8) (N := 9) (ci := 8) hK hX hT hP hD hS hA gI (gI_at cI cC cF cO xa v_34) gI_nd rfl (qb := 0) rfl) rfl rfl hl.1 rfl (lv_room (Nat.le_of_ble_eq_true rfl)) dL_acts_269 ⟨Nat.le_of_ble_eq_true rfl, Nat.le_of_ble_eq_true rfl⟩) hP hD hS hA gI [] (gI_at cI cC cF cO xa v_34) rfl rfl (fun i h => absurd h List.not_mem_nil) (fun r_35 v_36 H locs hwp hP hD hS => ?_)
        have hP : va_P D vwCl (gW cI cC cF cO xa v_36) H := hP
        have hD : va_D A (gW cI cC cF cO xa v_36) := hD
        refine lv_icmp_ne (tgt := 292) hx hb dL_acts_272 (by decide) (fun hc => ?_) (fun hc => ?_)
        · have hwp := hwp.2 hc
          refine lv_iconst (v := 0) hx hb dL_acts_292 (by decide) ?_
          exact hret v_36 gI dL_acts_293 (Or.inl rfl) hwp (gI_at cI cC cF cO xa v_36) gI_nd hP hD hS
        · have hwp := hwp.1 hc
          refine lv_aload_n hx hb dL_acts_275 rfl (lv_at hl 3 rfl) ?_
          refine lv_iload hx hb dL_acts_276 (lv_at hl 5 rfl) ?_
          refine lv_bipush (v := 8) hx hb dL_acts_278 (by decide) ?_
          refine gBacki (D := D) (tys := gT cI cC cF cO) (A := A) (wr := []) (w1 := gW cI cC cF cO xa) (va_runV (As := [.int x7_204, .int (8 : Int32)]) (rest := []) ⟨hx, hb, hml, hown, hts⟩ (d_X8_card l D cI cC cF cO xa v_36 _ (x7_204) ((8 : Int32)) _ hwp) (cwV 2 hts gL_acts_X8_card rfl rfl rfl (by decide +kernel) ⟨Nat.le_of_ble_eq_true rfl, Nat.le_of_ble_eq_true rfl⟩) (gPreV (C := RX8) (T := TX8) (N := 9) (ci := 8) hK hX hT hP hD hS hA gI (gI_at cI cC cF cO xa v_36) gI_nd rfl (qb := 0) rfl) rfl rfl hl.1 rfl (lv_room (Nat.le_of_ble_eq_true rfl)) dL_acts_280 ⟨Nat.le_of_ble_eq_true rfl, Nat.le_of_ble_eq_true rfl⟩) hP hD hS hA gI [] (gI_at cI cC cF cO xa v_36) rfl rfl (fun i h => absurd h List.not_mem_nil) (fun r_37 v_38 H locs hwp hP hD hS => ?_)
          have hP : va_P D vwCl (gW cI cC cF cO xa v_38) H := hP
          have hD : va_D A (gW cI cC cF cO xa v_38) := hD
          refine lv_iload hx hb dL_acts_283 (lv_at hl 1 rfl) ?_
          refine lv_icmp_ne (tgt := 292) hx hb dL_acts_285 (by decide) (fun hc => ?_) (fun hc => ?_)
          · have hwp := hwp.2 hc
            refine lv_iconst (v := 0) hx hb dL_acts_292 (by decide) ?_
            exact hret v_38 gI dL_acts_293 (Or.inl rfl) hwp (gI_at cI cC cF cO xa v_38) gI_nd hP hD hS
          · have hwp := hwp.1 hc
            refine lv_iconst (v := 1) hx hb dL_acts_288 (by decide) ?_
            refine lv_goto (tgt := 293) hx hb dL_acts_289 (by decide) ?_
            exact hret v_38 gI dL_acts_293 (Or.inr rfl) hwp (gI_at cI cC cF cO xa v_38) gI_nd hP hD hS
      · have hwp := hwp.1 hc
        refine lv_iload hx hb dL_acts_250 (lv_at hl 0 rfl) ?_
        refine lv_bipush (v := -4) hx hb dL_acts_252 (by decide) ?_
        refine lv_icmp_ne (tgt := 261) hx hb dL_acts_254 (by decide) (fun hc => ?_) (fun hc => ?_)
        · have hwp := hwp.2 hc
          refine lv_iconst (v := 0) hx hb dL_acts_261 (by decide) ?_
          refine lv_goto (tgt := 293) hx hb dL_acts_262 (by decide) ?_
          exact hret v_34 gI dL_acts_293 (Or.inl rfl) hwp (gI_at cI cC cF cO xa v_34) gI_nd hP hD hS
        · have hwp := hwp.1 hc
          refine lv_iconst (v := 1) hx hb dL_acts_257 (by decide) ?_
          refine lv_goto (tgt := 293) hx hb dL_acts_258 (by decide) ?_
          exact hret v_34 gI dL_acts_293 (Or.inr rfl) hwp (gI_at cI cC cF cO xa v_34) gI_nd hP hD hS
    · have hwp := hwp.1 hc
      refine lv_iload hx hb dL_acts_230 (lv_at hl 0 rfl) ?_
      refine lv_bipush (v := -2) hx hb dL_acts_232 (by decide) ?_
      refine lv_icmp_ne (tgt := 241) hx hb dL_acts_234 (by decide) (fun hc => ?_) (fun hc => ?_)
      · have hwp := hwp.2 hc
        refine lv_iconst (v := 0) hx hb dL_acts_241 (by decide) ?_
        refine lv_goto (tgt := 293) hx hb dL_acts_242 (by decide) ?_
        exact hret v_34 gI dL_acts_293 (Or.inl rfl) hwp (gI_at cI cC cF cO xa v_34) gI_nd hP hD hS
      · have hwp := hwp.1 hc
        refine lv_iconst (v := 1) hx hb dL_acts_237 (by decide) ?_
        refine lv_goto (tgt := 293) hx hb dL_acts_238 (by decide) ?_
        exact hret v_34 gI dL_acts_293 (Or.inr rfl) hwp (gI_at cI cC cF cO xa v_34) gI_nd hP hD hS
  have hj203 : ∀ (x2_203 : Int32) (x7_203 : Int32) (v_203 : VT) (H : Heap) (locs : List Loc), wv_L_acts_j203 x2_203 x7_203 v_203  post → va_P D vwCl (gW cI cC cF cO xa v_203) H → va_D A (gW cI cC cF cO xa v_203) → va_S A s.heap H locs → ∀ ls : Array Slot, lv_has ls 18 [(0, .ref (xa 0)), (2, .int x2_203), (7, .int x7_203)] → W p l e rm_L_acts s m args below meth c H locs 0 0 Q (F0 m 203 ls []) := by
    intro x2_203 x7_203 v_203 H locs hwp hP hD hS ls hl
    unfold wv_L_acts_j203 at hwp
    refine lv_iconst (v := 0) hx hb dL_acts_203 (by decide) ?_
    have hl : lv_has ls 18 [(0, .ref (xa 0)), (2, .int x2_203), (7, .int x7_203)] := lv_sub hl [0, 1, 2] rfl
    exact hj204 x2_203 x7_203 (0 : Int32) v_203 _ _ hwp hP hD hS ls hl
  have hj151 : ∀ (x4_151 : Int32) (v_151 : VT) (H : Heap) (locs : List Loc), wv_L_acts_j151 x4_151 v_151  post → va_P D vwCl (gW cI cC cF cO xa v_151) H → va_D A (gW cI cC cF cO xa v_151) → va_S A s.heap H locs → ∀ ls : Array Slot, lv_has ls 18 [(0, .ref (xa 0)), (4, .int x4_151)] → W p l e rm_L_acts s m args below meth c H locs 0 0 Q (F0 m 151 ls []) := by
    intro x4_151 v_151 H locs hwp hP hD hS ls hl
    unfold wv_L_acts_j151 at hwp
    refine lv_aload_n hx hb dL_acts_151 rfl (lv_at hl 0 rfl) ?_
    refine lv_iload hx hb dL_acts_152 (lv_at hl 1 rfl) ?_
    refine gBacki (D := D) (tys := gT cI cC cF cO) (A := A) (wr := []) (w1 := gW cI cC cF cO xa) (va_runV (As := [.int x4_151]) (rest := []) ⟨hx, hb, hml, hown, hts⟩ (d_X8_straighten l D cI cC cF cO xa v_151 _ (x4_151) _ hwp) (cwV 1 hts gL_acts_X8_straighten rfl rfl rfl (by decide +kernel) ⟨Nat.le_of_ble_eq_true rfl, Nat.le_of_ble_eq_true rfl⟩) (gPreV (C := RX8) (T := TX8) (N := 9) (ci := 8) hK hX hT hP hD hS hA gI (gI_at cI cC cF cO xa v_151) gI_nd rfl (qb := 0) rfl) rfl rfl hl.1 rfl (lv_room (Nat.le_of_ble_eq_true rfl)) dL_acts_154 ⟨Nat.le_of_ble_eq_true rfl, Nat.le_of_ble_eq_true rfl⟩) hP hD hS hA gI [] (gI_at cI cC cF cO xa v_151) rfl rfl (fun i h => absurd h List.not_mem_nil) (fun r_39 v_40 H locs hwp hP hD hS => ?_)
    have hP : va_P D vwCl (gW cI cC cF cO xa v_40) H := hP
    have hD : va_D A (gW cI cC cF cO xa v_40) := hD
    refine lv_bipush (v := -5) hx hb dL_acts_157 (by decide) ?_
    refine lv_icmp_ne (tgt := 166) hx hb dL_acts_159 (by decide) (fun hc => ?_) (fun hc => ?_)
    · have hwp := hwp.2 hc
      refine lv_iconst (v := 0) hx hb dL_acts_166 (by decide) ?_
      exact hret v_40 gI dL_acts_167 (Or.inl rfl) hwp (gI_at cI cC cF cO xa v_40) gI_nd hP hD hS
    · have hwp := hwp.1 hc
      refine lv_iconst (v := 1) hx hb dL_acts_162 (by decide) ?_
      refine lv_goto (tgt := 167) hx hb dL_acts_163 (by decide) ?_
      exact hret v_40 gI dL_acts_167 (Or.inr rfl) hwp (gI_at cI cC cF cO xa v_40) gI_nd hP hD hS
  refine lv_iload_n hx hb dL_acts_0 rfl (lv_at hl 1 rfl) ?_
  refine lv_iconst (v := 4) hx hb dL_acts_1 (by decide) ?_
  refine lv_ishr hx hb dL_acts_2 ?_
  refine lv_aload_n hx hb dL_acts_3 rfl (lv_at hl 0 rfl) ?_
  refine lv_iconst (v := 0) hx hb dL_acts_4 (by decide) ?_
  refine gBacki (D := D) (tys := gT cI cC cF cO) (A := A) (wr := []) (w1 := gW cI cC cF cO xa) (va_runV (As := [.int (0 : Int32)]) (rest := [.int (x1 >>> ((4 : Int32) &&& 31))]) ⟨hx, hb, hml, hown, hts⟩ (d_X8_count l D cI cC cF cO xa v _ ((0 : Int32)) _ hwp) (cwV 1 hts gL_acts_X8_count rfl rfl rfl (by decide +kernel) ⟨Nat.le_of_ble_eq_true rfl, Nat.le_of_ble_eq_true rfl⟩) (gPreV (C := RX8) (T := TX8) (N := 9) (ci := 8) hK hX hT hP hD hS hA gI (gI_at cI cC cF cO xa v) gI_nd rfl (qb := 0) rfl) rfl rfl hl.1 rfl (lv_room (Nat.le_of_ble_eq_true rfl)) dL_acts_5 ⟨Nat.le_of_ble_eq_true rfl, Nat.le_of_ble_eq_true rfl⟩) hP hD hS hA gI [] (gI_at cI cC cF cO xa v) rfl rfl (fun i h => absurd h List.not_mem_nil) (fun r_41 v_42 H locs hwp hP hD hS => ?_)
  have hP : va_P D vwCl (gW cI cC cF cO xa v_42) H := hP
  have hD : va_D A (gW cI cC cF cO xa v_42) := hD
  have hn_43 := hwp.1
  have hwp := hwp.2
  refine lv_irem hx hb dL_acts_8 hn_43 ?_
  refine lv_istore_n (lv' := [(2, .int ((x1 >>> ((4 : Int32) &&& 31)) - (x1 >>> ((4 : Int32) &&& 31)) / r_41 * r_41)), (0, .ref (xa 0)), (1, .int x1)]) hx hb dL_acts_9 rfl hl (by decide) rfl (fun ls hl => ?_)
  refine lv_iload_n hx hb dL_acts_10 rfl (lv_at hl 2 rfl) ?_
  refine lv_bipush (v := 9) hx hb dL_acts_11 (by decide) ?_
  refine lv_ishr hx hb dL_acts_13 ?_
  refine lv_bipush (v := 16) hx hb dL_acts_14 (by decide) ?_
  refine lv_irem hx hb dL_acts_16 (by decide) ?_
  refine lv_istore_n (lv' := [(3, .int ((x1 >>> ((9 : Int32) &&& 31)) - (x1 >>> ((9 : Int32) &&& 31)) / (16 : Int32) * (16 : Int32))), (2, .int ((x1 >>> ((4 : Int32) &&& 31)) - (x1 >>> ((4 : Int32) &&& 31)) / r_41 * r_41)), (0, .ref (xa 0)), (1, .int x1)]) hx hb dL_acts_17 rfl hl (by decide) rfl (fun ls hl => ?_)
  refine lv_iload_n hx hb dL_acts_18 rfl (lv_at hl 3 rfl) ?_
  refine lv_bipush (v := 8) hx hb dL_acts_19 (by decide) ?_
  refine lv_irem hx hb dL_acts_21 (by decide) ?_
  generalize hsw : ((x1 - x1 / (8 : Int32) * (8 : Int32)) : Int32) = sw at hwp ⊢
  by_cases hc0 : sw = (0 : Int32)
  · have hwp := hwp.1 hc0
    refine lv_tableIn (off := 42) (tgt := 64) hx hb dL_acts_22 (by rw [hc0]; decide) (by rw [hc0]; decide) (by rw [hc0]; decide) (by decide) ?_
    refine lv_aload_n hx hb dL_acts_64 rfl (lv_at hl 2 rfl) ?_
    refine lv_iload_n hx hb dL_acts_65 rfl (lv_at hl 1 rfl) ?_
    refine lv_iload_n hx hb dL_acts_66 rfl (lv_at hl 0 rfl) ?_
    refine lv_iload_n hx hb dL_acts_67 rfl (lv_at hl 3 rfl) ?_
    refine lv_bipush (v := 13) hx hb dL_acts_68 (by decide) ?_
    refine lv_ishr hx hb dL_acts_70 ?_
    refine lv_bipush (v := 7) hx hb dL_acts_71 (by decide) ?_
    refine lv_irem hx hb dL_acts_73 (by decide) ?_
    refine gBacki (D := D) (tys := gT cI cC cF cO) (A := A) (wr := []) (w1 := gW cI cC cF cO xa) (va_runS (As := [.ref (xa 0), .int ((x1 >>> ((4 : Int32) &&& 31)) - (x1 >>> ((4 : Int32) &&& 31)) / r_41 * r_41), .int ((x1 >>> ((9 : Int32) &&& 31)) - (x1 >>> ((9 : Int32) &&& 31)) / (16 : Int32) * (16 : Int32)), .int ((x1 >>> ((13 : Int32) &&& 31)) - (x1 >>> ((13 : Int32) &&& 31)) / (7 : Int32) * (7 : Int32))]) (rest := []) ⟨hx, hb, hml, hown, hts⟩ (c_L_pins l D cI cC cF cO xa v_42 _ (((x1 >>> ((4 : Int32) &&& 31)) - (x1 >>> ((4 : Int32) &&& 31)) / r_41 * r_41)) (((x1 >>> ((9 : Int32) &&& 31)) - (x1 >>> ((9 : Int32) &&& 31)) / (16 : Int32) * (16 : Int32))) (((x1 >>> ((13 : Int32) &&& 31)) - (x1 >>> ((13 : Int32) &&& 31)) / (7 : Int32) * (7 : Int32))) _ hwp) (va_cwS 4 hts gL_acts_L_pins rfl rfl rfl (by decide +kernel) ⟨Nat.le_of_ble_eq_true rfl, Nat.le_of_ble_eq_true rfl⟩) (gPreS hK hX hT hP hD hS hA gI (gI_at cI cC cF cO xa v_42) gI_nd) rfl rfl hl.1 rfl (lv_room (Nat.le_of_ble_eq_true rfl)) dL_acts_74 ⟨Nat.le_of_ble_eq_true rfl, Nat.le_of_ble_eq_true rfl⟩) hP hD hS hA gI [] (gI_at cI cC cF cO xa v_42) rfl rfl (fun i h => absurd h List.not_mem_nil) (fun r_44 v_45 H locs hwp hP hD hS => ?_)
    have hP : va_P D vwCl (gW cI cC cF cO xa v_45) H := hP
    have hD : va_D A (gW cI cC cF cO xa v_45) := hD
    have hn_46 := hwp.1
    have hwp := hwp.2
    exact hret v_45 gI dL_acts_77 hn_46 hwp (gI_at cI cC cF cO xa v_45) gI_nd hP hD hS
  have hwp := hwp.2
  by_cases hc1 : sw = (1 : Int32)
  · have hwp := hwp.1 hc1
    refine lv_tableIn (off := 42) (tgt := 64) hx hb dL_acts_22 (by rw [hc1]; decide) (by rw [hc1]; decide) (by rw [hc1]; decide) (by decide) ?_
    refine lv_aload_n hx hb dL_acts_64 rfl (lv_at hl 2 rfl) ?_
    refine lv_iload_n hx hb dL_acts_65 rfl (lv_at hl 1 rfl) ?_
    refine lv_iload_n hx hb dL_acts_66 rfl (lv_at hl 0 rfl) ?_
    refine lv_iload_n hx hb dL_acts_67 rfl (lv_at hl 3 rfl) ?_
    refine lv_bipush (v := 13) hx hb dL_acts_68 (by decide) ?_
    refine lv_ishr hx hb dL_acts_70 ?_
    refine lv_bipush (v := 7) hx hb dL_acts_71 (by decide) ?_
    refine lv_irem hx hb dL_acts_73 (by decide) ?_
    refine gBacki (D := D) (tys := gT cI cC cF cO) (A := A) (wr := []) (w1 := gW cI cC cF cO xa) (va_runS (As := [.ref (xa 0), .int ((x1 >>> ((4 : Int32) &&& 31)) - (x1 >>> ((4 : Int32) &&& 31)) / r_41 * r_41), .int ((x1 >>> ((9 : Int32) &&& 31)) - (x1 >>> ((9 : Int32) &&& 31)) / (16 : Int32) * (16 : Int32)), .int ((x1 >>> ((13 : Int32) &&& 31)) - (x1 >>> ((13 : Int32) &&& 31)) / (7 : Int32) * (7 : Int32))]) (rest := []) ⟨hx, hb, hml, hown, hts⟩ (c_L_pins l D cI cC cF cO xa v_42 _ (((x1 >>> ((4 : Int32) &&& 31)) - (x1 >>> ((4 : Int32) &&& 31)) / r_41 * r_41)) (((x1 >>> ((9 : Int32) &&& 31)) - (x1 >>> ((9 : Int32) &&& 31)) / (16 : Int32) * (16 : Int32))) (((x1 >>> ((13 : Int32) &&& 31)) - (x1 >>> ((13 : Int32) &&& 31)) / (7 : Int32) * (7 : Int32))) _ hwp) (va_cwS 4 hts gL_acts_L_pins rfl rfl rfl (by decide +kernel) ⟨Nat.le_of_ble_eq_true rfl, Nat.le_of_ble_eq_true rfl⟩) (gPreS hK hX hT hP hD hS hA gI (gI_at cI cC cF cO xa v_42) gI_nd) rfl rfl hl.1 rfl (lv_room (Nat.le_of_ble_eq_true rfl)) dL_acts_74 ⟨Nat.le_of_ble_eq_true rfl, Nat.le_of_ble_eq_true rfl⟩) hP hD hS hA gI [] (gI_at cI cC cF cO xa v_42) rfl rfl (fun i h => absurd h List.not_mem_nil) (fun r_47 v_48 H locs hwp hP hD hS => ?_)
    have hP : va_P D vwCl (gW cI cC cF cO xa v_48) H := hP
    have hD : va_D A (gW cI cC cF cO xa v_48) := hD
    have hn_49 := hwp.1
    have hwp := hwp.2
    exact hret v_48 gI dL_acts_77 hn_49 hwp (gI_at cI cC cF cO xa v_48) gI_nd hP hD hS
  have hwp := hwp.2
  by_cases hc2 : sw = (2 : Int32)
  · have hwp := hwp.1 hc2
    refine lv_tableIn (off := 42) (tgt := 64) hx hb dL_acts_22 (by rw [hc2]; decide) (by rw [hc2]; decide) (by rw [hc2]; decide) (by decide) ?_
    refine lv_aload_n hx hb dL_acts_64 rfl (lv_at hl 2 rfl) ?_
    refine lv_iload_n hx hb dL_acts_65 rfl (lv_at hl 1 rfl) ?_
    refine lv_iload_n hx hb dL_acts_66 rfl (lv_at hl 0 rfl) ?_
    refine lv_iload_n hx hb dL_acts_67 rfl (lv_at hl 3 rfl) ?_
    refine lv_bipush (v := 13) hx hb dL_acts_68 (by decide) ?_
    refine lv_ishr hx hb dL_acts_70 ?_
    refine lv_bipush (v := 7) hx hb dL_acts_71 (by decide) ?_
    refine lv_irem hx hb dL_acts_73 (by decide) ?_
    refine gBacki (D := D) (tys := gT cI cC cF cO) (A := A) (wr := []) (w1 := gW cI cC cF cO xa) (va_runS (As := [.ref (xa 0), .int ((x1 >>> ((4 : Int32) &&& 31)) - (x1 >>> ((4 : Int32) &&& 31)) / r_41 * r_41), .int ((x1 >>> ((9 : Int32) &&& 31)) - (x1 >>> ((9 : Int32) &&& 31)) / (16 : Int32) * (16 : Int32)), .int ((x1 >>> ((13 : Int32) &&& 31)) - (x1 >>> ((13 : Int32) &&& 31)) / (7 : Int32) * (7 : Int32))]) (rest := []) ⟨hx, hb, hml, hown, hts⟩ (c_L_pins l D cI cC cF cO xa v_42 _ (((x1 >>> ((4 : Int32) &&& 31)) - (x1 >>> ((4 : Int32) &&& 31)) / r_41 * r_41)) (((x1 >>> ((9 : Int32) &&& 31)) - (x1 >>> ((9 : Int32) &&& 31)) / (16 : Int32) * (16 : Int32))) (((x1 >>> ((13 : Int32) &&& 31)) - (x1 >>> ((13 : Int32) &&& 31)) / (7 : Int32) * (7 : Int32))) _ hwp) (va_cwS 4 hts gL_acts_L_pins rfl rfl rfl (by decide +kernel) ⟨Nat.le_of_ble_eq_true rfl, Nat.le_of_ble_eq_true rfl⟩) (gPreS hK hX hT hP hD hS hA gI (gI_at cI cC cF cO xa v_42) gI_nd) rfl rfl hl.1 rfl (lv_room (Nat.le_of_ble_eq_true rfl)) dL_acts_74 ⟨Nat.le_of_ble_eq_true rfl, Nat.le_of_ble_eq_true rfl⟩) hP hD hS hA gI [] (gI_at cI cC cF cO xa v_42) rfl rfl (fun i h => absurd h List.not_mem_nil) (fun r_50 v_51 H locs hwp hP hD hS => ?_)
    have hP : va_P D vwCl (gW cI cC cF cO xa v_51) H := hP
    have hD : va_D A (gW cI cC cF cO xa v_51) := hD
    have hn_52 := hwp.1
    have hwp := hwp.2
    exact hret v_51 gI dL_acts_77 hn_52 hwp (gI_at cI cC cF cO xa v_51) gI_nd hP hD hS
  have hwp := hwp.2
  by_cases hc3 : sw = (3 : Int32)
  · have hwp := hwp.1 hc3
    refine lv_tableIn (off := 56) (tgt := 78) hx hb dL_acts_22 (by rw [hc3]; decide) (by rw [hc3]; decide) (by rw [hc3]; decide) (by decide) ?_
    refine lv_iload_n hx hb dL_acts_78 rfl (lv_at hl 3 rfl) ?_
    refine lv_iconst (v := 4) hx hb dL_acts_79 (by decide) ?_
    refine lv_ishr hx hb dL_acts_80 ?_
    refine lv_bipush (v := 6) hx hb dL_acts_81 (by decide) ?_
    refine lv_irem hx hb dL_acts_83 (by decide) ?_
    refine lv_istore (lv' := [(4, .int ((x1 >>> ((4 : Int32) &&& 31)) - (x1 >>> ((4 : Int32) &&& 31)) / (6 : Int32) * (6 : Int32))), (3, .int ((x1 >>> ((9 : Int32) &&& 31)) - (x1 >>> ((9 : Int32) &&& 31)) / (16 : Int32) * (16 : Int32))), (2, .int ((x1 >>> ((4 : Int32) &&& 31)) - (x1 >>> ((4 : Int32) &&& 31)) / r_41 * r_41)), (0, .ref (xa 0)), (1, .int x1)]) hx hb dL_acts_84 hl (by decide) rfl (fun ls hl => ?_)
    refine lv_aload_n hx hb dL_acts_86 rfl (lv_at hl 3 rfl) ?_
    refine lv_iload hx hb dL_acts_87 (lv_at hl 0 rfl) ?_
    refine lv_iconst (v := 4) hx hb dL_acts_89 (by decide) ?_
    refine gBacki (D := D) (tys := gT cI cC cF cO) (A := A) (wr := []) (w1 := gW cI cC cF cO xa) (va_runV (As := [.int ((x1 >>> ((4 : Int32) &&& 31)) - (x1 >>> ((4 : Int32) &&& 31)) / (6 : Int32) * (6 : Int32)), .int (4 : Int32)]) (rest := []) ⟨hx, hb, hml, hown, hts⟩ (d_X8_thread l D cI cC cF cO xa v_42 _ (((x1 >>> ((4 : Int32) &&& 31)) - (x1 >>> ((4 : Int32) &&& 31)) / (6 : Int32) * (6 : Int32))) ((4 : Int32)) _ hwp) (cwV 2 hts gL_acts_X8_thread rfl rfl rfl (by decide +kernel) ⟨Nat.le_of_ble_eq_true rfl, Nat.le_of_ble_eq_true rfl⟩) (gPreV (C := RX8) (T := TX8) (N := 9) (ci := 8) hK hX hT hP hD hS hA gI (gI_at cI cC cF cO xa v_42) gI_nd rfl (qb := 0) rfl) rfl rfl hl.1 rfl (lv_room (Nat.le_of_ble_eq_true rfl)) dL_acts_90 ⟨Nat.le_of_ble_eq_true rfl, Nat.le_of_ble_eq_true rfl⟩) hP hD hS hA gI [] (gI_at cI cC cF cO xa v_42) rfl rfl (fun i h => absurd h List.not_mem_nil) (fun r_53 v_54 H locs hwp hP hD hS => ?_)
    have hP : va_P D vwCl (gW cI cC cF cO xa v_54) H := hP
    have hD : va_D A (gW cI cC cF cO xa v_54) := hD
    refine lv_istore (lv' := [(5, .int r_53), (4, .int ((x1 >>> ((4 : Int32) &&& 31)) - (x1 >>> ((4 : Int32) &&& 31)) / (6 : Int32) * (6 : Int32))), (3, .int ((x1 >>> ((9 : Int32) &&& 31)) - (x1 >>> ((9 : Int32) &&& 31)) / (16 : Int32) * (16 : Int32))), (2, .int ((x1 >>> ((4 : Int32) &&& 31)) - (x1 >>> ((4 : Int32) &&& 31)) / r_41 * r_41)), (0, .ref (xa 0)), (1, .int x1)]) hx hb dL_acts_93 hl (by decide) rfl (fun ls hl => ?_)
    refine lv_aload_n hx hb dL_acts_95 rfl (lv_at hl 4 rfl) ?_
    refine lv_iload hx hb dL_acts_96 (lv_at hl 1 rfl) ?_
    refine gBacki (D := D) (tys := gT cI cC cF cO) (A := A) (wr := []) (w1 := gW cI cC cF cO xa) (va_runV (As := [.int ((x1 >>> ((4 : Int32) &&& 31)) - (x1 >>> ((4 : Int32) &&& 31)) / (6 : Int32) * (6 : Int32))]) (rest := []) ⟨hx, hb, hml, hown, hts⟩ (d_X8_straighten l D cI cC cF cO xa v_54 _ (((x1 >>> ((4 : Int32) &&& 31)) - (x1 >>> ((4 : Int32) &&& 31)) / (6 : Int32) * (6 : Int32))) _ hwp) (cwV 1 hts gL_acts_X8_straighten rfl rfl rfl (by decide +kernel) ⟨Nat.le_of_ble_eq_true rfl, Nat.le_of_ble_eq_true rfl⟩) (gPreV (C := RX8) (T := TX8) (N := 9) (ci := 8) hK hX hT hP hD hS hA gI (gI_at cI cC cF cO xa v_54) gI_nd rfl (qb := 0) rfl) rfl rfl hl.1 rfl (lv_room (Nat.le_of_ble_eq_true rfl)) dL_acts_98 ⟨Nat.le_of_ble_eq_true rfl, Nat.le_of_ble_eq_true rfl⟩) hP hD hS hA gI [] (gI_at cI cC cF cO xa v_54) rfl rfl (fun i h => absurd h List.not_mem_nil) (fun r_55 v_56 H locs hwp hP hD hS => ?_)
    have hP : va_P D vwCl (gW cI cC cF cO xa v_56) H := hP
    have hD : va_D A (gW cI cC cF cO xa v_56) := hD
    refine lv_istore (lv' := [(6, .int r_55), (5, .int r_53), (4, .int ((x1 >>> ((4 : Int32) &&& 31)) - (x1 >>> ((4 : Int32) &&& 31)) / (6 : Int32) * (6 : Int32))), (3, .int ((x1 >>> ((9 : Int32) &&& 31)) - (x1 >>> ((9 : Int32) &&& 31)) / (16 : Int32) * (16 : Int32))), (2, .int ((x1 >>> ((4 : Int32) &&& 31)) - (x1 >>> ((4 : Int32) &&& 31)) / r_41 * r_41)), (0, .ref (xa 0)), (1, .int x1)]) hx hb dL_acts_101 hl (by decide) rfl (fun ls hl => ?_)
    refine lv_aload_n hx hb dL_acts_103 rfl (lv_at hl 5 rfl) ?_
    refine lv_iload hx hb dL_acts_104 (lv_at hl 2 rfl) ?_
    refine lv_iconst (v := 3) hx hb dL_acts_106 (by decide) ?_
    refine gBacki (D := D) (tys := gT cI cC cF cO) (A := A) (wr := []) (w1 := gW cI cC cF cO xa) (va_runV (As := [.int ((x1 >>> ((4 : Int32) &&& 31)) - (x1 >>> ((4 : Int32) &&& 31)) / (6 : Int32) * (6 : Int32)), .int (3 : Int32)]) (rest := []) ⟨hx, hb, hml, hown, hts⟩ (d_X8_thread l D cI cC cF cO xa v_56 _ (((x1 >>> ((4 : Int32) &&& 31)) - (x1 >>> ((4 : Int32) &&& 31)) / (6 : Int32) * (6 : Int32))) ((3 : Int32)) _ hwp) (cwV 2 hts gL_acts_X8_thread rfl rfl rfl (by decide +kernel) ⟨Nat.le_of_ble_eq_true rfl, Nat.le_of_ble_eq_true rfl⟩) (gPreV (C := RX8) (T := TX8) (N := 9) (ci := 8) hK hX hT hP hD hS hA gI (gI_at cI cC cF cO xa v_56) gI_nd rfl (qb := 0) rfl) rfl rfl hl.1 rfl (lv_room (Nat.le_of_ble_eq_true rfl)) dL_acts_107 ⟨Nat.le_of_ble_eq_true rfl, Nat.le_of_ble_eq_true rfl⟩) hP hD hS hA gI [] (gI_at cI cC cF cO xa v_56) rfl rfl (fun i h => absurd h List.not_mem_nil) (fun r_57 v_58 H locs hwp hP hD hS => ?_)
    have hP : va_P D vwCl (gW cI cC cF cO xa v_58) H := hP
    have hD : va_D A (gW cI cC cF cO xa v_58) := hD
    refine lv_if_ne (tgt := 166) hx hb dL_acts_110 (by decide) (fun hc => ?_) (fun hc => ?_)
    · have hwp := hwp.2 hc
      refine lv_iconst (v := 0) hx hb dL_acts_166 (by decide) ?_
      exact hret v_58 gI dL_acts_167 (Or.inl rfl) hwp (gI_at cI cC cF cO xa v_58) gI_nd hP hD hS
    · have hwp := hwp.1 hc
      refine lv_aload_n hx hb dL_acts_113 rfl (lv_at hl 5 rfl) ?_
      refine lv_iload hx hb dL_acts_114 (lv_at hl 2 rfl) ?_
      refine lv_iconst (v := 4) hx hb dL_acts_116 (by decide) ?_
      refine gBacki (D := D) (tys := gT cI cC cF cO) (A := A) (wr := []) (w1 := gW cI cC cF cO xa) (va_runV (As := [.int ((x1 >>> ((4 : Int32) &&& 31)) - (x1 >>> ((4 : Int32) &&& 31)) / (6 : Int32) * (6 : Int32)), .int (4 : Int32)]) (rest := []) ⟨hx, hb, hml, hown, hts⟩ (d_X8_thread l D cI cC cF cO xa v_58 _ (((x1 >>> ((4 : Int32) &&& 31)) - (x1 >>> ((4 : Int32) &&& 31)) / (6 : Int32) * (6 : Int32))) ((4 : Int32)) _ hwp) (cwV 2 hts gL_acts_X8_thread rfl rfl rfl (by decide +kernel) ⟨Nat.le_of_ble_eq_true rfl, Nat.le_of_ble_eq_true rfl⟩) (gPreV (C := RX8) (T := TX8) (N := 9) (ci := 8) hK hX hT hP hD hS hA gI (gI_at cI cC cF cO xa v_58) gI_nd rfl (qb := 0) rfl) rfl rfl hl.1 rfl (lv_room (Nat.le_of_ble_eq_true rfl)) dL_acts_117 ⟨Nat.le_of_ble_eq_true rfl, Nat.le_of_ble_eq_true rfl⟩) hP hD hS hA gI [] (gI_at cI cC cF cO xa v_58) rfl rfl (fun i h => absurd h List.not_mem_nil) (fun r_59 v_60 H locs hwp hP hD hS => ?_)
      have hP : va_P D vwCl (gW cI cC cF cO xa v_60) H := hP
      have hD : va_D A (gW cI cC cF cO xa v_60) := hD
      refine lv_if_ne (tgt := 166) hx hb dL_acts_120 (by decide) (fun hc => ?_) (fun hc => ?_)
      · have hwp := hwp.2 hc
        refine lv_iconst (v := 0) hx hb dL_acts_166 (by decide) ?_
        exact hret v_60 gI dL_acts_167 (Or.inl rfl) hwp (gI_at cI cC cF cO xa v_60) gI_nd hP hD hS
      · have hwp := hwp.1 hc
        refine lv_iload hx hb dL_acts_123 (lv_at hl 0 rfl) ?_
        refine lv_bipush (v := -5) hx hb dL_acts_125 (by decide) ?_
        refine lv_icmp_ne (tgt := 138) hx hb dL_acts_127 (by decide) (fun hc => ?_) (fun hc => ?_)
        · have hwp := hwp.2 hc
          refine lv_iload hx hb dL_acts_138 (lv_at hl 0 rfl) ?_
          refine lv_iload hx hb dL_acts_140 (lv_at hl 1 rfl) ?_
          refine lv_icmp_lt (tgt := 166) hx hb dL_acts_142 (by decide) (fun hc => ?_) (fun hc => ?_)
          · have hwp := hwp.1 hc
            refine lv_iconst (v := 0) hx hb dL_acts_166 (by decide) ?_
            exact hret v_60 gI dL_acts_167 (Or.inl rfl) hwp (gI_at cI cC cF cO xa v_60) gI_nd hP hD hS
          · have hwp := hwp.2 hc
            refine lv_iload hx hb dL_acts_145 (lv_at hl 0 rfl) ?_
            refine lv_iconst (v := 1) hx hb dL_acts_147 (by decide) ?_
            refine lv_icmp_le (tgt := 166) hx hb dL_acts_148 (by decide) (fun hc => ?_) (fun hc => ?_)
            · have hwp := hwp.1 hc
              refine lv_iconst (v := 0) hx hb dL_acts_166 (by decide) ?_
              exact hret v_60 gI dL_acts_167 (Or.inl rfl) hwp (gI_at cI cC cF cO xa v_60) gI_nd hP hD hS
            · have hwp := hwp.2 hc
              have hl : lv_has ls 18 [(0, .ref (xa 0)), (4, .int ((x1 >>> ((4 : Int32) &&& 31)) - (x1 >>> ((4 : Int32) &&& 31)) / (6 : Int32) * (6 : Int32)))] := lv_sub hl [5, 2] rfl
              exact hj151 ((x1 >>> ((4 : Int32) &&& 31)) - (x1 >>> ((4 : Int32) &&& 31)) / (6 : Int32) * (6 : Int32)) v_60 _ _ hwp hP hD hS ls hl
        · have hwp := hwp.1 hc
          refine lv_iload hx hb dL_acts_130 (lv_at hl 1 rfl) ?_
          refine lv_if_ne (tgt := 166) hx hb dL_acts_132 (by decide) (fun hc => ?_) (fun hc => ?_)
          · have hwp := hwp.2 hc
            refine lv_iconst (v := 0) hx hb dL_acts_166 (by decide) ?_
            exact hret v_60 gI dL_acts_167 (Or.inl rfl) hwp (gI_at cI cC cF cO xa v_60) gI_nd hP hD hS
          · have hwp := hwp.1 hc
            refine lv_goto (tgt := 151) hx hb dL_acts_135 (by decide) ?_
            have hl : lv_has ls 18 [(0, .ref (xa 0)), (4, .int ((x1 >>> ((4 : Int32) &&& 31)) - (x1 >>> ((4 : Int32) &&& 31)) / (6 : Int32) * (6 : Int32)))] := lv_sub hl [5, 2] rfl
            exact hj151 ((x1 >>> ((4 : Int32) &&& 31)) - (x1 >>> ((4 : Int32) &&& 31)) / (6 : Int32) * (6 : Int32)) v_60 _ _ hwp hP hD hS ls hl
  have hwp := hwp.2
  by_cases hc4 : sw = (4 : Int32)
  · have hwp := hwp.1 hc4
    refine lv_tableIn (off := 146) (tgt := 168) hx hb dL_acts_22 (by rw [hc4]; decide) (by rw [hc4]; decide) (by rw [hc4]; decide) (by decide) ?_
    refine lv_iload_n hx hb dL_acts_168 rfl (lv_at hl 3 rfl) ?_
    refine lv_bipush (v := 9) hx hb dL_acts_169 (by decide) ?_
    refine lv_ishr hx hb dL_acts_171 ?_
    refine lv_aload_n hx hb dL_acts_172 rfl (lv_at hl 2 rfl) ?_
    refine lv_iconst (v := 0) hx hb dL_acts_173 (by decide) ?_
    refine gBacki (D := D) (tys := gT cI cC cF cO) (A := A) (wr := []) (w1 := gW cI cC cF cO xa) (va_runV (As := [.int (0 : Int32)]) (rest := [.int (x1 >>> ((9 : Int32) &&& 31))]) ⟨hx, hb, hml, hown, hts⟩ (d_X8_count l D cI cC cF cO xa v_42 _ ((0 : Int32)) _ hwp) (cwV 1 hts gL_acts_X8_count rfl rfl rfl (by decide +kernel) ⟨Nat.le_of_ble_eq_true rfl, Nat.le_of_ble_eq_true rfl⟩) (gPreV (C := RX8) (T := TX8) (N := 9) (ci := 8) hK hX hT hP hD hS hA gI (gI_at cI cC cF cO xa v_42) gI_nd rfl (qb := 0) rfl) rfl rfl hl.1 rfl (lv_room (Nat.le_of_ble_eq_true rfl)) dL_acts_174 ⟨Nat.le_of_ble_eq_true rfl, Nat.le_of_ble_eq_true rfl⟩) hP hD hS hA gI [] (gI_at cI cC cF cO xa v_42) rfl rfl (fun i h => absurd h List.not_mem_nil) (fun r_61 v_62 H locs hwp hP hD hS => ?_)
    have hP : va_P D vwCl (gW cI cC cF cO xa v_62) H := hP
    have hD : va_D A (gW cI cC cF cO xa v_62) := hD
    have hn_63 := hwp.1
    have hwp := hwp.2
    refine lv_irem hx hb dL_acts_177 hn_63 ?_
    refine lv_istore (lv' := [(7, .int ((x1 >>> ((9 : Int32) &&& 31)) - (x1 >>> ((9 : Int32) &&& 31)) / r_61 * r_61)), (3, .int ((x1 >>> ((9 : Int32) &&& 31)) - (x1 >>> ((9 : Int32) &&& 31)) / (16 : Int32) * (16 : Int32))), (2, .int ((x1 >>> ((4 : Int32) &&& 31)) - (x1 >>> ((4 : Int32) &&& 31)) / r_41 * r_41)), (0, .ref (xa 0)), (1, .int x1)]) hx hb dL_acts_178 hl (by decide) rfl (fun ls hl => ?_)
    refine lv_aload_n hx hb dL_acts_180 rfl (lv_at hl 3 rfl) ?_
    refine lv_iload_n hx hb dL_acts_181 rfl (lv_at hl 2 rfl) ?_
    refine lv_iconst (v := 5) hx hb dL_acts_182 (by decide) ?_
    refine gBacki (D := D) (tys := gT cI cC cF cO) (A := A) (wr := []) (w1 := gW cI cC cF cO xa) (va_runV (As := [.int ((x1 >>> ((4 : Int32) &&& 31)) - (x1 >>> ((4 : Int32) &&& 31)) / r_41 * r_41), .int (5 : Int32)]) (rest := []) ⟨hx, hb, hml, hown, hts⟩ (d_X8_card l D cI cC cF cO xa v_62 _ (((x1 >>> ((4 : Int32) &&& 31)) - (x1 >>> ((4 : Int32) &&& 31)) / r_41 * r_41)) ((5 : Int32)) _ hwp) (cwV 2 hts gL_acts_X8_card rfl rfl rfl (by decide +kernel) ⟨Nat.le_of_ble_eq_true rfl, Nat.le_of_ble_eq_true rfl⟩) (gPreV (C := RX8) (T := TX8) (N := 9) (ci := 8) hK hX hT hP hD hS hA gI (gI_at cI cC cF cO xa v_62) gI_nd rfl (qb := 0) rfl) rfl rfl hl.1 rfl (lv_room (Nat.le_of_ble_eq_true rfl)) dL_acts_183 ⟨Nat.le_of_ble_eq_true rfl, Nat.le_of_ble_eq_true rfl⟩) hP hD hS hA gI [] (gI_at cI cC cF cO xa v_62) rfl rfl (fun i h => absurd h List.not_mem_nil) (fun r_64 v_65 H locs hwp hP hD hS => ?_)
    have hP : va_P D vwCl (gW cI cC cF cO xa v_65) H := hP
    have hD : va_D A (gW cI cC cF cO xa v_65) := hD
    refine lv_if_lt (tgt := 203) hx hb dL_acts_186 (by decide) (fun hc => ?_) (fun hc => ?_)
    · have hwp := hwp.1 hc
      have hl : lv_has ls 18 [(0, .ref (xa 0)), (2, .int ((x1 >>> ((4 : Int32) &&& 31)) - (x1 >>> ((4 : Int32) &&& 31)) / r_41 * r_41)), (7, .int ((x1 >>> ((9 : Int32) &&& 31)) - (x1 >>> ((9 : Int32) &&& 31)) / r_61 * r_61))] := lv_sub hl [3, 2, 0] rfl
      exact hj203 ((x1 >>> ((4 : Int32) &&& 31)) - (x1 >>> ((4 : Int32) &&& 31)) / r_41 * r_41) ((x1 >>> ((9 : Int32) &&& 31)) - (x1 >>> ((9 : Int32) &&& 31)) / r_61 * r_61) v_65 _ _ hwp hP hD hS ls hl
    · have hwp := hwp.2 hc
      refine lv_aload_n hx hb dL_acts_189 rfl (lv_at hl 3 rfl) ?_
      refine lv_iload hx hb dL_acts_190 (lv_at hl 0 rfl) ?_
      refine lv_iconst (v := 5) hx hb dL_acts_192 (by decide) ?_
      refine gBacki (D := D) (tys := gT cI cC cF cO) (A := A) (wr := []) (w1 := gW cI cC cF cO xa) (va_runV (As := [.int ((x1 >>> ((9 : Int32) &&& 31)) - (x1 >>> ((9 : Int32) &&& 31)) / r_61 * r_61), .int (5 : Int32)]) (rest := []) ⟨hx, hb, hml, hown, hts⟩ (d_X8_card l D cI cC cF cO xa v_65 _ (((x1 >>> ((9 : Int32) &&& 31)) - (x1 >>> ((9 : Int32) &&& 31)) / r_61 * r_61)) ((5 : Int32)) _ hwp) (cwV 2 hts gL_acts_X8_card rfl rfl rfl (by decide +kernel) ⟨Nat.le_of_ble_eq_true rfl, Nat.le_of_ble_eq_true rfl⟩) (gPreV (C := RX8) (T := TX8) (N := 9) (ci := 8) hK hX hT hP hD hS hA gI (gI_at cI cC cF cO xa v_65) gI_nd rfl (qb := 0) rfl) rfl rfl hl.1 rfl (lv_room (Nat.le_of_ble_eq_true rfl)) dL_acts_193 ⟨Nat.le_of_ble_eq_true rfl, Nat.le_of_ble_eq_true rfl⟩) hP hD hS hA gI [] (gI_at cI cC cF cO xa v_65) rfl rfl (fun i h => absurd h List.not_mem_nil) (fun r_66 v_67 H locs hwp hP hD hS => ?_)
      have hP : va_P D vwCl (gW cI cC cF cO xa v_67) H := hP
      have hD : va_D A (gW cI cC cF cO xa v_67) := hD
      refine lv_if_lt (tgt := 203) hx hb dL_acts_196 (by decide) (fun hc => ?_) (fun hc => ?_)
      · have hwp := hwp.1 hc
        have hl : lv_has ls 18 [(0, .ref (xa 0)), (2, .int ((x1 >>> ((4 : Int32) &&& 31)) - (x1 >>> ((4 : Int32) &&& 31)) / r_41 * r_41)), (7, .int ((x1 >>> ((9 : Int32) &&& 31)) - (x1 >>> ((9 : Int32) &&& 31)) / r_61 * r_61))] := lv_sub hl [3, 2, 0] rfl
        exact hj203 ((x1 >>> ((4 : Int32) &&& 31)) - (x1 >>> ((4 : Int32) &&& 31)) / r_41 * r_41) ((x1 >>> ((9 : Int32) &&& 31)) - (x1 >>> ((9 : Int32) &&& 31)) / r_61 * r_61) v_67 _ _ hwp hP hD hS ls hl
      · have hwp := hwp.2 hc
        refine lv_iconst (v := 1) hx hb dL_acts_199 (by decide) ?_
        refine lv_goto (tgt := 204) hx hb dL_acts_200 (by decide) ?_
        have hl : lv_has ls 18 [(0, .ref (xa 0)), (2, .int ((x1 >>> ((4 : Int32) &&& 31)) - (x1 >>> ((4 : Int32) &&& 31)) / r_41 * r_41)), (7, .int ((x1 >>> ((9 : Int32) &&& 31)) - (x1 >>> ((9 : Int32) &&& 31)) / r_61 * r_61))] := lv_sub hl [3, 2, 0] rfl
        exact hj204 ((x1 >>> ((4 : Int32) &&& 31)) - (x1 >>> ((4 : Int32) &&& 31)) / r_41 * r_41) ((x1 >>> ((9 : Int32) &&& 31)) - (x1 >>> ((9 : Int32) &&& 31)) / r_61 * r_61) (1 : Int32) v_67 _ _ hwp hP hD hS ls hl
  have hwp := hwp.2
  by_cases hc5 : sw = (5 : Int32)
  · have hwp := hwp.1 hc5
    refine lv_tableIn (off := 272) (tgt := 294) hx hb dL_acts_22 (by rw [hc5]; decide) (by rw [hc5]; decide) (by rw [hc5]; decide) (by decide) ?_
    refine lv_aload_n hx hb dL_acts_294 rfl (lv_at hl 2 rfl) ?_
    refine lv_iload_n hx hb dL_acts_295 rfl (lv_at hl 1 rfl) ?_
    refine gBacki (D := D) (tys := gT cI cC cF cO) (A := A) (wr := []) (w1 := gW cI cC cF cO xa) (va_runV (As := [.int ((x1 >>> ((4 : Int32) &&& 31)) - (x1 >>> ((4 : Int32) &&& 31)) / r_41 * r_41)]) (rest := []) ⟨hx, hb, hml, hown, hts⟩ (d_X8_best l D cI cC cF cO xa v_42 _ (((x1 >>> ((4 : Int32) &&& 31)) - (x1 >>> ((4 : Int32) &&& 31)) / r_41 * r_41)) _ hwp) (cwV 1 hts gL_acts_X8_best rfl rfl rfl (by decide +kernel) ⟨Nat.le_of_ble_eq_true rfl, Nat.le_of_ble_eq_true rfl⟩) (gPreV (C := RX8) (T := TX8) (N := 9) (ci := 8) hK hX hT hP hD hS hA gI (gI_at cI cC cF cO xa v_42) gI_nd rfl (qb := 0) rfl) rfl rfl hl.1 rfl (lv_room (Nat.le_of_ble_eq_true rfl)) dL_acts_296 ⟨Nat.le_of_ble_eq_true rfl, Nat.le_of_ble_eq_true rfl⟩) hP hD hS hA gI [] (gI_at cI cC cF cO xa v_42) rfl rfl (fun i h => absurd h List.not_mem_nil) (fun r_68 v_69 H locs hwp hP hD hS => ?_)
    have hP : va_P D vwCl (gW cI cC cF cO xa v_69) H := hP
    have hD : va_D A (gW cI cC cF cO xa v_69) := hD
    refine lv_istore (lv' := [(11, .int r_68), (3, .int ((x1 >>> ((9 : Int32) &&& 31)) - (x1 >>> ((9 : Int32) &&& 31)) / (16 : Int32) * (16 : Int32))), (2, .int ((x1 >>> ((4 : Int32) &&& 31)) - (x1 >>> ((4 : Int32) &&& 31)) / r_41 * r_41)), (0, .ref (xa 0)), (1, .int x1)]) hx hb dL_acts_299 hl (by decide) rfl (fun ls hl => ?_)
    refine lv_aload_n hx hb dL_acts_301 rfl (lv_at hl 3 rfl) ?_
    refine lv_iload_n hx hb dL_acts_302 rfl (lv_at hl 2 rfl) ?_
    refine lv_iload hx hb dL_acts_303 (lv_at hl 0 rfl) ?_
    refine lv_bipush (v := 10) hx hb dL_acts_305 (by decide) ?_
    refine lv_idiv hx hb dL_acts_307 (by decide) ?_
    refine lv_iload hx hb dL_acts_308 (lv_at hl 0 rfl) ?_
    refine lv_bipush (v := 10) hx hb dL_acts_310 (by decide) ?_
    refine lv_irem hx hb dL_acts_312 (by decide) ?_
    refine gBacki (D := D) (tys := gT cI cC cF cO) (A := A) (wr := []) (w1 := gW cI cC cF cO xa) (va_runV (As := [.int ((x1 >>> ((4 : Int32) &&& 31)) - (x1 >>> ((4 : Int32) &&& 31)) / r_41 * r_41), .int (r_68 / (10 : Int32)), .int (r_68 - r_68 / (10 : Int32) * (10 : Int32))]) (rest := []) ⟨hx, hb, hml, hown, hts⟩ (d_X8_would l D cI cC cF cO xa v_69 _ (((x1 >>> ((4 : Int32) &&& 31)) - (x1 >>> ((4 : Int32) &&& 31)) / r_41 * r_41)) ((r_68 / (10 : Int32))) ((r_68 - r_68 / (10 : Int32) * (10 : Int32))) _ hwp) (cwV 3 hts gL_acts_X8_would rfl rfl rfl (by decide +kernel) ⟨Nat.le_of_ble_eq_true rfl, Nat.le_of_ble_eq_true rfl⟩) (gPreV (C := RX8) (T := TX8) (N := 9) (ci := 8) hK hX hT hP hD hS hA gI (gI_at cI cC cF cO xa v_69) gI_nd rfl (qb := 0) rfl) rfl rfl hl.1 rfl (lv_room (Nat.le_of_ble_eq_true rfl)) dL_acts_313 ⟨Nat.le_of_ble_eq_true rfl, Nat.le_of_ble_eq_true rfl⟩) hP hD hS hA gI [] (gI_at cI cC cF cO xa v_69) rfl rfl (fun i h => absurd h List.not_mem_nil) (fun r_70 v_71 H locs hwp hP hD hS => ?_)
    have hP : va_P D vwCl (gW cI cC cF cO xa v_71) H := hP
    have hD : va_D A (gW cI cC cF cO xa v_71) := hD
    refine lv_istore (lv' := [(12, .int r_70), (11, .int r_68), (3, .int ((x1 >>> ((9 : Int32) &&& 31)) - (x1 >>> ((9 : Int32) &&& 31)) / (16 : Int32) * (16 : Int32))), (2, .int ((x1 >>> ((4 : Int32) &&& 31)) - (x1 >>> ((4 : Int32) &&& 31)) / r_41 * r_41)), (0, .ref (xa 0)), (1, .int x1)]) hx hb dL_acts_316 hl (by decide) rfl (fun ls hl => ?_)
    refine lv_iload hx hb dL_acts_318 (lv_at hl 0 rfl) ?_
    refine lv_aload_n hx hb dL_acts_320 rfl (lv_at hl 4 rfl) ?_
    refine lv_iconst (v := 3) hx hb dL_acts_321 (by decide) ?_
    refine gBacki (D := D) (tys := gT cI cC cF cO) (A := A) (wr := []) (w1 := gW cI cC cF cO xa) (va_runV (As := [.int (3 : Int32)]) (rest := [.int r_70]) ⟨hx, hb, hml, hown, hts⟩ (d_X8_count l D cI cC cF cO xa v_71 _ ((3 : Int32)) _ hwp) (cwV 1 hts gL_acts_X8_count rfl rfl rfl (by decide +kernel) ⟨Nat.le_of_ble_eq_true rfl, Nat.le_of_ble_eq_true rfl⟩) (gPreV (C := RX8) (T := TX8) (N := 9) (ci := 8) hK hX hT hP hD hS hA gI (gI_at cI cC cF cO xa v_71) gI_nd rfl (qb := 0) rfl) rfl rfl hl.1 rfl (lv_room (Nat.le_of_ble_eq_true rfl)) dL_acts_322 ⟨Nat.le_of_ble_eq_true rfl, Nat.le_of_ble_eq_true rfl⟩) hP hD hS hA gI [] (gI_at cI cC cF cO xa v_71) rfl rfl (fun i h => absurd h List.not_mem_nil) (fun r_72 v_73 H locs hwp hP hD hS => ?_)
    have hP : va_P D vwCl (gW cI cC cF cO xa v_73) H := hP
    have hD : va_D A (gW cI cC cF cO xa v_73) := hD
    refine lv_aload_n hx hb dL_acts_325 rfl (lv_at hl 4 rfl) ?_
    refine lv_iload_n hx hb dL_acts_326 rfl (lv_at hl 3 rfl) ?_
    refine lv_iconst (v := 5) hx hb dL_acts_327 (by decide) ?_
    refine gBacki (D := D) (tys := gT cI cC cF cO) (A := A) (wr := []) (w1 := gW cI cC cF cO xa) (va_runV (As := [.int ((x1 >>> ((4 : Int32) &&& 31)) - (x1 >>> ((4 : Int32) &&& 31)) / r_41 * r_41), .int (5 : Int32)]) (rest := [.int r_72, .int r_70]) ⟨hx, hb, hml, hown, hts⟩ (d_X8_card l D cI cC cF cO xa v_73 _ (((x1 >>> ((4 : Int32) &&& 31)) - (x1 >>> ((4 : Int32) &&& 31)) / r_41 * r_41)) ((5 : Int32)) _ hwp) (cwV 2 hts gL_acts_X8_card rfl rfl rfl (by decide +kernel) ⟨Nat.le_of_ble_eq_true rfl, Nat.le_of_ble_eq_true rfl⟩) (gPreV (C := RX8) (T := TX8) (N := 9) (ci := 8) hK hX hT hP hD hS hA gI (gI_at cI cC cF cO xa v_73) gI_nd rfl (qb := 0) rfl) rfl rfl hl.1 rfl (lv_room (Nat.le_of_ble_eq_true rfl)) dL_acts_328 ⟨Nat.le_of_ble_eq_true rfl, Nat.le_of_ble_eq_true rfl⟩) hP hD hS hA gI [] (gI_at cI cC cF cO xa v_73) rfl rfl (fun i h => absurd h List.not_mem_nil) (fun r_74 v_75 H locs hwp hP hD hS => ?_)
    have hP : va_P D vwCl (gW cI cC cF cO xa v_75) H := hP
    have hD : va_D A (gW cI cC cF cO xa v_75) := hD
    refine lv_if_ge (tgt := 339) hx hb dL_acts_331 (by decide) (fun hc => ?_) (fun hc => ?_)
    · have hwp := hwp.1 hc
      refine lv_iconst (v := 0) hx hb dL_acts_339 (by decide) ?_
      have hl : lv_has ls 18 [(0, .ref (xa 0)), (2, .int ((x1 >>> ((4 : Int32) &&& 31)) - (x1 >>> ((4 : Int32) &&& 31)) / r_41 * r_41)), (3, .int ((x1 >>> ((9 : Int32) &&& 31)) - (x1 >>> ((9 : Int32) &&& 31)) / (16 : Int32) * (16 : Int32))), (12, .int r_70)] := lv_sub hl [4, 3, 2, 0] rfl
      exact hj340 ((x1 >>> ((4 : Int32) &&& 31)) - (x1 >>> ((4 : Int32) &&& 31)) / r_41 * r_41) ((x1 >>> ((9 : Int32) &&& 31)) - (x1 >>> ((9 : Int32) &&& 31)) / (16 : Int32) * (16 : Int32)) r_70 (0 : Int32) r_72 r_70 v_75 _ _ hwp hP hD hS ls hl
    · have hwp := hwp.2 hc
      refine lv_bipush (v := 40) hx hb dL_acts_334 (by decide) ?_
      refine lv_goto (tgt := 340) hx hb dL_acts_336 (by decide) ?_
      have hl : lv_has ls 18 [(0, .ref (xa 0)), (2, .int ((x1 >>> ((4 : Int32) &&& 31)) - (x1 >>> ((4 : Int32) &&& 31)) / r_41 * r_41)), (3, .int ((x1 >>> ((9 : Int32) &&& 31)) - (x1 >>> ((9 : Int32) &&& 31)) / (16 : Int32) * (16 : Int32))), (12, .int r_70)] := lv_sub hl [4, 3, 2, 0] rfl
      exact hj340 ((x1 >>> ((4 : Int32) &&& 31)) - (x1 >>> ((4 : Int32) &&& 31)) / r_41 * r_41) ((x1 >>> ((9 : Int32) &&& 31)) - (x1 >>> ((9 : Int32) &&& 31)) / (16 : Int32) * (16 : Int32)) r_70 (40 : Int32) r_72 r_70 v_75 _ _ hwp hP hD hS ls hl
  have hwp := hwp.2
  by_cases hc6 : sw = (6 : Int32)
  · have hwp := hwp.1 hc6
    refine lv_tableIn (off := 397) (tgt := 419) hx hb dL_acts_22 (by rw [hc6]; decide) (by rw [hc6]; decide) (by rw [hc6]; decide) (by decide) ?_
    refine lv_aload_n hx hb dL_acts_419 rfl (lv_at hl 2 rfl) ?_
    refine lv_iload_n hx hb dL_acts_420 rfl (lv_at hl 1 rfl) ?_
    refine lv_iconst (v := 5) hx hb dL_acts_421 (by decide) ?_
    refine gBacki (D := D) (tys := gT cI cC cF cO) (A := A) (wr := []) (w1 := gW cI cC cF cO xa) (va_runV (As := [.int ((x1 >>> ((4 : Int32) &&& 31)) - (x1 >>> ((4 : Int32) &&& 31)) / r_41 * r_41), .int (5 : Int32)]) (rest := []) ⟨hx, hb, hml, hown, hts⟩ (d_X8_card l D cI cC cF cO xa v_42 _ (((x1 >>> ((4 : Int32) &&& 31)) - (x1 >>> ((4 : Int32) &&& 31)) / r_41 * r_41)) ((5 : Int32)) _ hwp) (cwV 2 hts gL_acts_X8_card rfl rfl rfl (by decide +kernel) ⟨Nat.le_of_ble_eq_true rfl, Nat.le_of_ble_eq_true rfl⟩) (gPreV (C := RX8) (T := TX8) (N := 9) (ci := 8) hK hX hT hP hD hS hA gI (gI_at cI cC cF cO xa v_42) gI_nd rfl (qb := 0) rfl) rfl rfl hl.1 rfl (lv_room (Nat.le_of_ble_eq_true rfl)) dL_acts_422 ⟨Nat.le_of_ble_eq_true rfl, Nat.le_of_ble_eq_true rfl⟩) hP hD hS hA gI [] (gI_at cI cC cF cO xa v_42) rfl rfl (fun i h => absurd h List.not_mem_nil) (fun r_76 v_77 H locs hwp hP hD hS => ?_)
    have hP : va_P D vwCl (gW cI cC cF cO xa v_77) H := hP
    have hD : va_D A (gW cI cC cF cO xa v_77) := hD
    refine lv_if_lt (tgt := 432) hx hb dL_acts_425 (by decide) (fun hc => ?_) (fun hc => ?_)
    · have hwp := hwp.1 hc
      refine lv_iconst (v := 0) hx hb dL_acts_432 (by decide) ?_
      have hl : lv_has ls 18 [(0, .ref (xa 0)), (1, .int x1), (2, .int ((x1 >>> ((4 : Int32) &&& 31)) - (x1 >>> ((4 : Int32) &&& 31)) / r_41 * r_41))] := lv_sub hl [2, 3, 1] rfl
      exact hj433 ((x1 >>> ((4 : Int32) &&& 31)) - (x1 >>> ((4 : Int32) &&& 31)) / r_41 * r_41) (0 : Int32) v_77 _ _ hwp hP hD hS ls hl
    · have hwp := hwp.2 hc
      refine lv_iconst (v := 1) hx hb dL_acts_428 (by decide) ?_
      refine lv_goto (tgt := 433) hx hb dL_acts_429 (by decide) ?_
      have hl : lv_has ls 18 [(0, .ref (xa 0)), (1, .int x1), (2, .int ((x1 >>> ((4 : Int32) &&& 31)) - (x1 >>> ((4 : Int32) &&& 31)) / r_41 * r_41))] := lv_sub hl [2, 3, 1] rfl
      exact hj433 ((x1 >>> ((4 : Int32) &&& 31)) - (x1 >>> ((4 : Int32) &&& 31)) / r_41 * r_41) (1 : Int32) v_77 _ _ hwp hP hD hS ls hl
  have hwp := hwp.2
  have hwp := hwp hc0 hc1 hc2 hc3 hc4 hc5 hc6
  refine lv_tableOut (tgt := 559) hx hb dL_acts_22 (gSwOut [(0 : Int32), (1 : Int32), (2 : Int32), (3 : Int32), (4 : Int32), (5 : Int32), (6 : Int32)] (by decide) (by decide) (List.forall_mem_cons.mpr ⟨hc0, List.forall_mem_cons.mpr ⟨hc1, List.forall_mem_cons.mpr ⟨hc2, List.forall_mem_cons.mpr ⟨hc3, List.forall_mem_cons.mpr ⟨hc4, List.forall_mem_cons.mpr ⟨hc5, List.forall_mem_cons.mpr ⟨hc6, fun _ h => absurd h List.not_mem_nil⟩⟩⟩⟩⟩⟩⟩)) (by decide) ?_
  refine lv_aload_n hx hb dL_acts_559 rfl (lv_at hl 2 rfl) ?_
  refine lv_iload_n hx hb dL_acts_560 rfl (lv_at hl 1 rfl) ?_
  refine lv_iconst (v := 1) hx hb dL_acts_561 (by decide) ?_
  refine gBacki (D := D) (tys := gT cI cC cF cO) (A := A) (wr := []) (w1 := gW cI cC cF cO xa) (va_runV (As := [.int ((x1 >>> ((4 : Int32) &&& 31)) - (x1 >>> ((4 : Int32) &&& 31)) / r_41 * r_41), .int (1 : Int32)]) (rest := []) ⟨hx, hb, hml, hown, hts⟩ (d_X8_card l D cI cC cF cO xa v_42 _ (((x1 >>> ((4 : Int32) &&& 31)) - (x1 >>> ((4 : Int32) &&& 31)) / r_41 * r_41)) ((1 : Int32)) _ hwp) (cwV 2 hts gL_acts_X8_card rfl rfl rfl (by decide +kernel) ⟨Nat.le_of_ble_eq_true rfl, Nat.le_of_ble_eq_true rfl⟩) (gPreV (C := RX8) (T := TX8) (N := 9) (ci := 8) hK hX hT hP hD hS hA gI (gI_at cI cC cF cO xa v_42) gI_nd rfl (qb := 0) rfl) rfl rfl hl.1 rfl (lv_room (Nat.le_of_ble_eq_true rfl)) dL_acts_562 ⟨Nat.le_of_ble_eq_true rfl, Nat.le_of_ble_eq_true rfl⟩) hP hD hS hA gI [] (gI_at cI cC cF cO xa v_42) rfl rfl (fun i h => absurd h List.not_mem_nil) (fun r_78 v_79 H locs hwp hP hD hS => ?_)
  have hP : va_P D vwCl (gW cI cC cF cO xa v_79) H := hP
  have hD : va_D A (gW cI cC cF cO xa v_79) := hD
  refine lv_istore (lv' := [(16, .int r_78), (3, .int ((x1 >>> ((9 : Int32) &&& 31)) - (x1 >>> ((9 : Int32) &&& 31)) / (16 : Int32) * (16 : Int32))), (2, .int ((x1 >>> ((4 : Int32) &&& 31)) - (x1 >>> ((4 : Int32) &&& 31)) / r_41 * r_41)), (0, .ref (xa 0)), (1, .int x1)]) hx hb dL_acts_565 hl (by decide) rfl (fun ls hl => ?_)
  refine lv_iload_n hx hb dL_acts_567 rfl (lv_at hl 4 rfl) ?_
  refine lv_bipush (v := 9) hx hb dL_acts_568 (by decide) ?_
  refine lv_ishr hx hb dL_acts_570 ?_
  refine lv_sipush (v := 10000) hx hb dL_acts_571 (by decide) ?_
  refine lv_irem hx hb dL_acts_574 (by decide) ?_
  refine lv_istore (lv' := [(17, .int ((x1 >>> ((9 : Int32) &&& 31)) - (x1 >>> ((9 : Int32) &&& 31)) / (10000 : Int32) * (10000 : Int32))), (16, .int r_78), (3, .int ((x1 >>> ((9 : Int32) &&& 31)) - (x1 >>> ((9 : Int32) &&& 31)) / (16 : Int32) * (16 : Int32))), (2, .int ((x1 >>> ((4 : Int32) &&& 31)) - (x1 >>> ((4 : Int32) &&& 31)) / r_41 * r_41)), (0, .ref (xa 0)), (1, .int x1)]) hx hb dL_acts_575 hl (by decide) rfl (fun ls hl => ?_)
  refine lv_aload_n hx hb dL_acts_577 rfl (lv_at hl 4 rfl) ?_
  refine lv_iload_n hx hb dL_acts_578 rfl (lv_at hl 3 rfl) ?_
  refine lv_iconst (v := 0) hx hb dL_acts_579 (by decide) ?_
  refine lv_iload hx hb dL_acts_580 (lv_at hl 0 rfl) ?_
  refine gBacki (D := D) (tys := gT cI cC cF cO) (A := A) (wr := []) (w1 := gW cI cC cF cO xa) (va_runV (As := [.int ((x1 >>> ((4 : Int32) &&& 31)) - (x1 >>> ((4 : Int32) &&& 31)) / r_41 * r_41), .int (0 : Int32), .int ((x1 >>> ((9 : Int32) &&& 31)) - (x1 >>> ((9 : Int32) &&& 31)) / (10000 : Int32) * (10000 : Int32))]) (rest := []) ⟨hx, hb, hml, hown, hts⟩ (d_X8_change l D cI cC cF cO xa v_79 _ (((x1 >>> ((4 : Int32) &&& 31)) - (x1 >>> ((4 : Int32) &&& 31)) / r_41 * r_41)) ((0 : Int32)) (((x1 >>> ((9 : Int32) &&& 31)) - (x1 >>> ((9 : Int32) &&& 31)) / (10000 : Int32) * (10000 : Int32))) _ hwp) (cwV 3 hts gL_acts_X8_change rfl rfl rfl (by decide +kernel) ⟨Nat.le_of_ble_eq_true rfl, Nat.le_of_ble_eq_true rfl⟩) (gPreV (C := RX8) (T := TX8) (N := 9) (ci := 8) hK hX hT hP hD hS hA gI (gI_at cI cC cF cO xa v_79) gI_nd rfl (qb := 0) rfl) rfl rfl hl.1 rfl (lv_room (Nat.le_of_ble_eq_true rfl)) dL_acts_582 ⟨Nat.le_of_ble_eq_true rfl, Nat.le_of_ble_eq_true rfl⟩) hP hD hS hA gI [] (gI_at cI cC cF cO xa v_79) rfl rfl (fun i h => absurd h List.not_mem_nil) (fun r_80 v_81 H locs hwp hP hD hS => ?_)
  have hP : va_P D vwCl (gW cI cC cF cO xa v_81) H := hP
  have hD : va_D A (gW cI cC cF cO xa v_81) := hD
  refine lv_iload hx hb dL_acts_585 (lv_at hl 1 rfl) ?_
  refine lv_iload hx hb dL_acts_587 (lv_at hl 0 rfl) ?_
  refine lv_icmp_ne (tgt := 597) hx hb dL_acts_589 (by decide) (fun hc => ?_) (fun hc => ?_)
  · have hwp := hwp.2 hc
    refine lv_iload hx hb dL_acts_597 (lv_at hl 1 rfl) ?_
    have hl : lv_has ls 18 [(0, .ref (xa 0)), (2, .int ((x1 >>> ((4 : Int32) &&& 31)) - (x1 >>> ((4 : Int32) &&& 31)) / r_41 * r_41)), (17, .int ((x1 >>> ((9 : Int32) &&& 31)) - (x1 >>> ((9 : Int32) &&& 31)) / (10000 : Int32) * (10000 : Int32)))] := lv_sub hl [4, 3, 0] rfl
    exact hj599 ((x1 >>> ((4 : Int32) &&& 31)) - (x1 >>> ((4 : Int32) &&& 31)) / r_41 * r_41) ((x1 >>> ((9 : Int32) &&& 31)) - (x1 >>> ((9 : Int32) &&& 31)) / (10000 : Int32) * (10000 : Int32)) r_78 r_80 v_81 _ _ hwp hP hD hS ls hl
  · have hwp := hwp.1 hc
    refine lv_bipush (v := -5) hx hb dL_acts_592 (by decide) ?_
    refine lv_goto (tgt := 599) hx hb dL_acts_594 (by decide) ?_
    have hl : lv_has ls 18 [(0, .ref (xa 0)), (2, .int ((x1 >>> ((4 : Int32) &&& 31)) - (x1 >>> ((4 : Int32) &&& 31)) / r_41 * r_41)), (17, .int ((x1 >>> ((9 : Int32) &&& 31)) - (x1 >>> ((9 : Int32) &&& 31)) / (10000 : Int32) * (10000 : Int32)))] := lv_sub hl [4, 3, 0] rfl
    exact hj599 ((x1 >>> ((4 : Int32) &&& 31)) - (x1 >>> ((4 : Int32) &&& 31)) / r_41 * r_41) ((x1 >>> ((9 : Int32) &&& 31)) - (x1 >>> ((9 : Int32) &&& 31)) / (10000 : Int32) * (10000 : Int32)) (-5 : Int32) r_80 v_81 _ _ hwp hP hD hS ls hl
