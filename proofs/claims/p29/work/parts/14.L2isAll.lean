/-! contract of the law's isAll (by program) -/
abbrev rm_L_isAll : Room := { frames := 8, cells := 0, slots := 0, locals := 191 }
set_option maxHeartbeats 40000000 in
set_option maxRecDepth 100000 in
theorem c_L_isAll (l : Launch) (D : va_G) (cI cC cF cO : ClassId) (xa : Nat → Nat) (v : VT) (sz : Nat)  (post : Int32 → VT → Prop) (hwp : wv_L_isAll  v post) : Met l yL_isAll wsL_isAll rm_L_isAll (gPre D (gT cI cC cF cO) [.ref (xa 0)] (gW cI cC cF cO xa v) sz) (va_Qi post (gB D (gT cI cC cF cO) (gW cI cC cF cO xa) (gW cI cC cF cO xa v) sz) (va_A (gW cI cC cF cO xa v) sz)) 0 0 (va_A (gW cI cC cF cO xa v) sz) := by
  refine gOfz (own := RL) (cc := cL_isAll) (maxL := 12) (ret := (some .boolean)) rfl (by decide) rfl (Nat.le_of_ble_eq_true rfl) rfl ?_
  intro p e s m below meth c A args Q hAe hx hb hr hts hown hml hlocks hname hA hK hX hT hP hD hS hret ls hl
  have hl : lv_has ls 12 [(0, .ref (xa 0))] := hl
  unfold wv_L_isAll at hwp
  have hj424 : ∀ (x1_424 : Int32) (x2_424 : Int32) (x3_424 : Int32) (x4_424 : Int32) (x5_424 : Int32) (x6_424 : Int32) (x7_424 : Int32) (v_424 : VT) (H : Heap) (locs : List Loc), wv_L_isAll_j424 x1_424 x2_424 x3_424 x4_424 x5_424 x6_424 x7_424 v_424  post → va_P D vwCl (gW cI cC cF cO xa v_424) H → va_D A (gW cI cC cF cO xa v_424) → va_S A s.heap H locs → ∀ ls : Array Slot, lv_has ls 12 [(0, .ref (xa 0)), (1, .int x1_424), (2, .int x2_424), (3, .int x3_424), (4, .int x4_424), (5, .int x5_424), (6, .int x6_424), (7, .int x7_424)] → W p l e rm_L_isAll s m args below meth c H locs 0 0 Q (F0 m 424 ls []) := by
    intro x1_424 x2_424 x3_424 x4_424 x5_424 x6_424 x7_424 v_424 H locs hwp hP hD hS ls hl
    unfold wv_L_isAll_j424 at hwp
    refine lv_iload hx hb dL_isAll_424 (lv_at hl 5 rfl) ?_
    refine lv_if_eq (tgt := 504) hx hb dL_isAll_426 (by decide) (fun hc => ?_) (fun hc => ?_)
    · have hwp := hwp.1 hc
      refine lv_iconst (v := 0) hx hb dL_isAll_504 (by decide) ?_
      exact hret v_424 gI dL_isAll_505 (Or.inl rfl) hwp (gI_at cI cC cF cO xa v_424) gI_nd hP hD hS
    · have hwp := hwp.2 hc
      refine lv_iload_n hx hb dL_isAll_429 rfl (lv_at hl 1 rfl) ?_
      refine lv_aload_n hx hb dL_isAll_430 rfl (lv_at hl 0 rfl) ?_
      refine lv_iconst (v := 1) hx hb dL_isAll_431 (by decide) ?_
      refine gBacki (D := D) (tys := gT cI cC cF cO) (A := A) (wr := []) (w1 := gW cI cC cF cO xa) (va_runV (As := [.int (1 : Int32)]) (rest := [.int x1_424]) ⟨hx, hb, hml, hown, hts⟩ (d_X8_count l D cI cC cF cO xa v_424 _ ((1 : Int32)) _ hwp) (cwV 1 hts gL_isAll_X8_count rfl rfl rfl (by decide +kernel) ⟨Nat.le_of_ble_eq_true rfl, Nat.le_of_ble_eq_true rfl⟩) (gPreV (C := RX8) (T := TX8) (N := 9) (ci := 8) hK hX hT hP hD hS hA gI (gI_at cI cC cF cO xa v_424) gI_nd rfl (qb := 0) rfl) rfl rfl hl.1 rfl (lv_room (Nat.le_of_ble_eq_true rfl)) dL_isAll_432 ⟨Nat.le_of_ble_eq_true rfl, Nat.le_of_ble_eq_true rfl⟩) hP hD hS hA gI [] (gI_at cI cC cF cO xa v_424) rfl rfl (fun i h => absurd h List.not_mem_nil) (fun r_1 v_2 H locs hwp hP hD hS => ?_)
      have hP : va_P D vwCl (gW cI cC cF cO xa v_2) H := hP
      have hD : va_D A (gW cI cC cF cO xa v_2) := hD
      refine lv_icmp_ne (tgt := 504) hx hb dL_isAll_435 (by decide) (fun hc => ?_) (fun hc => ?_)
      · have hwp := hwp.2 hc
        refine lv_iconst (v := 0) hx hb dL_isAll_504 (by decide) ?_
        exact hret v_2 gI dL_isAll_505 (Or.inl rfl) hwp (gI_at cI cC cF cO xa v_2) gI_nd hP hD hS
      · have hwp := hwp.1 hc
        refine lv_iload hx hb dL_isAll_438 (lv_at hl 4 rfl) ?_
        refine lv_aload_n hx hb dL_isAll_440 rfl (lv_at hl 0 rfl) ?_
        refine lv_iconst (v := 2) hx hb dL_isAll_441 (by decide) ?_
        refine gBacki (D := D) (tys := gT cI cC cF cO) (A := A) (wr := []) (w1 := gW cI cC cF cO xa) (va_runV (As := [.int (2 : Int32)]) (rest := [.int x4_424]) ⟨hx, hb, hml, hown, hts⟩ (d_X8_count l D cI cC cF cO xa v_2 _ ((2 : Int32)) _ hwp) (cwV 1 hts gL_isAll_X8_count rfl rfl rfl (by decide +kernel) ⟨Nat.le_of_ble_eq_true rfl, Nat.le_of_ble_eq_true rfl⟩) (gPreV (C := RX8) (T := TX8) (N := 9) (ci := 8) hK hX hT hP hD hS hA gI (gI_at cI cC cF cO xa v_2) gI_nd rfl (qb := 0) rfl) rfl rfl hl.1 rfl (lv_room (Nat.le_of_ble_eq_true rfl)) dL_isAll_442 ⟨Nat.le_of_ble_eq_true rfl, Nat.le_of_ble_eq_true rfl⟩) hP hD hS hA gI [] (gI_at cI cC cF cO xa v_2) rfl rfl (fun i h => absurd h List.not_mem_nil) (fun r_3 v_4 H locs hwp hP hD hS => ?_)
        have hP : va_P D vwCl (gW cI cC cF cO xa v_4) H := hP
        have hD : va_D A (gW cI cC cF cO xa v_4) := hD
        refine lv_icmp_ne (tgt := 504) hx hb dL_isAll_445 (by decide) (fun hc => ?_) (fun hc => ?_)
        · have hwp := hwp.2 hc
          refine lv_iconst (v := 0) hx hb dL_isAll_504 (by decide) ?_
          exact hret v_4 gI dL_isAll_505 (Or.inl rfl) hwp (gI_at cI cC cF cO xa v_4) gI_nd hP hD hS
        · have hwp := hwp.1 hc
          refine lv_iload_n hx hb dL_isAll_448 rfl (lv_at hl 3 rfl) ?_
          refine lv_aload_n hx hb dL_isAll_449 rfl (lv_at hl 0 rfl) ?_
          refine lv_iconst (v := 3) hx hb dL_isAll_450 (by decide) ?_
          refine gBacki (D := D) (tys := gT cI cC cF cO) (A := A) (wr := []) (w1 := gW cI cC cF cO xa) (va_runV (As := [.int (3 : Int32)]) (rest := [.int x3_424]) ⟨hx, hb, hml, hown, hts⟩ (d_X8_count l D cI cC cF cO xa v_4 _ ((3 : Int32)) _ hwp) (cwV 1 hts gL_isAll_X8_count rfl rfl rfl (by decide +kernel) ⟨Nat.le_of_ble_eq_true rfl, Nat.le_of_ble_eq_true rfl⟩) (gPreV (C := RX8) (T := TX8) (N := 9) (ci := 8) hK hX hT hP hD hS hA gI (gI_at cI cC cF cO xa v_4) gI_nd rfl (qb := 0) rfl) rfl rfl hl.1 rfl (lv_room (Nat.le_of_ble_eq_true rfl)) dL_isAll_451 ⟨Nat.le_of_ble_eq_true rfl, Nat.le_of_ble_eq_true rfl⟩) hP hD hS hA gI [] (gI_at cI cC cF cO xa v_4) rfl rfl (fun i h => absurd h List.not_mem_nil) (fun r_5 v_6 H locs hwp hP hD hS => ?_)
          have hP : va_P D vwCl (gW cI cC cF cO xa v_6) H := hP
          have hD : va_D A (gW cI cC cF cO xa v_6) := hD
          refine lv_icmp_ne (tgt := 504) hx hb dL_isAll_454 (by decide) (fun hc => ?_) (fun hc => ?_)
          · have hwp := hwp.2 hc
            refine lv_iconst (v := 0) hx hb dL_isAll_504 (by decide) ?_
            exact hret v_6 gI dL_isAll_505 (Or.inl rfl) hwp (gI_at cI cC cF cO xa v_6) gI_nd hP hD hS
          · have hwp := hwp.1 hc
            refine lv_iload_n hx hb dL_isAll_457 rfl (lv_at hl 2 rfl) ?_
            refine lv_aload_n hx hb dL_isAll_458 rfl (lv_at hl 0 rfl) ?_
            refine lv_bipush (v := 7) hx hb dL_isAll_459 (by decide) ?_
            refine gBacki (D := D) (tys := gT cI cC cF cO) (A := A) (wr := []) (w1 := gW cI cC cF cO xa) (va_runV (As := [.int (7 : Int32)]) (rest := [.int x2_424]) ⟨hx, hb, hml, hown, hts⟩ (d_X8_count l D cI cC cF cO xa v_6 _ ((7 : Int32)) _ hwp) (cwV 1 hts gL_isAll_X8_count rfl rfl rfl (by decide +kernel) ⟨Nat.le_of_ble_eq_true rfl, Nat.le_of_ble_eq_true rfl⟩) (gPreV (C := RX8) (T := TX8) (N := 9) (ci := 8) hK hX hT hP hD hS hA gI (gI_at cI cC cF cO xa v_6) gI_nd rfl (qb := 0) rfl) rfl rfl hl.1 rfl (lv_room (Nat.le_of_ble_eq_true rfl)) dL_isAll_461 ⟨Nat.le_of_ble_eq_true rfl, Nat.le_of_ble_eq_true rfl⟩) hP hD hS hA gI [] (gI_at cI cC cF cO xa v_6) rfl rfl (fun i h => absurd h List.not_mem_nil) (fun r_7 v_8 H locs hwp hP hD hS => ?_)
            have hP : va_P D vwCl (gW cI cC cF cO xa v_8) H := hP
            have hD : va_D A (gW cI cC cF cO xa v_8) := hD
            refine lv_icmp_ne (tgt := 504) hx hb dL_isAll_464 (by decide) (fun hc => ?_) (fun hc => ?_)
            · have hwp := hwp.2 hc
              refine lv_iconst (v := 0) hx hb dL_isAll_504 (by decide) ?_
              exact hret v_8 gI dL_isAll_505 (Or.inl rfl) hwp (gI_at cI cC cF cO xa v_8) gI_nd hP hD hS
            · have hwp := hwp.1 hc
              refine lv_iload hx hb dL_isAll_467 (lv_at hl 6 rfl) ?_
              refine lv_aload_n hx hb dL_isAll_469 rfl (lv_at hl 0 rfl) ?_
              refine lv_bipush (v := 9) hx hb dL_isAll_470 (by decide) ?_
              refine gBacki (D := D) (tys := gT cI cC cF cO) (A := A) (wr := []) (w1 := gW cI cC cF cO xa) (va_runV (As := [.int (9 : Int32)]) (rest := [.int x6_424]) ⟨hx, hb, hml, hown, hts⟩ (d_X8_count l D cI cC cF cO xa v_8 _ ((9 : Int32)) _ hwp) (cwV 1 hts gL_isAll_X8_count rfl rfl rfl (by decide +kernel) ⟨Nat.le_of_ble_eq_true rfl, Nat.le_of_ble_eq_true rfl⟩) (gPreV (C := RX8) (T := TX8) (N := 9) (ci := 8) hK hX hT hP hD hS hA gI (gI_at cI cC cF cO xa v_8) gI_nd rfl (qb := 0) rfl) rfl rfl hl.1 rfl (lv_room (Nat.le_of_ble_eq_true rfl)) dL_isAll_472 ⟨Nat.le_of_ble_eq_true rfl, Nat.le_of_ble_eq_true rfl⟩) hP hD hS hA gI [] (gI_at cI cC cF cO xa v_8) rfl rfl (fun i h => absurd h List.not_mem_nil) (fun r_9 v_10 H locs hwp hP hD hS => ?_)
              have hP : va_P D vwCl (gW cI cC cF cO xa v_10) H := hP
              have hD : va_D A (gW cI cC cF cO xa v_10) := hD
              refine lv_icmp_ne (tgt := 504) hx hb dL_isAll_475 (by decide) (fun hc => ?_) (fun hc => ?_)
              · have hwp := hwp.2 hc
                refine lv_iconst (v := 0) hx hb dL_isAll_504 (by decide) ?_
                exact hret v_10 gI dL_isAll_505 (Or.inl rfl) hwp (gI_at cI cC cF cO xa v_10) gI_nd hP hD hS
              · have hwp := hwp.1 hc
                refine lv_iload_n hx hb dL_isAll_478 rfl (lv_at hl 1 rfl) ?_
                refine lv_iload hx hb dL_isAll_479 (lv_at hl 7 rfl) ?_
                refine lv_iadd hx hb dL_isAll_481 ?_
                refine lv_aload_n hx hb dL_isAll_482 rfl (lv_at hl 0 rfl) ?_
                refine lv_iconst (v := 0) hx hb dL_isAll_483 (by decide) ?_
                refine gBacki (D := D) (tys := gT cI cC cF cO) (A := A) (wr := []) (w1 := gW cI cC cF cO xa) (va_runV (As := [.int (0 : Int32)]) (rest := [.int (x1_424 + x7_424)]) ⟨hx, hb, hml, hown, hts⟩ (d_X8_count l D cI cC cF cO xa v_10 _ ((0 : Int32)) _ hwp) (cwV 1 hts gL_isAll_X8_count rfl rfl rfl (by decide +kernel) ⟨Nat.le_of_ble_eq_true rfl, Nat.le_of_ble_eq_true rfl⟩) (gPreV (C := RX8) (T := TX8) (N := 9) (ci := 8) hK hX hT hP hD hS hA gI (gI_at cI cC cF cO xa v_10) gI_nd rfl (qb := 0) rfl) rfl rfl hl.1 rfl (lv_room (Nat.le_of_ble_eq_true rfl)) dL_isAll_484 ⟨Nat.le_of_ble_eq_true rfl, Nat.le_of_ble_eq_true rfl⟩) hP hD hS hA gI [] (gI_at cI cC cF cO xa v_10) rfl rfl (fun i h => absurd h List.not_mem_nil) (fun r_11 v_12 H locs hwp hP hD hS => ?_)
                have hP : va_P D vwCl (gW cI cC cF cO xa v_12) H := hP
                have hD : va_D A (gW cI cC cF cO xa v_12) := hD
                refine lv_icmp_ne (tgt := 504) hx hb dL_isAll_487 (by decide) (fun hc => ?_) (fun hc => ?_)
                · have hwp := hwp.2 hc
                  refine lv_iconst (v := 0) hx hb dL_isAll_504 (by decide) ?_
                  exact hret v_12 gI dL_isAll_505 (Or.inl rfl) hwp (gI_at cI cC cF cO xa v_12) gI_nd hP hD hS
                · have hwp := hwp.1 hc
                  refine lv_aload_n hx hb dL_isAll_490 rfl (lv_at hl 0 rfl) ?_
                  refine lv_iload_n hx hb dL_isAll_491 rfl (lv_at hl 3 rfl) ?_
                  refine gBacki (D := D) (tys := gT cI cC cF cO) (A := A) (wr := []) (w1 := gW cI cC cF cO xa) (va_runV (As := [.int x3_424]) (rest := []) ⟨hx, hb, hml, hown, hts⟩ (d_X8_broken l D cI cC cF cO xa v_12 _ (x3_424) _ hwp) (cwV 1 hts gL_isAll_X8_broken rfl rfl rfl (by decide +kernel) ⟨Nat.le_of_ble_eq_true rfl, Nat.le_of_ble_eq_true rfl⟩) (gPreV (C := RX8) (T := TX8) (N := 9) (ci := 8) hK hX hT hP hD hS hA gI (gI_at cI cC cF cO xa v_12) gI_nd rfl (qb := 0) rfl) rfl rfl hl.1 rfl (lv_room (Nat.le_of_ble_eq_true rfl)) dL_isAll_492 ⟨Nat.le_of_ble_eq_true rfl, Nat.le_of_ble_eq_true rfl⟩) hP hD hS hA gI [] (gI_at cI cC cF cO xa v_12) rfl rfl (fun i h => absurd h List.not_mem_nil) (fun r_13 v_14 H locs hwp hP hD hS => ?_)
                  have hP : va_P D vwCl (gW cI cC cF cO xa v_14) H := hP
                  have hD : va_D A (gW cI cC cF cO xa v_14) := hD
                  refine lv_bipush (v := -5) hx hb dL_isAll_495 (by decide) ?_
                  refine lv_icmp_ne (tgt := 504) hx hb dL_isAll_497 (by decide) (fun hc => ?_) (fun hc => ?_)
                  · have hwp := hwp.2 hc
                    refine lv_iconst (v := 0) hx hb dL_isAll_504 (by decide) ?_
                    exact hret v_14 gI dL_isAll_505 (Or.inl rfl) hwp (gI_at cI cC cF cO xa v_14) gI_nd hP hD hS
                  · have hwp := hwp.1 hc
                    refine lv_iconst (v := 1) hx hb dL_isAll_500 (by decide) ?_
                    refine lv_goto (tgt := 505) hx hb dL_isAll_501 (by decide) ?_
                    exact hret v_14 gI dL_isAll_505 (Or.inr rfl) hwp (gI_at cI cC cF cO xa v_14) gI_nd hP hD hS
  refine lv_iconst (v := 0) hx hb dL_isAll_0 (by decide) ?_
  refine lv_istore_n (lv' := [(1, .int (0 : Int32)), (0, .ref (xa 0))]) hx hb dL_isAll_1 rfl hl (by decide) rfl (fun ls hl => ?_)
  refine lv_iconst (v := 0) hx hb dL_isAll_2 (by decide) ?_
  refine lv_istore_n (lv' := [(2, .int (0 : Int32)), (1, .int (0 : Int32)), (0, .ref (xa 0))]) hx hb dL_isAll_3 rfl hl (by decide) rfl (fun ls hl => ?_)
  refine lv_iconst (v := 0) hx hb dL_isAll_4 (by decide) ?_
  refine lv_istore_n (lv' := [(3, .int (0 : Int32)), (2, .int (0 : Int32)), (1, .int (0 : Int32)), (0, .ref (xa 0))]) hx hb dL_isAll_5 rfl hl (by decide) rfl (fun ls hl => ?_)
  refine lv_iconst (v := 0) hx hb dL_isAll_6 (by decide) ?_
  refine lv_istore (lv' := [(4, .int (0 : Int32)), (3, .int (0 : Int32)), (2, .int (0 : Int32)), (1, .int (0 : Int32)), (0, .ref (xa 0))]) hx hb dL_isAll_7 hl (by decide) rfl (fun ls hl => ?_)
  refine lv_iconst (v := 1) hx hb dL_isAll_9 (by decide) ?_
  refine lv_istore (lv' := [(5, .int (1 : Int32)), (4, .int (0 : Int32)), (3, .int (0 : Int32)), (2, .int (0 : Int32)), (1, .int (0 : Int32)), (0, .ref (xa 0))]) hx hb dL_isAll_10 hl (by decide) rfl (fun ls hl => ?_)
  refine lv_iconst (v := 0) hx hb dL_isAll_12 (by decide) ?_
  refine lv_istore (lv' := [(6, .int (0 : Int32)), (5, .int (1 : Int32)), (4, .int (0 : Int32)), (3, .int (0 : Int32)), (2, .int (0 : Int32)), (1, .int (0 : Int32)), (0, .ref (xa 0))]) hx hb dL_isAll_13 hl (by decide) rfl (fun ls hl => ?_)
  have hl : lv_has ls 12 [(0, .ref (xa 0)), (1, .int (0 : Int32)), (2, .int (0 : Int32)), (3, .int (0 : Int32)), (4, .int (0 : Int32)), (5, .int (1 : Int32)), (6, .int (0 : Int32))] := lv_sub hl [6, 5, 4, 3, 2, 1, 0] rfl
  unfold wv_L_isAll_l15 at hwp
  obtain ⟨J15, μ15, hJ, hst15⟩ := hwp
  have hL15 : ∀ (n : Nat) (x1_15 : Int32) (x2_15 : Int32) (x3_15 : Int32) (x4_15 : Int32) (x5_15 : Int32) (x6_15 : Int32) (v_15 : VT), μ15 x1_15 x2_15 x3_15 x4_15 x5_15 x6_15 v_15 < n → J15 x1_15 x2_15 x3_15 x4_15 x5_15 x6_15 v_15 → ∀ (H : Heap) (locs : List Loc), va_P D vwCl (gW cI cC cF cO xa v_15) H → va_D A (gW cI cC cF cO xa v_15) → va_S A s.heap H locs → ∀ ls : Array Slot, lv_has ls 12 [(0, .ref (xa 0)), (1, .int x1_15), (2, .int x2_15), (3, .int x3_15), (4, .int x4_15), (5, .int x5_15), (6, .int x6_15)] → W p l e rm_L_isAll s m args below meth c H locs 0 0 Q (F0 m 15 ls []) := by
    intro n
    induction n with
    | zero => intro x1_15 x2_15 x3_15 x4_15 x5_15 x6_15 v_15 h; exact absurd h (Nat.not_lt_zero _)
    | succ n ih15 =>
      intro x1_15 x2_15 x3_15 x4_15 x5_15 x6_15 v_15 hμ15 hJ H locs hP hD hS ls hl
      have hwp := hst15 x1_15 x2_15 x3_15 x4_15 x5_15 x6_15 v_15 hJ
      have hj341 : ∀ (x1_341 : Int32) (x2_341 : Int32) (x3_341 : Int32) (x4_341 : Int32) (x6_341 : Int32) (k0_341 : Int32) (k1_341 : Int32) (v_341 : VT) (H : Heap) (locs : List Loc), wv_L_isAll_j341 x1_341 x2_341 x3_341 x4_341 x6_341 k0_341 k1_341 v_341 (fun u0 u1 u2 u3 u4 u5 u6 => J15 u0 u1 u2 u3 u4 u5 u6 ∧ μ15 u0 u1 u2 u3 u4 u5 u6 < μ15 x1_15 x2_15 x3_15 x4_15 x5_15 x6_15 v_15) post → va_P D vwCl (gW cI cC cF cO xa v_341) H → va_D A (gW cI cC cF cO xa v_341) → va_S A s.heap H locs → ∀ ls : Array Slot, lv_has ls 12 [(0, .ref (xa 0)), (1, .int x1_341), (2, .int x2_341), (3, .int x3_341), (4, .int x4_341), (6, .int x6_341)] → W p l e rm_L_isAll s m args below meth c H locs 0 0 Q (F0 m 341 ls [.int k0_341, .int k1_341]) := by
        intro x1_341 x2_341 x3_341 x4_341 x6_341 k0_341 k1_341 v_341 H locs hwp hP hD hS ls hl
        unfold wv_L_isAll_j341 at hwp
        refine lv_icmp_ne (tgt := 348) hx hb dL_isAll_341 (by decide) (fun hc => ?_) (fun hc => ?_)
        · have hwp := hwp.2 hc
          refine lv_iconst (v := 0) hx hb dL_isAll_348 (by decide) ?_
          refine lv_istore (lv' := [(5, .int (0 : Int32)), (0, .ref (xa 0)), (1, .int x1_341), (2, .int x2_341), (3, .int x3_341), (4, .int x4_341), (6, .int x6_341)]) hx hb dL_isAll_349 hl (by decide) rfl (fun ls hl => ?_)
          refine lv_iinc (v := (x6_341 + (1 : Int32))) (lv' := [(6, .int (x6_341 + (1 : Int32))), (5, .int (0 : Int32)), (0, .ref (xa 0)), (1, .int x1_341), (2, .int x2_341), (3, .int x3_341), (4, .int x4_341)]) hx hb dL_isAll_351 hl (k := 6) rfl rfl (by decide) rfl (fun ls hl => ?_)
          refine lv_goto (tgt := 15) hx hb dL_isAll_354 (by decide) ?_
          have hl : lv_has ls 12 [(0, .ref (xa 0)), (1, .int x1_341), (2, .int x2_341), (3, .int x3_341), (4, .int x4_341), (5, .int (0 : Int32)), (6, .int (x6_341 + (1 : Int32)))] := lv_sub hl [2, 3, 4, 5, 6, 1, 0] rfl
          exact ih15 x1_341 x2_341 x3_341 x4_341 (0 : Int32) (x6_341 + (1 : Int32)) v_341 (Nat.lt_of_lt_of_le hwp.2 (Nat.le_of_lt_succ hμ15)) hwp.1 _ _ hP hD hS ls hl
        · have hwp := hwp.1 hc
          refine lv_iconst (v := 1) hx hb dL_isAll_344 (by decide) ?_
          refine lv_goto (tgt := 349) hx hb dL_isAll_345 (by decide) ?_
          refine lv_istore (lv' := [(5, .int (1 : Int32)), (0, .ref (xa 0)), (1, .int x1_341), (2, .int x2_341), (3, .int x3_341), (4, .int x4_341), (6, .int x6_341)]) hx hb dL_isAll_349 hl (by decide) rfl (fun ls hl => ?_)
          refine lv_iinc (v := (x6_341 + (1 : Int32))) (lv' := [(6, .int (x6_341 + (1 : Int32))), (5, .int (1 : Int32)), (0, .ref (xa 0)), (1, .int x1_341), (2, .int x2_341), (3, .int x3_341), (4, .int x4_341)]) hx hb dL_isAll_351 hl (k := 6) rfl rfl (by decide) rfl (fun ls hl => ?_)
          refine lv_goto (tgt := 15) hx hb dL_isAll_354 (by decide) ?_
          have hl : lv_has ls 12 [(0, .ref (xa 0)), (1, .int x1_341), (2, .int x2_341), (3, .int x3_341), (4, .int x4_341), (5, .int (1 : Int32)), (6, .int (x6_341 + (1 : Int32)))] := lv_sub hl [2, 3, 4, 5, 6, 1, 0] rfl
          exact ih15 x1_341 x2_341 x3_341 x4_341 (1 : Int32) (x6_341 + (1 : Int32)) v_341 (Nat.lt_of_lt_of_le hwp.2 (Nat.le_of_lt_succ hμ15)) hwp.1 _ _ hP hD hS ls hl
      have hj324 : ∀ (x1_324 : Int32) (x2_324 : Int32) (x3_324 : Int32) (x4_324 : Int32) (x6_324 : Int32) (k0_324 : Int32) (v_324 : VT) (H : Heap) (locs : List Loc), wv_L_isAll_j324 x1_324 x2_324 x3_324 x4_324 x6_324 k0_324 v_324 (fun u0 u1 u2 u3 u4 u5 u6 => J15 u0 u1 u2 u3 u4 u5 u6 ∧ μ15 u0 u1 u2 u3 u4 u5 u6 < μ15 x1_15 x2_15 x3_15 x4_15 x5_15 x6_15 v_15) post → va_P D vwCl (gW cI cC cF cO xa v_324) H → va_D A (gW cI cC cF cO xa v_324) → va_S A s.heap H locs → ∀ ls : Array Slot, lv_has ls 12 [(0, .ref (xa 0)), (1, .int x1_324), (2, .int x2_324), (3, .int x3_324), (4, .int x4_324), (6, .int x6_324)] → W p l e rm_L_isAll s m args below meth c H locs 0 0 Q (F0 m 324 ls [.int k0_324]) := by
        intro x1_324 x2_324 x3_324 x4_324 x6_324 k0_324 v_324 H locs hwp hP hD hS ls hl
        unfold wv_L_isAll_j324 at hwp
        refine lv_aload_n hx hb dL_isAll_324 rfl (lv_at hl 0 rfl) ?_
        refine lv_iload hx hb dL_isAll_325 (lv_at hl 5 rfl) ?_
        refine lv_bipush (v := 6) hx hb dL_isAll_327 (by decide) ?_
        refine gBacki (D := D) (tys := gT cI cC cF cO) (A := A) (wr := []) (w1 := gW cI cC cF cO xa) (va_runV (As := [.int x6_324, .int (6 : Int32)]) (rest := [.int k0_324]) ⟨hx, hb, hml, hown, hts⟩ (d_X8_scene l D cI cC cF cO xa v_324 _ (x6_324) ((6 : Int32)) _ hwp) (cwV 2 hts gL_isAll_X8_scene rfl rfl rfl (by decide +kernel) ⟨Nat.le_of_ble_eq_true rfl, Nat.le_of_ble_eq_true rfl⟩) (gPreV (C := RX8) (T := TX8) (N := 9) (ci := 8) hK hX hT hP hD hS hA gI (gI_at cI cC cF cO xa v_324) gI_nd rfl (qb := 0) rfl) rfl rfl hl.1 rfl (lv_room (Nat.le_of_ble_eq_true rfl)) dL_isAll_329 ⟨Nat.le_of_ble_eq_true rfl, Nat.le_of_ble_eq_true rfl⟩) hP hD hS hA gI [] (gI_at cI cC cF cO xa v_324) rfl rfl (fun i h => absurd h List.not_mem_nil) (fun r_15 v_16 H locs hwp hP hD hS => ?_)
        have hP : va_P D vwCl (gW cI cC cF cO xa v_16) H := hP
        have hD : va_D A (gW cI cC cF cO xa v_16) := hD
        refine lv_iconst (v := 1) hx hb dL_isAll_332 (by decide) ?_
        refine lv_icmp_le (tgt := 340) hx hb dL_isAll_333 (by decide) (fun hc => ?_) (fun hc => ?_)
        · have hwp := hwp.1 hc
          refine lv_iconst (v := 0) hx hb dL_isAll_340 (by decide) ?_
          have hl : lv_has ls 12 [(0, .ref (xa 0)), (1, .int x1_324), (2, .int x2_324), (3, .int x3_324), (4, .int x4_324), (6, .int x6_324)] := lv_sub hl [0, 1, 2, 3, 4, 5] rfl
          exact hj341 x1_324 x2_324 x3_324 x4_324 x6_324 (0 : Int32) k0_324 v_16 _ _ hwp hP hD hS ls hl
        · have hwp := hwp.2 hc
          refine lv_iconst (v := 1) hx hb dL_isAll_336 (by decide) ?_
          refine lv_goto (tgt := 341) hx hb dL_isAll_337 (by decide) ?_
          have hl : lv_has ls 12 [(0, .ref (xa 0)), (1, .int x1_324), (2, .int x2_324), (3, .int x3_324), (4, .int x4_324), (6, .int x6_324)] := lv_sub hl [0, 1, 2, 3, 4, 5] rfl
          exact hj341 x1_324 x2_324 x3_324 x4_324 x6_324 (1 : Int32) k0_324 v_16 _ _ hwp hP hD hS ls hl
      have hj305 : ∀ (x1_305 : Int32) (x2_305 : Int32) (x3_305 : Int32) (x4_305 : Int32) (x6_305 : Int32) (k0_305 : Int32) (k1_305 : Int32) (v_305 : VT) (H : Heap) (locs : List Loc), wv_L_isAll_j305 x1_305 x2_305 x3_305 x4_305 x6_305 k0_305 k1_305 v_305 (fun u0 u1 u2 u3 u4 u5 u6 => J15 u0 u1 u2 u3 u4 u5 u6 ∧ μ15 u0 u1 u2 u3 u4 u5 u6 < μ15 x1_15 x2_15 x3_15 x4_15 x5_15 x6_15 v_15) post → va_P D vwCl (gW cI cC cF cO xa v_305) H → va_D A (gW cI cC cF cO xa v_305) → va_S A s.heap H locs → ∀ ls : Array Slot, lv_has ls 12 [(0, .ref (xa 0)), (1, .int x1_305), (2, .int x2_305), (3, .int x3_305), (4, .int x4_305), (6, .int x6_305)] → W p l e rm_L_isAll s m args below meth c H locs 0 0 Q (F0 m 305 ls [.int k0_305, .int k1_305]) := by
        intro x1_305 x2_305 x3_305 x4_305 x6_305 k0_305 k1_305 v_305 H locs hwp hP hD hS ls hl
        unfold wv_L_isAll_j305 at hwp
        refine lv_icmp_ne (tgt := 348) hx hb dL_isAll_305 (by decide) (fun hc => ?_) (fun hc => ?_)
        · have hwp := hwp.2 hc
          refine lv_iconst (v := 0) hx hb dL_isAll_348 (by decide) ?_
          refine lv_istore (lv' := [(5, .int (0 : Int32)), (0, .ref (xa 0)), (1, .int x1_305), (2, .int x2_305), (3, .int x3_305), (4, .int x4_305), (6, .int x6_305)]) hx hb dL_isAll_349 hl (by decide) rfl (fun ls hl => ?_)
          refine lv_iinc (v := (x6_305 + (1 : Int32))) (lv' := [(6, .int (x6_305 + (1 : Int32))), (5, .int (0 : Int32)), (0, .ref (xa 0)), (1, .int x1_305), (2, .int x2_305), (3, .int x3_305), (4, .int x4_305)]) hx hb dL_isAll_351 hl (k := 6) rfl rfl (by decide) rfl (fun ls hl => ?_)
          refine lv_goto (tgt := 15) hx hb dL_isAll_354 (by decide) ?_
          have hl : lv_has ls 12 [(0, .ref (xa 0)), (1, .int x1_305), (2, .int x2_305), (3, .int x3_305), (4, .int x4_305), (5, .int (0 : Int32)), (6, .int (x6_305 + (1 : Int32)))] := lv_sub hl [2, 3, 4, 5, 6, 1, 0] rfl
          exact ih15 x1_305 x2_305 x3_305 x4_305 (0 : Int32) (x6_305 + (1 : Int32)) v_305 (Nat.lt_of_lt_of_le hwp.2 (Nat.le_of_lt_succ hμ15)) hwp.1 _ _ hP hD hS ls hl
        · have hwp := hwp.1 hc
          refine lv_aload_n hx hb dL_isAll_308 rfl (lv_at hl 0 rfl) ?_
          refine lv_iload hx hb dL_isAll_309 (lv_at hl 5 rfl) ?_
          refine lv_iconst (v := 4) hx hb dL_isAll_311 (by decide) ?_
          refine gBacki (D := D) (tys := gT cI cC cF cO) (A := A) (wr := []) (w1 := gW cI cC cF cO xa) (va_runV (As := [.int x6_305, .int (4 : Int32)]) (rest := []) ⟨hx, hb, hml, hown, hts⟩ (d_X8_scene l D cI cC cF cO xa v_305 _ (x6_305) ((4 : Int32)) _ hwp) (cwV 2 hts gL_isAll_X8_scene rfl rfl rfl (by decide +kernel) ⟨Nat.le_of_ble_eq_true rfl, Nat.le_of_ble_eq_true rfl⟩) (gPreV (C := RX8) (T := TX8) (N := 9) (ci := 8) hK hX hT hP hD hS hA gI (gI_at cI cC cF cO xa v_305) gI_nd rfl (qb := 0) rfl) rfl rfl hl.1 rfl (lv_room (Nat.le_of_ble_eq_true rfl)) dL_isAll_312 ⟨Nat.le_of_ble_eq_true rfl, Nat.le_of_ble_eq_true rfl⟩) hP hD hS hA gI [] (gI_at cI cC cF cO xa v_305) rfl rfl (fun i h => absurd h List.not_mem_nil) (fun r_17 v_18 H locs hwp hP hD hS => ?_)
          have hP : va_P D vwCl (gW cI cC cF cO xa v_18) H := hP
          have hD : va_D A (gW cI cC cF cO xa v_18) := hD
          refine lv_iconst (v := 1) hx hb dL_isAll_315 (by decide) ?_
          refine lv_icmp_ne (tgt := 323) hx hb dL_isAll_316 (by decide) (fun hc => ?_) (fun hc => ?_)
          · have hwp := hwp.2 hc
            refine lv_iconst (v := 0) hx hb dL_isAll_323 (by decide) ?_
            have hl : lv_has ls 12 [(0, .ref (xa 0)), (1, .int x1_305), (2, .int x2_305), (3, .int x3_305), (4, .int x4_305), (6, .int x6_305)] := lv_sub hl [0, 1, 2, 3, 4, 5] rfl
            exact hj324 x1_305 x2_305 x3_305 x4_305 x6_305 (0 : Int32) v_18 _ _ hwp hP hD hS ls hl
          · have hwp := hwp.1 hc
            refine lv_iconst (v := 1) hx hb dL_isAll_319 (by decide) ?_
            refine lv_goto (tgt := 324) hx hb dL_isAll_320 (by decide) ?_
            have hl : lv_has ls 12 [(0, .ref (xa 0)), (1, .int x1_305), (2, .int x2_305), (3, .int x3_305), (4, .int x4_305), (6, .int x6_305)] := lv_sub hl [0, 1, 2, 3, 4, 5] rfl
            exact hj324 x1_305 x2_305 x3_305 x4_305 x6_305 (1 : Int32) v_18 _ _ hwp hP hD hS ls hl
      have hj295 : ∀ (x1_295 : Int32) (x2_295 : Int32) (x3_295 : Int32) (x4_295 : Int32) (x6_295 : Int32) (x7_295 : Int32) (k0_295 : Int32) (v_295 : VT) (H : Heap) (locs : List Loc), wv_L_isAll_j295 x1_295 x2_295 x3_295 x4_295 x6_295 x7_295 k0_295 v_295 (fun u0 u1 u2 u3 u4 u5 u6 => J15 u0 u1 u2 u3 u4 u5 u6 ∧ μ15 u0 u1 u2 u3 u4 u5 u6 < μ15 x1_15 x2_15 x3_15 x4_15 x5_15 x6_15 v_15) post → va_P D vwCl (gW cI cC cF cO xa v_295) H → va_D A (gW cI cC cF cO xa v_295) → va_S A s.heap H locs → ∀ ls : Array Slot, lv_has ls 12 [(0, .ref (xa 0)), (1, .int x1_295), (2, .int x2_295), (3, .int x3_295), (4, .int x4_295), (6, .int x6_295), (7, .int x7_295)] → W p l e rm_L_isAll s m args below meth c H locs 0 0 Q (F0 m 295 ls [.int k0_295]) := by
        intro x1_295 x2_295 x3_295 x4_295 x6_295 x7_295 k0_295 v_295 H locs hwp hP hD hS ls hl
        unfold wv_L_isAll_j295 at hwp
        refine lv_iload hx hb dL_isAll_295 (lv_at hl 6 rfl) ?_
        refine lv_if_ne (tgt := 304) hx hb dL_isAll_297 (by decide) (fun hc => ?_) (fun hc => ?_)
        · have hwp := hwp.2 hc
          refine lv_iconst (v := 0) hx hb dL_isAll_304 (by decide) ?_
          have hl : lv_has ls 12 [(0, .ref (xa 0)), (1, .int x1_295), (2, .int x2_295), (3, .int x3_295), (4, .int x4_295), (6, .int x6_295)] := lv_sub hl [0, 1, 2, 3, 4, 5] rfl
          exact hj305 x1_295 x2_295 x3_295 x4_295 x6_295 (0 : Int32) k0_295 v_295 _ _ hwp hP hD hS ls hl
        · have hwp := hwp.1 hc
          refine lv_iconst (v := 1) hx hb dL_isAll_300 (by decide) ?_
          refine lv_goto (tgt := 305) hx hb dL_isAll_301 (by decide) ?_
          have hl : lv_has ls 12 [(0, .ref (xa 0)), (1, .int x1_295), (2, .int x2_295), (3, .int x3_295), (4, .int x4_295), (6, .int x6_295)] := lv_sub hl [0, 1, 2, 3, 4, 5] rfl
          exact hj305 x1_295 x2_295 x3_295 x4_295 x6_295 (1 : Int32) k0_295 v_295 _ _ hwp hP hD hS ls hl
      have hj276 : ∀ (x1_276 : Int32) (x2_276 : Int32) (x3_276 : Int32) (x4_276 : Int32) (x6_276 : Int32) (x7_276 : Int32) (k0_276 : Int32) (k1_276 : Int32) (v_276 : VT) (H : Heap) (locs : List Loc), wv_L_isAll_j276 x1_276 x2_276 x3_276 x4_276 x6_276 x7_276 k0_276 k1_276 v_276 (fun u0 u1 u2 u3 u4 u5 u6 => J15 u0 u1 u2 u3 u4 u5 u6 ∧ μ15 u0 u1 u2 u3 u4 u5 u6 < μ15 x1_15 x2_15 x3_15 x4_15 x5_15 x6_15 v_15) post → va_P D vwCl (gW cI cC cF cO xa v_276) H → va_D A (gW cI cC cF cO xa v_276) → va_S A s.heap H locs → ∀ ls : Array Slot, lv_has ls 12 [(0, .ref (xa 0)), (1, .int x1_276), (2, .int x2_276), (3, .int x3_276), (4, .int x4_276), (6, .int x6_276), (7, .int x7_276)] → W p l e rm_L_isAll s m args below meth c H locs 0 0 Q (F0 m 276 ls [.int k0_276, .int k1_276]) := by
        intro x1_276 x2_276 x3_276 x4_276 x6_276 x7_276 k0_276 k1_276 v_276 H locs hwp hP hD hS ls hl
        unfold wv_L_isAll_j276 at hwp
        refine lv_icmp_ne (tgt := 348) hx hb dL_isAll_276 (by decide) (fun hc => ?_) (fun hc => ?_)
        · have hwp := hwp.2 hc
          refine lv_iconst (v := 0) hx hb dL_isAll_348 (by decide) ?_
          refine lv_istore (lv' := [(5, .int (0 : Int32)), (0, .ref (xa 0)), (1, .int x1_276), (2, .int x2_276), (3, .int x3_276), (4, .int x4_276), (6, .int x6_276), (7, .int x7_276)]) hx hb dL_isAll_349 hl (by decide) rfl (fun ls hl => ?_)
          refine lv_iinc (v := (x6_276 + (1 : Int32))) (lv' := [(6, .int (x6_276 + (1 : Int32))), (5, .int (0 : Int32)), (0, .ref (xa 0)), (1, .int x1_276), (2, .int x2_276), (3, .int x3_276), (4, .int x4_276), (7, .int x7_276)]) hx hb dL_isAll_351 hl (k := 6) rfl rfl (by decide) rfl (fun ls hl => ?_)
          refine lv_goto (tgt := 15) hx hb dL_isAll_354 (by decide) ?_
          have hl : lv_has ls 12 [(0, .ref (xa 0)), (1, .int x1_276), (2, .int x2_276), (3, .int x3_276), (4, .int x4_276), (5, .int (0 : Int32)), (6, .int (x6_276 + (1 : Int32)))] := lv_sub hl [2, 3, 4, 5, 6, 1, 0] rfl
          exact ih15 x1_276 x2_276 x3_276 x4_276 (0 : Int32) (x6_276 + (1 : Int32)) v_276 (Nat.lt_of_lt_of_le hwp.2 (Nat.le_of_lt_succ hμ15)) hwp.1 _ _ hP hD hS ls hl
        · have hwp := hwp.1 hc
          refine lv_aload_n hx hb dL_isAll_279 rfl (lv_at hl 0 rfl) ?_
          refine lv_iload hx hb dL_isAll_280 (lv_at hl 5 rfl) ?_
          refine lv_bipush (v := 6) hx hb dL_isAll_282 (by decide) ?_
          refine gBacki (D := D) (tys := gT cI cC cF cO) (A := A) (wr := []) (w1 := gW cI cC cF cO xa) (va_runV (As := [.int x6_276, .int (6 : Int32)]) (rest := []) ⟨hx, hb, hml, hown, hts⟩ (d_X8_scene l D cI cC cF cO xa v_276 _ (x6_276) ((6 : Int32)) _ hwp) (cwV 2 hts gL_isAll_X8_scene rfl rfl rfl (by decide +kernel) ⟨Nat.le_of_ble_eq_true rfl, Nat.le_of_ble_eq_true rfl⟩) (gPreV (C := RX8) (T := TX8) (N := 9) (ci := 8) hK hX hT hP hD hS hA gI (gI_at cI cC cF cO xa v_276) gI_nd rfl (qb := 0) rfl) rfl rfl hl.1 rfl (lv_room (Nat.le_of_ble_eq_true rfl)) dL_isAll_284 ⟨Nat.le_of_ble_eq_true rfl, Nat.le_of_ble_eq_true rfl⟩) hP hD hS hA gI [] (gI_at cI cC cF cO xa v_276) rfl rfl (fun i h => absurd h List.not_mem_nil) (fun r_19 v_20 H locs hwp hP hD hS => ?_)
          have hP : va_P D vwCl (gW cI cC cF cO xa v_20) H := hP
          have hD : va_D A (gW cI cC cF cO xa v_20) := hD
          refine lv_if_ne (tgt := 294) hx hb dL_isAll_287 (by decide) (fun hc => ?_) (fun hc => ?_)
          · have hwp := hwp.2 hc
            refine lv_iconst (v := 0) hx hb dL_isAll_294 (by decide) ?_
            have hl : lv_has ls 12 [(0, .ref (xa 0)), (1, .int x1_276), (2, .int x2_276), (3, .int x3_276), (4, .int x4_276), (6, .int x6_276), (7, .int x7_276)] := lv_sub hl [0, 1, 2, 3, 4, 5, 6] rfl
            exact hj295 x1_276 x2_276 x3_276 x4_276 x6_276 x7_276 (0 : Int32) v_20 _ _ hwp hP hD hS ls hl
          · have hwp := hwp.1 hc
            refine lv_iconst (v := 1) hx hb dL_isAll_290 (by decide) ?_
            refine lv_goto (tgt := 295) hx hb dL_isAll_291 (by decide) ?_
            have hl : lv_has ls 12 [(0, .ref (xa 0)), (1, .int x1_276), (2, .int x2_276), (3, .int x3_276), (4, .int x4_276), (6, .int x6_276), (7, .int x7_276)] := lv_sub hl [0, 1, 2, 3, 4, 5, 6] rfl
            exact hj295 x1_276 x2_276 x3_276 x4_276 x6_276 x7_276 (1 : Int32) v_20 _ _ hwp hP hD hS ls hl
      have hj266 : ∀ (x1_266 : Int32) (x2_266 : Int32) (x3_266 : Int32) (x4_266 : Int32) (x6_266 : Int32) (x7_266 : Int32) (k0_266 : Int32) (v_266 : VT) (H : Heap) (locs : List Loc), wv_L_isAll_j266 x1_266 x2_266 x3_266 x4_266 x6_266 x7_266 k0_266 v_266 (fun u0 u1 u2 u3 u4 u5 u6 => J15 u0 u1 u2 u3 u4 u5 u6 ∧ μ15 u0 u1 u2 u3 u4 u5 u6 < μ15 x1_15 x2_15 x3_15 x4_15 x5_15 x6_15 v_15) post → va_P D vwCl (gW cI cC cF cO xa v_266) H → va_D A (gW cI cC cF cO xa v_266) → va_S A s.heap H locs → ∀ ls : Array Slot, lv_has ls 12 [(0, .ref (xa 0)), (1, .int x1_266), (2, .int x2_266), (3, .int x3_266), (4, .int x4_266), (6, .int x6_266), (7, .int x7_266)] → W p l e rm_L_isAll s m args below meth c H locs 0 0 Q (F0 m 266 ls [.int k0_266]) := by
        intro x1_266 x2_266 x3_266 x4_266 x6_266 x7_266 k0_266 v_266 H locs hwp hP hD hS ls hl
        unfold wv_L_isAll_j266 at hwp
        refine lv_iload hx hb dL_isAll_266 (lv_at hl 6 rfl) ?_
        refine lv_if_ne (tgt := 275) hx hb dL_isAll_268 (by decide) (fun hc => ?_) (fun hc => ?_)
        · have hwp := hwp.2 hc
          refine lv_iconst (v := 0) hx hb dL_isAll_275 (by decide) ?_
          have hl : lv_has ls 12 [(0, .ref (xa 0)), (1, .int x1_266), (2, .int x2_266), (3, .int x3_266), (4, .int x4_266), (6, .int x6_266), (7, .int x7_266)] := lv_sub hl [0, 1, 2, 3, 4, 5, 6] rfl
          exact hj276 x1_266 x2_266 x3_266 x4_266 x6_266 x7_266 (0 : Int32) k0_266 v_266 _ _ hwp hP hD hS ls hl
        · have hwp := hwp.1 hc
          refine lv_iconst (v := 1) hx hb dL_isAll_271 (by decide) ?_
          refine lv_goto (tgt := 276) hx hb dL_isAll_272 (by decide) ?_
          have hl : lv_has ls 12 [(0, .ref (xa 0)), (1, .int x1_266), (2, .int x2_266), (3, .int x3_266), (4, .int x4_266), (6, .int x6_266), (7, .int x7_266)] := lv_sub hl [0, 1, 2, 3, 4, 5, 6] rfl
          exact hj276 x1_266 x2_266 x3_266 x4_266 x6_266 x7_266 (1 : Int32) k0_266 v_266 _ _ hwp hP hD hS ls hl
      have hj198 : ∀ (x1_198 : Int32) (x2_198 : Int32) (x3_198 : Int32) (x5_198 : Int32) (x6_198 : Int32) (x7_198 : Int32) (x8_198 : Int32) (x9_198 : Int32) (k0_198 : Int32) (k1_198 : Int32) (v_198 : VT) (H : Heap) (locs : List Loc), wv_L_isAll_j198 x1_198 x2_198 x3_198 x5_198 x6_198 x7_198 x8_198 x9_198 k0_198 k1_198 v_198 (fun u0 u1 u2 u3 u4 u5 u6 => J15 u0 u1 u2 u3 u4 u5 u6 ∧ μ15 u0 u1 u2 u3 u4 u5 u6 < μ15 x1_15 x2_15 x3_15 x4_15 x5_15 x6_15 v_15) post → va_P D vwCl (gW cI cC cF cO xa v_198) H → va_D A (gW cI cC cF cO xa v_198) → va_S A s.heap H locs → ∀ ls : Array Slot, lv_has ls 12 [(0, .ref (xa 0)), (1, .int x1_198), (2, .int x2_198), (3, .int x3_198), (5, .int x5_198), (6, .int x6_198), (7, .int x7_198), (8, .int x8_198), (9, .int x9_198)] → W p l e rm_L_isAll s m args below meth c H locs 0 0 Q (F0 m 198 ls [.int k0_198, .int k1_198]) := by
        intro x1_198 x2_198 x3_198 x5_198 x6_198 x7_198 x8_198 x9_198 k0_198 k1_198 v_198 H locs hwp hP hD hS ls hl
        unfold wv_L_isAll_j198 at hwp
        refine lv_iadd hx hb dL_isAll_198 ?_
        refine lv_istore (lv' := [(4, .int (k1_198 + k0_198)), (0, .ref (xa 0)), (1, .int x1_198), (2, .int x2_198), (3, .int x3_198), (5, .int x5_198), (6, .int x6_198), (7, .int x7_198), (8, .int x8_198), (9, .int x9_198)]) hx hb dL_isAll_199 hl (by decide) rfl (fun ls hl => ?_)
        refine lv_iload hx hb dL_isAll_201 (lv_at hl 5 rfl) ?_
        refine lv_if_eq (tgt := 348) hx hb dL_isAll_203 (by decide) (fun hc => ?_) (fun hc => ?_)
        · have hwp := hwp.1 hc
          refine lv_iconst (v := 0) hx hb dL_isAll_348 (by decide) ?_
          refine lv_istore (lv' := [(5, .int (0 : Int32)), (4, .int (k1_198 + k0_198)), (0, .ref (xa 0)), (1, .int x1_198), (2, .int x2_198), (3, .int x3_198), (6, .int x6_198), (7, .int x7_198), (8, .int x8_198), (9, .int x9_198)]) hx hb dL_isAll_349 hl (by decide) rfl (fun ls hl => ?_)
          refine lv_iinc (v := (x6_198 + (1 : Int32))) (lv' := [(6, .int (x6_198 + (1 : Int32))), (5, .int (0 : Int32)), (4, .int (k1_198 + k0_198)), (0, .ref (xa 0)), (1, .int x1_198), (2, .int x2_198), (3, .int x3_198), (7, .int x7_198), (8, .int x8_198), (9, .int x9_198)]) hx hb dL_isAll_351 hl (k := 6) rfl rfl (by decide) rfl (fun ls hl => ?_)
          refine lv_goto (tgt := 15) hx hb dL_isAll_354 (by decide) ?_
          have hl : lv_has ls 12 [(0, .ref (xa 0)), (1, .int x1_198), (2, .int x2_198), (3, .int x3_198), (4, .int (k1_198 + k0_198)), (5, .int (0 : Int32)), (6, .int (x6_198 + (1 : Int32)))] := lv_sub hl [3, 4, 5, 6, 2, 1, 0] rfl
          exact ih15 x1_198 x2_198 x3_198 (k1_198 + k0_198) (0 : Int32) (x6_198 + (1 : Int32)) v_198 (Nat.lt_of_lt_of_le hwp.2 (Nat.le_of_lt_succ hμ15)) hwp.1 _ _ hP hD hS ls hl
        · have hwp := hwp.2 hc
          refine lv_iload hx hb dL_isAll_206 (lv_at hl 7 rfl) ?_
          refine lv_bipush (v := 6) hx hb dL_isAll_208 (by decide) ?_
          refine lv_icmp_gt (tgt := 348) hx hb dL_isAll_210 (by decide) (fun hc => ?_) (fun hc => ?_)
          · have hwp := hwp.1 hc
            refine lv_iconst (v := 0) hx hb dL_isAll_348 (by decide) ?_
            refine lv_istore (lv' := [(5, .int (0 : Int32)), (4, .int (k1_198 + k0_198)), (0, .ref (xa 0)), (1, .int x1_198), (2, .int x2_198), (3, .int x3_198), (6, .int x6_198), (7, .int x7_198), (8, .int x8_198), (9, .int x9_198)]) hx hb dL_isAll_349 hl (by decide) rfl (fun ls hl => ?_)
            refine lv_iinc (v := (x6_198 + (1 : Int32))) (lv' := [(6, .int (x6_198 + (1 : Int32))), (5, .int (0 : Int32)), (4, .int (k1_198 + k0_198)), (0, .ref (xa 0)), (1, .int x1_198), (2, .int x2_198), (3, .int x3_198), (7, .int x7_198), (8, .int x8_198), (9, .int x9_198)]) hx hb dL_isAll_351 hl (k := 6) rfl rfl (by decide) rfl (fun ls hl => ?_)
            refine lv_goto (tgt := 15) hx hb dL_isAll_354 (by decide) ?_
            have hl : lv_has ls 12 [(0, .ref (xa 0)), (1, .int x1_198), (2, .int x2_198), (3, .int x3_198), (4, .int (k1_198 + k0_198)), (5, .int (0 : Int32)), (6, .int (x6_198 + (1 : Int32)))] := lv_sub hl [3, 4, 5, 6, 2, 1, 0] rfl
            exact ih15 x1_198 x2_198 x3_198 (k1_198 + k0_198) (0 : Int32) (x6_198 + (1 : Int32)) v_198 (Nat.lt_of_lt_of_le hwp.2 (Nat.le_of_lt_succ hμ15)) hwp.1 _ _ hP hD hS ls hl
          · have hwp := hwp.2 hc
            refine lv_aload_n hx hb dL_isAll_213 rfl (lv_at hl 1 rfl) ?_
            refine lv_iload hx hb dL_isAll_214 (lv_at hl 6 rfl) ?_
            refine lv_iload hx hb dL_isAll_216 (lv_at hl 7 rfl) ?_
            refine gBacki (D := D) (tys := gT cI cC cF cO) (A := A) (wr := []) (w1 := gW cI cC cF cO xa) (va_runV (As := [.int x6_198, .int x7_198]) (rest := []) ⟨hx, hb, hml, hown, hts⟩ (d_X8_at l D cI cC cF cO xa v_198 _ (x6_198) (x7_198) _ hwp) (cwV 2 hts gL_isAll_X8_at rfl rfl rfl (by decide +kernel) ⟨Nat.le_of_ble_eq_true rfl, Nat.le_of_ble_eq_true rfl⟩) (gPreV (C := RX8) (T := TX8) (N := 9) (ci := 8) hK hX hT hP hD hS hA gI (gI_at cI cC cF cO xa v_198) gI_nd rfl (qb := 0) rfl) rfl rfl hl.1 rfl (lv_room (Nat.le_of_ble_eq_true rfl)) dL_isAll_218 ⟨Nat.le_of_ble_eq_true rfl, Nat.le_of_ble_eq_true rfl⟩) hP hD hS hA gI [] (gI_at cI cC cF cO xa v_198) rfl rfl (fun i h => absurd h List.not_mem_nil) (fun r_21 v_22 H locs hwp hP hD hS => ?_)
            have hP : va_P D vwCl (gW cI cC cF cO xa v_22) H := hP
            have hD : va_D A (gW cI cC cF cO xa v_22) := hD
            refine lv_bipush (v := -5) hx hb dL_isAll_221 (by decide) ?_
            refine lv_icmp_ne (tgt := 348) hx hb dL_isAll_223 (by decide) (fun hc => ?_) (fun hc => ?_)
            · have hwp := hwp.2 hc
              refine lv_iconst (v := 0) hx hb dL_isAll_348 (by decide) ?_
              refine lv_istore (lv' := [(5, .int (0 : Int32)), (4, .int (k1_198 + k0_198)), (0, .ref (xa 0)), (1, .int x1_198), (2, .int x2_198), (3, .int x3_198), (6, .int x6_198), (7, .int x7_198), (8, .int x8_198), (9, .int x9_198)]) hx hb dL_isAll_349 hl (by decide) rfl (fun ls hl => ?_)
              refine lv_iinc (v := (x6_198 + (1 : Int32))) (lv' := [(6, .int (x6_198 + (1 : Int32))), (5, .int (0 : Int32)), (4, .int (k1_198 + k0_198)), (0, .ref (xa 0)), (1, .int x1_198), (2, .int x2_198), (3, .int x3_198), (7, .int x7_198), (8, .int x8_198), (9, .int x9_198)]) hx hb dL_isAll_351 hl (k := 6) rfl rfl (by decide) rfl (fun ls hl => ?_)
              refine lv_goto (tgt := 15) hx hb dL_isAll_354 (by decide) ?_
              have hl : lv_has ls 12 [(0, .ref (xa 0)), (1, .int x1_198), (2, .int x2_198), (3, .int x3_198), (4, .int (k1_198 + k0_198)), (5, .int (0 : Int32)), (6, .int (x6_198 + (1 : Int32)))] := lv_sub hl [3, 4, 5, 6, 2, 1, 0] rfl
              exact ih15 x1_198 x2_198 x3_198 (k1_198 + k0_198) (0 : Int32) (x6_198 + (1 : Int32)) v_22 (Nat.lt_of_lt_of_le hwp.2 (Nat.le_of_lt_succ hμ15)) hwp.1 _ _ hP hD hS ls hl
            · have hwp := hwp.1 hc
              refine lv_iload hx hb dL_isAll_226 (lv_at hl 8 rfl) ?_
              refine lv_aload_n hx hb dL_isAll_228 rfl (lv_at hl 1 rfl) ?_
              refine lv_iload hx hb dL_isAll_229 (lv_at hl 6 rfl) ?_
              refine lv_iconst (v := 2) hx hb dL_isAll_231 (by decide) ?_
              refine gBacki (D := D) (tys := gT cI cC cF cO) (A := A) (wr := []) (w1 := gW cI cC cF cO xa) (va_runV (As := [.int x6_198, .int (2 : Int32)]) (rest := [.int x8_198]) ⟨hx, hb, hml, hown, hts⟩ (d_X8_scene l D cI cC cF cO xa v_22 _ (x6_198) ((2 : Int32)) _ hwp) (cwV 2 hts gL_isAll_X8_scene rfl rfl rfl (by decide +kernel) ⟨Nat.le_of_ble_eq_true rfl, Nat.le_of_ble_eq_true rfl⟩) (gPreV (C := RX8) (T := TX8) (N := 9) (ci := 8) hK hX hT hP hD hS hA gI (gI_at cI cC cF cO xa v_22) gI_nd rfl (qb := 0) rfl) rfl rfl hl.1 rfl (lv_room (Nat.le_of_ble_eq_true rfl)) dL_isAll_232 ⟨Nat.le_of_ble_eq_true rfl, Nat.le_of_ble_eq_true rfl⟩) hP hD hS hA gI [] (gI_at cI cC cF cO xa v_22) rfl rfl (fun i h => absurd h List.not_mem_nil) (fun r_23 v_24 H locs hwp hP hD hS => ?_)
              have hP : va_P D vwCl (gW cI cC cF cO xa v_24) H := hP
              have hD : va_D A (gW cI cC cF cO xa v_24) := hD
              refine lv_icmp_ne (tgt := 348) hx hb dL_isAll_235 (by decide) (fun hc => ?_) (fun hc => ?_)
              · have hwp := hwp.2 hc
                refine lv_iconst (v := 0) hx hb dL_isAll_348 (by decide) ?_
                refine lv_istore (lv' := [(5, .int (0 : Int32)), (4, .int (k1_198 + k0_198)), (0, .ref (xa 0)), (1, .int x1_198), (2, .int x2_198), (3, .int x3_198), (6, .int x6_198), (7, .int x7_198), (8, .int x8_198), (9, .int x9_198)]) hx hb dL_isAll_349 hl (by decide) rfl (fun ls hl => ?_)
                refine lv_iinc (v := (x6_198 + (1 : Int32))) (lv' := [(6, .int (x6_198 + (1 : Int32))), (5, .int (0 : Int32)), (4, .int (k1_198 + k0_198)), (0, .ref (xa 0)), (1, .int x1_198), (2, .int x2_198), (3, .int x3_198), (7, .int x7_198), (8, .int x8_198), (9, .int x9_198)]) hx hb dL_isAll_351 hl (k := 6) rfl rfl (by decide) rfl (fun ls hl => ?_)
                refine lv_goto (tgt := 15) hx hb dL_isAll_354 (by decide) ?_
                have hl : lv_has ls 12 [(0, .ref (xa 0)), (1, .int x1_198), (2, .int x2_198), (3, .int x3_198), (4, .int (k1_198 + k0_198)), (5, .int (0 : Int32)), (6, .int (x6_198 + (1 : Int32)))] := lv_sub hl [3, 4, 5, 6, 2, 1, 0] rfl
                exact ih15 x1_198 x2_198 x3_198 (k1_198 + k0_198) (0 : Int32) (x6_198 + (1 : Int32)) v_24 (Nat.lt_of_lt_of_le hwp.2 (Nat.le_of_lt_succ hμ15)) hwp.1 _ _ hP hD hS ls hl
              · have hwp := hwp.1 hc
                refine lv_iload hx hb dL_isAll_238 (lv_at hl 9 rfl) ?_
                refine lv_aload_n hx hb dL_isAll_240 rfl (lv_at hl 1 rfl) ?_
                refine lv_iload hx hb dL_isAll_241 (lv_at hl 6 rfl) ?_
                refine lv_iconst (v := 5) hx hb dL_isAll_243 (by decide) ?_
                refine gBacki (D := D) (tys := gT cI cC cF cO) (A := A) (wr := []) (w1 := gW cI cC cF cO xa) (va_runV (As := [.int x6_198, .int (5 : Int32)]) (rest := [.int x9_198]) ⟨hx, hb, hml, hown, hts⟩ (d_X8_scene l D cI cC cF cO xa v_24 _ (x6_198) ((5 : Int32)) _ hwp) (cwV 2 hts gL_isAll_X8_scene rfl rfl rfl (by decide +kernel) ⟨Nat.le_of_ble_eq_true rfl, Nat.le_of_ble_eq_true rfl⟩) (gPreV (C := RX8) (T := TX8) (N := 9) (ci := 8) hK hX hT hP hD hS hA gI (gI_at cI cC cF cO xa v_24) gI_nd rfl (qb := 0) rfl) rfl rfl hl.1 rfl (lv_room (Nat.le_of_ble_eq_true rfl)) dL_isAll_244 ⟨Nat.le_of_ble_eq_true rfl, Nat.le_of_ble_eq_true rfl⟩) hP hD hS hA gI [] (gI_at cI cC cF cO xa v_24) rfl rfl (fun i h => absurd h List.not_mem_nil) (fun r_25 v_26 H locs hwp hP hD hS => ?_)
                have hP : va_P D vwCl (gW cI cC cF cO xa v_26) H := hP
                have hD : va_D A (gW cI cC cF cO xa v_26) := hD
                refine lv_icmp_ne (tgt := 348) hx hb dL_isAll_247 (by decide) (fun hc => ?_) (fun hc => ?_)
                · have hwp := hwp.2 hc
                  refine lv_iconst (v := 0) hx hb dL_isAll_348 (by decide) ?_
                  refine lv_istore (lv' := [(5, .int (0 : Int32)), (4, .int (k1_198 + k0_198)), (0, .ref (xa 0)), (1, .int x1_198), (2, .int x2_198), (3, .int x3_198), (6, .int x6_198), (7, .int x7_198), (8, .int x8_198), (9, .int x9_198)]) hx hb dL_isAll_349 hl (by decide) rfl (fun ls hl => ?_)
                  refine lv_iinc (v := (x6_198 + (1 : Int32))) (lv' := [(6, .int (x6_198 + (1 : Int32))), (5, .int (0 : Int32)), (4, .int (k1_198 + k0_198)), (0, .ref (xa 0)), (1, .int x1_198), (2, .int x2_198), (3, .int x3_198), (7, .int x7_198), (8, .int x8_198), (9, .int x9_198)]) hx hb dL_isAll_351 hl (k := 6) rfl rfl (by decide) rfl (fun ls hl => ?_)
                  refine lv_goto (tgt := 15) hx hb dL_isAll_354 (by decide) ?_
                  have hl : lv_has ls 12 [(0, .ref (xa 0)), (1, .int x1_198), (2, .int x2_198), (3, .int x3_198), (4, .int (k1_198 + k0_198)), (5, .int (0 : Int32)), (6, .int (x6_198 + (1 : Int32)))] := lv_sub hl [3, 4, 5, 6, 2, 1, 0] rfl
                  exact ih15 x1_198 x2_198 x3_198 (k1_198 + k0_198) (0 : Int32) (x6_198 + (1 : Int32)) v_26 (Nat.lt_of_lt_of_le hwp.2 (Nat.le_of_lt_succ hμ15)) hwp.1 _ _ hP hD hS ls hl
                · have hwp := hwp.1 hc
                  refine lv_aload_n hx hb dL_isAll_250 rfl (lv_at hl 1 rfl) ?_
                  refine lv_iload hx hb dL_isAll_251 (lv_at hl 6 rfl) ?_
                  refine gBackf (D := D) (tys := gT cI cC cF cO) (A := A) (wr := []) (w1 := gW cI cC cF cO xa) (va_runV (As := [.int x6_198]) (rest := []) ⟨hx, hb, hml, hown, hts⟩ (d_X8_tension l D cI cC cF cO xa v_26 _ (x6_198) _ hwp) (cwV 1 hts gL_isAll_X8_tension rfl rfl rfl (by decide +kernel) ⟨Nat.le_of_ble_eq_true rfl, Nat.le_of_ble_eq_true rfl⟩) (gPreV (C := RX8) (T := TX8) (N := 9) (ci := 8) hK hX hT hP hD hS hA gI (gI_at cI cC cF cO xa v_26) gI_nd rfl (qb := 0) rfl) rfl rfl hl.1 rfl (lv_room (Nat.le_of_ble_eq_true rfl)) dL_isAll_253 ⟨Nat.le_of_ble_eq_true rfl, Nat.le_of_ble_eq_true rfl⟩) hP hD hS hA gI [] (gI_at cI cC cF cO xa v_26) rfl rfl (fun i h => absurd h List.not_mem_nil) (fun r_27 v_28 H locs hwp hP hD hS => ?_)
                  have hP : va_P D vwCl (gW cI cC cF cO xa v_28) H := hP
                  have hD : va_D A (gW cI cC cF cO xa v_28) := hD
                  refine lv_fconst0 hx hb dL_isAll_256 ?_
                  refine lv_fcmp hx hb dL_isAll_257 ?_
                  refine lv_if_ge (tgt := 265) hx hb dL_isAll_258 (by decide) (fun hc => ?_) (fun hc => ?_)
                  · have hwp := hwp.1 hc
                    refine lv_iconst (v := 0) hx hb dL_isAll_265 (by decide) ?_
                    have hl : lv_has ls 12 [(0, .ref (xa 0)), (1, .int x1_198), (2, .int x2_198), (3, .int x3_198), (4, .int (k1_198 + k0_198)), (6, .int x6_198), (7, .int x7_198)] := lv_sub hl [1, 2, 3, 4, 0, 6, 7] rfl
                    exact hj266 x1_198 x2_198 x3_198 (k1_198 + k0_198) x6_198 x7_198 (0 : Int32) v_28 _ _ hwp hP hD hS ls hl
                  · have hwp := hwp.2 hc
                    refine lv_iconst (v := 1) hx hb dL_isAll_261 (by decide) ?_
                    refine lv_goto (tgt := 266) hx hb dL_isAll_262 (by decide) ?_
                    have hl : lv_has ls 12 [(0, .ref (xa 0)), (1, .int x1_198), (2, .int x2_198), (3, .int x3_198), (4, .int (k1_198 + k0_198)), (6, .int x6_198), (7, .int x7_198)] := lv_sub hl [1, 2, 3, 4, 0, 6, 7] rfl
                    exact hj266 x1_198 x2_198 x3_198 (k1_198 + k0_198) x6_198 x7_198 (1 : Int32) v_28 _ _ hwp hP hD hS ls hl
      have hj171 : ∀ (x1_171 : Int32) (x2_171 : Int32) (x3_171 : Int32) (x4_171 : Int32) (x5_171 : Int32) (x6_171 : Int32) (x7_171 : Int32) (x8_171 : Int32) (x9_171 : Int32) (v_171 : VT) (H : Heap) (locs : List Loc), wv_L_isAll_j171 x1_171 x2_171 x3_171 x4_171 x5_171 x6_171 x7_171 x8_171 x9_171 v_171 (fun u0 u1 u2 u3 u4 u5 u6 => J15 u0 u1 u2 u3 u4 u5 u6 ∧ μ15 u0 u1 u2 u3 u4 u5 u6 < μ15 x1_15 x2_15 x3_15 x4_15 x5_15 x6_15 v_15) post → va_P D vwCl (gW cI cC cF cO xa v_171) H → va_D A (gW cI cC cF cO xa v_171) → va_S A s.heap H locs → ∀ ls : Array Slot, lv_has ls 12 [(0, .ref (xa 0)), (1, .int x1_171), (2, .int x2_171), (3, .int x3_171), (4, .int x4_171), (5, .int x5_171), (6, .int x6_171), (7, .int x7_171), (8, .int x8_171), (9, .int x9_171)] → W p l e rm_L_isAll s m args below meth c H locs 0 0 Q (F0 m 171 ls []) := by
        intro x1_171 x2_171 x3_171 x4_171 x5_171 x6_171 x7_171 x8_171 x9_171 v_171 H locs hwp hP hD hS ls hl
        unfold wv_L_isAll_j171 at hwp
        refine lv_iload_n hx hb dL_isAll_171 rfl (lv_at hl 3 rfl) ?_
        refine lv_iload hx hb dL_isAll_172 (lv_at hl 9 rfl) ?_
        refine lv_iadd hx hb dL_isAll_174 ?_
        refine lv_istore_n (lv' := [(3, .int (x3_171 + x9_171)), (0, .ref (xa 0)), (1, .int x1_171), (2, .int x2_171), (4, .int x4_171), (5, .int x5_171), (6, .int x6_171), (7, .int x7_171), (8, .int x8_171), (9, .int x9_171)]) hx hb dL_isAll_175 rfl hl (by decide) rfl (fun ls hl => ?_)
        refine lv_iload_n hx hb dL_isAll_176 rfl (lv_at hl 3 rfl) ?_
        refine lv_aload_n hx hb dL_isAll_177 rfl (lv_at hl 1 rfl) ?_
        refine lv_iload hx hb dL_isAll_178 (lv_at hl 6 rfl) ?_
        refine lv_iconst (v := 1) hx hb dL_isAll_180 (by decide) ?_
        refine gBacki (D := D) (tys := gT cI cC cF cO) (A := A) (wr := []) (w1 := gW cI cC cF cO xa) (va_runV (As := [.int x6_171, .int (1 : Int32)]) (rest := [.int x2_171]) ⟨hx, hb, hml, hown, hts⟩ (d_X8_scene l D cI cC cF cO xa v_171 _ (x6_171) ((1 : Int32)) _ hwp) (cwV 2 hts gL_isAll_X8_scene rfl rfl rfl (by decide +kernel) ⟨Nat.le_of_ble_eq_true rfl, Nat.le_of_ble_eq_true rfl⟩) (gPreV (C := RX8) (T := TX8) (N := 9) (ci := 8) hK hX hT hP hD hS hA gI (gI_at cI cC cF cO xa v_171) gI_nd rfl (qb := 0) rfl) rfl rfl hl.1 rfl (lv_room (Nat.le_of_ble_eq_true rfl)) dL_isAll_181 ⟨Nat.le_of_ble_eq_true rfl, Nat.le_of_ble_eq_true rfl⟩) hP hD hS hA gI [] (gI_at cI cC cF cO xa v_171) rfl rfl (fun i h => absurd h List.not_mem_nil) (fun r_29 v_30 H locs hwp hP hD hS => ?_)
        have hP : va_P D vwCl (gW cI cC cF cO xa v_30) H := hP
        have hD : va_D A (gW cI cC cF cO xa v_30) := hD
        refine lv_iadd hx hb dL_isAll_184 ?_
        refine lv_istore_n (lv' := [(2, .int (x2_171 + r_29)), (3, .int (x3_171 + x9_171)), (0, .ref (xa 0)), (1, .int x1_171), (4, .int x4_171), (5, .int x5_171), (6, .int x6_171), (7, .int x7_171), (8, .int x8_171), (9, .int x9_171)]) hx hb dL_isAll_185 rfl hl (by decide) rfl (fun ls hl => ?_)
        refine lv_iload hx hb dL_isAll_186 (lv_at hl 4 rfl) ?_
        refine lv_iload hx hb dL_isAll_188 (lv_at hl 7 rfl) ?_
        refine lv_if_le (tgt := 197) hx hb dL_isAll_190 (by decide) (fun hc => ?_) (fun hc => ?_)
        · have hwp := hwp.1 hc
          refine lv_iconst (v := 0) hx hb dL_isAll_197 (by decide) ?_
          have hl : lv_has ls 12 [(0, .ref (xa 0)), (1, .int x1_171), (2, .int (x2_171 + r_29)), (3, .int (x3_171 + x9_171)), (5, .int x5_171), (6, .int x6_171), (7, .int x7_171), (8, .int x8_171), (9, .int x9_171)] := lv_sub hl [2, 3, 0, 1, 5, 6, 7, 8, 9] rfl
          exact hj198 x1_171 (x2_171 + r_29) (x3_171 + x9_171) x5_171 x6_171 x7_171 x8_171 x9_171 (0 : Int32) x4_171 v_30 _ _ hwp hP hD hS ls hl
        · have hwp := hwp.2 hc
          refine lv_iconst (v := 1) hx hb dL_isAll_193 (by decide) ?_
          refine lv_goto (tgt := 198) hx hb dL_isAll_194 (by decide) ?_
          have hl : lv_has ls 12 [(0, .ref (xa 0)), (1, .int x1_171), (2, .int (x2_171 + r_29)), (3, .int (x3_171 + x9_171)), (5, .int x5_171), (6, .int x6_171), (7, .int x7_171), (8, .int x8_171), (9, .int x9_171)] := lv_sub hl [2, 3, 0, 1, 5, 6, 7, 8, 9] rfl
          exact hj198 x1_171 (x2_171 + r_29) (x3_171 + x9_171) x5_171 x6_171 x7_171 x8_171 x9_171 (1 : Int32) x4_171 v_30 _ _ hwp hP hD hS ls hl
      refine lv_iload hx hb dL_isAll_15 (lv_at hl 6 rfl) ?_
      refine lv_bipush (v := 16) hx hb dL_isAll_17 (by decide) ?_
      refine lv_icmp_ge (tgt := 357) hx hb dL_isAll_19 (by decide) (fun hc => ?_) (fun hc => ?_)
      · have hwp := hwp.1 hc
        refine lv_iconst (v := 0) hx hb dL_isAll_357 (by decide) ?_
        refine lv_istore (lv' := [(6, .int (0 : Int32)), (0, .ref (xa 0)), (1, .int x1_15), (2, .int x2_15), (3, .int x3_15), (4, .int x4_15), (5, .int x5_15)]) hx hb dL_isAll_358 hl (by decide) rfl (fun ls hl => ?_)
        refine lv_iconst (v := 0) hx hb dL_isAll_360 (by decide) ?_
        refine lv_istore (lv' := [(7, .int (0 : Int32)), (6, .int (0 : Int32)), (0, .ref (xa 0)), (1, .int x1_15), (2, .int x2_15), (3, .int x3_15), (4, .int x4_15), (5, .int x5_15)]) hx hb dL_isAll_361 hl (by decide) rfl (fun ls hl => ?_)
        refine lv_iconst (v := 0) hx hb dL_isAll_363 (by decide) ?_
        refine lv_istore (lv' := [(8, .int (0 : Int32)), (7, .int (0 : Int32)), (6, .int (0 : Int32)), (0, .ref (xa 0)), (1, .int x1_15), (2, .int x2_15), (3, .int x3_15), (4, .int x4_15), (5, .int x5_15)]) hx hb dL_isAll_364 hl (by decide) rfl (fun ls hl => ?_)
        have hl : lv_has ls 12 [(0, .ref (xa 0)), (1, .int x1_15), (2, .int x2_15), (3, .int x3_15), (4, .int x4_15), (5, .int x5_15), (6, .int (0 : Int32)), (7, .int (0 : Int32)), (8, .int (0 : Int32))] := lv_sub hl [3, 4, 5, 6, 7, 8, 2, 1, 0] rfl
        unfold wv_L_isAll_l366 at hwp
        obtain ⟨J366, μ366, hJ, hst366⟩ := hwp
        have hL366 : ∀ (n : Nat) (x5_366 : Int32) (x6_366 : Int32) (x7_366 : Int32) (x8_366 : Int32) (v_366 : VT), μ366 x5_366 x6_366 x7_366 x8_366 v_366 < n → J366 x5_366 x6_366 x7_366 x8_366 v_366 → ∀ (H : Heap) (locs : List Loc), va_P D vwCl (gW cI cC cF cO xa v_366) H → va_D A (gW cI cC cF cO xa v_366) → va_S A s.heap H locs → ∀ ls : Array Slot, lv_has ls 12 [(0, .ref (xa 0)), (1, .int x1_15), (2, .int x2_15), (3, .int x3_15), (4, .int x4_15), (5, .int x5_366), (6, .int x6_366), (7, .int x7_366), (8, .int x8_366)] → W p l e rm_L_isAll s m args below meth c H locs 0 0 Q (F0 m 366 ls []) := by
          intro n
          induction n with
          | zero => intro x5_366 x6_366 x7_366 x8_366 v_366 h; exact absurd h (Nat.not_lt_zero _)
          | succ n ih366 =>
            intro x5_366 x6_366 x7_366 x8_366 v_366 hμ366 hJ H locs hP hD hS ls hl
            have hwp := hst366 x5_366 x6_366 x7_366 x8_366 v_366 hJ
            have hj403 : ∀ (x5_403 : Int32) (x7_403 : Int32) (x8_403 : Int32) (k0_403 : Int32) (k1_403 : Int32) (v_403 : VT) (H : Heap) (locs : List Loc), wv_L_isAll_j403 x1_15 x2_15 x3_15 x4_15 x5_403 x7_403 x8_403 k0_403 k1_403 v_403 (fun u0 u1 u2 u3 u4 => J366 u0 u1 u2 u3 u4 ∧ μ366 u0 u1 u2 u3 u4 < μ366 x5_366 x6_366 x7_366 x8_366 v_366) post → va_P D vwCl (gW cI cC cF cO xa v_403) H → va_D A (gW cI cC cF cO xa v_403) → va_S A s.heap H locs → ∀ ls : Array Slot, lv_has ls 12 [(0, .ref (xa 0)), (1, .int x1_15), (2, .int x2_15), (3, .int x3_15), (4, .int x4_15), (5, .int x5_403), (7, .int x7_403), (8, .int x8_403)] → W p l e rm_L_isAll s m args below meth c H locs 0 0 Q (F0 m 403 ls [.int k0_403, .int k1_403]) := by
              intro x5_403 x7_403 x8_403 k0_403 k1_403 v_403 H locs hwp hP hD hS ls hl
              unfold wv_L_isAll_j403 at hwp
              refine lv_iadd hx hb dL_isAll_403 ?_
              refine lv_istore (lv' := [(6, .int (k1_403 + k0_403)), (0, .ref (xa 0)), (1, .int x1_15), (2, .int x2_15), (3, .int x3_15), (4, .int x4_15), (5, .int x5_403), (7, .int x7_403), (8, .int x8_403)]) hx hb dL_isAll_404 hl (by decide) rfl (fun ls hl => ?_)
              refine lv_iload hx hb dL_isAll_406 (lv_at hl 7 rfl) ?_
              refine lv_aload_n hx hb dL_isAll_408 rfl (lv_at hl 1 rfl) ?_
              refine lv_iload hx hb dL_isAll_409 (lv_at hl 8 rfl) ?_
              refine lv_iconst (v := 1) hx hb dL_isAll_411 (by decide) ?_
              refine gBacki (D := D) (tys := gT cI cC cF cO) (A := A) (wr := []) (w1 := gW cI cC cF cO xa) (va_runV (As := [.int x8_403, .int (1 : Int32)]) (rest := [.int x7_403]) ⟨hx, hb, hml, hown, hts⟩ (d_X8_thread l D cI cC cF cO xa v_403 _ (x8_403) ((1 : Int32)) _ hwp) (cwV 2 hts gL_isAll_X8_thread rfl rfl rfl (by decide +kernel) ⟨Nat.le_of_ble_eq_true rfl, Nat.le_of_ble_eq_true rfl⟩) (gPreV (C := RX8) (T := TX8) (N := 9) (ci := 8) hK hX hT hP hD hS hA gI (gI_at cI cC cF cO xa v_403) gI_nd rfl (qb := 0) rfl) rfl rfl hl.1 rfl (lv_room (Nat.le_of_ble_eq_true rfl)) dL_isAll_412 ⟨Nat.le_of_ble_eq_true rfl, Nat.le_of_ble_eq_true rfl⟩) hP hD hS hA gI [] (gI_at cI cC cF cO xa v_403) rfl rfl (fun i h => absurd h List.not_mem_nil) (fun r_31 v_32 H locs hwp hP hD hS => ?_)
              have hP : va_P D vwCl (gW cI cC cF cO xa v_32) H := hP
              have hD : va_D A (gW cI cC cF cO xa v_32) := hD
              refine lv_iadd hx hb dL_isAll_415 ?_
              refine lv_istore (lv' := [(7, .int (x7_403 + r_31)), (6, .int (k1_403 + k0_403)), (0, .ref (xa 0)), (1, .int x1_15), (2, .int x2_15), (3, .int x3_15), (4, .int x4_15), (5, .int x5_403), (8, .int x8_403)]) hx hb dL_isAll_416 hl (by decide) rfl (fun ls hl => ?_)
              refine lv_iinc (v := (x8_403 + (1 : Int32))) (lv' := [(8, .int (x8_403 + (1 : Int32))), (7, .int (x7_403 + r_31)), (6, .int (k1_403 + k0_403)), (0, .ref (xa 0)), (1, .int x1_15), (2, .int x2_15), (3, .int x3_15), (4, .int x4_15), (5, .int x5_403)]) hx hb dL_isAll_418 hl (k := 8) rfl rfl (by decide) rfl (fun ls hl => ?_)
              refine lv_goto (tgt := 366) hx hb dL_isAll_421 (by decide) ?_
              have hl : lv_has ls 12 [(0, .ref (xa 0)), (1, .int x1_15), (2, .int x2_15), (3, .int x3_15), (4, .int x4_15), (5, .int x5_403), (6, .int (k1_403 + k0_403)), (7, .int (x7_403 + r_31)), (8, .int (x8_403 + (1 : Int32)))] := lv_sub hl [3, 4, 5, 6, 7, 8, 2, 1, 0] rfl
              exact ih366 x5_403 (k1_403 + k0_403) (x7_403 + r_31) (x8_403 + (1 : Int32)) v_32 (Nat.lt_of_lt_of_le hwp.2 (Nat.le_of_lt_succ hμ366)) hwp.1 _ _ hP hD hS ls hl
            refine lv_iload hx hb dL_isAll_366 (lv_at hl 8 rfl) ?_
            refine lv_bipush (v := 6) hx hb dL_isAll_368 (by decide) ?_
            refine lv_icmp_ge (tgt := 424) hx hb dL_isAll_370 (by decide) (fun hc => ?_) (fun hc => ?_)
            · have hwp := hwp.1 hc
              have hl : lv_has ls 12 [(0, .ref (xa 0)), (1, .int x1_15), (2, .int x2_15), (3, .int x3_15), (4, .int x4_15), (5, .int x5_366), (6, .int x6_366), (7, .int x7_366)] := lv_sub hl [0, 1, 2, 3, 4, 5, 6, 7] rfl
              exact hj424 x1_15 x2_15 x3_15 x4_15 x5_366 x6_366 x7_366 v_366 _ _ hwp hP hD hS ls hl
            · have hwp := hwp.2 hc
              refine lv_iload hx hb dL_isAll_373 (lv_at hl 5 rfl) ?_
              refine lv_if_eq (tgt := 424) hx hb dL_isAll_375 (by decide) (fun hc => ?_) (fun hc => ?_)
              · have hwp := hwp.1 hc
                have hl : lv_has ls 12 [(0, .ref (xa 0)), (1, .int x1_15), (2, .int x2_15), (3, .int x3_15), (4, .int x4_15), (5, .int x5_366), (6, .int x6_366), (7, .int x7_366)] := lv_sub hl [0, 1, 2, 3, 4, 5, 6, 7] rfl
                exact hj424 x1_15 x2_15 x3_15 x4_15 x5_366 x6_366 x7_366 v_366 _ _ hwp hP hD hS ls hl
              · have hwp := hwp.2 hc
                refine lv_aload_n hx hb dL_isAll_378 rfl (lv_at hl 0 rfl) ?_
                refine lv_iload hx hb dL_isAll_379 (lv_at hl 8 rfl) ?_
                refine gBacki (D := D) (tys := gT cI cC cF cO) (A := A) (wr := []) (w1 := gW cI cC cF cO xa) (va_runS (As := [.ref (xa 0), .int x8_366]) (rest := []) ⟨hx, hb, hml, hown, hts⟩ (c_L_isThread l D cI cC cF cO xa v_366 _ (x8_366) _ hwp) (va_cwS 2 hts gL_isAll_L_isThread rfl rfl rfl (by decide +kernel) ⟨Nat.le_of_ble_eq_true rfl, Nat.le_of_ble_eq_true rfl⟩) (gPreS hK hX hT hP hD hS hA gI (gI_at cI cC cF cO xa v_366) gI_nd) rfl rfl hl.1 rfl (lv_room (Nat.le_of_ble_eq_true rfl)) dL_isAll_381 ⟨Nat.le_of_ble_eq_true rfl, Nat.le_of_ble_eq_true rfl⟩) hP hD hS hA gI [] (gI_at cI cC cF cO xa v_366) rfl rfl (fun i h => absurd h List.not_mem_nil) (fun r_33 v_34 H locs hwp hP hD hS => ?_)
                have hP : va_P D vwCl (gW cI cC cF cO xa v_34) H := hP
                have hD : va_D A (gW cI cC cF cO xa v_34) := hD
                refine lv_istore (lv' := [(5, .int r_33), (0, .ref (xa 0)), (1, .int x1_15), (2, .int x2_15), (3, .int x3_15), (4, .int x4_15), (6, .int x6_366), (7, .int x7_366), (8, .int x8_366)]) hx hb dL_isAll_384 hl (by decide) rfl (fun ls hl => ?_)
                refine lv_iload hx hb dL_isAll_386 (lv_at hl 6 rfl) ?_
                refine lv_aload_n hx hb dL_isAll_388 rfl (lv_at hl 1 rfl) ?_
                refine lv_iload hx hb dL_isAll_389 (lv_at hl 8 rfl) ?_
                refine lv_iconst (v := 3) hx hb dL_isAll_391 (by decide) ?_
                refine gBacki (D := D) (tys := gT cI cC cF cO) (A := A) (wr := []) (w1 := gW cI cC cF cO xa) (va_runV (As := [.int x8_366, .int (3 : Int32)]) (rest := [.int x6_366]) ⟨hx, hb, hml, hown, hts⟩ (d_X8_thread l D cI cC cF cO xa v_34 _ (x8_366) ((3 : Int32)) _ hwp) (cwV 2 hts gL_isAll_X8_thread rfl rfl rfl (by decide +kernel) ⟨Nat.le_of_ble_eq_true rfl, Nat.le_of_ble_eq_true rfl⟩) (gPreV (C := RX8) (T := TX8) (N := 9) (ci := 8) hK hX hT hP hD hS hA gI (gI_at cI cC cF cO xa v_34) gI_nd rfl (qb := 0) rfl) rfl rfl hl.1 rfl (lv_room (Nat.le_of_ble_eq_true rfl)) dL_isAll_392 ⟨Nat.le_of_ble_eq_true rfl, Nat.le_of_ble_eq_true rfl⟩) hP hD hS hA gI [] (gI_at cI cC cF cO xa v_34) rfl rfl (fun i h => absurd h List.not_mem_nil) (fun r_35 v_36 H locs hwp hP hD hS => ?_)
                have hP : va_P D vwCl (gW cI cC cF cO xa v_36) H := hP
                have hD : va_D A (gW cI cC cF cO xa v_36) := hD
                refine lv_if_ne (tgt := 402) hx hb dL_isAll_395 (by decide) (fun hc => ?_) (fun hc => ?_)
                · have hwp := hwp.2 hc
                  refine lv_iconst (v := 0) hx hb dL_isAll_402 (by decide) ?_
                  have hl : lv_has ls 12 [(0, .ref (xa 0)), (1, .int x1_15), (2, .int x2_15), (3, .int x3_15), (4, .int x4_15), (5, .int r_33), (7, .int x7_366), (8, .int x8_366)] := lv_sub hl [1, 2, 3, 4, 5, 0, 7, 8] rfl
                  exact hj403 r_33 x7_366 x8_366 (0 : Int32) x6_366 v_36 _ _ hwp hP hD hS ls hl
                · have hwp := hwp.1 hc
                  refine lv_iconst (v := 1) hx hb dL_isAll_398 (by decide) ?_
                  refine lv_goto (tgt := 403) hx hb dL_isAll_399 (by decide) ?_
                  have hl : lv_has ls 12 [(0, .ref (xa 0)), (1, .int x1_15), (2, .int x2_15), (3, .int x3_15), (4, .int x4_15), (5, .int r_33), (7, .int x7_366), (8, .int x8_366)] := lv_sub hl [1, 2, 3, 4, 5, 0, 7, 8] rfl
                  exact hj403 r_33 x7_366 x8_366 (1 : Int32) x6_366 v_36 _ _ hwp hP hD hS ls hl
        exact hL366 _ x5_15 (0 : Int32) (0 : Int32) (0 : Int32) v_15 (Nat.lt_succ_self _) hJ _ _ hP hD hS ls hl
      · have hwp := hwp.2 hc
        refine lv_iload hx hb dL_isAll_22 (lv_at hl 5 rfl) ?_
        refine lv_if_eq (tgt := 357) hx hb dL_isAll_24 (by decide) (fun hc => ?_) (fun hc => ?_)
        · have hwp := hwp.1 hc
          refine lv_iconst (v := 0) hx hb dL_isAll_357 (by decide) ?_
          refine lv_istore (lv' := [(6, .int (0 : Int32)), (0, .ref (xa 0)), (1, .int x1_15), (2, .int x2_15), (3, .int x3_15), (4, .int x4_15), (5, .int x5_15)]) hx hb dL_isAll_358 hl (by decide) rfl (fun ls hl => ?_)
          refine lv_iconst (v := 0) hx hb dL_isAll_360 (by decide) ?_
          refine lv_istore (lv' := [(7, .int (0 : Int32)), (6, .int (0 : Int32)), (0, .ref (xa 0)), (1, .int x1_15), (2, .int x2_15), (3, .int x3_15), (4, .int x4_15), (5, .int x5_15)]) hx hb dL_isAll_361 hl (by decide) rfl (fun ls hl => ?_)
          refine lv_iconst (v := 0) hx hb dL_isAll_363 (by decide) ?_
          refine lv_istore (lv' := [(8, .int (0 : Int32)), (7, .int (0 : Int32)), (6, .int (0 : Int32)), (0, .ref (xa 0)), (1, .int x1_15), (2, .int x2_15), (3, .int x3_15), (4, .int x4_15), (5, .int x5_15)]) hx hb dL_isAll_364 hl (by decide) rfl (fun ls hl => ?_)
          have hl : lv_has ls 12 [(0, .ref (xa 0)), (1, .int x1_15), (2, .int x2_15), (3, .int x3_15), (4, .int x4_15), (5, .int x5_15), (6, .int (0 : Int32)), (7, .int (0 : Int32)), (8, .int (0 : Int32))] := lv_sub hl [3, 4, 5, 6, 7, 8, 2, 1, 0] rfl
          unfold wv_L_isAll_l366 at hwp
          obtain ⟨J366, μ366, hJ, hst366⟩ := hwp
          have hL366 : ∀ (n : Nat) (x5_366 : Int32) (x6_366 : Int32) (x7_366 : Int32) (x8_366 : Int32) (v_366 : VT), μ366 x5_366 x6_366 x7_366 x8_366 v_366 < n → J366 x5_366 x6_366 x7_366 x8_366 v_366 → ∀ (H : Heap) (locs : List Loc), va_P D vwCl (gW cI cC cF cO xa v_366) H → va_D A (gW cI cC cF cO xa v_366) → va_S A s.heap H locs → ∀ ls : Array Slot, lv_has ls 12 [(0, .ref (xa 0)), (1, .int x1_15), (2, .int x2_15), (3, .int x3_15), (4, .int x4_15), (5, .int x5_366), (6, .int x6_366), (7, .int x7_366), (8, .int x8_366)] → W p l e rm_L_isAll s m args below meth c H locs 0 0 Q (F0 m 366 ls []) := by
            intro n
            induction n with
            | zero => intro x5_366 x6_366 x7_366 x8_366 v_366 h; exact absurd h (Nat.not_lt_zero _)
            | succ n ih366 =>
              intro x5_366 x6_366 x7_366 x8_366 v_366 hμ366 hJ H locs hP hD hS ls hl
              have hwp := hst366 x5_366 x6_366 x7_366 x8_366 v_366 hJ
              have hj403 : ∀ (x5_403 : Int32) (x7_403 : Int32) (x8_403 : Int32) (k0_403 : Int32) (k1_403 : Int32) (v_403 : VT) (H : Heap) (locs : List Loc), wv_L_isAll_j403 x1_15 x2_15 x3_15 x4_15 x5_403 x7_403 x8_403 k0_403 k1_403 v_403 (fun u0 u1 u2 u3 u4 => J366 u0 u1 u2 u3 u4 ∧ μ366 u0 u1 u2 u3 u4 < μ366 x5_366 x6_366 x7_366 x8_366 v_366) post → va_P D vwCl (gW cI cC cF cO xa v_403) H → va_D A (gW cI cC cF cO xa v_403) → va_S A s.heap H locs → ∀ ls : Array Slot, lv_has ls 12 [(0, .ref (xa 0)), (1, .int x1_15), (2, .int x2_15), (3, .int x3_15), (4, .int x4_15), (5, .int x5_403), (7, .int x7_403), (8, .int x8_403)] → W p l e rm_L_isAll s m args below meth c H locs 0 0 Q (F0 m 403 ls [.int k0_403, .int k1_403]) := by
                intro x5_403 x7_403 x8_403 k0_403 k1_403 v_403 H locs hwp hP hD hS ls hl
                unfold wv_L_isAll_j403 at hwp
                refine lv_iadd hx hb dL_isAll_403 ?_
                refine lv_istore (lv' := [(6, .int (k1_403 + k0_403)), (0, .ref (xa 0)), (1, .int x1_15), (2, .int x2_15), (3, .int x3_15), (4, .int x4_15), (5, .int x5_403), (7, .int x7_403), (8, .int x8_403)]) hx hb dL_isAll_404 hl (by decide) rfl (fun ls hl => ?_)
                refine lv_iload hx hb dL_isAll_406 (lv_at hl 7 rfl) ?_
                refine lv_aload_n hx hb dL_isAll_408 rfl (lv_at hl 1 rfl) ?_
                refine lv_iload hx hb dL_isAll_409 (lv_at hl 8 rfl) ?_
                refine lv_iconst (v := 1) hx hb dL_isAll_411 (by decide) ?_
                refine gBacki (D := D) (tys := gT cI cC cF cO) (A := A) (wr := []) (w1 := gW cI cC cF cO xa) (va_runV (As := [.int x8_403, .int (1 : Int32)]) (rest := [.int x7_403]) ⟨hx, hb, hml, hown, hts⟩ (d_X8_thread l D cI cC cF cO xa v_403 _ (x8_403) ((1 : Int32)) _ hwp) (cwV 2 hts gL_isAll_X8_thread rfl rfl rfl (by decide +kernel) ⟨Nat.le_of_ble_eq_true rfl, Nat.le_of_ble_eq_true rfl⟩) (gPreV (C := RX8) (T := TX8) (N := 9) (ci := 8) hK hX hT hP hD hS hA gI (gI_at cI cC cF cO xa v_403) gI_nd rfl (qb := 0) rfl) rfl rfl hl.1 rfl (lv_room (Nat.le_of_ble_eq_true rfl)) dL_isAll_412 ⟨Nat.le_of_ble_eq_true rfl, Nat.le_of_ble_eq_true rfl⟩) hP hD hS hA gI [] (gI_at cI cC cF cO xa v_403) rfl rfl (fun i h => absurd h List.not_mem_nil) (fun r_37 v_38 H locs hwp hP hD hS => ?_)
                have hP : va_P D vwCl (gW cI cC cF cO xa v_38) H := hP
                have hD : va_D A (gW cI cC cF cO xa v_38) := hD
                refine lv_iadd hx hb dL_isAll_415 ?_
                refine lv_istore (lv' := [(7, .int (x7_403 + r_37)), (6, .int (k1_403 + k0_403)), (0, .ref (xa 0)), (1, .int x1_15), (2, .int x2_15), (3, .int x3_15), (4, .int x4_15), (5, .int x5_403), (8, .int x8_403)]) hx hb dL_isAll_416 hl (by decide) rfl (fun ls hl => ?_)
                refine lv_iinc (v := (x8_403 + (1 : Int32))) (lv' := [(8, .int (x8_403 + (1 : Int32))), (7, .int (x7_403 + r_37)), (6, .int (k1_403 + k0_403)), (0, .ref (xa 0)), (1, .int x1_15), (2, .int x2_15), (3, .int x3_15), (4, .int x4_15), (5, .int x5_403)]) hx hb dL_isAll_418 hl (k := 8) rfl rfl (by decide) rfl (fun ls hl => ?_)
                refine lv_goto (tgt := 366) hx hb dL_isAll_421 (by decide) ?_
                have hl : lv_has ls 12 [(0, .ref (xa 0)), (1, .int x1_15), (2, .int x2_15), (3, .int x3_15), (4, .int x4_15), (5, .int x5_403), (6, .int (k1_403 + k0_403)), (7, .int (x7_403 + r_37)), (8, .int (x8_403 + (1 : Int32)))] := lv_sub hl [3, 4, 5, 6, 7, 8, 2, 1, 0] rfl
                exact ih366 x5_403 (k1_403 + k0_403) (x7_403 + r_37) (x8_403 + (1 : Int32)) v_38 (Nat.lt_of_lt_of_le hwp.2 (Nat.le_of_lt_succ hμ366)) hwp.1 _ _ hP hD hS ls hl
              refine lv_iload hx hb dL_isAll_366 (lv_at hl 8 rfl) ?_
              refine lv_bipush (v := 6) hx hb dL_isAll_368 (by decide) ?_
              refine lv_icmp_ge (tgt := 424) hx hb dL_isAll_370 (by decide) (fun hc => ?_) (fun hc => ?_)
              · have hwp := hwp.1 hc
                have hl : lv_has ls 12 [(0, .ref (xa 0)), (1, .int x1_15), (2, .int x2_15), (3, .int x3_15), (4, .int x4_15), (5, .int x5_366), (6, .int x6_366), (7, .int x7_366)] := lv_sub hl [0, 1, 2, 3, 4, 5, 6, 7] rfl
                exact hj424 x1_15 x2_15 x3_15 x4_15 x5_366 x6_366 x7_366 v_366 _ _ hwp hP hD hS ls hl
              · have hwp := hwp.2 hc
                refine lv_iload hx hb dL_isAll_373 (lv_at hl 5 rfl) ?_
                refine lv_if_eq (tgt := 424) hx hb dL_isAll_375 (by decide) (fun hc => ?_) (fun hc => ?_)
                · have hwp := hwp.1 hc
                  have hl : lv_has ls 12 [(0, .ref (xa 0)), (1, .int x1_15), (2, .int x2_15), (3, .int x3_15), (4, .int x4_15), (5, .int x5_366), (6, .int x6_366), (7, .int x7_366)] := lv_sub hl [0, 1, 2, 3, 4, 5, 6, 7] rfl
                  exact hj424 x1_15 x2_15 x3_15 x4_15 x5_366 x6_366 x7_366 v_366 _ _ hwp hP hD hS ls hl
                · have hwp := hwp.2 hc
                  refine lv_aload_n hx hb dL_isAll_378 rfl (lv_at hl 0 rfl) ?_
                  refine lv_iload hx hb dL_isAll_379 (lv_at hl 8 rfl) ?_
                  refine gBacki (D := D) (tys := gT cI cC cF cO) (A := A) (wr := []) (w1 := gW cI cC cF cO xa) (va_runS (As := [.ref (xa 0), .int x8_366]) (rest := []) ⟨hx, hb, hml, hown, hts⟩ (c_L_isThread l D cI cC cF cO xa v_366 _ (x8_366) _ hwp) (va_cwS 2 hts gL_isAll_L_isThread rfl rfl rfl (by decide +kernel) ⟨Nat.le_of_ble_eq_true rfl, Nat.le_of_ble_eq_true rfl⟩) (gPreS hK hX hT hP hD hS hA gI (gI_at cI cC cF cO xa v_366) gI_nd) rfl rfl hl.1 rfl (lv_room (Nat.le_of_ble_eq_true rfl)) dL_isAll_381 ⟨Nat.le_of_ble_eq_true rfl, Nat.le_of_ble_eq_true rfl⟩) hP hD hS hA gI [] (gI_at cI cC cF cO xa v_366) rfl rfl (fun i h => absurd h List.not_mem_nil) (fun r_39 v_40 H locs hwp hP hD hS => ?_)
                  have hP : va_P D vwCl (gW cI cC cF cO xa v_40) H := hP
                  have hD : va_D A (gW cI cC cF cO xa v_40) := hD
                  refine lv_istore (lv' := [(5, .int r_39), (0, .ref (xa 0)), (1, .int x1_15), (2, .int x2_15), (3, .int x3_15), (4, .int x4_15), (6, .int x6_366), (7, .int x7_366), (8, .int x8_366)]) hx hb dL_isAll_384 hl (by decide) rfl (fun ls hl => ?_)
                  refine lv_iload hx hb dL_isAll_386 (lv_at hl 6 rfl) ?_
                  refine lv_aload_n hx hb dL_isAll_388 rfl (lv_at hl 1 rfl) ?_
                  refine lv_iload hx hb dL_isAll_389 (lv_at hl 8 rfl) ?_
                  refine lv_iconst (v := 3) hx hb dL_isAll_391 (by decide) ?_
                  refine gBacki (D := D) (tys := gT cI cC cF cO) (A := A) (wr := []) (w1 := gW cI cC cF cO xa) (va_runV (As := [.int x8_366, .int (3 : Int32)]) (rest := [.int x6_366]) ⟨hx, hb, hml, hown, hts⟩ (d_X8_thread l D cI cC cF cO xa v_40 _ (x8_366) ((3 : Int32)) _ hwp) (cwV 2 hts gL_isAll_X8_thread rfl rfl rfl (by decide +kernel) ⟨Nat.le_of_ble_eq_true rfl, Nat.le_of_ble_eq_true rfl⟩) (gPreV (C := RX8) (T := TX8) (N := 9) (ci := 8) hK hX hT hP hD hS hA gI (gI_at cI cC cF cO xa v_40) gI_nd rfl (qb := 0) rfl) rfl rfl hl.1 rfl (lv_room (Nat.le_of_ble_eq_true rfl)) dL_isAll_392 ⟨Nat.le_of_ble_eq_true rfl, Nat.le_of_ble_eq_true rfl⟩) hP hD hS hA gI [] (gI_at cI cC cF cO xa v_40) rfl rfl (fun i h => absurd h List.not_mem_nil) (fun r_41 v_42 H locs hwp hP hD hS => ?_)
                  have hP : va_P D vwCl (gW cI cC cF cO xa v_42) H := hP
                  have hD : va_D A (gW cI cC cF cO xa v_42) := hD
                  refine lv_if_ne (tgt := 402) hx hb dL_isAll_395 (by decide) (fun hc => ?_) (fun hc => ?_)
                  · have hwp := hwp.2 hc
                    refine lv_iconst (v := 0) hx hb dL_isAll_402 (by decide) ?_
                    have hl : lv_has ls 12 [(0, .ref (xa 0)), (1, .int x1_15), (2, .int x2_15), (3, .int x3_15), (4, .int x4_15), (5, .int r_39), (7, .int x7_366), (8, .int x8_366)] := lv_sub hl [1, 2, 3, 4, 5, 0, 7, 8] rfl
                    exact hj403 r_39 x7_366 x8_366 (0 : Int32) x6_366 v_42 _ _ hwp hP hD hS ls hl
                  · have hwp := hwp.1 hc
                    refine lv_iconst (v := 1) hx hb dL_isAll_398 (by decide) ?_
                    refine lv_goto (tgt := 403) hx hb dL_isAll_399 (by decide) ?_
                    have hl : lv_has ls 12 [(0, .ref (xa 0)), (1, .int x1_15), (2, .int x2_15), (3, .int x3_15), (4, .int x4_15), (5, .int r_39), (7, .int x7_366), (8, .int x8_366)] := lv_sub hl [1, 2, 3, 4, 5, 0, 7, 8] rfl
                    exact hj403 r_39 x7_366 x8_366 (1 : Int32) x6_366 v_42 _ _ hwp hP hD hS ls hl
          exact hL366 _ x5_15 (0 : Int32) (0 : Int32) (0 : Int32) v_15 (Nat.lt_succ_self _) hJ _ _ hP hD hS ls hl
        · have hwp := hwp.2 hc
          refine lv_aload_n hx hb dL_isAll_27 rfl (lv_at hl 0 rfl) ?_
          refine lv_iload hx hb dL_isAll_28 (lv_at hl 6 rfl) ?_
          refine lv_iconst (v := 0) hx hb dL_isAll_30 (by decide) ?_
          refine gBacki (D := D) (tys := gT cI cC cF cO) (A := A) (wr := []) (w1 := gW cI cC cF cO xa) (va_runV (As := [.int x6_15, .int (0 : Int32)]) (rest := []) ⟨hx, hb, hml, hown, hts⟩ (d_X8_scene l D cI cC cF cO xa v_15 _ (x6_15) ((0 : Int32)) _ hwp) (cwV 2 hts gL_isAll_X8_scene rfl rfl rfl (by decide +kernel) ⟨Nat.le_of_ble_eq_true rfl, Nat.le_of_ble_eq_true rfl⟩) (gPreV (C := RX8) (T := TX8) (N := 9) (ci := 8) hK hX hT hP hD hS hA gI (gI_at cI cC cF cO xa v_15) gI_nd rfl (qb := 0) rfl) rfl rfl hl.1 rfl (lv_room (Nat.le_of_ble_eq_true rfl)) dL_isAll_31 ⟨Nat.le_of_ble_eq_true rfl, Nat.le_of_ble_eq_true rfl⟩) hP hD hS hA gI [] (gI_at cI cC cF cO xa v_15) rfl rfl (fun i h => absurd h List.not_mem_nil) (fun r_43 v_44 H locs hwp hP hD hS => ?_)
          have hP : va_P D vwCl (gW cI cC cF cO xa v_44) H := hP
          have hD : va_D A (gW cI cC cF cO xa v_44) := hD
          refine lv_istore (lv' := [(7, .int r_43), (0, .ref (xa 0)), (1, .int x1_15), (2, .int x2_15), (3, .int x3_15), (4, .int x4_15), (5, .int x5_15), (6, .int x6_15)]) hx hb dL_isAll_34 hl (by decide) rfl (fun ls hl => ?_)
          refine lv_iconst (v := 0) hx hb dL_isAll_36 (by decide) ?_
          refine lv_istore (lv' := [(8, .int (0 : Int32)), (7, .int r_43), (0, .ref (xa 0)), (1, .int x1_15), (2, .int x2_15), (3, .int x3_15), (4, .int x4_15), (5, .int x5_15), (6, .int x6_15)]) hx hb dL_isAll_37 hl (by decide) rfl (fun ls hl => ?_)
          refine lv_iconst (v := 0) hx hb dL_isAll_39 (by decide) ?_
          refine lv_istore (lv' := [(9, .int (0 : Int32)), (8, .int (0 : Int32)), (7, .int r_43), (0, .ref (xa 0)), (1, .int x1_15), (2, .int x2_15), (3, .int x3_15), (4, .int x4_15), (5, .int x5_15), (6, .int x6_15)]) hx hb dL_isAll_40 hl (by decide) rfl (fun ls hl => ?_)
          refine lv_iconst (v := 0) hx hb dL_isAll_42 (by decide) ?_
          refine lv_istore (lv' := [(10, .int (0 : Int32)), (9, .int (0 : Int32)), (8, .int (0 : Int32)), (7, .int r_43), (0, .ref (xa 0)), (1, .int x1_15), (2, .int x2_15), (3, .int x3_15), (4, .int x4_15), (5, .int x5_15), (6, .int x6_15)]) hx hb dL_isAll_43 hl (by decide) rfl (fun ls hl => ?_)
          have hl : lv_has ls 12 [(0, .ref (xa 0)), (1, .int x1_15), (2, .int x2_15), (3, .int x3_15), (4, .int x4_15), (5, .int x5_15), (6, .int x6_15), (7, .int r_43), (8, .int (0 : Int32)), (9, .int (0 : Int32)), (10, .int (0 : Int32))] := lv_sub hl [4, 5, 6, 7, 8, 9, 10, 3, 2, 1, 0] rfl
          unfold wv_L_isAll_l45 at hwp
          obtain ⟨J45, μ45, hJ, hst45⟩ := hwp
          have hL45 : ∀ (n : Nat) (x1_45 : Int32) (x5_45 : Int32) (x8_45 : Int32) (x9_45 : Int32) (x10_45 : Int32) (v_45 : VT), μ45 x1_45 x5_45 x8_45 x9_45 x10_45 v_45 < n → J45 x1_45 x5_45 x8_45 x9_45 x10_45 v_45 → ∀ (H : Heap) (locs : List Loc), va_P D vwCl (gW cI cC cF cO xa v_45) H → va_D A (gW cI cC cF cO xa v_45) → va_S A s.heap H locs → ∀ ls : Array Slot, lv_has ls 12 [(0, .ref (xa 0)), (1, .int x1_45), (2, .int x2_15), (3, .int x3_15), (4, .int x4_15), (5, .int x5_45), (6, .int x6_15), (7, .int r_43), (8, .int x8_45), (9, .int x9_45), (10, .int x10_45)] → W p l e rm_L_isAll s m args below meth c H locs 0 0 Q (F0 m 45 ls []) := by
            intro n
            induction n with
            | zero => intro x1_45 x5_45 x8_45 x9_45 x10_45 v_45 h; exact absurd h (Nat.not_lt_zero _)
            | succ n ih45 =>
              intro x1_45 x5_45 x8_45 x9_45 x10_45 v_45 hμ45 hJ H locs hP hD hS ls hl
              have hwp := hst45 x1_45 x5_45 x8_45 x9_45 x10_45 v_45 hJ
              have hj133 : ∀ (x1_133 : Int32) (x8_133 : Int32) (x9_133 : Int32) (x10_133 : Int32) (x11_133 : Int32) (k0_133 : Int32) (v_133 : VT) (H : Heap) (locs : List Loc), wv_L_isAll_j133 x1_133 x2_15 x3_15 x4_15 x6_15 r_43 x8_133 x9_133 x10_133 x11_133 k0_133 v_133 (fun u0 u1 u2 u3 u4 u5 u6 => J15 u0 u1 u2 u3 u4 u5 u6 ∧ μ15 u0 u1 u2 u3 u4 u5 u6 < μ15 x1_15 x2_15 x3_15 x4_15 x5_15 x6_15 v_15) (fun u0 u1 u2 u3 u4 u5 => J45 u0 u1 u2 u3 u4 u5 ∧ μ45 u0 u1 u2 u3 u4 u5 < μ45 x1_45 x5_45 x8_45 x9_45 x10_45 v_45) post → va_P D vwCl (gW cI cC cF cO xa v_133) H → va_D A (gW cI cC cF cO xa v_133) → va_S A s.heap H locs → ∀ ls : Array Slot, lv_has ls 12 [(0, .ref (xa 0)), (1, .int x1_133), (2, .int x2_15), (3, .int x3_15), (4, .int x4_15), (6, .int x6_15), (7, .int r_43), (8, .int x8_133), (9, .int x9_133), (10, .int x10_133), (11, .int x11_133)] → W p l e rm_L_isAll s m args below meth c H locs 0 0 Q (F0 m 133 ls [.int k0_133]) := by
                intro x1_133 x8_133 x9_133 x10_133 x11_133 k0_133 v_133 H locs hwp hP hD hS ls hl
                unfold wv_L_isAll_j133 at hwp
                refine lv_istore (lv' := [(5, .int k0_133), (0, .ref (xa 0)), (1, .int x1_133), (2, .int x2_15), (3, .int x3_15), (4, .int x4_15), (6, .int x6_15), (7, .int r_43), (8, .int x8_133), (9, .int x9_133), (10, .int x10_133), (11, .int x11_133)]) hx hb dL_isAll_133 hl (by decide) rfl (fun ls hl => ?_)
                refine lv_iinc (v := (x1_133 + (1 : Int32))) (lv' := [(1, .int (x1_133 + (1 : Int32))), (5, .int k0_133), (0, .ref (xa 0)), (2, .int x2_15), (3, .int x3_15), (4, .int x4_15), (6, .int x6_15), (7, .int r_43), (8, .int x8_133), (9, .int x9_133), (10, .int x10_133), (11, .int x11_133)]) hx hb dL_isAll_135 hl (k := 2) rfl rfl (by decide) rfl (fun ls hl => ?_)
                refine lv_iload hx hb dL_isAll_138 (lv_at hl 8 rfl) ?_
                refine lv_iconst (v := 1) hx hb dL_isAll_140 (by decide) ?_
                refine lv_aload_n hx hb dL_isAll_141 rfl (lv_at hl 2 rfl) ?_
                refine lv_iload hx hb dL_isAll_142 (lv_at hl 11 rfl) ?_
                refine lv_iconst (v := 0) hx hb dL_isAll_144 (by decide) ?_
                refine gBacki (D := D) (tys := gT cI cC cF cO) (A := A) (wr := []) (w1 := gW cI cC cF cO xa) (va_runV (As := [.int x11_133, .int (0 : Int32)]) (rest := [.int (1 : Int32), .int x8_133]) ⟨hx, hb, hml, hown, hts⟩ (d_X8_card l D cI cC cF cO xa v_133 _ (x11_133) ((0 : Int32)) _ hwp) (cwV 2 hts gL_isAll_X8_card rfl rfl rfl (by decide +kernel) ⟨Nat.le_of_ble_eq_true rfl, Nat.le_of_ble_eq_true rfl⟩) (gPreV (C := RX8) (T := TX8) (N := 9) (ci := 8) hK hX hT hP hD hS hA gI (gI_at cI cC cF cO xa v_133) gI_nd rfl (qb := 0) rfl) rfl rfl hl.1 rfl (lv_room (Nat.le_of_ble_eq_true rfl)) dL_isAll_145 ⟨Nat.le_of_ble_eq_true rfl, Nat.le_of_ble_eq_true rfl⟩) hP hD hS hA gI [] (gI_at cI cC cF cO xa v_133) rfl rfl (fun i h => absurd h List.not_mem_nil) (fun r_45 v_46 H locs hwp hP hD hS => ?_)
                have hP : va_P D vwCl (gW cI cC cF cO xa v_46) H := hP
                have hD : va_D A (gW cI cC cF cO xa v_46) := hD
                refine lv_ishl hx hb dL_isAll_148 ?_
                refine lv_ior hx hb dL_isAll_149 ?_
                refine lv_istore (lv' := [(8, .int (x8_133 ||| ((1 : Int32) <<< (r_45 &&& 31)))), (1, .int (x1_133 + (1 : Int32))), (5, .int k0_133), (0, .ref (xa 0)), (2, .int x2_15), (3, .int x3_15), (4, .int x4_15), (6, .int x6_15), (7, .int r_43), (9, .int x9_133), (10, .int x10_133), (11, .int x11_133)]) hx hb dL_isAll_150 hl (by decide) rfl (fun ls hl => ?_)
                refine lv_iload hx hb dL_isAll_152 (lv_at hl 9 rfl) ?_
                refine lv_aload_n hx hb dL_isAll_154 rfl (lv_at hl 3 rfl) ?_
                refine lv_iload hx hb dL_isAll_155 (lv_at hl 11 rfl) ?_
                refine lv_bipush (v := 7) hx hb dL_isAll_157 (by decide) ?_
                refine gBacki (D := D) (tys := gT cI cC cF cO) (A := A) (wr := []) (w1 := gW cI cC cF cO xa) (va_runV (As := [.int x11_133, .int (7 : Int32)]) (rest := [.int x9_133]) ⟨hx, hb, hml, hown, hts⟩ (d_X8_card l D cI cC cF cO xa v_46 _ (x11_133) ((7 : Int32)) _ hwp) (cwV 2 hts gL_isAll_X8_card rfl rfl rfl (by decide +kernel) ⟨Nat.le_of_ble_eq_true rfl, Nat.le_of_ble_eq_true rfl⟩) (gPreV (C := RX8) (T := TX8) (N := 9) (ci := 8) hK hX hT hP hD hS hA gI (gI_at cI cC cF cO xa v_46) gI_nd rfl (qb := 0) rfl) rfl rfl hl.1 rfl (lv_room (Nat.le_of_ble_eq_true rfl)) dL_isAll_159 ⟨Nat.le_of_ble_eq_true rfl, Nat.le_of_ble_eq_true rfl⟩) hP hD hS hA gI [] (gI_at cI cC cF cO xa v_46) rfl rfl (fun i h => absurd h List.not_mem_nil) (fun r_47 v_48 H locs hwp hP hD hS => ?_)
                have hP : va_P D vwCl (gW cI cC cF cO xa v_48) H := hP
                have hD : va_D A (gW cI cC cF cO xa v_48) := hD
                refine lv_iadd hx hb dL_isAll_162 ?_
                refine lv_istore (lv' := [(9, .int (x9_133 + r_47)), (8, .int (x8_133 ||| ((1 : Int32) <<< (r_45 &&& 31)))), (1, .int (x1_133 + (1 : Int32))), (5, .int k0_133), (0, .ref (xa 0)), (2, .int x2_15), (3, .int x3_15), (4, .int x4_15), (6, .int x6_15), (7, .int r_43), (10, .int x10_133), (11, .int x11_133)]) hx hb dL_isAll_163 hl (by decide) rfl (fun ls hl => ?_)
                refine lv_iinc (v := (x10_133 + (1 : Int32))) (lv' := [(10, .int (x10_133 + (1 : Int32))), (9, .int (x9_133 + r_47)), (8, .int (x8_133 ||| ((1 : Int32) <<< (r_45 &&& 31)))), (1, .int (x1_133 + (1 : Int32))), (5, .int k0_133), (0, .ref (xa 0)), (2, .int x2_15), (3, .int x3_15), (4, .int x4_15), (6, .int x6_15), (7, .int r_43), (11, .int x11_133)]) hx hb dL_isAll_165 hl (k := 10) rfl rfl (by decide) rfl (fun ls hl => ?_)
                refine lv_goto (tgt := 45) hx hb dL_isAll_168 (by decide) ?_
                have hl : lv_has ls 12 [(0, .ref (xa 0)), (1, .int (x1_133 + (1 : Int32))), (2, .int x2_15), (3, .int x3_15), (4, .int x4_15), (5, .int k0_133), (6, .int x6_15), (7, .int r_43), (8, .int (x8_133 ||| ((1 : Int32) <<< (r_45 &&& 31)))), (9, .int (x9_133 + r_47)), (10, .int (x10_133 + (1 : Int32)))] := lv_sub hl [5, 3, 6, 7, 8, 4, 9, 10, 2, 1, 0] rfl
                exact ih45 (x1_133 + (1 : Int32)) k0_133 (x8_133 ||| ((1 : Int32) <<< (r_45 &&& 31))) (x9_133 + r_47) (x10_133 + (1 : Int32)) v_48 (Nat.lt_of_lt_of_le hwp.2 (Nat.le_of_lt_succ hμ45)) hwp.1 _ _ hP hD hS ls hl
              have hj132 : ∀ (x1_132 : Int32) (x8_132 : Int32) (x9_132 : Int32) (x10_132 : Int32) (x11_132 : Int32) (v_132 : VT) (H : Heap) (locs : List Loc), wv_L_isAll_j132 x1_132 x2_15 x3_15 x4_15 x6_15 r_43 x8_132 x9_132 x10_132 x11_132 v_132 (fun u0 u1 u2 u3 u4 u5 u6 => J15 u0 u1 u2 u3 u4 u5 u6 ∧ μ15 u0 u1 u2 u3 u4 u5 u6 < μ15 x1_15 x2_15 x3_15 x4_15 x5_15 x6_15 v_15) (fun u0 u1 u2 u3 u4 u5 => J45 u0 u1 u2 u3 u4 u5 ∧ μ45 u0 u1 u2 u3 u4 u5 < μ45 x1_45 x5_45 x8_45 x9_45 x10_45 v_45) post → va_P D vwCl (gW cI cC cF cO xa v_132) H → va_D A (gW cI cC cF cO xa v_132) → va_S A s.heap H locs → ∀ ls : Array Slot, lv_has ls 12 [(0, .ref (xa 0)), (1, .int x1_132), (2, .int x2_15), (3, .int x3_15), (4, .int x4_15), (6, .int x6_15), (7, .int r_43), (8, .int x8_132), (9, .int x9_132), (10, .int x10_132), (11, .int x11_132)] → W p l e rm_L_isAll s m args below meth c H locs 0 0 Q (F0 m 132 ls []) := by
                intro x1_132 x8_132 x9_132 x10_132 x11_132 v_132 H locs hwp hP hD hS ls hl
                unfold wv_L_isAll_j132 at hwp
                refine lv_iconst (v := 0) hx hb dL_isAll_132 (by decide) ?_
                have hl : lv_has ls 12 [(0, .ref (xa 0)), (1, .int x1_132), (2, .int x2_15), (3, .int x3_15), (4, .int x4_15), (6, .int x6_15), (7, .int r_43), (8, .int x8_132), (9, .int x9_132), (10, .int x10_132), (11, .int x11_132)] := lv_sub hl [0, 1, 2, 3, 4, 5, 6, 7, 8, 9, 10] rfl
                exact hj133 x1_132 x8_132 x9_132 x10_132 x11_132 (0 : Int32) v_132 _ _ hwp hP hD hS ls hl
              have hj128 : ∀ (x1_128 : Int32) (x8_128 : Int32) (x9_128 : Int32) (x10_128 : Int32) (x11_128 : Int32) (v_128 : VT) (H : Heap) (locs : List Loc), wv_L_isAll_j128 x1_128 x2_15 x3_15 x4_15 x6_15 r_43 x8_128 x9_128 x10_128 x11_128 v_128 (fun u0 u1 u2 u3 u4 u5 u6 => J15 u0 u1 u2 u3 u4 u5 u6 ∧ μ15 u0 u1 u2 u3 u4 u5 u6 < μ15 x1_15 x2_15 x3_15 x4_15 x5_15 x6_15 v_15) (fun u0 u1 u2 u3 u4 u5 => J45 u0 u1 u2 u3 u4 u5 ∧ μ45 u0 u1 u2 u3 u4 u5 < μ45 x1_45 x5_45 x8_45 x9_45 x10_45 v_45) post → va_P D vwCl (gW cI cC cF cO xa v_128) H → va_D A (gW cI cC cF cO xa v_128) → va_S A s.heap H locs → ∀ ls : Array Slot, lv_has ls 12 [(0, .ref (xa 0)), (1, .int x1_128), (2, .int x2_15), (3, .int x3_15), (4, .int x4_15), (6, .int x6_15), (7, .int r_43), (8, .int x8_128), (9, .int x9_128), (10, .int x10_128), (11, .int x11_128)] → W p l e rm_L_isAll s m args below meth c H locs 0 0 Q (F0 m 128 ls []) := by
                intro x1_128 x8_128 x9_128 x10_128 x11_128 v_128 H locs hwp hP hD hS ls hl
                unfold wv_L_isAll_j128 at hwp
                refine lv_iconst (v := 1) hx hb dL_isAll_128 (by decide) ?_
                refine lv_goto (tgt := 133) hx hb dL_isAll_129 (by decide) ?_
                have hl : lv_has ls 12 [(0, .ref (xa 0)), (1, .int x1_128), (2, .int x2_15), (3, .int x3_15), (4, .int x4_15), (6, .int x6_15), (7, .int r_43), (8, .int x8_128), (9, .int x9_128), (10, .int x10_128), (11, .int x11_128)] := lv_sub hl [0, 1, 2, 3, 4, 5, 6, 7, 8, 9, 10] rfl
                exact hj133 x1_128 x8_128 x9_128 x10_128 x11_128 (1 : Int32) v_128 _ _ hwp hP hD hS ls hl
              refine lv_iload hx hb dL_isAll_45 (lv_at hl 10 rfl) ?_
              refine lv_iload hx hb dL_isAll_47 (lv_at hl 7 rfl) ?_
              refine lv_icmp_ge (tgt := 171) hx hb dL_isAll_49 (by decide) (fun hc => ?_) (fun hc => ?_)
              · have hwp := hwp.1 hc
                have hl : lv_has ls 12 [(0, .ref (xa 0)), (1, .int x1_45), (2, .int x2_15), (3, .int x3_15), (4, .int x4_15), (5, .int x5_45), (6, .int x6_15), (7, .int r_43), (8, .int x8_45), (9, .int x9_45)] := lv_sub hl [0, 1, 2, 3, 4, 5, 6, 7, 8, 9] rfl
                exact hj171 x1_45 x2_15 x3_15 x4_15 x5_45 x6_15 r_43 x8_45 x9_45 v_45 _ _ hwp hP hD hS ls hl
              · have hwp := hwp.2 hc
                refine lv_iload hx hb dL_isAll_52 (lv_at hl 5 rfl) ?_
                refine lv_if_eq (tgt := 171) hx hb dL_isAll_54 (by decide) (fun hc => ?_) (fun hc => ?_)
                · have hwp := hwp.1 hc
                  have hl : lv_has ls 12 [(0, .ref (xa 0)), (1, .int x1_45), (2, .int x2_15), (3, .int x3_15), (4, .int x4_15), (5, .int x5_45), (6, .int x6_15), (7, .int r_43), (8, .int x8_45), (9, .int x9_45)] := lv_sub hl [0, 1, 2, 3, 4, 5, 6, 7, 8, 9] rfl
                  exact hj171 x1_45 x2_15 x3_15 x4_15 x5_45 x6_15 r_43 x8_45 x9_45 v_45 _ _ hwp hP hD hS ls hl
                · have hwp := hwp.2 hc
                  refine lv_aload_n hx hb dL_isAll_57 rfl (lv_at hl 0 rfl) ?_
                  refine lv_iload hx hb dL_isAll_58 (lv_at hl 6 rfl) ?_
                  refine lv_iload hx hb dL_isAll_60 (lv_at hl 10 rfl) ?_
                  refine gBacki (D := D) (tys := gT cI cC cF cO) (A := A) (wr := []) (w1 := gW cI cC cF cO xa) (va_runV (As := [.int x6_15, .int x10_45]) (rest := []) ⟨hx, hb, hml, hown, hts⟩ (d_X8_at l D cI cC cF cO xa v_45 _ (x6_15) (x10_45) _ hwp) (cwV 2 hts gL_isAll_X8_at rfl rfl rfl (by decide +kernel) ⟨Nat.le_of_ble_eq_true rfl, Nat.le_of_ble_eq_true rfl⟩) (gPreV (C := RX8) (T := TX8) (N := 9) (ci := 8) hK hX hT hP hD hS hA gI (gI_at cI cC cF cO xa v_45) gI_nd rfl (qb := 0) rfl) rfl rfl hl.1 rfl (lv_room (Nat.le_of_ble_eq_true rfl)) dL_isAll_62 ⟨Nat.le_of_ble_eq_true rfl, Nat.le_of_ble_eq_true rfl⟩) hP hD hS hA gI [] (gI_at cI cC cF cO xa v_45) rfl rfl (fun i h => absurd h List.not_mem_nil) (fun r_49 v_50 H locs hwp hP hD hS => ?_)
                  have hP : va_P D vwCl (gW cI cC cF cO xa v_50) H := hP
                  have hD : va_D A (gW cI cC cF cO xa v_50) := hD
                  refine lv_istore (lv' := [(11, .int r_49), (0, .ref (xa 0)), (1, .int x1_45), (2, .int x2_15), (3, .int x3_15), (4, .int x4_15), (5, .int x5_45), (6, .int x6_15), (7, .int r_43), (8, .int x8_45), (9, .int x9_45), (10, .int x10_45)]) hx hb dL_isAll_65 hl (by decide) rfl (fun ls hl => ?_)
                  refine lv_aload_n hx hb dL_isAll_67 rfl (lv_at hl 1 rfl) ?_
                  refine lv_iload hx hb dL_isAll_68 (lv_at hl 0 rfl) ?_
                  refine lv_iconst (v := 5) hx hb dL_isAll_70 (by decide) ?_
                  refine gBacki (D := D) (tys := gT cI cC cF cO) (A := A) (wr := []) (w1 := gW cI cC cF cO xa) (va_runV (As := [.int r_49, .int (5 : Int32)]) (rest := []) ⟨hx, hb, hml, hown, hts⟩ (d_X8_card l D cI cC cF cO xa v_50 _ (r_49) ((5 : Int32)) _ hwp) (cwV 2 hts gL_isAll_X8_card rfl rfl rfl (by decide +kernel) ⟨Nat.le_of_ble_eq_true rfl, Nat.le_of_ble_eq_true rfl⟩) (gPreV (C := RX8) (T := TX8) (N := 9) (ci := 8) hK hX hT hP hD hS hA gI (gI_at cI cC cF cO xa v_50) gI_nd rfl (qb := 0) rfl) rfl rfl hl.1 rfl (lv_room (Nat.le_of_ble_eq_true rfl)) dL_isAll_71 ⟨Nat.le_of_ble_eq_true rfl, Nat.le_of_ble_eq_true rfl⟩) hP hD hS hA gI [] (gI_at cI cC cF cO xa v_50) rfl rfl (fun i h => absurd h List.not_mem_nil) (fun r_51 v_52 H locs hwp hP hD hS => ?_)
                  have hP : va_P D vwCl (gW cI cC cF cO xa v_52) H := hP
                  have hD : va_D A (gW cI cC cF cO xa v_52) := hD
                  refine lv_iload hx hb dL_isAll_74 (lv_at hl 7 rfl) ?_
                  refine lv_icmp_ne (tgt := 132) hx hb dL_isAll_76 (by decide) (fun hc => ?_) (fun hc => ?_)
                  · have hwp := hwp.2 hc
                    have hl : lv_has ls 12 [(0, .ref (xa 0)), (1, .int x1_45), (2, .int x2_15), (3, .int x3_15), (4, .int x4_15), (6, .int x6_15), (7, .int r_43), (8, .int x8_45), (9, .int x9_45), (10, .int x10_45), (11, .int r_49)] := lv_sub hl [1, 2, 3, 4, 5, 7, 8, 9, 10, 11, 0] rfl
                    exact hj132 x1_45 x8_45 x9_45 x10_45 r_49 v_52 _ _ hwp hP hD hS ls hl
                  · have hwp := hwp.1 hc
                    refine lv_aload_n hx hb dL_isAll_79 rfl (lv_at hl 1 rfl) ?_
                    refine lv_iload hx hb dL_isAll_80 (lv_at hl 0 rfl) ?_
                    refine lv_bipush (v := 6) hx hb dL_isAll_82 (by decide) ?_
                    refine gBacki (D := D) (tys := gT cI cC cF cO) (A := A) (wr := []) (w1 := gW cI cC cF cO xa) (va_runV (As := [.int r_49, .int (6 : Int32)]) (rest := []) ⟨hx, hb, hml, hown, hts⟩ (d_X8_card l D cI cC cF cO xa v_52 _ (r_49) ((6 : Int32)) _ hwp) (cwV 2 hts gL_isAll_X8_card rfl rfl rfl (by decide +kernel) ⟨Nat.le_of_ble_eq_true rfl, Nat.le_of_ble_eq_true rfl⟩) (gPreV (C := RX8) (T := TX8) (N := 9) (ci := 8) hK hX hT hP hD hS hA gI (gI_at cI cC cF cO xa v_52) gI_nd rfl (qb := 0) rfl) rfl rfl hl.1 rfl (lv_room (Nat.le_of_ble_eq_true rfl)) dL_isAll_84 ⟨Nat.le_of_ble_eq_true rfl, Nat.le_of_ble_eq_true rfl⟩) hP hD hS hA gI [] (gI_at cI cC cF cO xa v_52) rfl rfl (fun i h => absurd h List.not_mem_nil) (fun r_53 v_54 H locs hwp hP hD hS => ?_)
                    have hP : va_P D vwCl (gW cI cC cF cO xa v_54) H := hP
                    have hD : va_D A (gW cI cC cF cO xa v_54) := hD
                    refine lv_iload hx hb dL_isAll_87 (lv_at hl 11 rfl) ?_
                    refine lv_icmp_ne (tgt := 132) hx hb dL_isAll_89 (by decide) (fun hc => ?_) (fun hc => ?_)
                    · have hwp := hwp.2 hc
                      have hl : lv_has ls 12 [(0, .ref (xa 0)), (1, .int x1_45), (2, .int x2_15), (3, .int x3_15), (4, .int x4_15), (6, .int x6_15), (7, .int r_43), (8, .int x8_45), (9, .int x9_45), (10, .int x10_45), (11, .int r_49)] := lv_sub hl [1, 2, 3, 4, 5, 7, 8, 9, 10, 11, 0] rfl
                      exact hj132 x1_45 x8_45 x9_45 x10_45 r_49 v_54 _ _ hwp hP hD hS ls hl
                    · have hwp := hwp.1 hc
                      refine lv_aload_n hx hb dL_isAll_92 rfl (lv_at hl 1 rfl) ?_
                      refine lv_iload hx hb dL_isAll_93 (lv_at hl 0 rfl) ?_
                      refine lv_bipush (v := 8) hx hb dL_isAll_95 (by decide) ?_
                      refine gBacki (D := D) (tys := gT cI cC cF cO) (A := A) (wr := []) (w1 := gW cI cC cF cO xa) (va_runV (As := [.int r_49, .int (8 : Int32)]) (rest := []) ⟨hx, hb, hml, hown, hts⟩ (d_X8_card l D cI cC cF cO xa v_54 _ (r_49) ((8 : Int32)) _ hwp) (cwV 2 hts gL_isAll_X8_card rfl rfl rfl (by decide +kernel) ⟨Nat.le_of_ble_eq_true rfl, Nat.le_of_ble_eq_true rfl⟩) (gPreV (C := RX8) (T := TX8) (N := 9) (ci := 8) hK hX hT hP hD hS hA gI (gI_at cI cC cF cO xa v_54) gI_nd rfl (qb := 0) rfl) rfl rfl hl.1 rfl (lv_room (Nat.le_of_ble_eq_true rfl)) dL_isAll_97 ⟨Nat.le_of_ble_eq_true rfl, Nat.le_of_ble_eq_true rfl⟩) hP hD hS hA gI [] (gI_at cI cC cF cO xa v_54) rfl rfl (fun i h => absurd h List.not_mem_nil) (fun r_55 v_56 H locs hwp hP hD hS => ?_)
                      have hP : va_P D vwCl (gW cI cC cF cO xa v_56) H := hP
                      have hD : va_D A (gW cI cC cF cO xa v_56) := hD
                      refine lv_iload_n hx hb dL_isAll_100 rfl (lv_at hl 2 rfl) ?_
                      refine lv_icmp_ne (tgt := 132) hx hb dL_isAll_101 (by decide) (fun hc => ?_) (fun hc => ?_)
                      · have hwp := hwp.2 hc
                        have hl : lv_has ls 12 [(0, .ref (xa 0)), (1, .int x1_45), (2, .int x2_15), (3, .int x3_15), (4, .int x4_15), (6, .int x6_15), (7, .int r_43), (8, .int x8_45), (9, .int x9_45), (10, .int x10_45), (11, .int r_49)] := lv_sub hl [1, 2, 3, 4, 5, 7, 8, 9, 10, 11, 0] rfl
                        exact hj132 x1_45 x8_45 x9_45 x10_45 r_49 v_56 _ _ hwp hP hD hS ls hl
                      · have hwp := hwp.1 hc
                        refine lv_aload_n hx hb dL_isAll_104 rfl (lv_at hl 1 rfl) ?_
                        refine lv_iload hx hb dL_isAll_105 (lv_at hl 0 rfl) ?_
                        refine lv_bipush (v := 7) hx hb dL_isAll_107 (by decide) ?_
                        refine gBacki (D := D) (tys := gT cI cC cF cO) (A := A) (wr := []) (w1 := gW cI cC cF cO xa) (va_runV (As := [.int r_49, .int (7 : Int32)]) (rest := []) ⟨hx, hb, hml, hown, hts⟩ (d_X8_card l D cI cC cF cO xa v_56 _ (r_49) ((7 : Int32)) _ hwp) (cwV 2 hts gL_isAll_X8_card rfl rfl rfl (by decide +kernel) ⟨Nat.le_of_ble_eq_true rfl, Nat.le_of_ble_eq_true rfl⟩) (gPreV (C := RX8) (T := TX8) (N := 9) (ci := 8) hK hX hT hP hD hS hA gI (gI_at cI cC cF cO xa v_56) gI_nd rfl (qb := 0) rfl) rfl rfl hl.1 rfl (lv_room (Nat.le_of_ble_eq_true rfl)) dL_isAll_109 ⟨Nat.le_of_ble_eq_true rfl, Nat.le_of_ble_eq_true rfl⟩) hP hD hS hA gI [] (gI_at cI cC cF cO xa v_56) rfl rfl (fun i h => absurd h List.not_mem_nil) (fun r_57 v_58 H locs hwp hP hD hS => ?_)
                        have hP : va_P D vwCl (gW cI cC cF cO xa v_58) H := hP
                        have hD : va_D A (gW cI cC cF cO xa v_58) := hD
                        refine lv_if_eq (tgt := 128) hx hb dL_isAll_112 (by decide) (fun hc => ?_) (fun hc => ?_)
                        · have hwp := hwp.1 hc
                          have hl : lv_has ls 12 [(0, .ref (xa 0)), (1, .int x1_45), (2, .int x2_15), (3, .int x3_15), (4, .int x4_15), (6, .int x6_15), (7, .int r_43), (8, .int x8_45), (9, .int x9_45), (10, .int x10_45), (11, .int r_49)] := lv_sub hl [1, 2, 3, 4, 5, 7, 8, 9, 10, 11, 0] rfl
                          exact hj128 x1_45 x8_45 x9_45 x10_45 r_49 v_58 _ _ hwp hP hD hS ls hl
                        · have hwp := hwp.2 hc
                          refine lv_aload_n hx hb dL_isAll_115 rfl (lv_at hl 1 rfl) ?_
                          refine lv_iload_n hx hb dL_isAll_116 rfl (lv_at hl 4 rfl) ?_
                          refine lv_iload hx hb dL_isAll_117 (lv_at hl 10 rfl) ?_
                          refine lv_iadd hx hb dL_isAll_119 ?_
                          refine gBacki (D := D) (tys := gT cI cC cF cO) (A := A) (wr := []) (w1 := gW cI cC cF cO xa) (va_runV (As := [.int (x3_15 + x9_45)]) (rest := []) ⟨hx, hb, hml, hown, hts⟩ (d_X8_broken l D cI cC cF cO xa v_58 _ ((x3_15 + x9_45)) _ hwp) (cwV 1 hts gL_isAll_X8_broken rfl rfl rfl (by decide +kernel) ⟨Nat.le_of_ble_eq_true rfl, Nat.le_of_ble_eq_true rfl⟩) (gPreV (C := RX8) (T := TX8) (N := 9) (ci := 8) hK hX hT hP hD hS hA gI (gI_at cI cC cF cO xa v_58) gI_nd rfl (qb := 0) rfl) rfl rfl hl.1 rfl (lv_room (Nat.le_of_ble_eq_true rfl)) dL_isAll_120 ⟨Nat.le_of_ble_eq_true rfl, Nat.le_of_ble_eq_true rfl⟩) hP hD hS hA gI [] (gI_at cI cC cF cO xa v_58) rfl rfl (fun i h => absurd h List.not_mem_nil) (fun r_59 v_60 H locs hwp hP hD hS => ?_)
                          have hP : va_P D vwCl (gW cI cC cF cO xa v_60) H := hP
                          have hD : va_D A (gW cI cC cF cO xa v_60) := hD
                          refine lv_iload hx hb dL_isAll_123 (lv_at hl 0 rfl) ?_
                          refine lv_icmp_ne (tgt := 132) hx hb dL_isAll_125 (by decide) (fun hc => ?_) (fun hc => ?_)
                          · have hwp := hwp.2 hc
                            have hl : lv_has ls 12 [(0, .ref (xa 0)), (1, .int x1_45), (2, .int x2_15), (3, .int x3_15), (4, .int x4_15), (6, .int x6_15), (7, .int r_43), (8, .int x8_45), (9, .int x9_45), (10, .int x10_45), (11, .int r_49)] := lv_sub hl [1, 2, 3, 4, 5, 7, 8, 9, 10, 11, 0] rfl
                            exact hj132 x1_45 x8_45 x9_45 x10_45 r_49 v_60 _ _ hwp hP hD hS ls hl
                          · have hwp := hwp.1 hc
                            have hl : lv_has ls 12 [(0, .ref (xa 0)), (1, .int x1_45), (2, .int x2_15), (3, .int x3_15), (4, .int x4_15), (6, .int x6_15), (7, .int r_43), (8, .int x8_45), (9, .int x9_45), (10, .int x10_45), (11, .int r_49)] := lv_sub hl [1, 2, 3, 4, 5, 7, 8, 9, 10, 11, 0] rfl
                            exact hj128 x1_45 x8_45 x9_45 x10_45 r_49 v_60 _ _ hwp hP hD hS ls hl
          exact hL45 _ x1_15 x5_15 (0 : Int32) (0 : Int32) (0 : Int32) v_44 (Nat.lt_succ_self _) hJ _ _ hP hD hS ls hl
  exact hL15 _ (0 : Int32) (0 : Int32) (0 : Int32) (0 : Int32) (1 : Int32) (0 : Int32) v (Nat.lt_succ_self _) hJ _ _ hP hD hS ls hl
