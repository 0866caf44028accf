/-! contract of the law's pins (by program) -/
abbrev rm_L_pins : Room := { frames := 7, cells := 0, slots := 0, locals := 164 }
set_option maxHeartbeats 40000000 in
set_option maxRecDepth 100000 in
theorem c_L_pins (l : Launch) (D : va_G) (cI cC cF cO : ClassId) (xa : Nat → Nat) (v : VT) (sz : Nat) (x1 : Int32) (x2 : Int32) (x3 : Int32) (post : Int32 → VT → Prop) (hwp : wv_L_pins x1 x2 x3 v post) : Met l yL_pins wsL_pins rm_L_pins (gPre D (gT cI cC cF cO) [.ref (xa 0), .int x1, .int x2, .int x3] (gW cI cC cF cO xa v) sz) (va_Qi post (gB D (gT cI cC cF cO) (gW cI cC cF cO xa) (gW cI cC cF cO xa v) sz) (va_A (gW cI cC cF cO xa v) sz)) 0 0 (va_A (gW cI cC cF cO xa v) sz) := by
  refine gOfz (own := RL) (cc := cL_pins) (maxL := 7) (ret := (some .boolean)) rfl (by decide) rfl (Nat.le_of_ble_eq_true rfl) rfl ?_
  intro p e s m below meth c A args Q hAe hx hb hr hts hown hml hlocks hname hA hK hX hT hP hD hS hret ls hl
  have hl : lv_has ls 7 [(0, .ref (xa 0)), (1, .int x1), (2, .int x2), (3, .int x3)] := hl
  unfold wv_L_pins at hwp
  have hj115 : ∀ (x5_115 : Int32) (k0_115 : Int32) (k1_115 : Int32) (v_115 : VT) (H : Heap) (locs : List Loc), wv_L_pins_j115 x1 x2 x3 x5_115 k0_115 k1_115 v_115  post → va_P D vwCl (gW cI cC cF cO xa v_115) H → va_D A (gW cI cC cF cO xa v_115) → va_S A s.heap H locs → ∀ ls : Array Slot, lv_has ls 7 [(0, .ref (xa 0)), (1, .int x1), (2, .int x2), (3, .int x3), (5, .int x5_115)] → W p l e rm_L_pins s m args below meth c H locs 0 0 Q (F0 m 115 ls [.int k0_115, .int k1_115]) := by
    intro x5_115 k0_115 k1_115 v_115 H locs hwp hP hD hS ls hl
    unfold wv_L_pins_j115 at hwp
    refine lv_icmp_ne (tgt := 153) hx hb dL_pins_115 (by decide) (fun hc => ?_) (fun hc => ?_)
    · have hwp := hwp.2 hc
      refine lv_iconst (v := 0) hx hb dL_pins_153 (by decide) ?_
      exact hret v_115 gI dL_pins_154 (Or.inl rfl) hwp (gI_at cI cC cF cO xa v_115) gI_nd hP hD hS
    · have hwp := hwp.1 hc
      refine lv_aload_n hx hb dL_pins_118 rfl (lv_at hl 0 rfl) ?_
      refine lv_iconst (v := 3) hx hb dL_pins_119 (by decide) ?_
      refine gBacki (D := D) (tys := gT cI cC cF cO) (A := A) (wr := []) (w1 := gW cI cC cF cO xa) (va_runV (As := [.int (3 : Int32)]) (rest := []) ⟨hx, hb, hml, hown, hts⟩ (d_X8_count l D cI cC cF cO xa v_115 _ ((3 : Int32)) _ hwp) (cwV 1 hts gL_pins_X8_count rfl rfl rfl (by decide +kernel) ⟨Nat.le_of_ble_eq_true rfl, Nat.le_of_ble_eq_true rfl⟩) (gPreV (C := RX8) (T := TX8) (N := 9) (ci := 8) hK hX hT hP hD hS hA gI (gI_at cI cC cF cO xa v_115) gI_nd rfl (qb := 0) rfl) rfl rfl hl.1 rfl (lv_room (Nat.le_of_ble_eq_true rfl)) dL_pins_120 ⟨Nat.le_of_ble_eq_true rfl, Nat.le_of_ble_eq_true rfl⟩) hP hD hS hA gI [] (gI_at cI cC cF cO xa v_115) rfl rfl (fun i h => absurd h List.not_mem_nil) (fun r_1 v_2 H locs hwp hP hD hS => ?_)
      have hP : va_P D vwCl (gW cI cC cF cO xa v_2) H := hP
      have hD : va_D A (gW cI cC cF cO xa v_2) := hD
      refine lv_iload hx hb dL_pins_123 (lv_at hl 4 rfl) ?_
      refine lv_icmp_ne (tgt := 153) hx hb dL_pins_125 (by decide) (fun hc => ?_) (fun hc => ?_)
      · have hwp := hwp.2 hc
        refine lv_iconst (v := 0) hx hb dL_pins_153 (by decide) ?_
        exact hret v_2 gI dL_pins_154 (Or.inl rfl) hwp (gI_at cI cC cF cO xa v_2) gI_nd hP hD hS
      · have hwp := hwp.1 hc
        refine lv_aload_n hx hb dL_pins_128 rfl (lv_at hl 0 rfl) ?_
        refine lv_iload_n hx hb dL_pins_129 rfl (lv_at hl 1 rfl) ?_
        refine lv_iconst (v := 5) hx hb dL_pins_130 (by decide) ?_
        refine gBacki (D := D) (tys := gT cI cC cF cO) (A := A) (wr := []) (w1 := gW cI cC cF cO xa) (va_runV (As := [.int x1, .int (5 : Int32)]) (rest := []) ⟨hx, hb, hml, hown, hts⟩ (d_X8_card l D cI cC cF cO xa v_2 _ (x1) ((5 : Int32)) _ hwp) (cwV 2 hts gL_pins_X8_card rfl rfl rfl (by decide +kernel) ⟨Nat.le_of_ble_eq_true rfl, Nat.le_of_ble_eq_true rfl⟩) (gPreV (C := RX8) (T := TX8) (N := 9) (ci := 8) hK hX hT hP hD hS hA gI (gI_at cI cC cF cO xa v_2) gI_nd rfl (qb := 0) rfl) rfl rfl hl.1 rfl (lv_room (Nat.le_of_ble_eq_true rfl)) dL_pins_131 ⟨Nat.le_of_ble_eq_true rfl, Nat.le_of_ble_eq_true rfl⟩) hP hD hS hA gI [] (gI_at cI cC cF cO xa v_2) rfl rfl (fun i h => absurd h List.not_mem_nil) (fun r_3 v_4 H locs hwp hP hD hS => ?_)
        have hP : va_P D vwCl (gW cI cC cF cO xa v_4) H := hP
        have hD : va_D A (gW cI cC cF cO xa v_4) := hD
        refine lv_iload_n hx hb dL_pins_134 rfl (lv_at hl 2 rfl) ?_
        refine lv_icmp_ne (tgt := 153) hx hb dL_pins_135 (by decide) (fun hc => ?_) (fun hc => ?_)
        · have hwp := hwp.2 hc
          refine lv_iconst (v := 0) hx hb dL_pins_153 (by decide) ?_
          exact hret v_4 gI dL_pins_154 (Or.inl rfl) hwp (gI_at cI cC cF cO xa v_4) gI_nd hP hD hS
        · have hwp := hwp.1 hc
          refine lv_aload_n hx hb dL_pins_138 rfl (lv_at hl 0 rfl) ?_
          refine lv_iload_n hx hb dL_pins_139 rfl (lv_at hl 1 rfl) ?_
          refine lv_bipush (v := 6) hx hb dL_pins_140 (by decide) ?_
          refine gBacki (D := D) (tys := gT cI cC cF cO) (A := A) (wr := []) (w1 := gW cI cC cF cO xa) (va_runV (As := [.int x1, .int (6 : Int32)]) (rest := []) ⟨hx, hb, hml, hown, hts⟩ (d_X8_card l D cI cC cF cO xa v_4 _ (x1) ((6 : Int32)) _ hwp) (cwV 2 hts gL_pins_X8_card rfl rfl rfl (by decide +kernel) ⟨Nat.le_of_ble_eq_true rfl, Nat.le_of_ble_eq_true rfl⟩) (gPreV (C := RX8) (T := TX8) (N := 9) (ci := 8) hK hX hT hP hD hS hA gI (gI_at cI cC cF cO xa v_4) gI_nd rfl (qb := 0) rfl) rfl rfl hl.1 rfl (lv_room (Nat.le_of_ble_eq_true rfl)) dL_pins_142 ⟨Nat.le_of_ble_eq_true rfl, Nat.le_of_ble_eq_true rfl⟩) hP hD hS hA gI [] (gI_at cI cC cF cO xa v_4) rfl rfl (fun i h => absurd h List.not_mem_nil) (fun r_5 v_6 H locs hwp hP hD hS => ?_)
          have hP : va_P D vwCl (gW cI cC cF cO xa v_6) H := hP
          have hD : va_D A (gW cI cC cF cO xa v_6) := hD
          refine lv_iload_n hx hb dL_pins_145 rfl (lv_at hl 3 rfl) ?_
          refine lv_icmp_ne (tgt := 153) hx hb dL_pins_146 (by decide) (fun hc => ?_) (fun hc => ?_)
          · have hwp := hwp.2 hc
            refine lv_iconst (v := 0) hx hb dL_pins_153 (by decide) ?_
            exact hret v_6 gI dL_pins_154 (Or.inl rfl) hwp (gI_at cI cC cF cO xa v_6) gI_nd hP hD hS
          · have hwp := hwp.1 hc
            refine lv_iconst (v := 1) hx hb dL_pins_149 (by decide) ?_
            refine lv_goto (tgt := 154) hx hb dL_pins_150 (by decide) ?_
            exact hret v_6 gI dL_pins_154 (Or.inr rfl) hwp (gI_at cI cC cF cO xa v_6) gI_nd hP hD hS
  have hj26 : ∀ (k0_26 : Int32) (v_26 : VT) (H : Heap) (locs : List Loc), wv_L_pins_j26 x1 x2 x3 k0_26 v_26  post → va_P D vwCl (gW cI cC cF cO xa v_26) H → va_D A (gW cI cC cF cO xa v_26) → va_S A s.heap H locs → ∀ ls : Array Slot, lv_has ls 7 [(0, .ref (xa 0)), (1, .int x1), (2, .int x2), (3, .int x3)] → W p l e rm_L_pins s m args below meth c H locs 0 0 Q (F0 m 26 ls [.int k0_26]) := by
    intro k0_26 v_26 H locs hwp hP hD hS ls hl
    unfold wv_L_pins_j26 at hwp
    refine lv_istore (lv' := [(4, .int k0_26), (0, .ref (xa 0)), (1, .int x1), (2, .int x2), (3, .int x3)]) hx hb dL_pins_26 hl (by decide) rfl (fun ls hl => ?_)
    refine lv_aload_n hx hb dL_pins_28 rfl (lv_at hl 1 rfl) ?_
    refine lv_iload_n hx hb dL_pins_29 rfl (lv_at hl 2 rfl) ?_
    refine lv_iload_n hx hb dL_pins_30 rfl (lv_at hl 3 rfl) ?_
    refine lv_iload_n hx hb dL_pins_31 rfl (lv_at hl 4 rfl) ?_
    refine gBacki (D := D) (tys := gT cI cC cF cO) (A := A) (wr := []) (w1 := gW cI cC cF cO xa) (va_runV (As := [.int x1, .int x2, .int x3]) (rest := []) ⟨hx, hb, hml, hown, hts⟩ (d_X8_would l D cI cC cF cO xa v_26 _ (x1) (x2) (x3) _ hwp) (cwV 3 hts gL_pins_X8_would rfl rfl rfl (by decide +kernel) ⟨Nat.le_of_ble_eq_true rfl, Nat.le_of_ble_eq_true rfl⟩) (gPreV (C := RX8) (T := TX8) (N := 9) (ci := 8) hK hX hT hP hD hS hA gI (gI_at cI cC cF cO xa v_26) gI_nd rfl (qb := 0) rfl) rfl rfl hl.1 rfl (lv_room (Nat.le_of_ble_eq_true rfl)) dL_pins_32 ⟨Nat.le_of_ble_eq_true rfl, Nat.le_of_ble_eq_true rfl⟩) hP hD hS hA gI [] (gI_at cI cC cF cO xa v_26) rfl rfl (fun i h => absurd h List.not_mem_nil) (fun r_7 v_8 H locs hwp hP hD hS => ?_)
    have hP : va_P D vwCl (gW cI cC cF cO xa v_8) H := hP
    have hD : va_D A (gW cI cC cF cO xa v_8) := hD
    refine lv_istore (lv' := [(5, .int r_7), (4, .int k0_26), (0, .ref (xa 0)), (1, .int x1), (2, .int x2), (3, .int x3)]) hx hb dL_pins_35 hl (by decide) rfl (fun ls hl => ?_)
    refine lv_aload_n hx hb dL_pins_37 rfl (lv_at hl 2 rfl) ?_
    refine lv_iload_n hx hb dL_pins_38 rfl (lv_at hl 3 rfl) ?_
    refine lv_iload_n hx hb dL_pins_39 rfl (lv_at hl 4 rfl) ?_
    refine lv_iload_n hx hb dL_pins_40 rfl (lv_at hl 5 rfl) ?_
    refine gBacki (D := D) (tys := gT cI cC cF cO) (A := A) (wr := []) (w1 := gW cI cC cF cO xa) (va_runV (As := [.int x1, .int x2, .int x3]) (rest := []) ⟨hx, hb, hml, hown, hts⟩ (d_X8_pin l D cI cC cF cO xa v_8 _ (x1) (x2) (x3) _ hwp) (cwV 3 hts gL_pins_X8_pin rfl rfl rfl (by decide +kernel) ⟨Nat.le_of_ble_eq_true rfl, Nat.le_of_ble_eq_true rfl⟩) (gPreV (C := RX8) (T := TX8) (N := 9) (ci := 8) hK hX hT hP hD hS hA gI (gI_at cI cC cF cO xa v_8) gI_nd rfl (qb := 0) rfl) rfl rfl hl.1 rfl (lv_room (Nat.le_of_ble_eq_true rfl)) dL_pins_41 ⟨Nat.le_of_ble_eq_true rfl, Nat.le_of_ble_eq_true rfl⟩) hP hD hS hA gI [] (gI_at cI cC cF cO xa v_8) rfl rfl (fun i h => absurd h List.not_mem_nil) (fun r_9 v_10 H locs hwp hP hD hS => ?_)
    have hP : va_P D vwCl (gW cI cC cF cO xa v_10) H := hP
    have hD : va_D A (gW cI cC cF cO xa v_10) := hD
    refine lv_istore (lv' := [(6, .int r_9), (5, .int r_7), (4, .int k0_26), (0, .ref (xa 0)), (1, .int x1), (2, .int x2), (3, .int x3)]) hx hb dL_pins_44 hl (by decide) rfl (fun ls hl => ?_)
    refine lv_iload hx hb dL_pins_46 (lv_at hl 1 rfl) ?_
    refine lv_if_ge (tgt := 92) hx hb dL_pins_48 (by decide) (fun hc => ?_) (fun hc => ?_)
    · have hwp := hwp.1 hc
      refine lv_iload hx hb dL_pins_92 (lv_at hl 0 rfl) ?_
      refine lv_iload hx hb dL_pins_94 (lv_at hl 2 rfl) ?_
      refine lv_if_eq (tgt := 104) hx hb dL_pins_96 (by decide) (fun hc => ?_) (fun hc => ?_)
      · have hwp := hwp.1 hc
        refine lv_aload_n hx hb dL_pins_104 rfl (lv_at hl 3 rfl) ?_
        refine lv_aload_n hx hb dL_pins_105 rfl (lv_at hl 3 rfl) ?_
        refine lv_iload_n hx hb dL_pins_106 rfl (lv_at hl 4 rfl) ?_
        refine lv_iconst (v := 0) hx hb dL_pins_107 (by decide) ?_
        refine gBacki (D := D) (tys := gT cI cC cF cO) (A := A) (wr := []) (w1 := gW cI cC cF cO xa) (va_runV (As := [.int x1, .int (0 : Int32)]) (rest := [.ref (xa 0), .int r_9]) ⟨hx, hb, hml, hown, hts⟩ (d_X8_card l D cI cC cF cO xa v_10 _ (x1) ((0 : Int32)) _ hwp) (cwV 2 hts gL_pins_X8_card rfl rfl rfl (by decide +kernel) ⟨Nat.le_of_ble_eq_true rfl, Nat.le_of_ble_eq_true rfl⟩) (gPreV (C := RX8) (T := TX8) (N := 9) (ci := 8) hK hX hT hP hD hS hA gI (gI_at cI cC cF cO xa v_10) gI_nd rfl (qb := 0) rfl) rfl rfl hl.1 rfl (lv_room (Nat.le_of_ble_eq_true rfl)) dL_pins_108 ⟨Nat.le_of_ble_eq_true rfl, Nat.le_of_ble_eq_true rfl⟩) hP hD hS hA gI [] (gI_at cI cC cF cO xa v_10) rfl rfl (fun i h => absurd h List.not_mem_nil) (fun r_11 v_12 H locs hwp hP hD hS => ?_)
        have hP : va_P D vwCl (gW cI cC cF cO xa v_12) H := hP
        have hD : va_D A (gW cI cC cF cO xa v_12) := hD
        refine lv_iconst (v := 3) hx hb dL_pins_111 (by decide) ?_
        refine gBacki (D := D) (tys := gT cI cC cF cO) (A := A) (wr := []) (w1 := gW cI cC cF cO xa) (va_runV (As := [.int r_11, .int (3 : Int32)]) (rest := [.int r_9]) ⟨hx, hb, hml, hown, hts⟩ (d_X8_thread l D cI cC cF cO xa v_12 _ (r_11) ((3 : Int32)) _ hwp) (cwV 2 hts gL_pins_X8_thread rfl rfl rfl (by decide +kernel) ⟨Nat.le_of_ble_eq_true rfl, Nat.le_of_ble_eq_true rfl⟩) (gPreV (C := RX8) (T := TX8) (N := 9) (ci := 8) hK hX hT hP hD hS hA gI (gI_at cI cC cF cO xa v_12) gI_nd rfl (qb := 0) rfl) rfl rfl hl.1 rfl (lv_room (Nat.le_of_ble_eq_true rfl)) dL_pins_112 ⟨Nat.le_of_ble_eq_true rfl, Nat.le_of_ble_eq_true rfl⟩) hP hD hS hA gI [] (gI_at cI cC cF cO xa v_12) rfl rfl (fun i h => absurd h List.not_mem_nil) (fun r_13 v_14 H locs hwp hP hD hS => ?_)
        have hP : va_P D vwCl (gW cI cC cF cO xa v_14) H := hP
        have hD : va_D A (gW cI cC cF cO xa v_14) := hD
        have hl : lv_has ls 7 [(0, .ref (xa 0)), (1, .int x1), (2, .int x2), (3, .int x3), (5, .int r_7)] := lv_sub hl [3, 4, 5, 6, 1] rfl
        exact hj115 r_7 r_13 r_9 v_14 _ _ hwp hP hD hS ls hl
      · have hwp := hwp.2 hc
        refine lv_bipush (v := -5) hx hb dL_pins_99 (by decide) ?_
        refine lv_goto (tgt := 115) hx hb dL_pins_101 (by decide) ?_
        have hl : lv_has ls 7 [(0, .ref (xa 0)), (1, .int x1), (2, .int x2), (3, .int x3), (5, .int r_7)] := lv_sub hl [3, 4, 5, 6, 1] rfl
        exact hj115 r_7 (-5 : Int32) r_9 v_10 _ _ hwp hP hD hS ls hl
    · have hwp := hwp.2 hc
      refine lv_iload hx hb dL_pins_51 (lv_at hl 0 rfl) ?_
      refine lv_iload hx hb dL_pins_53 (lv_at hl 1 rfl) ?_
      refine lv_icmp_ne (tgt := 90) hx hb dL_pins_55 (by decide) (fun hc => ?_) (fun hc => ?_)
      · have hwp := hwp.2 hc
        refine lv_iconst (v := 0) hx hb dL_pins_90 (by decide) ?_
        exact hret v_10 gI dL_pins_91 (Or.inl rfl) hwp (gI_at cI cC cF cO xa v_10) gI_nd hP hD hS
      · have hwp := hwp.1 hc
        refine lv_iload hx hb dL_pins_58 (lv_at hl 1 rfl) ?_
        refine lv_bipush (v := -3) hx hb dL_pins_60 (by decide) ?_
        refine lv_icmp_ne (tgt := 79) hx hb dL_pins_62 (by decide) (fun hc => ?_) (fun hc => ?_)
        · have hwp := hwp.2 hc
          refine lv_iload hx hb dL_pins_79 (lv_at hl 1 rfl) ?_
          refine lv_bipush (v := -2) hx hb dL_pins_81 (by decide) ?_
          refine lv_icmp_ne (tgt := 90) hx hb dL_pins_83 (by decide) (fun hc => ?_) (fun hc => ?_)
          · have hwp := hwp.2 hc
            refine lv_iconst (v := 0) hx hb dL_pins_90 (by decide) ?_
            exact hret v_10 gI dL_pins_91 (Or.inl rfl) hwp (gI_at cI cC cF cO xa v_10) gI_nd hP hD hS
          · have hwp := hwp.1 hc
            refine lv_iconst (v := 1) hx hb dL_pins_86 (by decide) ?_
            refine lv_goto (tgt := 91) hx hb dL_pins_87 (by decide) ?_
            exact hret v_10 gI dL_pins_91 (Or.inr rfl) hwp (gI_at cI cC cF cO xa v_10) gI_nd hP hD hS
        · have hwp := hwp.1 hc
          refine lv_aload_n hx hb dL_pins_65 rfl (lv_at hl 3 rfl) ?_
          refine lv_iload_n hx hb dL_pins_66 rfl (lv_at hl 5 rfl) ?_
          refine lv_iconst (v := 0) hx hb dL_pins_67 (by decide) ?_
          refine gBacki (D := D) (tys := gT cI cC cF cO) (A := A) (wr := []) (w1 := gW cI cC cF cO xa) (va_runV (As := [.int x2, .int (0 : Int32)]) (rest := []) ⟨hx, hb, hml, hown, hts⟩ (d_X8_scene l D cI cC cF cO xa v_10 _ (x2) ((0 : Int32)) _ hwp) (cwV 2 hts gL_pins_X8_scene rfl rfl rfl (by decide +kernel) ⟨Nat.le_of_ble_eq_true rfl, Nat.le_of_ble_eq_true rfl⟩) (gPreV (C := RX8) (T := TX8) (N := 9) (ci := 8) hK hX hT hP hD hS hA gI (gI_at cI cC cF cO xa v_10) gI_nd rfl (qb := 0) rfl) rfl rfl hl.1 rfl (lv_room (Nat.le_of_ble_eq_true rfl)) dL_pins_68 ⟨Nat.le_of_ble_eq_true rfl, Nat.le_of_ble_eq_true rfl⟩) hP hD hS hA gI [] (gI_at cI cC cF cO xa v_10) rfl rfl (fun i h => absurd h List.not_mem_nil) (fun r_15 v_16 H locs hwp hP hD hS => ?_)
          have hP : va_P D vwCl (gW cI cC cF cO xa v_16) H := hP
          have hD : va_D A (gW cI cC cF cO xa v_16) := hD
          refine lv_bipush (v := 6) hx hb dL_pins_71 (by decide) ?_
          refine lv_icmp_ne (tgt := 90) hx hb dL_pins_73 (by decide) (fun hc => ?_) (fun hc => ?_)
          · have hwp := hwp.2 hc
            refine lv_iconst (v := 0) hx hb dL_pins_90 (by decide) ?_
            exact hret v_16 gI dL_pins_91 (Or.inl rfl) hwp (gI_at cI cC cF cO xa v_16) gI_nd hP hD hS
          · have hwp := hwp.1 hc
            refine lv_goto (tgt := 86) hx hb dL_pins_76 (by decide) ?_
            refine lv_iconst (v := 1) hx hb dL_pins_86 (by decide) ?_
            refine lv_goto (tgt := 91) hx hb dL_pins_87 (by decide) ?_
            exact hret v_16 gI dL_pins_91 (Or.inr rfl) hwp (gI_at cI cC cF cO xa v_16) gI_nd hP hD hS
  have hj25 : ∀ (v_25 : VT) (H : Heap) (locs : List Loc), wv_L_pins_j25 x1 x2 x3 v_25  post → va_P D vwCl (gW cI cC cF cO xa v_25) H → va_D A (gW cI cC cF cO xa v_25) → va_S A s.heap H locs → ∀ ls : Array Slot, lv_has ls 7 [(0, .ref (xa 0)), (1, .int x1), (2, .int x2), (3, .int x3)] → W p l e rm_L_pins s m args below meth c H locs 0 0 Q (F0 m 25 ls []) := by
    intro v_25 H locs hwp hP hD hS ls hl
    unfold wv_L_pins_j25 at hwp
    refine lv_iconst (v := 0) hx hb dL_pins_25 (by decide) ?_
    have hl : lv_has ls 7 [(0, .ref (xa 0)), (1, .int x1), (2, .int x2), (3, .int x3)] := lv_sub hl [0, 1, 2, 3] rfl
    exact hj26 (0 : Int32) v_25 _ _ hwp hP hD hS ls hl
  refine lv_aload_n hx hb dL_pins_0 rfl (lv_at hl 0 rfl) ?_
  refine lv_iload_n hx hb dL_pins_1 rfl (lv_at hl 1 rfl) ?_
  refine lv_iconst (v := 5) hx hb dL_pins_2 (by decide) ?_
  refine gBacki (D := D) (tys := gT cI cC cF cO) (A := A) (wr := []) (w1 := gW cI cC cF cO xa) (va_runV (As := [.int x1, .int (5 : Int32)]) (rest := []) ⟨hx, hb, hml, hown, hts⟩ (d_X8_card l D cI cC cF cO xa v _ (x1) ((5 : Int32)) _ hwp) (cwV 2 hts gL_pins_X8_card rfl rfl rfl (by decide +kernel) ⟨Nat.le_of_ble_eq_true rfl, Nat.le_of_ble_eq_true rfl⟩) (gPreV (C := RX8) (T := TX8) (N := 9) (ci := 8) hK hX hT hP hD hS hA gI (gI_at cI cC cF cO xa v) gI_nd rfl (qb := 0) rfl) rfl rfl hl.1 rfl (lv_room (Nat.le_of_ble_eq_true rfl)) dL_pins_3 ⟨Nat.le_of_ble_eq_true rfl, Nat.le_of_ble_eq_true rfl⟩) hP hD hS hA gI [] (gI_at cI cC cF cO xa v) rfl rfl (fun i h => absurd h List.not_mem_nil) (fun r_17 v_18 H locs hwp hP hD hS => ?_)
  have hP : va_P D vwCl (gW cI cC cF cO xa v_18) H := hP
  have hD : va_D A (gW cI cC cF cO xa v_18) := hD
  refine lv_iload_n hx hb dL_pins_6 rfl (lv_at hl 2 rfl) ?_
  refine lv_icmp_ne (tgt := 25) hx hb dL_pins_7 (by decide) (fun hc => ?_) (fun hc => ?_)
  · have hwp := hwp.2 hc
    have hl : lv_has ls 7 [(0, .ref (xa 0)), (1, .int x1), (2, .int x2), (3, .int x3)] := lv_sub hl [0, 1, 2, 3] rfl
    exact hj25 v_18 _ _ hwp hP hD hS ls hl
  · have hwp := hwp.1 hc
    refine lv_aload_n hx hb dL_pins_10 rfl (lv_at hl 0 rfl) ?_
    refine lv_iload_n hx hb dL_pins_11 rfl (lv_at hl 1 rfl) ?_
    refine lv_bipush (v := 6) hx hb dL_pins_12 (by decide) ?_
    refine gBacki (D := D) (tys := gT cI cC cF cO) (A := A) (wr := []) (w1 := gW cI cC cF cO xa) (va_runV (As := [.int x1, .int (6 : Int32)]) (rest := []) ⟨hx, hb, hml, hown, hts⟩ (d_X8_card l D cI cC cF cO xa v_18 _ (x1) ((6 : Int32)) _ hwp) (cwV 2 hts gL_pins_X8_card rfl rfl rfl (by decide +kernel) ⟨Nat.le_of_ble_eq_true rfl, Nat.le_of_ble_eq_true rfl⟩) (gPreV (C := RX8) (T := TX8) (N := 9) (ci := 8) hK hX hT hP hD hS hA gI (gI_at cI cC cF cO xa v_18) gI_nd rfl (qb := 0) rfl) rfl rfl hl.1 rfl (lv_room (Nat.le_of_ble_eq_true rfl)) dL_pins_14 ⟨Nat.le_of_ble_eq_true rfl, Nat.le_of_ble_eq_true rfl⟩) hP hD hS hA gI [] (gI_at cI cC cF cO xa v_18) rfl rfl (fun i h => absurd h List.not_mem_nil) (fun r_19 v_20 H locs hwp hP hD hS => ?_)
    have hP : va_P D vwCl (gW cI cC cF cO xa v_20) H := hP
    have hD : va_D A (gW cI cC cF cO xa v_20) := hD
    refine lv_iload_n hx hb dL_pins_17 rfl (lv_at hl 3 rfl) ?_
    refine lv_icmp_ne (tgt := 25) hx hb dL_pins_18 (by decide) (fun hc => ?_) (fun hc => ?_)
    · have hwp := hwp.2 hc
      have hl : lv_has ls 7 [(0, .ref (xa 0)), (1, .int x1), (2, .int x2), (3, .int x3)] := lv_sub hl [0, 1, 2, 3] rfl
      exact hj25 v_20 _ _ hwp hP hD hS ls hl
    · have hwp := hwp.1 hc
      refine lv_iconst (v := 1) hx hb dL_pins_21 (by decide) ?_
      refine lv_goto (tgt := 26) hx hb dL_pins_22 (by decide) ?_
      have hl : lv_has ls 7 [(0, .ref (xa 0)), (1, .int x1), (2, .int x2), (3, .int x3)] := lv_sub hl [0, 1, 2, 3] rfl
      exact hj26 (1 : Int32) v_20 _ _ hwp hP hD hS ls hl
