/-! contracts (by program): X9_number X9_comma X9_readsCard X9_faultOf -/
theorem mc_X9_number_9 : ∀ w ∈ u_ws RX9 TX9 18, w ∈ wsX9_number := fun w h => List.mem_cons_of_mem _ (List.mem_append_right _ h)
theorem ml_X9_number_1 : (.fieldLink RX9 90 "StoryWallModel" "at" "I" : Cond) ∈ wsX9_number := List.mem_of_getElem? (i := 1) rfl
theorem ml_X9_number_2 : (.fieldLink RX9 40 "StoryWallModel" "text" "[C" : Cond) ∈ wsX9_number := List.mem_of_getElem? (i := 2) rfl
abbrev rm_X9_number : Room := { frames := 1, cells := 0, slots := 0, locals := 23 }
set_option maxHeartbeats 4000000 in
set_option maxRecDepth 100000 in
theorem c_X9_number (l : Launch) (D : va_G) (cI cC cF cO : ClassId) (a_this a_text a_s a_before a_kept a_aside a_order a_rank a_straight a_sorted a_longest a_read : Nat) (v_onWall : Int32) (v_straightMany : Int32) (v_states : Int32) (v_isKept : Int32) (v_cards : Int32) (sz : Nat) (x1 : Int32) (x2 : Int32) (v_length : Int32) (v_at : Int32) (v_text : Nat → Int32) (post : Int32 → Int32 → Prop) (hwp : wp_X9_number x1 x2 v_length v_at v_text post) : Met l yX9_number wsX9_number rm_X9_number (gPre D (gT cI cC cF cO) [.ref a_this, .int x1, .int x2] [(a_this, .inr (9, [.ref a_s, .ref a_before, .ref a_kept, .ref a_aside, .ref a_order, .ref a_rank, .int v_onWall, .ref a_straight, .ref a_sorted, .ref a_longest, .int v_straightMany, .ref a_read, .ref a_text, .int v_length, .int v_states, .int v_isKept, .int v_at, .int v_cards])), (a_text, .inl (cC, 60, .inl v_text))] sz) (va_Qi (S := Int32) (fun (r : Int32) (u : Int32) => post r u) (gB D (gT cI cC cF cO) (fun (u : Int32) => [(a_this, .inr (9, [.ref a_s, .ref a_before, .ref a_kept, .ref a_aside, .ref a_order, .ref a_rank, .int v_onWall, .ref a_straight, .ref a_sorted, .ref a_longest, .int v_straightMany, .ref a_read, .ref a_text, .int v_length, .int v_states, .int v_isKept, .int u, .int v_cards])), (a_text, .inl (cC, 60, .inl v_text))]) [(a_this, .inr (9, [.ref a_s, .ref a_before, .ref a_kept, .ref a_aside, .ref a_order, .ref a_rank, .int v_onWall, .ref a_straight, .ref a_sorted, .ref a_longest, .int v_straightMany, .ref a_read, .ref a_text, .int v_length, .int v_states, .int v_isKept, .int v_at, .int v_cards])), (a_text, .inl (cC, 60, .inl v_text))] sz) (va_A [(a_this, .inr (9, [.ref a_s, .ref a_before, .ref a_kept, .ref a_aside, .ref a_order, .ref a_rank, .int v_onWall, .ref a_straight, .ref a_sorted, .ref a_longest, .int v_straightMany, .ref a_read, .ref a_text, .int v_length, .int v_states, .int v_isKept, .int v_at, .int v_cards])), (a_text, .inl (cC, 60, .inl v_text))] sz)) 0 0 (va_A [(a_this, .inr (9, [.ref a_s, .ref a_before, .ref a_kept, .ref a_aside, .ref a_order, .ref a_rank, .int v_onWall, .ref a_straight, .ref a_sorted, .ref a_longest, .int v_straightMany, .ref a_read, .ref a_text, .int v_length, .int v_states, .int v_isKept, .int v_at, .int v_cards])), (a_text, .inl (cC, 60, .inl v_text))] sz) := by
  refine gOfi (own := RX9) (cc := cX9_number) (maxL := 4) (ret := (some .int)) rfl (by decide) rfl (Nat.le_of_ble_eq_true rfl) rfl ?_
  intro p e s m below meth c A args Q hAe hx hb hr hts hown hml hlocks hname hA hK hX hT hP hD hS hret ls hl
  have hl : lv_has ls 4 [(0, .ref a_this), (1, .int x1), (2, .int x2)] := hl
  unfold wp_X9_number at hwp
  have hj16 : ∀ (k0_16 : Int32) (k1_16 : Int32) (v_at_16 : Int32) (H : Heap) (locs : List Loc), wp_X9_number_j16 x2 k0_16 k1_16 v_length v_at_16 v_text  post → va_P D vwCl [(a_this, .inr (9, [.ref a_s, .ref a_before, .ref a_kept, .ref a_aside, .ref a_order, .ref a_rank, .int v_onWall, .ref a_straight, .ref a_sorted, .ref a_longest, .int v_straightMany, .ref a_read, .ref a_text, .int v_length, .int v_states, .int v_isKept, .int v_at_16, .int v_cards])), (a_text, .inl (cC, 60, .inl v_text))] H → va_D A [(a_this, .inr (9, [.ref a_s, .ref a_before, .ref a_kept, .ref a_aside, .ref a_order, .ref a_rank, .int v_onWall, .ref a_straight, .ref a_sorted, .ref a_longest, .int v_straightMany, .ref a_read, .ref a_text, .int v_length, .int v_states, .int v_isKept, .int v_at_16, .int v_cards])), (a_text, .inl (cC, 60, .inl v_text))] → va_S A s.heap H locs → ∀ ls : Array Slot, lv_has ls 4 [(0, .ref a_this), (2, .int x2)] → W p l e rm_X9_number s m args below meth c H locs 0 0 Q (F0 m 16 ls [.int k0_16, .int k1_16, .ref a_this]) := by
    intro k0_16 k1_16 v_at_16 H locs hwp hP hD hS ls hl
    unfold wp_X9_number_j16 at hwp
    refine lv_bipush (v := 57) hx hb dX9_number_16 (by decide) ?_
    refine gBacki (D := D) (tys := gT cI cC cF cO) (A := A) (wr := []) (w1 := (fun u_2 : Unit => [(a_this, .inr (9, [.ref a_s, .ref a_before, .ref a_kept, .ref a_aside, .ref a_order, .ref a_rank, .int v_onWall, .ref a_straight, .ref a_sorted, .ref a_longest, .int v_straightMany, .ref a_read, .ref a_text, .int v_length, .int v_states, .int v_isKept, .int v_at_16, .int v_cards])), (a_text, .inl (cC, 60, .inl v_text))])) (va_runV (As := [.int k1_16, .int k0_16, .int (57 : Int32)]) (rest := []) ⟨hx, hb, hml, hown, hts⟩ (c_X9_isSign l D cI cC cF cO a_this a_text a_s a_before a_kept a_aside a_order a_rank a_straight a_sorted a_longest a_read v_onWall v_straightMany v_states v_isKept v_at_16 v_cards _ _ _ _ _ _ _ hwp) (cwV 3 hts gX9_number_X9_isSign rfl rfl rfl (by decide +kernel) ⟨Nat.le_of_ble_eq_true rfl, Nat.le_of_ble_eq_true rfl⟩) (gPreV (C := RX9) (T := TX9) (N := 18) (ci := 9) hK hX hT hP hD hS hA [0, 1] rfl rfl rfl (qb := 0) rfl) rfl rfl hl.1 rfl (lv_room (Nat.le_of_ble_eq_true rfl)) dX9_number_18 ⟨Nat.le_of_ble_eq_true rfl, Nat.le_of_ble_eq_true rfl⟩) hP hD hS hA [0, 1] [] rfl rfl rfl (by decide) (fun r_1 u_2 H locs hwp hP hD hS => ?_)
    have hP : va_P D vwCl [(a_this, .inr (9, [.ref a_s, .ref a_before, .ref a_kept, .ref a_aside, .ref a_order, .ref a_rank, .int v_onWall, .ref a_straight, .ref a_sorted, .ref a_longest, .int v_straightMany, .ref a_read, .ref a_text, .int v_length, .int v_states, .int v_isKept, .int v_at_16, .int v_cards])), (a_text, .inl (cC, 60, .inl v_text))] H := hP
    have hD : va_D A [(a_this, .inr (9, [.ref a_s, .ref a_before, .ref a_kept, .ref a_aside, .ref a_order, .ref a_rank, .int v_onWall, .ref a_straight, .ref a_sorted, .ref a_longest, .int v_straightMany, .ref a_read, .ref a_text, .int v_length, .int v_states, .int v_isKept, .int v_at_16, .int v_cards])), (a_text, .inl (cC, 60, .inl v_text))] := hD
    refine lv_if_ne (tgt := 26) hx hb dX9_number_21 (by decide) (fun hc => ?_) (fun hc => ?_)
    · have hwp := hwp.2 hc
      refine lv_aload_n hx hb dX9_number_26 rfl (lv_at hl 0 rfl) ?_
      refine va_get (D := D) (ci := 9) (v := .ref a_text) (C := RX9) (T := TX9) (N := 18) hx hb hts mc_X9_number_9 hown hK hP 0 rfl rfl 12 (by decide) (hts _ ml_X9_number_2) (fun _ h9 => h9) rfl dX9_number_27 ?_
      refine lv_aload_n hx hb dX9_number_30 rfl (lv_at hl 0 rfl) ?_
      refine va_get (D := D) (ci := 9) (v := .int v_at_16) (C := RX9) (T := TX9) (N := 18) hx hb hts mc_X9_number_9 hown hK hP 0 rfl rfl 16 (by decide) (hts _ ml_X9_number_1) (fun _ h9 => h9) rfl dX9_number_31 ?_
      have hn_3 := hwp.1
      have hwp := hwp.2
      refine va_cald (D := D) hx hb hK hP 1 1 rfl rfl hn_3 dX9_number_34 ?_
      refine lv_bipush (v := 48) hx hb dX9_number_35 (by decide) ?_
      refine lv_isub hx hb dX9_number_37 ?_
      refine lv_istore_n (lv' := [(3, .int ((v_text (v_at_16).toNatClampNeg) - (48 : Int32))), (0, .ref a_this), (2, .int x2)]) hx hb dX9_number_38 rfl hl (by decide) rfl (fun ls hl => ?_)
      refine lv_aload_n hx hb dX9_number_39 rfl (lv_at hl 1 rfl) ?_
      refine lv_dup hx hb dX9_number_40 rfl ?_
      refine va_get (D := D) (ci := 9) (v := .int v_at_16) (C := RX9) (T := TX9) (N := 18) hx hb hts mc_X9_number_9 hown hK hP 0 rfl rfl 16 (by decide) (hts _ ml_X9_number_1) (fun _ h9 => h9) rfl dX9_number_41 ?_
      refine lv_iconst (v := 1) hx hb dX9_number_44 (by decide) ?_
      refine lv_iadd hx hb dX9_number_45 ?_
      refine va_put (D := D) (ci := 9) (v := .int (v_at_16 + (1 : Int32))) (ty := .int) (C := RX9) (T := TX9) (N := 18) hx hb hts mc_X9_number_9 tyX9 tyX9_ok nmX9 hown hK hP hD hS 0 rfl rfl 16 (by decide) (hts _ ml_X9_number_1) (fun _ h9 => h9) rfl (by decide +kernel) rfl rfl (Nat.le_of_ble_eq_true rfl) dX9_number_46 (fun H locs hP hD hS => ?_)
      have hP : va_P D vwCl [(a_this, .inr (9, [.ref a_s, .ref a_before, .ref a_kept, .ref a_aside, .ref a_order, .ref a_rank, .int v_onWall, .ref a_straight, .ref a_sorted, .ref a_longest, .int v_straightMany, .ref a_read, .ref a_text, .int v_length, .int v_states, .int v_isKept, .int (v_at_16 + (1 : Int32)), .int v_cards])), (a_text, .inl (cC, 60, .inl v_text))] H := hP
      have hD : va_D A [(a_this, .inr (9, [.ref a_s, .ref a_before, .ref a_kept, .ref a_aside, .ref a_order, .ref a_rank, .int v_onWall, .ref a_straight, .ref a_sorted, .ref a_longest, .int v_straightMany, .ref a_read, .ref a_text, .int v_length, .int v_states, .int v_isKept, .int (v_at_16 + (1 : Int32)), .int v_cards])), (a_text, .inl (cC, 60, .inl v_text))] := hD
      have hl : lv_has ls 4 [(0, .ref a_this), (2, .int x2), (3, .int ((v_text (v_at_16).toNatClampNeg) - (48 : Int32)))] := lv_sub hl [1, 2, 0] rfl
      unfold wp_X9_number_l49 at hwp
      obtain ⟨J49, μ49, hJ, hst49⟩ := hwp
      have hL49 : ∀ (n : Nat) (x3_49 : Int32) (v_at_49 : Int32), μ49 x3_49 v_at_49 < n → J49 x3_49 v_at_49 → ∀ (H : Heap) (locs : List Loc), va_P D vwCl [(a_this, .inr (9, [.ref a_s, .ref a_before, .ref a_kept, .ref a_aside, .ref a_order, .ref a_rank, .int v_onWall, .ref a_straight, .ref a_sorted, .ref a_longest, .int v_straightMany, .ref a_read, .ref a_text, .int v_length, .int v_states, .int v_isKept, .int v_at_49, .int v_cards])), (a_text, .inl (cC, 60, .inl v_text))] H → va_D A [(a_this, .inr (9, [.ref a_s, .ref a_before, .ref a_kept, .ref a_aside, .ref a_order, .ref a_rank, .int v_onWall, .ref a_straight, .ref a_sorted, .ref a_longest, .int v_straightMany, .ref a_read, .ref a_text, .int v_length, .int v_states, .int v_isKept, .int v_at_49, .int v_cards])), (a_text, .inl (cC, 60, .inl v_text))] → va_S A s.heap H locs → ∀ ls : Array Slot, lv_has ls 4 [(0, .ref a_this), (2, .int x2), (3, .int x3_49)] → W p l e rm_X9_number s m args below meth c H locs 0 0 Q (F0 m 49 ls []) := by
        intro n
        induction n with
        | zero => intro x3_49 v_at_49 h; exact absurd h (Nat.not_lt_zero _)
        | succ n ih49 =>
          intro x3_49 v_at_49 hμ49 hJ H locs hP hD hS ls hl
          have hwp := hst49 x3_49 v_at_49 hJ
          refine lv_iload_n hx hb dX9_number_49 rfl (lv_at hl 2 rfl) ?_
          refine lv_if_le (tgt := 120) hx hb dX9_number_50 (by decide) (fun hc => ?_) (fun hc => ?_)
          · have hwp := hwp.1 hc
            refine lv_iload_n hx hb dX9_number_120 rfl (lv_at hl 2 rfl) ?_
            exact hret v_at_49 [0, 1] dX9_number_121 hwp rfl rfl hP hD hS
          · have hwp := hwp.2 hc
            refine lv_aload_n hx hb dX9_number_53 rfl (lv_at hl 0 rfl) ?_
            refine lv_aload_n hx hb dX9_number_54 rfl (lv_at hl 0 rfl) ?_
            refine va_get (D := D) (ci := 9) (v := .int v_at_49) (C := RX9) (T := TX9) (N := 18) hx hb hts mc_X9_number_9 hown hK hP 0 rfl rfl 16 (by decide) (hts _ ml_X9_number_1) (fun _ h9 => h9) rfl dX9_number_55 ?_
            refine lv_bipush (v := 48) hx hb dX9_number_58 (by decide) ?_
            refine lv_bipush (v := 57) hx hb dX9_number_60 (by decide) ?_
            refine gBacki (D := D) (tys := gT cI cC cF cO) (A := A) (wr := []) (w1 := (fun u_5 : Unit => [(a_this, .inr (9, [.ref a_s, .ref a_before, .ref a_kept, .ref a_aside, .ref a_order, .ref a_rank, .int v_onWall, .ref a_straight, .ref a_sorted, .ref a_longest, .int v_straightMany, .ref a_read, .ref a_text, .int v_length, .int v_states, .int v_isKept, .int v_at_49, .int v_cards])), (a_text, .inl (cC, 60, .inl v_text))])) (va_runV (As := [.int v_at_49, .int (48 : Int32), .int (57 : Int32)]) (rest := []) ⟨hx, hb, hml, hown, hts⟩ (c_X9_isSign l D cI cC cF cO a_this a_text a_s a_before a_kept a_aside a_order a_rank a_straight a_sorted a_longest a_read v_onWall v_straightMany v_states v_isKept v_at_49 v_cards _ _ _ _ _ _ _ hwp) (cwV 3 hts gX9_number_X9_isSign rfl rfl rfl (by decide +kernel) ⟨Nat.le_of_ble_eq_true rfl, Nat.le_of_ble_eq_true rfl⟩) (gPreV (C := RX9) (T := TX9) (N := 18) (ci := 9) hK hX hT hP hD hS hA [0, 1] rfl rfl rfl (qb := 0) rfl) rfl rfl hl.1 rfl (lv_room (Nat.le_of_ble_eq_true rfl)) dX9_number_62 ⟨Nat.le_of_ble_eq_true rfl, Nat.le_of_ble_eq_true rfl⟩) hP hD hS hA [0, 1] [] rfl rfl rfl (by decide) (fun r_4 u_5 H locs hwp hP hD hS => ?_)
            have hP : va_P D vwCl [(a_this, .inr (9, [.ref a_s, .ref a_before, .ref a_kept, .ref a_aside, .ref a_order, .ref a_rank, .int v_onWall, .ref a_straight, .ref a_sorted, .ref a_longest, .int v_straightMany, .ref a_read, .ref a_text, .int v_length, .int v_states, .int v_isKept, .int v_at_49, .int v_cards])), (a_text, .inl (cC, 60, .inl v_text))] H := hP
            have hD : va_D A [(a_this, .inr (9, [.ref a_s, .ref a_before, .ref a_kept, .ref a_aside, .ref a_order, .ref a_rank, .int v_onWall, .ref a_straight, .ref a_sorted, .ref a_longest, .int v_straightMany, .ref a_read, .ref a_text, .int v_length, .int v_states, .int v_isKept, .int v_at_49, .int v_cards])), (a_text, .inl (cC, 60, .inl v_text))] := hD
            refine lv_if_eq (tgt := 120) hx hb dX9_number_65 (by decide) (fun hc => ?_) (fun hc => ?_)
            · have hwp := hwp.1 hc
              refine lv_iload_n hx hb dX9_number_120 rfl (lv_at hl 2 rfl) ?_
              exact hret v_at_49 [0, 1] dX9_number_121 hwp rfl rfl hP hD hS
            · have hwp := hwp.2 hc
              refine lv_bipush (v := 10) hx hb dX9_number_68 (by decide) ?_
              refine lv_iload_n hx hb dX9_number_70 rfl (lv_at hl 2 rfl) ?_
              refine lv_imul hx hb dX9_number_71 ?_
              refine lv_aload_n hx hb dX9_number_72 rfl (lv_at hl 0 rfl) ?_
              refine va_get (D := D) (ci := 9) (v := .ref a_text) (C := RX9) (T := TX9) (N := 18) hx hb hts mc_X9_number_9 hown hK hP 0 rfl rfl 12 (by decide) (hts _ ml_X9_number_2) (fun _ h9 => h9) rfl dX9_number_73 ?_
              refine lv_aload_n hx hb dX9_number_76 rfl (lv_at hl 0 rfl) ?_
              refine va_get (D := D) (ci := 9) (v := .int v_at_49) (C := RX9) (T := TX9) (N := 18) hx hb hts mc_X9_number_9 hown hK hP 0 rfl rfl 16 (by decide) (hts _ ml_X9_number_1) (fun _ h9 => h9) rfl dX9_number_77 ?_
              have hn_6 := hwp.1
              have hwp := hwp.2
              refine va_cald (D := D) hx hb hK hP 1 1 rfl rfl hn_6 dX9_number_80 ?_
              refine lv_iadd hx hb dX9_number_81 ?_
              refine lv_bipush (v := 48) hx hb dX9_number_82 (by decide) ?_
              refine lv_isub hx hb dX9_number_84 ?_
              refine lv_iload_n hx hb dX9_number_85 rfl (lv_at hl 1 rfl) ?_
              refine lv_icmp_gt (tgt := 120) hx hb dX9_number_86 (by decide) (fun hc => ?_) (fun hc => ?_)
              · have hwp := hwp.1 hc
                refine lv_iload_n hx hb dX9_number_120 rfl (lv_at hl 2 rfl) ?_
                exact hret v_at_49 [0, 1] dX9_number_121 hwp rfl rfl hP hD hS
              · have hwp := hwp.2 hc
                refine lv_bipush (v := 10) hx hb dX9_number_89 (by decide) ?_
                refine lv_iload_n hx hb dX9_number_91 rfl (lv_at hl 2 rfl) ?_
                refine lv_imul hx hb dX9_number_92 ?_
                refine lv_aload_n hx hb dX9_number_93 rfl (lv_at hl 0 rfl) ?_
                refine va_get (D := D) (ci := 9) (v := .ref a_text) (C := RX9) (T := TX9) (N := 18) hx hb hts mc_X9_number_9 hown hK hP 0 rfl rfl 12 (by decide) (hts _ ml_X9_number_2) (fun _ h9 => h9) rfl dX9_number_94 ?_
                refine lv_aload_n hx hb dX9_number_97 rfl (lv_at hl 0 rfl) ?_
                refine va_get (D := D) (ci := 9) (v := .int v_at_49) (C := RX9) (T := TX9) (N := 18) hx hb hts mc_X9_number_9 hown hK hP 0 rfl rfl 16 (by decide) (hts _ ml_X9_number_1) (fun _ h9 => h9) rfl dX9_number_98 ?_
                have hn_7 := hwp.1
                have hwp := hwp.2
                refine va_cald (D := D) hx hb hK hP 1 1 rfl rfl hn_7 dX9_number_101 ?_
                refine lv_iadd hx hb dX9_number_102 ?_
                refine lv_bipush (v := 48) hx hb dX9_number_103 (by decide) ?_
                refine lv_isub hx hb dX9_number_105 ?_
                refine lv_istore_n (lv' := [(3, .int ((((10 : Int32) * x3_49) + (v_text (v_at_49).toNatClampNeg)) - (48 : Int32))), (0, .ref a_this), (2, .int x2)]) hx hb dX9_number_106 rfl hl (by decide) rfl (fun ls hl => ?_)
                refine lv_aload_n hx hb dX9_number_107 rfl (lv_at hl 1 rfl) ?_
                refine lv_dup hx hb dX9_number_108 rfl ?_
                refine va_get (D := D) (ci := 9) (v := .int v_at_49) (C := RX9) (T := TX9) (N := 18) hx hb hts mc_X9_number_9 hown hK hP 0 rfl rfl 16 (by decide) (hts _ ml_X9_number_1) (fun _ h9 => h9) rfl dX9_number_109 ?_
                refine lv_iconst (v := 1) hx hb dX9_number_112 (by decide) ?_
                refine lv_iadd hx hb dX9_number_113 ?_
                refine va_put (D := D) (ci := 9) (v := .int (v_at_49 + (1 : Int32))) (ty := .int) (C := RX9) (T := TX9) (N := 18) hx hb hts mc_X9_number_9 tyX9 tyX9_ok nmX9 hown hK hP hD hS 0 rfl rfl 16 (by decide) (hts _ ml_X9_number_1) (fun _ h9 => h9) rfl (by decide +kernel) rfl rfl (Nat.le_of_ble_eq_true rfl) dX9_number_114 (fun H locs hP hD hS => ?_)
                have hP : va_P D vwCl [(a_this, .inr (9, [.ref a_s, .ref a_before, .ref a_kept, .ref a_aside, .ref a_order, .ref a_rank, .int v_onWall, .ref a_straight, .ref a_sorted, .ref a_longest, .int v_straightMany, .ref a_read, .ref a_text, .int v_length, .int v_states, .int v_isKept, .int (v_at_49 + (1 : Int32)), .int v_cards])), (a_text, .inl (cC, 60, .inl v_text))] H := hP
                have hD : va_D A [(a_this, .inr (9, [.ref a_s, .ref a_before, .ref a_kept, .ref a_aside, .ref a_order, .ref a_rank, .int v_onWall, .ref a_straight, .ref a_sorted, .ref a_longest, .int v_straightMany, .ref a_read, .ref a_text, .int v_length, .int v_states, .int v_isKept, .int (v_at_49 + (1 : Int32)), .int v_cards])), (a_text, .inl (cC, 60, .inl v_text))] := hD
                refine lv_goto (tgt := 49) hx hb dX9_number_117 (by decide) ?_
                have hl : lv_has ls 4 [(0, .ref a_this), (2, .int x2), (3, .int ((((10 : Int32) * x3_49) + (v_text (v_at_49).toNatClampNeg)) - (48 : Int32)))] := lv_sub hl [1, 2, 0] rfl
                exact ih49 ((((10 : Int32) * x3_49) + (v_text (v_at_49).toNatClampNeg)) - (48 : Int32)) (v_at_49 + (1 : Int32)) (Nat.lt_of_lt_of_le hwp.2 (Nat.le_of_lt_succ hμ49)) hwp.1 _ _ hP hD hS ls hl
      exact hL49 _ ((v_text (v_at_16).toNatClampNeg) - (48 : Int32)) (v_at_16 + (1 : Int32)) (Nat.lt_succ_self _) hJ _ _ hP hD hS ls hl
    · have hwp := hwp.1 hc
      refine lv_iconst (v := -1) hx hb dX9_number_24 (by decide) ?_
      exact hret v_at_16 [0, 1] dX9_number_25 hwp rfl rfl hP hD hS
  refine lv_aload_n hx hb dX9_number_0 rfl (lv_at hl 0 rfl) ?_
  refine lv_aload_n hx hb dX9_number_1 rfl (lv_at hl 0 rfl) ?_
  refine va_get (D := D) (ci := 9) (v := .int v_at) (C := RX9) (T := TX9) (N := 18) hx hb hts mc_X9_number_9 hown hK hP 0 rfl rfl 16 (by decide) (hts _ ml_X9_number_1) (fun _ h9 => h9) rfl dX9_number_2 ?_
  refine lv_iload_n hx hb dX9_number_5 rfl (lv_at hl 1 rfl) ?_
  refine lv_if_ne (tgt := 14) hx hb dX9_number_6 (by decide) (fun hc => ?_) (fun hc => ?_)
  · have hwp := hwp.2 hc
    refine lv_bipush (v := 49) hx hb dX9_number_14 (by decide) ?_
    have hl : lv_has ls 4 [(0, .ref a_this), (2, .int x2)] := lv_sub hl [0, 2] rfl
    exact hj16 (49 : Int32) v_at v_at _ _ hwp hP hD hS ls hl
  · have hwp := hwp.1 hc
    refine lv_bipush (v := 48) hx hb dX9_number_9 (by decide) ?_
    refine lv_goto (tgt := 16) hx hb dX9_number_11 (by decide) ?_
    have hl : lv_has ls 4 [(0, .ref a_this), (2, .int x2)] := lv_sub hl [0, 2] rfl
    exact hj16 (48 : Int32) v_at v_at _ _ hwp hP hD hS ls hl
theorem mc_X9_comma_9 : ∀ w ∈ u_ws RX9 TX9 18, w ∈ wsX9_comma := fun w h => List.mem_cons_of_mem _ (List.mem_append_right _ h)
theorem ml_X9_comma_1 : (.fieldLink RX9 90 "StoryWallModel" "at" "I" : Cond) ∈ wsX9_comma := List.mem_of_getElem? (i := 1) rfl
abbrev rm_X9_comma : Room := { frames := 1, cells := 0, slots := 0, locals := 23 }
set_option maxHeartbeats 4000000 in
set_option maxRecDepth 100000 in
theorem c_X9_comma (l : Launch) (D : va_G) (cI cC cF cO : ClassId) (a_this a_text a_s a_before a_kept a_aside a_order a_rank a_straight a_sorted a_longest a_read : Nat) (v_onWall : Int32) (v_straightMany : Int32) (v_states : Int32) (v_isKept : Int32) (v_cards : Int32) (sz : Nat)  (v_length : Int32) (v_at : Int32) (v_text : Nat → Int32) (post : Int32 → Int32 → Prop) (hwp : wp_X9_comma v_length v_at v_text post) : Met l yX9_comma wsX9_comma rm_X9_comma (gPre D (gT cI cC cF cO) [.ref a_this] [(a_this, .inr (9, [.ref a_s, .ref a_before, .ref a_kept, .ref a_aside, .ref a_order, .ref a_rank, .int v_onWall, .ref a_straight, .ref a_sorted, .ref a_longest, .int v_straightMany, .ref a_read, .ref a_text, .int v_length, .int v_states, .int v_isKept, .int v_at, .int v_cards])), (a_text, .inl (cC, 60, .inl v_text))] sz) (va_Qi (S := Int32) (fun (r : Int32) (u : Int32) => post r u) (gB D (gT cI cC cF cO) (fun (u : Int32) => [(a_this, .inr (9, [.ref a_s, .ref a_before, .ref a_kept, .ref a_aside, .ref a_order, .ref a_rank, .int v_onWall, .ref a_straight, .ref a_sorted, .ref a_longest, .int v_straightMany, .ref a_read, .ref a_text, .int v_length, .int v_states, .int v_isKept, .int u, .int v_cards])), (a_text, .inl (cC, 60, .inl v_text))]) [(a_this, .inr (9, [.ref a_s, .ref a_before, .ref a_kept, .ref a_aside, .ref a_order, .ref a_rank, .int v_onWall, .ref a_straight, .ref a_sorted, .ref a_longest, .int v_straightMany, .ref a_read, .ref a_text, .int v_length, .int v_states, .int v_isKept, .int v_at, .int v_cards])), (a_text, .inl (cC, 60, .inl v_text))] sz) (va_A [(a_this, .inr (9, [.ref a_s, .ref a_before, .ref a_kept, .ref a_aside, .ref a_order, .ref a_rank, .int v_onWall, .ref a_straight, .ref a_sorted, .ref a_longest, .int v_straightMany, .ref a_read, .ref a_text, .int v_length, .int v_states, .int v_isKept, .int v_at, .int v_cards])), (a_text, .inl (cC, 60, .inl v_text))] sz)) 0 0 (va_A [(a_this, .inr (9, [.ref a_s, .ref a_before, .ref a_kept, .ref a_aside, .ref a_order, .ref a_rank, .int v_onWall, .ref a_straight, .ref a_sorted, .ref a_longest, .int v_straightMany, .ref a_read, .ref a_text, .int v_length, .int v_states, .int v_isKept, .int v_at, .int v_cards])), (a_text, .inl (cC, 60, .inl v_text))] sz) := by
  refine gOfz (own := RX9) (cc := cX9_comma) (maxL := 2) (ret := (some .boolean)) rfl (by decide) rfl (Nat.le_of_ble_eq_true rfl) rfl ?_
  intro p e s m below meth c A args Q hAe hx hb hr hts hown hml hlocks hname hA hK hX hT hP hD hS hret ls hl
  have hl : lv_has ls 2 [(0, .ref a_this)] := hl
  unfold wp_X9_comma at hwp
  refine lv_aload_n hx hb dX9_comma_0 rfl (lv_at hl 0 rfl) ?_
  refine lv_aload_n hx hb dX9_comma_1 rfl (lv_at hl 0 rfl) ?_
  refine va_get (D := D) (ci := 9) (v := .int v_at) (C := RX9) (T := TX9) (N := 18) hx hb hts mc_X9_comma_9 hown hK hP 0 rfl rfl 16 (by decide) (hts _ ml_X9_comma_1) (fun _ h9 => h9) rfl dX9_comma_2 ?_
  refine lv_bipush (v := 44) hx hb dX9_comma_5 (by decide) ?_
  refine lv_bipush (v := 44) hx hb dX9_comma_7 (by decide) ?_
  refine gBacki (D := D) (tys := gT cI cC cF cO) (A := A) (wr := []) (w1 := (fun u_2 : Unit => [(a_this, .inr (9, [.ref a_s, .ref a_before, .ref a_kept, .ref a_aside, .ref a_order, .ref a_rank, .int v_onWall, .ref a_straight, .ref a_sorted, .ref a_longest, .int v_straightMany, .ref a_read, .ref a_text, .int v_length, .int v_states, .int v_isKept, .int v_at, .int v_cards])), (a_text, .inl (cC, 60, .inl v_text))])) (va_runV (As := [.int v_at, .int (44 : Int32), .int (44 : Int32)]) (rest := []) ⟨hx, hb, hml, hown, hts⟩ (c_X9_isSign l D cI cC cF cO a_this a_text a_s a_before a_kept a_aside a_order a_rank a_straight a_sorted a_longest a_read v_onWall v_straightMany v_states v_isKept v_at v_cards _ _ _ _ _ _ _ hwp) (cwV 3 hts gX9_comma_X9_isSign rfl rfl rfl (by decide +kernel) ⟨Nat.le_of_ble_eq_true rfl, Nat.le_of_ble_eq_true rfl⟩) (gPreV (C := RX9) (T := TX9) (N := 18) (ci := 9) hK hX hT hP hD hS hA [0, 1] rfl rfl rfl (qb := 0) rfl) rfl rfl hl.1 rfl (lv_room (Nat.le_of_ble_eq_true rfl)) dX9_comma_9 ⟨Nat.le_of_ble_eq_true rfl, Nat.le_of_ble_eq_true rfl⟩) hP hD hS hA [0, 1] [] rfl rfl rfl (by decide) (fun r_1 u_2 H locs hwp hP hD hS => ?_)
  have hP : va_P D vwCl [(a_this, .inr (9, [.ref a_s, .ref a_before, .ref a_kept, .ref a_aside, .ref a_order, .ref a_rank, .int v_onWall, .ref a_straight, .ref a_sorted, .ref a_longest, .int v_straightMany, .ref a_read, .ref a_text, .int v_length, .int v_states, .int v_isKept, .int v_at, .int v_cards])), (a_text, .inl (cC, 60, .inl v_text))] H := hP
  have hD : va_D A [(a_this, .inr (9, [.ref a_s, .ref a_before, .ref a_kept, .ref a_aside, .ref a_order, .ref a_rank, .int v_onWall, .ref a_straight, .ref a_sorted, .ref a_longest, .int v_straightMany, .ref a_read, .ref a_text, .int v_length, .int v_states, .int v_isKept, .int v_at, .int v_cards])), (a_text, .inl (cC, 60, .inl v_text))] := hD
  refine lv_istore_n (lv' := [(1, .int r_1), (0, .ref a_this)]) hx hb dX9_comma_12 rfl hl (by decide) rfl (fun ls hl => ?_)
  refine lv_aload_n hx hb dX9_comma_13 rfl (lv_at hl 1 rfl) ?_
  refine lv_dup hx hb dX9_comma_14 rfl ?_
  refine va_get (D := D) (ci := 9) (v := .int v_at) (C := RX9) (T := TX9) (N := 18) hx hb hts mc_X9_comma_9 hown hK hP 0 rfl rfl 16 (by decide) (hts _ ml_X9_comma_1) (fun _ h9 => h9) rfl dX9_comma_15 ?_
  refine lv_iload_n hx hb dX9_comma_18 rfl (lv_at hl 0 rfl) ?_
  refine lv_if_eq (tgt := 26) hx hb dX9_comma_19 (by decide) (fun hc => ?_) (fun hc => ?_)
  · have hwp := hwp.1 hc
    refine lv_iconst (v := 0) hx hb dX9_comma_26 (by decide) ?_
    refine lv_iadd hx hb dX9_comma_27 ?_
    refine va_put (D := D) (ci := 9) (v := .int (v_at + (0 : Int32))) (ty := .int) (C := RX9) (T := TX9) (N := 18) hx hb hts mc_X9_comma_9 tyX9 tyX9_ok nmX9 hown hK hP hD hS 0 rfl rfl 16 (by decide) (hts _ ml_X9_comma_1) (fun _ h9 => h9) rfl (by decide +kernel) rfl rfl (Nat.le_of_ble_eq_true rfl) dX9_comma_28 (fun H locs hP hD hS => ?_)
    have hP : va_P D vwCl [(a_this, .inr (9, [.ref a_s, .ref a_before, .ref a_kept, .ref a_aside, .ref a_order, .ref a_rank, .int v_onWall, .ref a_straight, .ref a_sorted, .ref a_longest, .int v_straightMany, .ref a_read, .ref a_text, .int v_length, .int v_states, .int v_isKept, .int (v_at + (0 : Int32)), .int v_cards])), (a_text, .inl (cC, 60, .inl v_text))] H := hP
    have hD : va_D A [(a_this, .inr (9, [.ref a_s, .ref a_before, .ref a_kept, .ref a_aside, .ref a_order, .ref a_rank, .int v_onWall, .ref a_straight, .ref a_sorted, .ref a_longest, .int v_straightMany, .ref a_read, .ref a_text, .int v_length, .int v_states, .int v_isKept, .int (v_at + (0 : Int32)), .int v_cards])), (a_text, .inl (cC, 60, .inl v_text))] := hD
    refine lv_iload_n hx hb dX9_comma_31 rfl (lv_at hl 0 rfl) ?_
    have hn_3 := hwp.1
    have hwp := hwp.2
    exact hret (v_at + (0 : Int32)) [0, 1] dX9_comma_32 hn_3 hwp rfl rfl hP hD hS
  · have hwp := hwp.2 hc
    refine lv_iconst (v := 1) hx hb dX9_comma_22 (by decide) ?_
    refine lv_goto (tgt := 27) hx hb dX9_comma_23 (by decide) ?_
    refine lv_iadd hx hb dX9_comma_27 ?_
    refine va_put (D := D) (ci := 9) (v := .int (v_at + (1 : Int32))) (ty := .int) (C := RX9) (T := TX9) (N := 18) hx hb hts mc_X9_comma_9 tyX9 tyX9_ok nmX9 hown hK hP hD hS 0 rfl rfl 16 (by decide) (hts _ ml_X9_comma_1) (fun _ h9 => h9) rfl (by decide +kernel) rfl rfl (Nat.le_of_ble_eq_true rfl) dX9_comma_28 (fun H locs hP hD hS => ?_)
    have hP : va_P D vwCl [(a_this, .inr (9, [.ref a_s, .ref a_before, .ref a_kept, .ref a_aside, .ref a_order, .ref a_rank, .int v_onWall, .ref a_straight, .ref a_sorted, .ref a_longest, .int v_straightMany, .ref a_read, .ref a_text, .int v_length, .int v_states, .int v_isKept, .int (v_at + (1 : Int32)), .int v_cards])), (a_text, .inl (cC, 60, .inl v_text))] H := hP
    have hD : va_D A [(a_this, .inr (9, [.ref a_s, .ref a_before, .ref a_kept, .ref a_aside, .ref a_order, .ref a_rank, .int v_onWall, .ref a_straight, .ref a_sorted, .ref a_longest, .int v_straightMany, .ref a_read, .ref a_text, .int v_length, .int v_states, .int v_isKept, .int (v_at + (1 : Int32)), .int v_cards])), (a_text, .inl (cC, 60, .inl v_text))] := hD
    refine lv_iload_n hx hb dX9_comma_31 rfl (lv_at hl 0 rfl) ?_
    have hn_4 := hwp.1
    have hwp := hwp.2
    exact hret (v_at + (1 : Int32)) [0, 1] dX9_comma_32 hn_4 hwp rfl rfl hP hD hS
theorem mc_X9_readsCard_9 : ∀ w ∈ u_ws RX9 TX9 18, w ∈ wsX9_readsCard := fun w h => List.mem_cons_of_mem _ (List.mem_append_right _ h)
theorem ml_X9_readsCard_1 : (.fieldLink RX9 97 "StoryWallModel" "cards" "I" : Cond) ∈ wsX9_readsCard := List.mem_of_getElem? (i := 1) rfl
theorem ml_X9_readsCard_2 : (.fieldLink RX9 90 "StoryWallModel" "at" "I" : Cond) ∈ wsX9_readsCard := List.mem_of_getElem? (i := 2) rfl
theorem ml_X9_readsCard_3 : (.fieldLink RX9 37 "StoryWallModel" "read" "[I" : Cond) ∈ wsX9_readsCard := List.mem_of_getElem? (i := 3) rfl
theorem ml_X9_readsCard_4 : (.fieldLink RX9 40 "StoryWallModel" "text" "[C" : Cond) ∈ wsX9_readsCard := List.mem_of_getElem? (i := 4) rfl
abbrev rm_X9_readsCard : Room := { frames := 2, cells := 0, slots := 0, locals := 46 }
set_option maxHeartbeats 4000000 in
set_option maxRecDepth 100000 in
theorem c_X9_readsCard (l : Launch) (D : va_G) (cI cC cF cO : ClassId) (a_this a_read a_text a_s a_before a_kept a_aside a_order a_rank a_straight a_sorted a_longest : Nat) (v_onWall : Int32) (v_straightMany : Int32) (v_states : Int32) (v_isKept : Int32) (sz : Nat)  (v_length : Int32) (v_at : Int32) (v_cards : Int32) (v_read : Nat → Int32) (v_text : Nat → Int32) (post : Int32 → Int32 → Int32 → (Nat → Int32) → Prop) (hwp : wp_X9_readsCard v_length v_at v_cards v_read v_text post) : Met l yX9_readsCard wsX9_readsCard rm_X9_readsCard (gPre D (gT cI cC cF cO) [.ref a_this] [(a_this, .inr (9, [.ref a_s, .ref a_before, .ref a_kept, .ref a_aside, .ref a_order, .ref a_rank, .int v_onWall, .ref a_straight, .ref a_sorted, .ref a_longest, .int v_straightMany, .ref a_read, .ref a_text, .int v_length, .int v_states, .int v_isKept, .int v_at, .int v_cards])), (a_read, .inl (cI, 160, .inl v_read)), (a_text, .inl (cC, 60, .inl v_text))] sz) (va_Qi (S := Int32 × Int32 × (Nat → Int32)) (fun (r : Int32) (u : Int32 × Int32 × (Nat → Int32)) => post r u.1 u.2.1 u.2.2) (gB D (gT cI cC cF cO) (fun (u : Int32 × Int32 × (Nat → Int32)) => [(a_this, .inr (9, [.ref a_s, .ref a_before, .ref a_kept, .ref a_aside, .ref a_order, .ref a_rank, .int v_onWall, .ref a_straight, .ref a_sorted, .ref a_longest, .int v_straightMany, .ref a_read, .ref a_text, .int v_length, .int v_states, .int v_isKept, .int u.1, .int u.2.1])), (a_read, .inl (cI, 160, .inl u.2.2)), (a_text, .inl (cC, 60, .inl v_text))]) [(a_this, .inr (9, [.ref a_s, .ref a_before, .ref a_kept, .ref a_aside, .ref a_order, .ref a_rank, .int v_onWall, .ref a_straight, .ref a_sorted, .ref a_longest, .int v_straightMany, .ref a_read, .ref a_text, .int v_length, .int v_states, .int v_isKept, .int v_at, .int v_cards])), (a_read, .inl (cI, 160, .inl v_read)), (a_text, .inl (cC, 60, .inl v_text))] sz) (va_A [(a_this, .inr (9, [.ref a_s, .ref a_before, .ref a_kept, .ref a_aside, .ref a_order, .ref a_rank, .int v_onWall, .ref a_straight, .ref a_sorted, .ref a_longest, .int v_straightMany, .ref a_read, .ref a_text, .int v_length, .int v_states, .int v_isKept, .int v_at, .int v_cards])), (a_read, .inl (cI, 160, .inl v_read)), (a_text, .inl (cC, 60, .inl v_text))] sz)) 0 0 (va_A [(a_this, .inr (9, [.ref a_s, .ref a_before, .ref a_kept, .ref a_aside, .ref a_order, .ref a_rank, .int v_onWall, .ref a_straight, .ref a_sorted, .ref a_longest, .int v_straightMany, .ref a_read, .ref a_text, .int v_length, .int v_states, .int v_isKept, .int v_at, .int v_cards])), (a_read, .inl (cI, 160, .inl v_read)), (a_text, .inl (cC, 60, .inl v_text))] sz) := by
  refine gOfz (own := RX9) (cc := cX9_readsCard) (maxL := 2) (ret := (some .boolean)) rfl (by decide) rfl (Nat.le_of_ble_eq_true rfl) rfl ?_
  intro p e s m below meth c A args Q hAe hx hb hr hts hown hml hlocks hname hA hK hX hT hP hD hS hret ls hl
  have hl : lv_has ls 2 [(0, .ref a_this)] := hl
  unfold wp_X9_readsCard at hwp
  have hj179 : ∀ (x1_179 : Int32) (k0_179 : Int32) (k1_179 : Int32) (v_at_179 : Int32) (v_cards_179 : Int32) (v_read_179 : Nat → Int32) (H : Heap) (locs : List Loc), wp_X9_readsCard_j179 x1_179 k0_179 k1_179 v_length v_at_179 v_cards_179 v_read_179 v_text  post → va_P D vwCl [(a_this, .inr (9, [.ref a_s, .ref a_before, .ref a_kept, .ref a_aside, .ref a_order, .ref a_rank, .int v_onWall, .ref a_straight, .ref a_sorted, .ref a_longest, .int v_straightMany, .ref a_read, .ref a_text, .int v_length, .int v_states, .int v_isKept, .int v_at_179, .int v_cards_179])), (a_read, .inl (cI, 160, .inl v_read_179)), (a_text, .inl (cC, 60, .inl v_text))] H → va_D A [(a_this, .inr (9, [.ref a_s, .ref a_before, .ref a_kept, .ref a_aside, .ref a_order, .ref a_rank, .int v_onWall, .ref a_straight, .ref a_sorted, .ref a_longest, .int v_straightMany, .ref a_read, .ref a_text, .int v_length, .int v_states, .int v_isKept, .int v_at_179, .int v_cards_179])), (a_read, .inl (cI, 160, .inl v_read_179)), (a_text, .inl (cC, 60, .inl v_text))] → va_S A s.heap H locs → ∀ ls : Array Slot, lv_has ls 2 [(0, .ref a_this), (1, .int x1_179)] → W p l e rm_X9_readsCard s m args below meth c H locs 0 0 Q (F0 m 179 ls [.int k0_179, .int k1_179, .ref a_read]) := by
    intro x1_179 k0_179 k1_179 v_at_179 v_cards_179 v_read_179 H locs hwp hP hD hS ls hl
    unfold wp_X9_readsCard_j179 at hwp
    have hn_1 := hwp.1
    have hwp := hwp.2
    refine va_iast (D := D) hx hb hK hP hD hS 1 0 rfl rfl hn_1 dX9_readsCard_179 (fun H locs hP hD hS => ?_)
    have hP : va_P D vwCl [(a_this, .inr (9, [.ref a_s, .ref a_before, .ref a_kept, .ref a_aside, .ref a_order, .ref a_rank, .int v_onWall, .ref a_straight, .ref a_sorted, .ref a_longest, .int v_straightMany, .ref a_read, .ref a_text, .int v_length, .int v_states, .int v_isKept, .int v_at_179, .int v_cards_179])), (a_read, .inl (cI, 160, .inl (upd v_read_179 (k1_179).toNatClampNeg k0_179))), (a_text, .inl (cC, 60, .inl v_text))] H := hP
    have hD : va_D A [(a_this, .inr (9, [.ref a_s, .ref a_before, .ref a_kept, .ref a_aside, .ref a_order, .ref a_rank, .int v_onWall, .ref a_straight, .ref a_sorted, .ref a_longest, .int v_straightMany, .ref a_read, .ref a_text, .int v_length, .int v_states, .int v_isKept, .int v_at_179, .int v_cards_179])), (a_read, .inl (cI, 160, .inl (upd v_read_179 (k1_179).toNatClampNeg k0_179))), (a_text, .inl (cC, 60, .inl v_text))] := hD
    refine lv_aload_n hx hb dX9_readsCard_180 rfl (lv_at hl 0 rfl) ?_
    refine lv_dup hx hb dX9_readsCard_181 rfl ?_
    refine va_get (D := D) (ci := 9) (v := .int v_at_179) (C := RX9) (T := TX9) (N := 18) hx hb hts mc_X9_readsCard_9 hown hK hP 0 rfl rfl 16 (by decide) (hts _ ml_X9_readsCard_2) (fun _ h9 => h9) rfl dX9_readsCard_182 ?_
    refine lv_aload_n hx hb dX9_readsCard_185 rfl (lv_at hl 0 rfl) ?_
    refine va_get (D := D) (ci := 9) (v := .ref a_read) (C := RX9) (T := TX9) (N := 18) hx hb hts mc_X9_readsCard_9 hown hK hP 0 rfl rfl 11 (by decide) (hts _ ml_X9_readsCard_3) (fun _ h9 => h9) rfl dX9_readsCard_186 ?_
    refine lv_iload_n hx hb dX9_readsCard_189 rfl (lv_at hl 1 rfl) ?_
    refine lv_iconst (v := 4) hx hb dX9_readsCard_190 (by decide) ?_
    refine lv_iadd hx hb dX9_readsCard_191 ?_
    have hn_2 := hwp.1
    have hwp := hwp.2
    refine va_iald (D := D) hx hb hK hP 1 0 rfl rfl hn_2 dX9_readsCard_192 ?_
    refine lv_iadd hx hb dX9_readsCard_193 ?_
    refine va_put (D := D) (ci := 9) (v := .int (v_at_179 + ((upd v_read_179 (k1_179).toNatClampNeg k0_179) ((x1_179 + (4 : Int32))).toNatClampNeg))) (ty := .int) (C := RX9) (T := TX9) (N := 18) hx hb hts mc_X9_readsCard_9 tyX9 tyX9_ok nmX9 hown hK hP hD hS 0 rfl rfl 16 (by decide) (hts _ ml_X9_readsCard_2) (fun _ h9 => h9) rfl (by decide +kernel) rfl rfl (Nat.le_of_ble_eq_true rfl) dX9_readsCard_194 (fun H locs hP hD hS => ?_)
    have hP : va_P D vwCl [(a_this, .inr (9, [.ref a_s, .ref a_before, .ref a_kept, .ref a_aside, .ref a_order, .ref a_rank, .int v_onWall, .ref a_straight, .ref a_sorted, .ref a_longest, .int v_straightMany, .ref a_read, .ref a_text, .int v_length, .int v_states, .int v_isKept, .int (v_at_179 + ((upd v_read_179 (k1_179).toNatClampNeg k0_179) ((x1_179 + (4 : Int32))).toNatClampNeg)), .int v_cards_179])), (a_read, .inl (cI, 160, .inl (upd v_read_179 (k1_179).toNatClampNeg k0_179))), (a_text, .inl (cC, 60, .inl v_text))] H := hP
    have hD : va_D A [(a_this, .inr (9, [.ref a_s, .ref a_before, .ref a_kept, .ref a_aside, .ref a_order, .ref a_rank, .int v_onWall, .ref a_straight, .ref a_sorted, .ref a_longest, .int v_straightMany, .ref a_read, .ref a_text, .int v_length, .int v_states, .int v_isKept, .int (v_at_179 + ((upd v_read_179 (k1_179).toNatClampNeg k0_179) ((x1_179 + (4 : Int32))).toNatClampNeg)), .int v_cards_179])), (a_read, .inl (cI, 160, .inl (upd v_read_179 (k1_179).toNatClampNeg k0_179))), (a_text, .inl (cC, 60, .inl v_text))] := hD
    refine lv_aload_n hx hb dX9_readsCard_197 rfl (lv_at hl 0 rfl) ?_
    refine lv_dup hx hb dX9_readsCard_198 rfl ?_
    refine va_get (D := D) (ci := 9) (v := .int v_cards_179) (C := RX9) (T := TX9) (N := 18) hx hb hts mc_X9_readsCard_9 hown hK hP 0 rfl rfl 17 (by decide) (hts _ ml_X9_readsCard_1) (fun _ h9 => h9) rfl dX9_readsCard_199 ?_
    refine lv_iconst (v := 1) hx hb dX9_readsCard_202 (by decide) ?_
    refine lv_iadd hx hb dX9_readsCard_203 ?_
    refine va_put (D := D) (ci := 9) (v := .int (v_cards_179 + (1 : Int32))) (ty := .int) (C := RX9) (T := TX9) (N := 18) hx hb hts mc_X9_readsCard_9 tyX9 tyX9_ok nmX9 hown hK hP hD hS 0 rfl rfl 17 (by decide) (hts _ ml_X9_readsCard_1) (fun _ h9 => h9) rfl (by decide +kernel) rfl rfl (Nat.le_of_ble_eq_true rfl) dX9_readsCard_204 (fun H locs hP hD hS => ?_)
    have hP : va_P D vwCl [(a_this, .inr (9, [.ref a_s, .ref a_before, .ref a_kept, .ref a_aside, .ref a_order, .ref a_rank, .int v_onWall, .ref a_straight, .ref a_sorted, .ref a_longest, .int v_straightMany, .ref a_read, .ref a_text, .int v_length, .int v_states, .int v_isKept, .int (v_at_179 + ((upd v_read_179 (k1_179).toNatClampNeg k0_179) ((x1_179 + (4 : Int32))).toNatClampNeg)), .int (v_cards_179 + (1 : Int32))])), (a_read, .inl (cI, 160, .inl (upd v_read_179 (k1_179).toNatClampNeg k0_179))), (a_text, .inl (cC, 60, .inl v_text))] H := hP
    have hD : va_D A [(a_this, .inr (9, [.ref a_s, .ref a_before, .ref a_kept, .ref a_aside, .ref a_order, .ref a_rank, .int v_onWall, .ref a_straight, .ref a_sorted, .ref a_longest, .int v_straightMany, .ref a_read, .ref a_text, .int v_length, .int v_states, .int v_isKept, .int (v_at_179 + ((upd v_read_179 (k1_179).toNatClampNeg k0_179) ((x1_179 + (4 : Int32))).toNatClampNeg)), .int (v_cards_179 + (1 : Int32))])), (a_read, .inl (cI, 160, .inl (upd v_read_179 (k1_179).toNatClampNeg k0_179))), (a_text, .inl (cC, 60, .inl v_text))] := hD
    refine lv_iconst (v := 1) hx hb dX9_readsCard_207 (by decide) ?_
    exact hret ((v_at_179 + ((upd v_read_179 (k1_179).toNatClampNeg k0_179) ((x1_179 + (4 : Int32))).toNatClampNeg)), (v_cards_179 + (1 : Int32)), (upd v_read_179 (k1_179).toNatClampNeg k0_179)) [0, 1, 2] dX9_readsCard_208 (Or.inr rfl) hwp rfl rfl hP hD hS
  refine lv_iconst (v := 5) hx hb dX9_readsCard_0 (by decide) ?_
  refine lv_aload_n hx hb dX9_readsCard_1 rfl (lv_at hl 0 rfl) ?_
  refine va_get (D := D) (ci := 9) (v := .int v_cards) (C := RX9) (T := TX9) (N := 18) hx hb hts mc_X9_readsCard_9 hown hK hP 0 rfl rfl 17 (by decide) (hts _ ml_X9_readsCard_1) (fun _ h9 => h9) rfl dX9_readsCard_2 ?_
  refine lv_imul hx hb dX9_readsCard_5 ?_
  refine lv_istore_n (lv' := [(1, .int ((5 : Int32) * v_cards)), (0, .ref a_this)]) hx hb dX9_readsCard_6 rfl hl (by decide) rfl (fun ls hl => ?_)
  refine lv_aload_n hx hb dX9_readsCard_7 rfl (lv_at hl 1 rfl) ?_
  refine lv_aload_n hx hb dX9_readsCard_8 rfl (lv_at hl 1 rfl) ?_
  refine va_get (D := D) (ci := 9) (v := .int v_at) (C := RX9) (T := TX9) (N := 18) hx hb hts mc_X9_readsCard_9 hown hK hP 0 rfl rfl 16 (by decide) (hts _ ml_X9_readsCard_2) (fun _ h9 => h9) rfl dX9_readsCard_9 ?_
  refine lv_bipush (v := 65) hx hb dX9_readsCard_12 (by decide) ?_
  refine lv_bipush (v := 70) hx hb dX9_readsCard_14 (by decide) ?_
  refine gBacki (D := D) (tys := gT cI cC cF cO) (A := A) (wr := [(a_read, .inl (cI, 160, .inl v_read))]) (w1 := (fun u_4 : Unit => [(a_this, .inr (9, [.ref a_s, .ref a_before, .ref a_kept, .ref a_aside, .ref a_order, .ref a_rank, .int v_onWall, .ref a_straight, .ref a_sorted, .ref a_longest, .int v_straightMany, .ref a_read, .ref a_text, .int v_length, .int v_states, .int v_isKept, .int v_at, .int v_cards])), (a_text, .inl (cC, 60, .inl v_text))])) (va_runV (As := [.int v_at, .int (65 : Int32), .int (70 : Int32)]) (rest := []) ⟨hx, hb, hml, hown, hts⟩ (c_X9_isSign l D cI cC cF cO a_this a_text a_s a_before a_kept a_aside a_order a_rank a_straight a_sorted a_longest a_read v_onWall v_straightMany v_states v_isKept v_at v_cards _ _ _ _ _ _ _ hwp) (cwV 3 hts gX9_readsCard_X9_isSign rfl rfl rfl (by decide +kernel) ⟨Nat.le_of_ble_eq_true rfl, Nat.le_of_ble_eq_true rfl⟩) (gPreV (C := RX9) (T := TX9) (N := 18) (ci := 9) hK hX hT hP hD hS hA [0, 2] rfl rfl rfl (qb := 0) rfl) rfl rfl hl.1 rfl (lv_room (Nat.le_of_ble_eq_true rfl)) dX9_readsCard_16 ⟨Nat.le_of_ble_eq_true rfl, Nat.le_of_ble_eq_true rfl⟩) hP hD hS hA [0, 2] [1] rfl rfl rfl (by decide) (fun r_3 u_4 H locs hwp hP hD hS => ?_)
  have hP : va_P D vwCl [(a_read, .inl (cI, 160, .inl v_read)), (a_this, .inr (9, [.ref a_s, .ref a_before, .ref a_kept, .ref a_aside, .ref a_order, .ref a_rank, .int v_onWall, .ref a_straight, .ref a_sorted, .ref a_longest, .int v_straightMany, .ref a_read, .ref a_text, .int v_length, .int v_states, .int v_isKept, .int v_at, .int v_cards])), (a_text, .inl (cC, 60, .inl v_text))] H := hP
  have hD : va_D A [(a_read, .inl (cI, 160, .inl v_read)), (a_this, .inr (9, [.ref a_s, .ref a_before, .ref a_kept, .ref a_aside, .ref a_order, .ref a_rank, .int v_onWall, .ref a_straight, .ref a_sorted, .ref a_longest, .int v_straightMany, .ref a_read, .ref a_text, .int v_length, .int v_states, .int v_isKept, .int v_at, .int v_cards])), (a_text, .inl (cC, 60, .inl v_text))] := hD
  refine lv_if_ne (tgt := 24) hx hb dX9_readsCard_19 (by decide) (fun hc => ?_) (fun hc => ?_)
  · have hwp := hwp.2 hc
    refine lv_aload_n hx hb dX9_readsCard_24 rfl (lv_at hl 1 rfl) ?_
    refine va_get (D := D) (ci := 9) (v := .ref a_read) (C := RX9) (T := TX9) (N := 18) hx hb hts mc_X9_readsCard_9 hown hK hP 1 rfl rfl 11 (by decide) (hts _ ml_X9_readsCard_3) (fun _ h9 => h9) rfl dX9_readsCard_25 ?_
    refine lv_iload_n hx hb dX9_readsCard_28 rfl (lv_at hl 0 rfl) ?_
    refine lv_aload_n hx hb dX9_readsCard_29 rfl (lv_at hl 1 rfl) ?_
    refine va_get (D := D) (ci := 9) (v := .ref a_text) (C := RX9) (T := TX9) (N := 18) hx hb hts mc_X9_readsCard_9 hown hK hP 1 rfl rfl 12 (by decide) (hts _ ml_X9_readsCard_4) (fun _ h9 => h9) rfl dX9_readsCard_30 ?_
    refine lv_aload_n hx hb dX9_readsCard_33 rfl (lv_at hl 1 rfl) ?_
    refine va_get (D := D) (ci := 9) (v := .int v_at) (C := RX9) (T := TX9) (N := 18) hx hb hts mc_X9_readsCard_9 hown hK hP 1 rfl rfl 16 (by decide) (hts _ ml_X9_readsCard_2) (fun _ h9 => h9) rfl dX9_readsCard_34 ?_
    have hn_5 := hwp.1
    have hwp := hwp.2
    refine va_cald (D := D) hx hb hK hP 2 1 rfl rfl hn_5 dX9_readsCard_37 ?_
    refine lv_bipush (v := 65) hx hb dX9_readsCard_38 (by decide) ?_
    refine lv_isub hx hb dX9_readsCard_40 ?_
    have hn_6 := hwp.1
    have hwp := hwp.2
    refine va_iast (D := D) hx hb hK hP hD hS 0 0 rfl rfl hn_6 dX9_readsCard_41 (fun H locs hP hD hS => ?_)
    have hP : va_P D vwCl [(a_read, .inl (cI, 160, .inl (upd v_read (((5 : Int32) * v_cards)).toNatClampNeg ((v_text (v_at).toNatClampNeg) - (65 : Int32))))), (a_this, .inr (9, [.ref a_s, .ref a_before, .ref a_kept, .ref a_aside, .ref a_order, .ref a_rank, .int v_onWall, .ref a_straight, .ref a_sorted, .ref a_longest, .int v_straightMany, .ref a_read, .ref a_text, .int v_length, .int v_states, .int v_isKept, .int v_at, .int v_cards])), (a_text, .inl (cC, 60, .inl v_text))] H := hP
    have hD : va_D A [(a_read, .inl (cI, 160, .inl (upd v_read (((5 : Int32) * v_cards)).toNatClampNeg ((v_text (v_at).toNatClampNeg) - (65 : Int32))))), (a_this, .inr (9, [.ref a_s, .ref a_before, .ref a_kept, .ref a_aside, .ref a_order, .ref a_rank, .int v_onWall, .ref a_straight, .ref a_sorted, .ref a_longest, .int v_straightMany, .ref a_read, .ref a_text, .int v_length, .int v_states, .int v_isKept, .int v_at, .int v_cards])), (a_text, .inl (cC, 60, .inl v_text))] := hD
    refine lv_aload_n hx hb dX9_readsCard_42 rfl (lv_at hl 1 rfl) ?_
    refine lv_dup hx hb dX9_readsCard_43 rfl ?_
    refine va_get (D := D) (ci := 9) (v := .int v_at) (C := RX9) (T := TX9) (N := 18) hx hb hts mc_X9_readsCard_9 hown hK hP 1 rfl rfl 16 (by decide) (hts _ ml_X9_readsCard_2) (fun _ h9 => h9) rfl dX9_readsCard_44 ?_
    refine lv_iconst (v := 1) hx hb dX9_readsCard_47 (by decide) ?_
    refine lv_iadd hx hb dX9_readsCard_48 ?_
    refine va_put (D := D) (ci := 9) (v := .int (v_at + (1 : Int32))) (ty := .int) (C := RX9) (T := TX9) (N := 18) hx hb hts mc_X9_readsCard_9 tyX9 tyX9_ok nmX9 hown hK hP hD hS 1 rfl rfl 16 (by decide) (hts _ ml_X9_readsCard_2) (fun _ h9 => h9) rfl (by decide +kernel) rfl rfl (Nat.le_of_ble_eq_true rfl) dX9_readsCard_49 (fun H locs hP hD hS => ?_)
    have hP : va_P D vwCl [(a_read, .inl (cI, 160, .inl (upd v_read (((5 : Int32) * v_cards)).toNatClampNeg ((v_text (v_at).toNatClampNeg) - (65 : Int32))))), (a_this, .inr (9, [.ref a_s, .ref a_before, .ref a_kept, .ref a_aside, .ref a_order, .ref a_rank, .int v_onWall, .ref a_straight, .ref a_sorted, .ref a_longest, .int v_straightMany, .ref a_read, .ref a_text, .int v_length, .int v_states, .int v_isKept, .int (v_at + (1 : Int32)), .int v_cards])), (a_text, .inl (cC, 60, .inl v_text))] H := hP
    have hD : va_D A [(a_read, .inl (cI, 160, .inl (upd v_read (((5 : Int32) * v_cards)).toNatClampNeg ((v_text (v_at).toNatClampNeg) - (65 : Int32))))), (a_this, .inr (9, [.ref a_s, .ref a_before, .ref a_kept, .ref a_aside, .ref a_order, .ref a_rank, .int v_onWall, .ref a_straight, .ref a_sorted, .ref a_longest, .int v_straightMany, .ref a_read, .ref a_text, .int v_length, .int v_states, .int v_isKept, .int (v_at + (1 : Int32)), .int v_cards])), (a_text, .inl (cC, 60, .inl v_text))] := hD
    refine lv_aload_n hx hb dX9_readsCard_52 rfl (lv_at hl 1 rfl) ?_
    refine va_get (D := D) (ci := 9) (v := .ref a_read) (C := RX9) (T := TX9) (N := 18) hx hb hts mc_X9_readsCard_9 hown hK hP 1 rfl rfl 11 (by decide) (hts _ ml_X9_readsCard_3) (fun _ h9 => h9) rfl dX9_readsCard_53 ?_
    refine lv_iload_n hx hb dX9_readsCard_56 rfl (lv_at hl 0 rfl) ?_
    refine lv_iconst (v := 1) hx hb dX9_readsCard_57 (by decide) ?_
    refine lv_iadd hx hb dX9_readsCard_58 ?_
    refine lv_aload_n hx hb dX9_readsCard_59 rfl (lv_at hl 1 rfl) ?_
    refine lv_iconst (v := 0) hx hb dX9_readsCard_60 (by decide) ?_
    refine lv_sipush (v := 9999) hx hb dX9_readsCard_61 (by decide) ?_
    refine gBacki (D := D) (tys := gT cI cC cF cO) (A := A) (wr := [(a_read, .inl (cI, 160, .inl (upd v_read (((5 : Int32) * v_cards)).toNatClampNeg ((v_text (v_at).toNatClampNeg) - (65 : Int32)))))]) (w1 := (fun u_9 : Int32 => [(a_this, .inr (9, [.ref a_s, .ref a_before, .ref a_kept, .ref a_aside, .ref a_order, .ref a_rank, .int v_onWall, .ref a_straight, .ref a_sorted, .ref a_longest, .int v_straightMany, .ref a_read, .ref a_text, .int v_length, .int v_states, .int v_isKept, .int u_9, .int v_cards])), (a_text, .inl (cC, 60, .inl v_text))])) (va_runV (As := [.int (0 : Int32), .int (9999 : Int32)]) (rest := [.int (((5 : Int32) * v_cards) + (1 : Int32)), .ref a_read]) ⟨hx, hb, hml, hown, hts⟩ (c_X9_number l D cI cC cF cO a_this a_text a_s a_before a_kept a_aside a_order a_rank a_straight a_sorted a_longest a_read v_onWall v_straightMany v_states v_isKept v_cards _ _ _ _ _ _ _ hwp) (cwV 2 hts gX9_readsCard_X9_number rfl rfl rfl (by decide +kernel) ⟨Nat.le_of_ble_eq_true rfl, Nat.le_of_ble_eq_true rfl⟩) (gPreV (C := RX9) (T := TX9) (N := 18) (ci := 9) hK hX hT hP hD hS hA [1, 2] rfl rfl rfl (qb := 1) rfl) rfl rfl hl.1 rfl (lv_room (Nat.le_of_ble_eq_true rfl)) dX9_readsCard_64 ⟨Nat.le_of_ble_eq_true rfl, Nat.le_of_ble_eq_true rfl⟩) hP hD hS hA [1, 2] [0] rfl rfl rfl (by decide) (fun r_7 u_9 H locs hwp hP hD hS => ?_)
    have hP : va_P D vwCl [(a_read, .inl (cI, 160, .inl (upd v_read (((5 : Int32) * v_cards)).toNatClampNeg ((v_text (v_at).toNatClampNeg) - (65 : Int32))))), (a_this, .inr (9, [.ref a_s, .ref a_before, .ref a_kept, .ref a_aside, .ref a_order, .ref a_rank, .int v_onWall, .ref a_straight, .ref a_sorted, .ref a_longest, .int v_straightMany, .ref a_read, .ref a_text, .int v_length, .int v_states, .int v_isKept, .int u_9, .int v_cards])), (a_text, .inl (cC, 60, .inl v_text))] H := hP
    have hD : va_D A [(a_read, .inl (cI, 160, .inl (upd v_read (((5 : Int32) * v_cards)).toNatClampNeg ((v_text (v_at).toNatClampNeg) - (65 : Int32))))), (a_this, .inr (9, [.ref a_s, .ref a_before, .ref a_kept, .ref a_aside, .ref a_order, .ref a_rank, .int v_onWall, .ref a_straight, .ref a_sorted, .ref a_longest, .int v_straightMany, .ref a_read, .ref a_text, .int v_length, .int v_states, .int v_isKept, .int u_9, .int v_cards])), (a_text, .inl (cC, 60, .inl v_text))] := hD
    have hn_10 := hwp.1
    have hwp := hwp.2
    refine va_iast (D := D) hx hb hK hP hD hS 0 0 rfl rfl hn_10 dX9_readsCard_67 (fun H locs hP hD hS => ?_)
    have hP : va_P D vwCl [(a_read, .inl (cI, 160, .inl (upd (upd v_read (((5 : Int32) * v_cards)).toNatClampNeg ((v_text (v_at).toNatClampNeg) - (65 : Int32))) ((((5 : Int32) * v_cards) + (1 : Int32))).toNatClampNeg r_7))), (a_this, .inr (9, [.ref a_s, .ref a_before, .ref a_kept, .ref a_aside, .ref a_order, .ref a_rank, .int v_onWall, .ref a_straight, .ref a_sorted, .ref a_longest, .int v_straightMany, .ref a_read, .ref a_text, .int v_length, .int v_states, .int v_isKept, .int u_9, .int v_cards])), (a_text, .inl (cC, 60, .inl v_text))] H := hP
    have hD : va_D A [(a_read, .inl (cI, 160, .inl (upd (upd v_read (((5 : Int32) * v_cards)).toNatClampNeg ((v_text (v_at).toNatClampNeg) - (65 : Int32))) ((((5 : Int32) * v_cards) + (1 : Int32))).toNatClampNeg r_7))), (a_this, .inr (9, [.ref a_s, .ref a_before, .ref a_kept, .ref a_aside, .ref a_order, .ref a_rank, .int v_onWall, .ref a_straight, .ref a_sorted, .ref a_longest, .int v_straightMany, .ref a_read, .ref a_text, .int v_length, .int v_states, .int v_isKept, .int u_9, .int v_cards])), (a_text, .inl (cC, 60, .inl v_text))] := hD
    refine lv_aload_n hx hb dX9_readsCard_68 rfl (lv_at hl 1 rfl) ?_
    refine va_get (D := D) (ci := 9) (v := .ref a_read) (C := RX9) (T := TX9) (N := 18) hx hb hts mc_X9_readsCard_9 hown hK hP 1 rfl rfl 11 (by decide) (hts _ ml_X9_readsCard_3) (fun _ h9 => h9) rfl dX9_readsCard_69 ?_
    refine lv_iload_n hx hb dX9_readsCard_72 rfl (lv_at hl 0 rfl) ?_
    refine lv_iconst (v := 1) hx hb dX9_readsCard_73 (by decide) ?_
    refine lv_iadd hx hb dX9_readsCard_74 ?_
    have hn_11 := hwp.1
    have hwp := hwp.2
    refine va_iald (D := D) hx hb hK hP 0 0 rfl rfl hn_11 dX9_readsCard_75 ?_
    refine lv_if_lt (tgt := 86) hx hb dX9_readsCard_76 (by decide) (fun hc => ?_) (fun hc => ?_)
    · have hwp := hwp.1 hc
      refine lv_iconst (v := 0) hx hb dX9_readsCard_86 (by decide) ?_
      exact hret (u_9, v_cards, (upd (upd v_read (((5 : Int32) * v_cards)).toNatClampNeg ((v_text (v_at).toNatClampNeg) - (65 : Int32))) ((((5 : Int32) * v_cards) + (1 : Int32))).toNatClampNeg r_7)) [1, 0, 2] dX9_readsCard_87 (Or.inl rfl) hwp rfl rfl hP hD hS
    · have hwp := hwp.2 hc
      refine lv_aload_n hx hb dX9_readsCard_79 rfl (lv_at hl 1 rfl) ?_
      refine gBacki (D := D) (tys := gT cI cC cF cO) (A := A) (wr := [(a_read, .inl (cI, 160, .inl (upd (upd v_read (((5 : Int32) * v_cards)).toNatClampNeg ((v_text (v_at).toNatClampNeg) - (65 : Int32))) ((((5 : Int32) * v_cards) + (1 : Int32))).toNatClampNeg r_7)))]) (w1 := (fun u_14 : Int32 => [(a_this, .inr (9, [.ref a_s, .ref a_before, .ref a_kept, .ref a_aside, .ref a_order, .ref a_rank, .int v_onWall, .ref a_straight, .ref a_sorted, .ref a_longest, .int v_straightMany, .ref a_read, .ref a_text, .int v_length, .int v_states, .int v_isKept, .int u_14, .int v_cards])), (a_text, .inl (cC, 60, .inl v_text))])) (va_runV (As := []) (rest := []) ⟨hx, hb, hml, hown, hts⟩ (c_X9_comma l D cI cC cF cO a_this a_text a_s a_before a_kept a_aside a_order a_rank a_straight a_sorted a_longest a_read v_onWall v_straightMany v_states v_isKept v_cards _ _ _ _ _ hwp) (cwV 0 hts gX9_readsCard_X9_comma rfl rfl rfl (by decide +kernel) ⟨Nat.le_of_ble_eq_true rfl, Nat.le_of_ble_eq_true rfl⟩) (gPreV (C := RX9) (T := TX9) (N := 18) (ci := 9) hK hX hT hP hD hS hA [1, 2] rfl rfl rfl (qb := 1) rfl) rfl rfl hl.1 rfl (lv_room (Nat.le_of_ble_eq_true rfl)) dX9_readsCard_80 ⟨Nat.le_of_ble_eq_true rfl, Nat.le_of_ble_eq_true rfl⟩) hP hD hS hA [1, 2] [0] rfl rfl rfl (by decide) (fun r_12 u_14 H locs hwp hP hD hS => ?_)
      have hP : va_P D vwCl [(a_read, .inl (cI, 160, .inl (upd (upd v_read (((5 : Int32) * v_cards)).toNatClampNeg ((v_text (v_at).toNatClampNeg) - (65 : Int32))) ((((5 : Int32) * v_cards) + (1 : Int32))).toNatClampNeg r_7))), (a_this, .inr (9, [.ref a_s, .ref a_before, .ref a_kept, .ref a_aside, .ref a_order, .ref a_rank, .int v_onWall, .ref a_straight, .ref a_sorted, .ref a_longest, .int v_straightMany, .ref a_read, .ref a_text, .int v_length, .int v_states, .int v_isKept, .int u_14, .int v_cards])), (a_text, .inl (cC, 60, .inl v_text))] H := hP
      have hD : va_D A [(a_read, .inl (cI, 160, .inl (upd (upd v_read (((5 : Int32) * v_cards)).toNatClampNeg ((v_text (v_at).toNatClampNeg) - (65 : Int32))) ((((5 : Int32) * v_cards) + (1 : Int32))).toNatClampNeg r_7))), (a_this, .inr (9, [.ref a_s, .ref a_before, .ref a_kept, .ref a_aside, .ref a_order, .ref a_rank, .int v_onWall, .ref a_straight, .ref a_sorted, .ref a_longest, .int v_straightMany, .ref a_read, .ref a_text, .int v_length, .int v_states, .int v_isKept, .int u_14, .int v_cards])), (a_text, .inl (cC, 60, .inl v_text))] := hD
      refine lv_if_ne (tgt := 88) hx hb dX9_readsCard_83 (by decide) (fun hc => ?_) (fun hc => ?_)
      · have hwp := hwp.2 hc
        refine lv_aload_n hx hb dX9_readsCard_88 rfl (lv_at hl 1 rfl) ?_
        refine va_get (D := D) (ci := 9) (v := .ref a_read) (C := RX9) (T := TX9) (N := 18) hx hb hts mc_X9_readsCard_9 hown hK hP 1 rfl rfl 11 (by decide) (hts _ ml_X9_readsCard_3) (fun _ h9 => h9) rfl dX9_readsCard_89 ?_
        refine lv_iload_n hx hb dX9_readsCard_92 rfl (lv_at hl 0 rfl) ?_
        refine lv_iconst (v := 2) hx hb dX9_readsCard_93 (by decide) ?_
        refine lv_iadd hx hb dX9_readsCard_94 ?_
        refine lv_aload_n hx hb dX9_readsCard_95 rfl (lv_at hl 1 rfl) ?_
        refine lv_iconst (v := 1) hx hb dX9_readsCard_96 (by decide) ?_
        refine lv_sipush (v := 999) hx hb dX9_readsCard_97 (by decide) ?_
        refine gBacki (D := D) (tys := gT cI cC cF cO) (A := A) (wr := [(a_read, .inl (cI, 160, .inl (upd (upd v_read (((5 : Int32) * v_cards)).toNatClampNeg ((v_text (v_at).toNatClampNeg) - (65 : Int32))) ((((5 : Int32) * v_cards) + (1 : Int32))).toNatClampNeg r_7)))]) (w1 := (fun u_17 : Int32 => [(a_this, .inr (9, [.ref a_s, .ref a_before, .ref a_kept, .ref a_aside, .ref a_order, .ref a_rank, .int v_onWall, .ref a_straight, .ref a_sorted, .ref a_longest, .int v_straightMany, .ref a_read, .ref a_text, .int v_length, .int v_states, .int v_isKept, .int u_17, .int v_cards])), (a_text, .inl (cC, 60, .inl v_text))])) (va_runV (As := [.int (1 : Int32), .int (999 : Int32)]) (rest := [.int (((5 : Int32) * v_cards) + (2 : Int32)), .ref a_read]) ⟨hx, hb, hml, hown, hts⟩ (c_X9_number l D cI cC cF cO a_this a_text a_s a_before a_kept a_aside a_order a_rank a_straight a_sorted a_longest a_read v_onWall v_straightMany v_states v_isKept v_cards _ _ _ _ _ _ _ hwp) (cwV 2 hts gX9_readsCard_X9_number rfl rfl rfl (by decide +kernel) ⟨Nat.le_of_ble_eq_true rfl, Nat.le_of_ble_eq_true rfl⟩) (gPreV (C := RX9) (T := TX9) (N := 18) (ci := 9) hK hX hT hP hD hS hA [1, 2] rfl rfl rfl (qb := 1) rfl) rfl rfl hl.1 rfl (lv_room (Nat.le_of_ble_eq_true rfl)) dX9_readsCard_100 ⟨Nat.le_of_ble_eq_true rfl, Nat.le_of_ble_eq_true rfl⟩) hP hD hS hA [1, 2] [0] rfl rfl rfl (by decide) (fun r_15 u_17 H locs hwp hP hD hS => ?_)
        have hP : va_P D vwCl [(a_read, .inl (cI, 160, .inl (upd (upd v_read (((5 : Int32) * v_cards)).toNatClampNeg ((v_text (v_at).toNatClampNeg) - (65 : Int32))) ((((5 : Int32) * v_cards) + (1 : Int32))).toNatClampNeg r_7))), (a_this, .inr (9, [.ref a_s, .ref a_before, .ref a_kept, .ref a_aside, .ref a_order, .ref a_rank, .int v_onWall, .ref a_straight, .ref a_sorted, .ref a_longest, .int v_straightMany, .ref a_read, .ref a_text, .int v_length, .int v_states, .int v_isKept, .int u_17, .int v_cards])), (a_text, .inl (cC, 60, .inl v_text))] H := hP
        have hD : va_D A [(a_read, .inl (cI, 160, .inl (upd (upd v_read (((5 : Int32) * v_cards)).toNatClampNeg ((v_text (v_at).toNatClampNeg) - (65 : Int32))) ((((5 : Int32) * v_cards) + (1 : Int32))).toNatClampNeg r_7))), (a_this, .inr (9, [.ref a_s, .ref a_before, .ref a_kept, .ref a_aside, .ref a_order, .ref a_rank, .int v_onWall, .ref a_straight, .ref a_sorted, .ref a_longest, .int v_straightMany, .ref a_read, .ref a_text, .int v_length, .int v_states, .int v_isKept, .int u_17, .int v_cards])), (a_text, .inl (cC, 60, .inl v_text))] := hD
        have hn_18 := hwp.1
        have hwp := hwp.2
        refine va_iast (D := D) hx hb hK hP hD hS 0 0 rfl rfl hn_18 dX9_readsCard_103 (fun H locs hP hD hS => ?_)
        have hP : va_P D vwCl [(a_read, .inl (cI, 160, .inl (upd (upd (upd v_read (((5 : Int32) * v_cards)).toNatClampNeg ((v_text (v_at).toNatClampNeg) - (65 : Int32))) ((((5 : Int32) * v_cards) + (1 : Int32))).toNatClampNeg r_7) ((((5 : Int32) * v_cards) + (2 : Int32))).toNatClampNeg r_15))), (a_this, .inr (9, [.ref a_s, .ref a_before, .ref a_kept, .ref a_aside, .ref a_order, .ref a_rank, .int v_onWall, .ref a_straight, .ref a_sorted, .ref a_longest, .int v_straightMany, .ref a_read, .ref a_text, .int v_length, .int v_states, .int v_isKept, .int u_17, .int v_cards])), (a_text, .inl (cC, 60, .inl v_text))] H := hP
        have hD : va_D A [(a_read, .inl (cI, 160, .inl (upd (upd (upd v_read (((5 : Int32) * v_cards)).toNatClampNeg ((v_text (v_at).toNatClampNeg) - (65 : Int32))) ((((5 : Int32) * v_cards) + (1 : Int32))).toNatClampNeg r_7) ((((5 : Int32) * v_cards) + (2 : Int32))).toNatClampNeg r_15))), (a_this, .inr (9, [.ref a_s, .ref a_before, .ref a_kept, .ref a_aside, .ref a_order, .ref a_rank, .int v_onWall, .ref a_straight, .ref a_sorted, .ref a_longest, .int v_straightMany, .ref a_read, .ref a_text, .int v_length, .int v_states, .int v_isKept, .int u_17, .int v_cards])), (a_text, .inl (cC, 60, .inl v_text))] := hD
        refine lv_aload_n hx hb dX9_readsCard_104 rfl (lv_at hl 1 rfl) ?_
        refine va_get (D := D) (ci := 9) (v := .ref a_read) (C := RX9) (T := TX9) (N := 18) hx hb hts mc_X9_readsCard_9 hown hK hP 1 rfl rfl 11 (by decide) (hts _ ml_X9_readsCard_3) (fun _ h9 => h9) rfl dX9_readsCard_105 ?_
        refine lv_iload_n hx hb dX9_readsCard_108 rfl (lv_at hl 0 rfl) ?_
        refine lv_iconst (v := 2) hx hb dX9_readsCard_109 (by decide) ?_
        refine lv_iadd hx hb dX9_readsCard_110 ?_
        have hn_19 := hwp.1
        have hwp := hwp.2
        refine va_iald (D := D) hx hb hK hP 0 0 rfl rfl hn_19 dX9_readsCard_111 ?_
        refine lv_if_lt (tgt := 122) hx hb dX9_readsCard_112 (by decide) (fun hc => ?_) (fun hc => ?_)
        · have hwp := hwp.1 hc
          refine lv_iconst (v := 0) hx hb dX9_readsCard_122 (by decide) ?_
          exact hret (u_17, v_cards, (upd (upd (upd v_read (((5 : Int32) * v_cards)).toNatClampNeg ((v_text (v_at).toNatClampNeg) - (65 : Int32))) ((((5 : Int32) * v_cards) + (1 : Int32))).toNatClampNeg r_7) ((((5 : Int32) * v_cards) + (2 : Int32))).toNatClampNeg r_15)) [1, 0, 2] dX9_readsCard_123 (Or.inl rfl) hwp rfl rfl hP hD hS
        · have hwp := hwp.2 hc
          refine lv_aload_n hx hb dX9_readsCard_115 rfl (lv_at hl 1 rfl) ?_
          refine gBacki (D := D) (tys := gT cI cC cF cO) (A := A) (wr := [(a_read, .inl (cI, 160, .inl (upd (upd (upd v_read (((5 : Int32) * v_cards)).toNatClampNeg ((v_text (v_at).toNatClampNeg) - (65 : Int32))) ((((5 : Int32) * v_cards) + (1 : Int32))).toNatClampNeg r_7) ((((5 : Int32) * v_cards) + (2 : Int32))).toNatClampNeg r_15)))]) (w1 := (fun u_22 : Int32 => [(a_this, .inr (9, [.ref a_s, .ref a_before, .ref a_kept, .ref a_aside, .ref a_order, .ref a_rank, .int v_onWall, .ref a_straight, .ref a_sorted, .ref a_longest, .int v_straightMany, .ref a_read, .ref a_text, .int v_length, .int v_states, .int v_isKept, .int u_22, .int v_cards])), (a_text, .inl (cC, 60, .inl v_text))])) (va_runV (As := []) (rest := []) ⟨hx, hb, hml, hown, hts⟩ (c_X9_comma l D cI cC cF cO a_this a_text a_s a_before a_kept a_aside a_order a_rank a_straight a_sorted a_longest a_read v_onWall v_straightMany v_states v_isKept v_cards _ _ _ _ _ hwp) (cwV 0 hts gX9_readsCard_X9_comma rfl rfl rfl (by decide +kernel) ⟨Nat.le_of_ble_eq_true rfl, Nat.le_of_ble_eq_true rfl⟩) (gPreV (C := RX9) (T := TX9) (N := 18) (ci := 9) hK hX hT hP hD hS hA [1, 2] rfl rfl rfl (qb := 1) rfl) rfl rfl hl.1 rfl (lv_room (Nat.le_of_ble_eq_true rfl)) dX9_readsCard_116 ⟨Nat.le_of_ble_eq_true rfl, Nat.le_of_ble_eq_true rfl⟩) hP hD hS hA [1, 2] [0] rfl rfl rfl (by decide) (fun r_20 u_22 H locs hwp hP hD hS => ?_)
          have hP : va_P D vwCl [(a_read, .inl (cI, 160, .inl (upd (upd (upd v_read (((5 : Int32) * v_cards)).toNatClampNeg ((v_text (v_at).toNatClampNeg) - (65 : Int32))) ((((5 : Int32) * v_cards) + (1 : Int32))).toNatClampNeg r_7) ((((5 : Int32) * v_cards) + (2 : Int32))).toNatClampNeg r_15))), (a_this, .inr (9, [.ref a_s, .ref a_before, .ref a_kept, .ref a_aside, .ref a_order, .ref a_rank, .int v_onWall, .ref a_straight, .ref a_sorted, .ref a_longest, .int v_straightMany, .ref a_read, .ref a_text, .int v_length, .int v_states, .int v_isKept, .int u_22, .int v_cards])), (a_text, .inl (cC, 60, .inl v_text))] H := hP
          have hD : va_D A [(a_read, .inl (cI, 160, .inl (upd (upd (upd v_read (((5 : Int32) * v_cards)).toNatClampNeg ((v_text (v_at).toNatClampNeg) - (65 : Int32))) ((((5 : Int32) * v_cards) + (1 : Int32))).toNatClampNeg r_7) ((((5 : Int32) * v_cards) + (2 : Int32))).toNatClampNeg r_15))), (a_this, .inr (9, [.ref a_s, .ref a_before, .ref a_kept, .ref a_aside, .ref a_order, .ref a_rank, .int v_onWall, .ref a_straight, .ref a_sorted, .ref a_longest, .int v_straightMany, .ref a_read, .ref a_text, .int v_length, .int v_states, .int v_isKept, .int u_22, .int v_cards])), (a_text, .inl (cC, 60, .inl v_text))] := hD
          refine lv_if_ne (tgt := 124) hx hb dX9_readsCard_119 (by decide) (fun hc => ?_) (fun hc => ?_)
          · have hwp := hwp.2 hc
            refine lv_aload_n hx hb dX9_readsCard_124 rfl (lv_at hl 1 rfl) ?_
            refine va_get (D := D) (ci := 9) (v := .ref a_read) (C := RX9) (T := TX9) (N := 18) hx hb hts mc_X9_readsCard_9 hown hK hP 1 rfl rfl 11 (by decide) (hts _ ml_X9_readsCard_3) (fun _ h9 => h9) rfl dX9_readsCard_125 ?_
            refine lv_iload_n hx hb dX9_readsCard_128 rfl (lv_at hl 0 rfl) ?_
            refine lv_iconst (v := 3) hx hb dX9_readsCard_129 (by decide) ?_
            refine lv_iadd hx hb dX9_readsCard_130 ?_
            refine lv_aload_n hx hb dX9_readsCard_131 rfl (lv_at hl 1 rfl) ?_
            refine lv_iconst (v := 0) hx hb dX9_readsCard_132 (by decide) ?_
            refine lv_bipush (v := 100) hx hb dX9_readsCard_133 (by decide) ?_
            refine gBacki (D := D) (tys := gT cI cC cF cO) (A := A) (wr := [(a_read, .inl (cI, 160, .inl (upd (upd (upd v_read (((5 : Int32) * v_cards)).toNatClampNeg ((v_text (v_at).toNatClampNeg) - (65 : Int32))) ((((5 : Int32) * v_cards) + (1 : Int32))).toNatClampNeg r_7) ((((5 : Int32) * v_cards) + (2 : Int32))).toNatClampNeg r_15)))]) (w1 := (fun u_25 : Int32 => [(a_this, .inr (9, [.ref a_s, .ref a_before, .ref a_kept, .ref a_aside, .ref a_order, .ref a_rank, .int v_onWall, .ref a_straight, .ref a_sorted, .ref a_longest, .int v_straightMany, .ref a_read, .ref a_text, .int v_length, .int v_states, .int v_isKept, .int u_25, .int v_cards])), (a_text, .inl (cC, 60, .inl v_text))])) (va_runV (As := [.int (0 : Int32), .int (100 : Int32)]) (rest := [.int (((5 : Int32) * v_cards) + (3 : Int32)), .ref a_read]) ⟨hx, hb, hml, hown, hts⟩ (c_X9_number l D cI cC cF cO a_this a_text a_s a_before a_kept a_aside a_order a_rank a_straight a_sorted a_longest a_read v_onWall v_straightMany v_states v_isKept v_cards _ _ _ _ _ _ _ hwp) (cwV 2 hts gX9_readsCard_X9_number rfl rfl rfl (by decide +kernel) ⟨Nat.le_of_ble_eq_true rfl, Nat.le_of_ble_eq_true rfl⟩) (gPreV (C := RX9) (T := TX9) (N := 18) (ci := 9) hK hX hT hP hD hS hA [1, 2] rfl rfl rfl (qb := 1) rfl) rfl rfl hl.1 rfl (lv_room (Nat.le_of_ble_eq_true rfl)) dX9_readsCard_135 ⟨Nat.le_of_ble_eq_true rfl, Nat.le_of_ble_eq_true rfl⟩) hP hD hS hA [1, 2] [0] rfl rfl rfl (by decide) (fun r_23 u_25 H locs hwp hP hD hS => ?_)
            have hP : va_P D vwCl [(a_read, .inl (cI, 160, .inl (upd (upd (upd v_read (((5 : Int32) * v_cards)).toNatClampNeg ((v_text (v_at).toNatClampNeg) - (65 : Int32))) ((((5 : Int32) * v_cards) + (1 : Int32))).toNatClampNeg r_7) ((((5 : Int32) * v_cards) + (2 : Int32))).toNatClampNeg r_15))), (a_this, .inr (9, [.ref a_s, .ref a_before, .ref a_kept, .ref a_aside, .ref a_order, .ref a_rank, .int v_onWall, .ref a_straight, .ref a_sorted, .ref a_longest, .int v_straightMany, .ref a_read, .ref a_text, .int v_length, .int v_states, .int v_isKept, .int u_25, .int v_cards])), (a_text, .inl (cC, 60, .inl v_text))] H := hP
            have hD : va_D A [(a_read, .inl (cI, 160, .inl (upd (upd (upd v_read (((5 : Int32) * v_cards)).toNatClampNeg ((v_text (v_at).toNatClampNeg) - (65 : Int32))) ((((5 : Int32) * v_cards) + (1 : Int32))).toNatClampNeg r_7) ((((5 : Int32) * v_cards) + (2 : Int32))).toNatClampNeg r_15))), (a_this, .inr (9, [.ref a_s, .ref a_before, .ref a_kept, .ref a_aside, .ref a_order, .ref a_rank, .int v_onWall, .ref a_straight, .ref a_sorted, .ref a_longest, .int v_straightMany, .ref a_read, .ref a_text, .int v_length, .int v_states, .int v_isKept, .int u_25, .int v_cards])), (a_text, .inl (cC, 60, .inl v_text))] := hD
            have hn_26 := hwp.1
            have hwp := hwp.2
            refine va_iast (D := D) hx hb hK hP hD hS 0 0 rfl rfl hn_26 dX9_readsCard_138 (fun H locs hP hD hS => ?_)
            have hP : va_P D vwCl [(a_read, .inl (cI, 160, .inl (upd (upd (upd (upd v_read (((5 : Int32) * v_cards)).toNatClampNeg ((v_text (v_at).toNatClampNeg) - (65 : Int32))) ((((5 : Int32) * v_cards) + (1 : Int32))).toNatClampNeg r_7) ((((5 : Int32) * v_cards) + (2 : Int32))).toNatClampNeg r_15) ((((5 : Int32) * v_cards) + (3 : Int32))).toNatClampNeg r_23))), (a_this, .inr (9, [.ref a_s, .ref a_before, .ref a_kept, .ref a_aside, .ref a_order, .ref a_rank, .int v_onWall, .ref a_straight, .ref a_sorted, .ref a_longest, .int v_straightMany, .ref a_read, .ref a_text, .int v_length, .int v_states, .int v_isKept, .int u_25, .int v_cards])), (a_text, .inl (cC, 60, .inl v_text))] H := hP
            have hD : va_D A [(a_read, .inl (cI, 160, .inl (upd (upd (upd (upd v_read (((5 : Int32) * v_cards)).toNatClampNeg ((v_text (v_at).toNatClampNeg) - (65 : Int32))) ((((5 : Int32) * v_cards) + (1 : Int32))).toNatClampNeg r_7) ((((5 : Int32) * v_cards) + (2 : Int32))).toNatClampNeg r_15) ((((5 : Int32) * v_cards) + (3 : Int32))).toNatClampNeg r_23))), (a_this, .inr (9, [.ref a_s, .ref a_before, .ref a_kept, .ref a_aside, .ref a_order, .ref a_rank, .int v_onWall, .ref a_straight, .ref a_sorted, .ref a_longest, .int v_straightMany, .ref a_read, .ref a_text, .int v_length, .int v_states, .int v_isKept, .int u_25, .int v_cards])), (a_text, .inl (cC, 60, .inl v_text))] := hD
            refine lv_aload_n hx hb dX9_readsCard_139 rfl (lv_at hl 1 rfl) ?_
            refine va_get (D := D) (ci := 9) (v := .ref a_read) (C := RX9) (T := TX9) (N := 18) hx hb hts mc_X9_readsCard_9 hown hK hP 1 rfl rfl 11 (by decide) (hts _ ml_X9_readsCard_3) (fun _ h9 => h9) rfl dX9_readsCard_140 ?_
            refine lv_iload_n hx hb dX9_readsCard_143 rfl (lv_at hl 0 rfl) ?_
            refine lv_iconst (v := 3) hx hb dX9_readsCard_144 (by decide) ?_
            refine lv_iadd hx hb dX9_readsCard_145 ?_
            have hn_27 := hwp.1
            have hwp := hwp.2
            refine va_iald (D := D) hx hb hK hP 0 0 rfl rfl hn_27 dX9_readsCard_146 ?_
            refine lv_if_ge (tgt := 152) hx hb dX9_readsCard_147 (by decide) (fun hc => ?_) (fun hc => ?_)
            · have hwp := hwp.1 hc
              refine lv_aload_n hx hb dX9_readsCard_152 rfl (lv_at hl 1 rfl) ?_
              refine va_get (D := D) (ci := 9) (v := .ref a_read) (C := RX9) (T := TX9) (N := 18) hx hb hts mc_X9_readsCard_9 hown hK hP 1 rfl rfl 11 (by decide) (hts _ ml_X9_readsCard_3) (fun _ h9 => h9) rfl dX9_readsCard_153 ?_
              refine lv_iload_n hx hb dX9_readsCard_156 rfl (lv_at hl 0 rfl) ?_
              refine lv_iconst (v := 4) hx hb dX9_readsCard_157 (by decide) ?_
              refine lv_iadd hx hb dX9_readsCard_158 ?_
              refine lv_aload_n hx hb dX9_readsCard_159 rfl (lv_at hl 1 rfl) ?_
              refine lv_aload_n hx hb dX9_readsCard_160 rfl (lv_at hl 1 rfl) ?_
              refine va_get (D := D) (ci := 9) (v := .int u_25) (C := RX9) (T := TX9) (N := 18) hx hb hts mc_X9_readsCard_9 hown hK hP 1 rfl rfl 16 (by decide) (hts _ ml_X9_readsCard_2) (fun _ h9 => h9) rfl dX9_readsCard_161 ?_
              refine lv_bipush (v := 42) hx hb dX9_readsCard_164 (by decide) ?_
              refine lv_bipush (v := 42) hx hb dX9_readsCard_166 (by decide) ?_
              refine gBacki (D := D) (tys := gT cI cC cF cO) (A := A) (wr := [(a_read, .inl (cI, 160, .inl (upd (upd (upd (upd v_read (((5 : Int32) * v_cards)).toNatClampNeg ((v_text (v_at).toNatClampNeg) - (65 : Int32))) ((((5 : Int32) * v_cards) + (1 : Int32))).toNatClampNeg r_7) ((((5 : Int32) * v_cards) + (2 : Int32))).toNatClampNeg r_15) ((((5 : Int32) * v_cards) + (3 : Int32))).toNatClampNeg r_23)))]) (w1 := (fun u_29 : Unit => [(a_this, .inr (9, [.ref a_s, .ref a_before, .ref a_kept, .ref a_aside, .ref a_order, .ref a_rank, .int v_onWall, .ref a_straight, .ref a_sorted, .ref a_longest, .int v_straightMany, .ref a_read, .ref a_text, .int v_length, .int v_states, .int v_isKept, .int u_25, .int v_cards])), (a_text, .inl (cC, 60, .inl v_text))])) (va_runV (As := [.int u_25, .int (42 : Int32), .int (42 : Int32)]) (rest := [.int (((5 : Int32) * v_cards) + (4 : Int32)), .ref a_read]) ⟨hx, hb, hml, hown, hts⟩ (c_X9_isSign l D cI cC cF cO a_this a_text a_s a_before a_kept a_aside a_order a_rank a_straight a_sorted a_longest a_read v_onWall v_straightMany v_states v_isKept u_25 v_cards _ _ _ _ _ _ _ hwp) (cwV 3 hts gX9_readsCard_X9_isSign rfl rfl rfl (by decide +kernel) ⟨Nat.le_of_ble_eq_true rfl, Nat.le_of_ble_eq_true rfl⟩) (gPreV (C := RX9) (T := TX9) (N := 18) (ci := 9) hK hX hT hP hD hS hA [1, 2] rfl rfl rfl (qb := 1) rfl) rfl rfl hl.1 rfl (lv_room (Nat.le_of_ble_eq_true rfl)) dX9_readsCard_168 ⟨Nat.le_of_ble_eq_true rfl, Nat.le_of_ble_eq_true rfl⟩) hP hD hS hA [1, 2] [0] rfl rfl rfl (by decide) (fun r_28 u_29 H locs hwp hP hD hS => ?_)
              have hP : va_P D vwCl [(a_read, .inl (cI, 160, .inl (upd (upd (upd (upd v_read (((5 : Int32) * v_cards)).toNatClampNeg ((v_text (v_at).toNatClampNeg) - (65 : Int32))) ((((5 : Int32) * v_cards) + (1 : Int32))).toNatClampNeg r_7) ((((5 : Int32) * v_cards) + (2 : Int32))).toNatClampNeg r_15) ((((5 : Int32) * v_cards) + (3 : Int32))).toNatClampNeg r_23))), (a_this, .inr (9, [.ref a_s, .ref a_before, .ref a_kept, .ref a_aside, .ref a_order, .ref a_rank, .int v_onWall, .ref a_straight, .ref a_sorted, .ref a_longest, .int v_straightMany, .ref a_read, .ref a_text, .int v_length, .int v_states, .int v_isKept, .int u_25, .int v_cards])), (a_text, .inl (cC, 60, .inl v_text))] H := hP
              have hD : va_D A [(a_read, .inl (cI, 160, .inl (upd (upd (upd (upd v_read (((5 : Int32) * v_cards)).toNatClampNeg ((v_text (v_at).toNatClampNeg) - (65 : Int32))) ((((5 : Int32) * v_cards) + (1 : Int32))).toNatClampNeg r_7) ((((5 : Int32) * v_cards) + (2 : Int32))).toNatClampNeg r_15) ((((5 : Int32) * v_cards) + (3 : Int32))).toNatClampNeg r_23))), (a_this, .inr (9, [.ref a_s, .ref a_before, .ref a_kept, .ref a_aside, .ref a_order, .ref a_rank, .int v_onWall, .ref a_straight, .ref a_sorted, .ref a_longest, .int v_straightMany, .ref a_read, .ref a_text, .int v_length, .int v_states, .int v_isKept, .int u_25, .int v_cards])), (a_text, .inl (cC, 60, .inl v_text))] := hD
              refine lv_if_eq (tgt := 178) hx hb dX9_readsCard_171 (by decide) (fun hc => ?_) (fun hc => ?_)
              · have hwp := hwp.1 hc
                refine lv_iconst (v := 0) hx hb dX9_readsCard_178 (by decide) ?_
                have hP : va_P D vwCl [(a_this, .inr (9, [.ref a_s, .ref a_before, .ref a_kept, .ref a_aside, .ref a_order, .ref a_rank, .int v_onWall, .ref a_straight, .ref a_sorted, .ref a_longest, .int v_straightMany, .ref a_read, .ref a_text, .int v_length, .int v_states, .int v_isKept, .int u_25, .int v_cards])), (a_read, .inl (cI, 160, .inl (upd (upd (upd (upd v_read (((5 : Int32) * v_cards)).toNatClampNeg ((v_text (v_at).toNatClampNeg) - (65 : Int32))) ((((5 : Int32) * v_cards) + (1 : Int32))).toNatClampNeg r_7) ((((5 : Int32) * v_cards) + (2 : Int32))).toNatClampNeg r_15) ((((5 : Int32) * v_cards) + (3 : Int32))).toNatClampNeg r_23))), (a_text, .inl (cC, 60, .inl v_text))] H := hP.sub [1, 0, 2] rfl
                have hD : va_D A [(a_this, .inr (9, [.ref a_s, .ref a_before, .ref a_kept, .ref a_aside, .ref a_order, .ref a_rank, .int v_onWall, .ref a_straight, .ref a_sorted, .ref a_longest, .int v_straightMany, .ref a_read, .ref a_text, .int v_length, .int v_states, .int v_isKept, .int u_25, .int v_cards])), (a_read, .inl (cI, 160, .inl (upd (upd (upd (upd v_read (((5 : Int32) * v_cards)).toNatClampNeg ((v_text (v_at).toNatClampNeg) - (65 : Int32))) ((((5 : Int32) * v_cards) + (1 : Int32))).toNatClampNeg r_7) ((((5 : Int32) * v_cards) + (2 : Int32))).toNatClampNeg r_15) ((((5 : Int32) * v_cards) + (3 : Int32))).toNatClampNeg r_23))), (a_text, .inl (cC, 60, .inl v_text))] := hD.sub [1, 0, 2] (by decide) rfl
                have hl : lv_has ls 2 [(0, .ref a_this), (1, .int ((5 : Int32) * v_cards))] := lv_sub hl [1, 0] rfl
                exact hj179 ((5 : Int32) * v_cards) (0 : Int32) (((5 : Int32) * v_cards) + (4 : Int32)) u_25 v_cards (upd (upd (upd (upd v_read (((5 : Int32) * v_cards)).toNatClampNeg ((v_text (v_at).toNatClampNeg) - (65 : Int32))) ((((5 : Int32) * v_cards) + (1 : Int32))).toNatClampNeg r_7) ((((5 : Int32) * v_cards) + (2 : Int32))).toNatClampNeg r_15) ((((5 : Int32) * v_cards) + (3 : Int32))).toNatClampNeg r_23) _ _ hwp hP hD hS ls hl
              · have hwp := hwp.2 hc
                refine lv_iconst (v := 1) hx hb dX9_readsCard_174 (by decide) ?_
                refine lv_goto (tgt := 179) hx hb dX9_readsCard_175 (by decide) ?_
                have hP : va_P D vwCl [(a_this, .inr (9, [.ref a_s, .ref a_before, .ref a_kept, .ref a_aside, .ref a_order, .ref a_rank, .int v_onWall, .ref a_straight, .ref a_sorted, .ref a_longest, .int v_straightMany, .ref a_read, .ref a_text, .int v_length, .int v_states, .int v_isKept, .int u_25, .int v_cards])), (a_read, .inl (cI, 160, .inl (upd (upd (upd (upd v_read (((5 : Int32) * v_cards)).toNatClampNeg ((v_text (v_at).toNatClampNeg) - (65 : Int32))) ((((5 : Int32) * v_cards) + (1 : Int32))).toNatClampNeg r_7) ((((5 : Int32) * v_cards) + (2 : Int32))).toNatClampNeg r_15) ((((5 : Int32) * v_cards) + (3 : Int32))).toNatClampNeg r_23))), (a_text, .inl (cC, 60, .inl v_text))] H := hP.sub [1, 0, 2] rfl
                have hD : va_D A [(a_this, .inr (9, [.ref a_s, .ref a_before, .ref a_kept, .ref a_aside, .ref a_order, .ref a_rank, .int v_onWall, .ref a_straight, .ref a_sorted, .ref a_longest, .int v_straightMany, .ref a_read, .ref a_text, .int v_length, .int v_states, .int v_isKept, .int u_25, .int v_cards])), (a_read, .inl (cI, 160, .inl (upd (upd (upd (upd v_read (((5 : Int32) * v_cards)).toNatClampNeg ((v_text (v_at).toNatClampNeg) - (65 : Int32))) ((((5 : Int32) * v_cards) + (1 : Int32))).toNatClampNeg r_7) ((((5 : Int32) * v_cards) + (2 : Int32))).toNatClampNeg r_15) ((((5 : Int32) * v_cards) + (3 : Int32))).toNatClampNeg r_23))), (a_text, .inl (cC, 60, .inl v_text))] := hD.sub [1, 0, 2] (by decide) rfl
                have hl : lv_has ls 2 [(0, .ref a_this), (1, .int ((5 : Int32) * v_cards))] := lv_sub hl [1, 0] rfl
                exact hj179 ((5 : Int32) * v_cards) (1 : Int32) (((5 : Int32) * v_cards) + (4 : Int32)) u_25 v_cards (upd (upd (upd (upd v_read (((5 : Int32) * v_cards)).toNatClampNeg ((v_text (v_at).toNatClampNeg) - (65 : Int32))) ((((5 : Int32) * v_cards) + (1 : Int32))).toNatClampNeg r_7) ((((5 : Int32) * v_cards) + (2 : Int32))).toNatClampNeg r_15) ((((5 : Int32) * v_cards) + (3 : Int32))).toNatClampNeg r_23) _ _ hwp hP hD hS ls hl
            · have hwp := hwp.2 hc
              refine lv_iconst (v := 0) hx hb dX9_readsCard_150 (by decide) ?_
              exact hret (u_25, v_cards, (upd (upd (upd (upd v_read (((5 : Int32) * v_cards)).toNatClampNeg ((v_text (v_at).toNatClampNeg) - (65 : Int32))) ((((5 : Int32) * v_cards) + (1 : Int32))).toNatClampNeg r_7) ((((5 : Int32) * v_cards) + (2 : Int32))).toNatClampNeg r_15) ((((5 : Int32) * v_cards) + (3 : Int32))).toNatClampNeg r_23)) [1, 0, 2] dX9_readsCard_151 (Or.inl rfl) hwp rfl rfl hP hD hS
          · have hwp := hwp.1 hc
            refine lv_iconst (v := 0) hx hb dX9_readsCard_122 (by decide) ?_
            exact hret (u_22, v_cards, (upd (upd (upd v_read (((5 : Int32) * v_cards)).toNatClampNeg ((v_text (v_at).toNatClampNeg) - (65 : Int32))) ((((5 : Int32) * v_cards) + (1 : Int32))).toNatClampNeg r_7) ((((5 : Int32) * v_cards) + (2 : Int32))).toNatClampNeg r_15)) [1, 0, 2] dX9_readsCard_123 (Or.inl rfl) hwp rfl rfl hP hD hS
      · have hwp := hwp.1 hc
        refine lv_iconst (v := 0) hx hb dX9_readsCard_86 (by decide) ?_
        exact hret (u_14, v_cards, (upd (upd v_read (((5 : Int32) * v_cards)).toNatClampNeg ((v_text (v_at).toNatClampNeg) - (65 : Int32))) ((((5 : Int32) * v_cards) + (1 : Int32))).toNatClampNeg r_7)) [1, 0, 2] dX9_readsCard_87 (Or.inl rfl) hwp rfl rfl hP hD hS
  · have hwp := hwp.1 hc
    refine lv_iconst (v := 0) hx hb dX9_readsCard_22 (by decide) ?_
    exact hret (v_at, v_cards, v_read) [1, 0, 2] dX9_readsCard_23 (Or.inl rfl) hwp rfl rfl hP hD hS
theorem mc_X9_faultOf_9 : ∀ w ∈ u_ws RX9 TX9 18, w ∈ wsX9_faultOf := fun w h => List.mem_cons_of_mem _ (List.mem_append_right _ h)
theorem ml_X9_faultOf_1 : (.fieldLink RX9 90 "StoryWallModel" "at" "I" : Cond) ∈ wsX9_faultOf := List.mem_of_getElem? (i := 1) rfl
theorem ml_X9_faultOf_2 : (.fieldLink RX9 97 "StoryWallModel" "cards" "I" : Cond) ∈ wsX9_faultOf := List.mem_of_getElem? (i := 2) rfl
theorem ml_X9_faultOf_3 : (.fieldLink RX9 87 "StoryWallModel" "length" "I" : Cond) ∈ wsX9_faultOf := List.mem_of_getElem? (i := 3) rfl
theorem ml_X9_faultOf_4 : (.fieldLink RX9 40 "StoryWallModel" "text" "[C" : Cond) ∈ wsX9_faultOf := List.mem_of_getElem? (i := 4) rfl
abbrev rm_X9_faultOf : Room := { frames := 3, cells := 0, slots := 0, locals := 67 }
set_option maxHeartbeats 4000000 in
set_option maxRecDepth 100000 in
theorem c_X9_faultOf (l : Launch) (D : va_G) (cI cC cF cO : ClassId) (a_this a_read a_text a_s a_before a_kept a_aside a_order a_rank a_straight a_sorted a_longest : Nat) (v_onWall : Int32) (v_straightMany : Int32) (v_states : Int32) (v_isKept : Int32) (sz : Nat)  (v_length : Int32) (v_at : Int32) (v_cards : Int32) (v_read : Nat → Int32) (v_text : Nat → Int32) (post : Int32 → Int32 → Int32 → (Nat → Int32) → Prop) (hwp : wp_X9_faultOf v_length v_at v_cards v_read v_text post) : Met l yX9_faultOf wsX9_faultOf rm_X9_faultOf (gPre D (gT cI cC cF cO) [.ref a_this] [(a_this, .inr (9, [.ref a_s, .ref a_before, .ref a_kept, .ref a_aside, .ref a_order, .ref a_rank, .int v_onWall, .ref a_straight, .ref a_sorted, .ref a_longest, .int v_straightMany, .ref a_read, .ref a_text, .int v_length, .int v_states, .int v_isKept, .int v_at, .int v_cards])), (a_read, .inl (cI, 160, .inl v_read)), (a_text, .inl (cC, 60, .inl v_text))] sz) (va_Qi (S := Int32 × Int32 × (Nat → Int32)) (fun (r : Int32) (u : Int32 × Int32 × (Nat → Int32)) => post r u.1 u.2.1 u.2.2) (gB D (gT cI cC cF cO) (fun (u : Int32 × Int32 × (Nat → Int32)) => [(a_this, .inr (9, [.ref a_s, .ref a_before, .ref a_kept, .ref a_aside, .ref a_order, .ref a_rank, .int v_onWall, .ref a_straight, .ref a_sorted, .ref a_longest, .int v_straightMany, .ref a_read, .ref a_text, .int v_length, .int v_states, .int v_isKept, .int u.1, .int u.2.1])), (a_read, .inl (cI, 160, .inl u.2.2)), (a_text, .inl (cC, 60, .inl v_text))]) [(a_this, .inr (9, [.ref a_s, .ref a_before, .ref a_kept, .ref a_aside, .ref a_order, .ref a_rank, .int v_onWall, .ref a_straight, .ref a_sorted, .ref a_longest, .int v_straightMany, .ref a_read, .ref a_text, .int v_length, .int v_states, .int v_isKept, .int v_at, .int v_cards])), (a_read, .inl (cI, 160, .inl v_read)), (a_text, .inl (cC, 60, .inl v_text))] sz) (va_A [(a_this, .inr (9, [.ref a_s, .ref a_before, .ref a_kept, .ref a_aside, .ref a_order, .ref a_rank, .int v_onWall, .ref a_straight, .ref a_sorted, .ref a_longest, .int v_straightMany, .ref a_read, .ref a_text, .int v_length, .int v_states, .int v_isKept, .int v_at, .int v_cards])), (a_read, .inl (cI, 160, .inl v_read)), (a_text, .inl (cC, 60, .inl v_text))] sz)) 0 0 (va_A [(a_this, .inr (9, [.ref a_s, .ref a_before, .ref a_kept, .ref a_aside, .ref a_order, .ref a_rank, .int v_onWall, .ref a_straight, .ref a_sorted, .ref a_longest, .int v_straightMany, .ref a_read, .ref a_text, .int v_length, .int v_states, .int v_isKept, .int v_at, .int v_cards])), (a_read, .inl (cI, 160, .inl v_read)), (a_text, .inl (cC, 60, .inl v_text))] sz) := by
  refine gOfi (own := RX9) (cc := cX9_faultOf) (maxL := 2) (ret := (some .int)) rfl (by decide) rfl (Nat.le_of_ble_eq_true rfl) rfl ?_
  intro p e s m below meth c A args Q hAe hx hb hr hts hown hml hlocks hname hA hK hX hT hP hD hS hret ls hl
  have hl : lv_has ls 2 [(0, .ref a_this)] := hl
  unfold wp_X9_faultOf at hwp
  have hj72 : ∀ (x1_72 : Int32) (v_at_72 : Int32) (v_cards_72 : Int32) (v_read_72 : Nat → Int32) (H : Heap) (locs : List Loc), wp_X9_faultOf_j72 x1_72 v_length v_at_72 v_cards_72 v_read_72 v_text  post → va_P D vwCl [(a_this, .inr (9, [.ref a_s, .ref a_before, .ref a_kept, .ref a_aside, .ref a_order, .ref a_rank, .int v_onWall, .ref a_straight, .ref a_sorted, .ref a_longest, .int v_straightMany, .ref a_read, .ref a_text, .int v_length, .int v_states, .int v_isKept, .int v_at_72, .int v_cards_72])), (a_read, .inl (cI, 160, .inl v_read_72)), (a_text, .inl (cC, 60, .inl v_text))] H → va_D A [(a_this, .inr (9, [.ref a_s, .ref a_before, .ref a_kept, .ref a_aside, .ref a_order, .ref a_rank, .int v_onWall, .ref a_straight, .ref a_sorted, .ref a_longest, .int v_straightMany, .ref a_read, .ref a_text, .int v_length, .int v_states, .int v_isKept, .int v_at_72, .int v_cards_72])), (a_read, .inl (cI, 160, .inl v_read_72)), (a_text, .inl (cC, 60, .inl v_text))] → va_S A s.heap H locs → ∀ ls : Array Slot, lv_has ls 2 [(0, .ref a_this), (1, .int x1_72)] → W p l e rm_X9_faultOf s m args below meth c H locs 0 0 Q (F0 m 72 ls []) := by
    intro x1_72 v_at_72 v_cards_72 v_read_72 H locs hwp hP hD hS ls hl
    unfold wp_X9_faultOf_j72 at hwp
    refine lv_iload_n hx hb dX9_faultOf_72 rfl (lv_at hl 1 rfl) ?_
    refine lv_if_eq (tgt := 80) hx hb dX9_faultOf_73 (by decide) (fun hc => ?_) (fun hc => ?_)
    · have hwp := hwp.1 hc
      refine lv_aload_n hx hb dX9_faultOf_80 rfl (lv_at hl 0 rfl) ?_
      refine va_get (D := D) (ci := 9) (v := .int v_at_72) (C := RX9) (T := TX9) (N := 18) hx hb hts mc_X9_faultOf_9 hown hK hP 0 rfl rfl 16 (by decide) (hts _ ml_X9_faultOf_1) (fun _ h9 => h9) rfl dX9_faultOf_81 ?_
      exact hret (v_at_72, v_cards_72, v_read_72) [0, 1, 2] dX9_faultOf_84 hwp rfl rfl hP hD hS
    · have hwp := hwp.2 hc
      refine lv_iconst (v := -1) hx hb dX9_faultOf_76 (by decide) ?_
      refine lv_goto (tgt := 84) hx hb dX9_faultOf_77 (by decide) ?_
      exact hret (v_at_72, v_cards_72, v_read_72) [0, 1, 2] dX9_faultOf_84 hwp rfl rfl hP hD hS
  refine lv_aload_n hx hb dX9_faultOf_0 rfl (lv_at hl 0 rfl) ?_
  refine lv_iconst (v := 0) hx hb dX9_faultOf_1 (by decide) ?_
  refine va_put (D := D) (ci := 9) (v := .int (0 : Int32)) (ty := .int) (C := RX9) (T := TX9) (N := 18) hx hb hts mc_X9_faultOf_9 tyX9 tyX9_ok nmX9 hown hK hP hD hS 0 rfl rfl 16 (by decide) (hts _ ml_X9_faultOf_1) (fun _ h9 => h9) rfl (by decide +kernel) rfl rfl (Nat.le_of_ble_eq_true rfl) dX9_faultOf_2 (fun H locs hP hD hS => ?_)
  have hP : va_P D vwCl [(a_this, .inr (9, [.ref a_s, .ref a_before, .ref a_kept, .ref a_aside, .ref a_order, .ref a_rank, .int v_onWall, .ref a_straight, .ref a_sorted, .ref a_longest, .int v_straightMany, .ref a_read, .ref a_text, .int v_length, .int v_states, .int v_isKept, .int (0 : Int32), .int v_cards])), (a_read, .inl (cI, 160, .inl v_read)), (a_text, .inl (cC, 60, .inl v_text))] H := hP
  have hD : va_D A [(a_this, .inr (9, [.ref a_s, .ref a_before, .ref a_kept, .ref a_aside, .ref a_order, .ref a_rank, .int v_onWall, .ref a_straight, .ref a_sorted, .ref a_longest, .int v_straightMany, .ref a_read, .ref a_text, .int v_length, .int v_states, .int v_isKept, .int (0 : Int32), .int v_cards])), (a_read, .inl (cI, 160, .inl v_read)), (a_text, .inl (cC, 60, .inl v_text))] := hD
  refine lv_aload_n hx hb dX9_faultOf_5 rfl (lv_at hl 0 rfl) ?_
  refine lv_iconst (v := 0) hx hb dX9_faultOf_6 (by decide) ?_
  refine va_put (D := D) (ci := 9) (v := .int (0 : Int32)) (ty := .int) (C := RX9) (T := TX9) (N := 18) hx hb hts mc_X9_faultOf_9 tyX9 tyX9_ok nmX9 hown hK hP hD hS 0 rfl rfl 17 (by decide) (hts _ ml_X9_faultOf_2) (fun _ h9 => h9) rfl (by decide +kernel) rfl rfl (Nat.le_of_ble_eq_true rfl) dX9_faultOf_7 (fun H locs hP hD hS => ?_)
  have hP : va_P D vwCl [(a_this, .inr (9, [.ref a_s, .ref a_before, .ref a_kept, .ref a_aside, .ref a_order, .ref a_rank, .int v_onWall, .ref a_straight, .ref a_sorted, .ref a_longest, .int v_straightMany, .ref a_read, .ref a_text, .int v_length, .int v_states, .int v_isKept, .int (0 : Int32), .int (0 : Int32)])), (a_read, .inl (cI, 160, .inl v_read)), (a_text, .inl (cC, 60, .inl v_text))] H := hP
  have hD : va_D A [(a_this, .inr (9, [.ref a_s, .ref a_before, .ref a_kept, .ref a_aside, .ref a_order, .ref a_rank, .int v_onWall, .ref a_straight, .ref a_sorted, .ref a_longest, .int v_straightMany, .ref a_read, .ref a_text, .int v_length, .int v_states, .int v_isKept, .int (0 : Int32), .int (0 : Int32)])), (a_read, .inl (cI, 160, .inl v_read)), (a_text, .inl (cC, 60, .inl v_text))] := hD
  refine lv_aload_n hx hb dX9_faultOf_10 rfl (lv_at hl 0 rfl) ?_
  refine gBacki (D := D) (tys := gT cI cC cF cO) (A := A) (wr := []) (w1 := (fun u_5 : Int32 × Int32 × (Nat → Int32) => [(a_this, .inr (9, [.ref a_s, .ref a_before, .ref a_kept, .ref a_aside, .ref a_order, .ref a_rank, .int v_onWall, .ref a_straight, .ref a_sorted, .ref a_longest, .int v_straightMany, .ref a_read, .ref a_text, .int v_length, .int v_states, .int v_isKept, .int u_5.1, .int u_5.2.1])), (a_read, .inl (cI, 160, .inl u_5.2.2)), (a_text, .inl (cC, 60, .inl v_text))])) (va_runV (As := []) (rest := []) ⟨hx, hb, hml, hown, hts⟩ (c_X9_readsCard l D cI cC cF cO a_this a_read a_text a_s a_before a_kept a_aside a_order a_rank a_straight a_sorted a_longest v_onWall v_straightMany v_states v_isKept _ _ _ _ _ _ _ hwp) (cwV 0 hts gX9_faultOf_X9_readsCard rfl rfl rfl (by decide +kernel) ⟨Nat.le_of_ble_eq_true rfl, Nat.le_of_ble_eq_true rfl⟩) (gPreV (C := RX9) (T := TX9) (N := 18) (ci := 9) hK hX hT hP hD hS hA [0, 1, 2] rfl rfl rfl (qb := 0) rfl) rfl rfl hl.1 rfl (lv_room (Nat.le_of_ble_eq_true rfl)) dX9_faultOf_11 ⟨Nat.le_of_ble_eq_true rfl, Nat.le_of_ble_eq_true rfl⟩) hP hD hS hA [0, 1, 2] [] rfl rfl rfl (by decide) (fun r_1 u_5 H locs hwp hP hD hS => ?_)
  obtain ⟨v_at_2, v_cards_3, v_read_4⟩ := u_5
  have hP : va_P D vwCl [(a_this, .inr (9, [.ref a_s, .ref a_before, .ref a_kept, .ref a_aside, .ref a_order, .ref a_rank, .int v_onWall, .ref a_straight, .ref a_sorted, .ref a_longest, .int v_straightMany, .ref a_read, .ref a_text, .int v_length, .int v_states, .int v_isKept, .int v_at_2, .int v_cards_3])), (a_read, .inl (cI, 160, .inl v_read_4)), (a_text, .inl (cC, 60, .inl v_text))] H := hP
  have hD : va_D A [(a_this, .inr (9, [.ref a_s, .ref a_before, .ref a_kept, .ref a_aside, .ref a_order, .ref a_rank, .int v_onWall, .ref a_straight, .ref a_sorted, .ref a_longest, .int v_straightMany, .ref a_read, .ref a_text, .int v_length, .int v_states, .int v_isKept, .int v_at_2, .int v_cards_3])), (a_read, .inl (cI, 160, .inl v_read_4)), (a_text, .inl (cC, 60, .inl v_text))] := hD
  refine lv_istore_n (lv' := [(1, .int r_1), (0, .ref a_this)]) hx hb dX9_faultOf_14 rfl hl (by decide) rfl (fun ls hl => ?_)
  have hl : lv_has ls 2 [(0, .ref a_this), (1, .int r_1)] := lv_sub hl [1, 0] rfl
  unfold wp_X9_faultOf_l15 at hwp
  obtain ⟨J15, μ15, hJ, hst15⟩ := hwp
  have hL15 : ∀ (n : Nat) (x1_15 : Int32) (v_at_15 : Int32) (v_cards_15 : Int32) (v_read_15 : Nat → Int32), μ15 x1_15 v_at_15 v_cards_15 v_read_15 < n → J15 x1_15 v_at_15 v_cards_15 v_read_15 → ∀ (H : Heap) (locs : List Loc), va_P D vwCl [(a_this, .inr (9, [.ref a_s, .ref a_before, .ref a_kept, .ref a_aside, .ref a_order, .ref a_rank, .int v_onWall, .ref a_straight, .ref a_sorted, .ref a_longest, .int v_straightMany, .ref a_read, .ref a_text, .int v_length, .int v_states, .int v_isKept, .int v_at_15, .int v_cards_15])), (a_read, .inl (cI, 160, .inl v_read_15)), (a_text, .inl (cC, 60, .inl v_text))] H → va_D A [(a_this, .inr (9, [.ref a_s, .ref a_before, .ref a_kept, .ref a_aside, .ref a_order, .ref a_rank, .int v_onWall, .ref a_straight, .ref a_sorted, .ref a_longest, .int v_straightMany, .ref a_read, .ref a_text, .int v_length, .int v_states, .int v_isKept, .int v_at_15, .int v_cards_15])), (a_read, .inl (cI, 160, .inl v_read_15)), (a_text, .inl (cC, 60, .inl v_text))] → va_S A s.heap H locs → ∀ ls : Array Slot, lv_has ls 2 [(0, .ref a_this), (1, .int x1_15)] → W p l e rm_X9_faultOf s m args below meth c H locs 0 0 Q (F0 m 15 ls []) := by
    intro n
    induction n with
    | zero => intro x1_15 v_at_15 v_cards_15 v_read_15 h; exact absurd h (Nat.not_lt_zero _)
    | succ n ih15 =>
      intro x1_15 v_at_15 v_cards_15 v_read_15 hμ15 hJ H locs hP hD hS ls hl
      have hwp := hst15 x1_15 v_at_15 v_cards_15 v_read_15 hJ
      have hj49 : ∀ (k0_49 : Int32) (v_at_49 : Int32) (v_cards_49 : Int32) (v_read_49 : Nat → Int32) (H : Heap) (locs : List Loc), wp_X9_faultOf_j49 k0_49 v_length v_at_49 v_cards_49 v_read_49 v_text (fun u0 u1 u2 u3 => J15 u0 u1 u2 u3 ∧ μ15 u0 u1 u2 u3 < μ15 x1_15 v_at_15 v_cards_15 v_read_15) post → va_P D vwCl [(a_this, .inr (9, [.ref a_s, .ref a_before, .ref a_kept, .ref a_aside, .ref a_order, .ref a_rank, .int v_onWall, .ref a_straight, .ref a_sorted, .ref a_longest, .int v_straightMany, .ref a_read, .ref a_text, .int v_length, .int v_states, .int v_isKept, .int v_at_49, .int v_cards_49])), (a_read, .inl (cI, 160, .inl v_read_49)), (a_text, .inl (cC, 60, .inl v_text))] H → va_D A [(a_this, .inr (9, [.ref a_s, .ref a_before, .ref a_kept, .ref a_aside, .ref a_order, .ref a_rank, .int v_onWall, .ref a_straight, .ref a_sorted, .ref a_longest, .int v_straightMany, .ref a_read, .ref a_text, .int v_length, .int v_states, .int v_isKept, .int v_at_49, .int v_cards_49])), (a_read, .inl (cI, 160, .inl v_read_49)), (a_text, .inl (cC, 60, .inl v_text))] → va_S A s.heap H locs → ∀ ls : Array Slot, lv_has ls 2 [(0, .ref a_this)] → W p l e rm_X9_faultOf s m args below meth c H locs 0 0 Q (F0 m 49 ls [.int k0_49]) := by
        intro k0_49 v_at_49 v_cards_49 v_read_49 H locs hwp hP hD hS ls hl
        unfold wp_X9_faultOf_j49 at hwp
        refine lv_istore_n (lv' := [(1, .int k0_49), (0, .ref a_this)]) hx hb dX9_faultOf_49 rfl hl (by decide) rfl (fun ls hl => ?_)
        refine lv_iload_n hx hb dX9_faultOf_50 rfl (lv_at hl 0 rfl) ?_
        refine lv_if_eq (tgt := 15) hx hb dX9_faultOf_51 (by decide) (fun hc => ?_) (fun hc => ?_)
        · have hwp := hwp.1 hc
          have hl : lv_has ls 2 [(0, .ref a_this), (1, .int k0_49)] := lv_sub hl [1, 0] rfl
          exact ih15 k0_49 v_at_49 v_cards_49 v_read_49 (Nat.lt_of_lt_of_le hwp.2 (Nat.le_of_lt_succ hμ15)) hwp.1 _ _ hP hD hS ls hl
        · have hwp := hwp.2 hc
          refine lv_aload_n hx hb dX9_faultOf_54 rfl (lv_at hl 1 rfl) ?_
          refine lv_dup hx hb dX9_faultOf_55 rfl ?_
          refine va_get (D := D) (ci := 9) (v := .int v_at_49) (C := RX9) (T := TX9) (N := 18) hx hb hts mc_X9_faultOf_9 hown hK hP 0 rfl rfl 16 (by decide) (hts _ ml_X9_faultOf_1) (fun _ h9 => h9) rfl dX9_faultOf_56 ?_
          refine lv_iconst (v := 1) hx hb dX9_faultOf_59 (by decide) ?_
          refine lv_iadd hx hb dX9_faultOf_60 ?_
          refine va_put (D := D) (ci := 9) (v := .int (v_at_49 + (1 : Int32))) (ty := .int) (C := RX9) (T := TX9) (N := 18) hx hb hts mc_X9_faultOf_9 tyX9 tyX9_ok nmX9 hown hK hP hD hS 0 rfl rfl 16 (by decide) (hts _ ml_X9_faultOf_1) (fun _ h9 => h9) rfl (by decide +kernel) rfl rfl (Nat.le_of_ble_eq_true rfl) dX9_faultOf_61 (fun H locs hP hD hS => ?_)
          have hP : va_P D vwCl [(a_this, .inr (9, [.ref a_s, .ref a_before, .ref a_kept, .ref a_aside, .ref a_order, .ref a_rank, .int v_onWall, .ref a_straight, .ref a_sorted, .ref a_longest, .int v_straightMany, .ref a_read, .ref a_text, .int v_length, .int v_states, .int v_isKept, .int (v_at_49 + (1 : Int32)), .int v_cards_49])), (a_read, .inl (cI, 160, .inl v_read_49)), (a_text, .inl (cC, 60, .inl v_text))] H := hP
          have hD : va_D A [(a_this, .inr (9, [.ref a_s, .ref a_before, .ref a_kept, .ref a_aside, .ref a_order, .ref a_rank, .int v_onWall, .ref a_straight, .ref a_sorted, .ref a_longest, .int v_straightMany, .ref a_read, .ref a_text, .int v_length, .int v_states, .int v_isKept, .int (v_at_49 + (1 : Int32)), .int v_cards_49])), (a_read, .inl (cI, 160, .inl v_read_49)), (a_text, .inl (cC, 60, .inl v_text))] := hD
          refine lv_aload_n hx hb dX9_faultOf_64 rfl (lv_at hl 1 rfl) ?_
          refine gBacki (D := D) (tys := gT cI cC cF cO) (A := A) (wr := []) (w1 := (fun u_10 : Int32 × Int32 × (Nat → Int32) => [(a_this, .inr (9, [.ref a_s, .ref a_before, .ref a_kept, .ref a_aside, .ref a_order, .ref a_rank, .int v_onWall, .ref a_straight, .ref a_sorted, .ref a_longest, .int v_straightMany, .ref a_read, .ref a_text, .int v_length, .int v_states, .int v_isKept, .int u_10.1, .int u_10.2.1])), (a_read, .inl (cI, 160, .inl u_10.2.2)), (a_text, .inl (cC, 60, .inl v_text))])) (va_runV (As := []) (rest := []) ⟨hx, hb, hml, hown, hts⟩ (c_X9_readsCard l D cI cC cF cO a_this a_read a_text a_s a_before a_kept a_aside a_order a_rank a_straight a_sorted a_longest v_onWall v_straightMany v_states v_isKept _ _ _ _ _ _ _ hwp) (cwV 0 hts gX9_faultOf_X9_readsCard rfl rfl rfl (by decide +kernel) ⟨Nat.le_of_ble_eq_true rfl, Nat.le_of_ble_eq_true rfl⟩) (gPreV (C := RX9) (T := TX9) (N := 18) (ci := 9) hK hX hT hP hD hS hA [0, 1, 2] rfl rfl rfl (qb := 0) rfl) rfl rfl hl.1 rfl (lv_room (Nat.le_of_ble_eq_true rfl)) dX9_faultOf_65 ⟨Nat.le_of_ble_eq_true rfl, Nat.le_of_ble_eq_true rfl⟩) hP hD hS hA [0, 1, 2] [] rfl rfl rfl (by decide) (fun r_6 u_10 H locs hwp hP hD hS => ?_)
          obtain ⟨v_at_7, v_cards_8, v_read_9⟩ := u_10
          have hP : va_P D vwCl [(a_this, .inr (9, [.ref a_s, .ref a_before, .ref a_kept, .ref a_aside, .ref a_order, .ref a_rank, .int v_onWall, .ref a_straight, .ref a_sorted, .ref a_longest, .int v_straightMany, .ref a_read, .ref a_text, .int v_length, .int v_states, .int v_isKept, .int v_at_7, .int v_cards_8])), (a_read, .inl (cI, 160, .inl v_read_9)), (a_text, .inl (cC, 60, .inl v_text))] H := hP
          have hD : va_D A [(a_this, .inr (9, [.ref a_s, .ref a_before, .ref a_kept, .ref a_aside, .ref a_order, .ref a_rank, .int v_onWall, .ref a_straight, .ref a_sorted, .ref a_longest, .int v_straightMany, .ref a_read, .ref a_text, .int v_length, .int v_states, .int v_isKept, .int v_at_7, .int v_cards_8])), (a_read, .inl (cI, 160, .inl v_read_9)), (a_text, .inl (cC, 60, .inl v_text))] := hD
          refine lv_istore_n (lv' := [(1, .int r_6), (0, .ref a_this)]) hx hb dX9_faultOf_68 rfl hl (by decide) rfl (fun ls hl => ?_)
          refine lv_goto (tgt := 15) hx hb dX9_faultOf_69 (by decide) ?_
          have hl : lv_has ls 2 [(0, .ref a_this), (1, .int r_6)] := lv_sub hl [1, 0] rfl
          exact ih15 r_6 v_at_7 v_cards_8 v_read_9 (Nat.lt_of_lt_of_le hwp.2 (Nat.le_of_lt_succ hμ15)) hwp.1 _ _ hP hD hS ls hl
      refine lv_iload_n hx hb dX9_faultOf_15 rfl (lv_at hl 1 rfl) ?_
      refine lv_if_eq (tgt := 72) hx hb dX9_faultOf_16 (by decide) (fun hc => ?_) (fun hc => ?_)
      · have hwp := hwp.1 hc
        have hl : lv_has ls 2 [(0, .ref a_this), (1, .int x1_15)] := lv_sub hl [0, 1] rfl
        exact hj72 x1_15 v_at_15 v_cards_15 v_read_15 _ _ hwp hP hD hS ls hl
      · have hwp := hwp.2 hc
        refine lv_aload_n hx hb dX9_faultOf_19 rfl (lv_at hl 0 rfl) ?_
        refine va_get (D := D) (ci := 9) (v := .int v_at_15) (C := RX9) (T := TX9) (N := 18) hx hb hts mc_X9_faultOf_9 hown hK hP 0 rfl rfl 16 (by decide) (hts _ ml_X9_faultOf_1) (fun _ h9 => h9) rfl dX9_faultOf_20 ?_
        refine lv_aload_n hx hb dX9_faultOf_23 rfl (lv_at hl 0 rfl) ?_
        refine va_get (D := D) (ci := 9) (v := .int v_length) (C := RX9) (T := TX9) (N := 18) hx hb hts mc_X9_faultOf_9 hown hK hP 0 rfl rfl 13 (by decide) (hts _ ml_X9_faultOf_3) (fun _ h9 => h9) rfl dX9_faultOf_24 ?_
        refine lv_icmp_ge (tgt := 72) hx hb dX9_faultOf_27 (by decide) (fun hc => ?_) (fun hc => ?_)
        · have hwp := hwp.1 hc
          have hl : lv_has ls 2 [(0, .ref a_this), (1, .int x1_15)] := lv_sub hl [0, 1] rfl
          exact hj72 x1_15 v_at_15 v_cards_15 v_read_15 _ _ hwp hP hD hS ls hl
        · have hwp := hwp.2 hc
          refine lv_aload_n hx hb dX9_faultOf_30 rfl (lv_at hl 0 rfl) ?_
          refine va_get (D := D) (ci := 9) (v := .ref a_text) (C := RX9) (T := TX9) (N := 18) hx hb hts mc_X9_faultOf_9 hown hK hP 0 rfl rfl 12 (by decide) (hts _ ml_X9_faultOf_4) (fun _ h9 => h9) rfl dX9_faultOf_31 ?_
          refine lv_aload_n hx hb dX9_faultOf_34 rfl (lv_at hl 0 rfl) ?_
          refine va_get (D := D) (ci := 9) (v := .int v_at_15) (C := RX9) (T := TX9) (N := 18) hx hb hts mc_X9_faultOf_9 hown hK hP 0 rfl rfl 16 (by decide) (hts _ ml_X9_faultOf_1) (fun _ h9 => h9) rfl dX9_faultOf_35 ?_
          have hn_11 := hwp.1
          have hwp := hwp.2
          refine va_cald (D := D) hx hb hK hP 2 1 rfl rfl hn_11 dX9_faultOf_38 ?_
          refine lv_bipush (v := 59) hx hb dX9_faultOf_39 (by decide) ?_
          refine lv_icmp_ne (tgt := 48) hx hb dX9_faultOf_41 (by decide) (fun hc => ?_) (fun hc => ?_)
          · have hwp := hwp.2 hc
            refine lv_iconst (v := 0) hx hb dX9_faultOf_48 (by decide) ?_
            have hl : lv_has ls 2 [(0, .ref a_this)] := lv_sub hl [0] rfl
            exact hj49 (0 : Int32) v_at_15 v_cards_15 v_read_15 _ _ hwp hP hD hS ls hl
          · have hwp := hwp.1 hc
            refine lv_iconst (v := 1) hx hb dX9_faultOf_44 (by decide) ?_
            refine lv_goto (tgt := 49) hx hb dX9_faultOf_45 (by decide) ?_
            have hl : lv_has ls 2 [(0, .ref a_this)] := lv_sub hl [0] rfl
            exact hj49 (1 : Int32) v_at_15 v_cards_15 v_read_15 _ _ hwp hP hD hS ls hl
  exact hL15 _ r_1 v_at_2 v_cards_3 v_read_4 (Nat.lt_succ_self _) hJ _ _ hP hD hS ls hl
