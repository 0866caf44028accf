/-! contracts (by program): X8_bitsOf X8_spanBits X9_in X9_record X9_of X9_row X9_isCard X9_layOrder X9_sceneOf X9_placeOf -/
theorem ml_X8_bitsOf_0 : (.constantFloat RX8 298 (1258291200) : Cond) ∈ wsX8_bitsOf := List.mem_of_getElem? (i := 1) rfl
abbrev rm_X8_bitsOf : Room := { frames := 0, cells := 0, slots := 0, locals := 0 }
set_option maxHeartbeats 4000000 in
set_option maxRecDepth 100000 in
theorem c_X8_bitsOf (l : Launch) (D : va_G) (cI cC cF cO : ClassId)   (sz : Nat) (x0 : UInt32)  (post : Int32 → Prop) (hwp : wp_X8_bitsOf x0 post) : Met l yX8_bitsOf wsX8_bitsOf rm_X8_bitsOf (gPre D (gT cI cC cF cO) [.float x0] [] sz) (va_Qi (S := Unit) (fun (r : Int32) (u : Unit) => post r ) (gB D (gT cI cC cF cO) (fun (u : Unit) => []) [] sz) (va_A [] sz)) 0 0 (va_A [] sz) := by
  refine gOfi (own := RX8) (cc := cX8_bitsOf) (maxL := 3) (ret := (some .int)) rfl (by decide) rfl (Nat.le_of_ble_eq_true rfl) rfl ?_
  intro p e s m below meth c A args Q hAe hx hb hr hts hown hml hlocks hname hA hK hX hT hP hD hS hret ls hl
  have hl : lv_has ls 3 [(0, .float x0)] := hl
  unfold wp_X8_bitsOf at hwp
  have hj49 : ∀ (x1_49 : UInt32) (x2_49 : Int32) (H : Heap) (locs : List Loc), wp_X8_bitsOf_j49 x1_49 x2_49  post → va_P D vwCl [] H → va_D A [] → va_S A s.heap H locs → ∀ ls : Array Slot, lv_has ls 3 [(1, .float x1_49), (2, .int x2_49)] → W p l e rm_X8_bitsOf s m args below meth c H locs 0 0 Q (F0 m 49 ls []) := by
    intro x1_49 x2_49 H locs hwp hP hD hS ls hl
    unfold wp_X8_bitsOf_j49 at hwp
    refine lv_iload_n hx hb dX8_bitsOf_49 rfl (lv_at hl 1 rfl) ?_
    refine lv_iconst (v := 1) hx hb dX8_bitsOf_50 (by decide) ?_
    refine lv_isub hx hb dX8_bitsOf_51 ?_
    refine lv_bipush (v := 23) hx hb dX8_bitsOf_52 (by decide) ?_
    refine lv_ishl hx hb dX8_bitsOf_54 ?_
    refine lv_fload_n hx hb dX8_bitsOf_55 rfl (lv_at hl 0 rfl) ?_
    refine lv_ldcwf (v := 1258291200) hx hb hown (hts _ ml_X8_bitsOf_0) dX8_bitsOf_56 ?_
    have hn_1 := hwp.1
    have hwp := hwp.2
    refine lv_fmul hx hb dX8_bitsOf_59 hn_1 ?_
    refine lv_f2i hx hb dX8_bitsOf_60 ?_
    refine lv_iadd hx hb dX8_bitsOf_61 ?_
    exact hret () [] dX8_bitsOf_62 hwp rfl rfl hP hD hS
  refine lv_fload_n hx hb dX8_bitsOf_0 rfl (lv_at hl 0 rfl) ?_
  refine lv_fstore_n (lv' := [(1, .float x0), (0, .float x0)]) hx hb dX8_bitsOf_1 rfl hl (by decide) rfl (fun ls hl => ?_)
  refine lv_bipush (v := 127) hx hb dX8_bitsOf_2 (by decide) ?_
  refine lv_istore_n (lv' := [(2, .int (127 : Int32)), (1, .float x0), (0, .float x0)]) hx hb dX8_bitsOf_4 rfl hl (by decide) rfl (fun ls hl => ?_)
  have hl : lv_has ls 3 [(1, .float x0), (2, .int (127 : Int32))] := lv_sub hl [1, 0] rfl
  unfold wp_X8_bitsOf_l5 at hwp
  obtain ⟨J5, μ5, hJ, hst5⟩ := hwp
  have hL5 : ∀ (n : Nat) (x1_5 : UInt32) (x2_5 : Int32), μ5 x1_5 x2_5 < n → J5 x1_5 x2_5 → ∀ (H : Heap) (locs : List Loc), va_P D vwCl [] H → va_D A [] → va_S A s.heap H locs → ∀ ls : Array Slot, lv_has ls 3 [(1, .float x1_5), (2, .int x2_5)] → W p l e rm_X8_bitsOf s m args below meth c H locs 0 0 Q (F0 m 5 ls []) := by
    intro n
    induction n with
    | zero => intro x1_5 x2_5 h; exact absurd h (Nat.not_lt_zero _)
    | succ n ih5 =>
      intro x1_5 x2_5 hμ5 hJ H locs hP hD hS ls hl
      have hwp := hst5 x1_5 x2_5 hJ
      refine lv_fload_n hx hb dX8_bitsOf_5 rfl (lv_at hl 0 rfl) ?_
      refine lv_fconst2 hx hb dX8_bitsOf_6 ?_
      refine lv_fcmp hx hb dX8_bitsOf_7 ?_
      refine lv_if_lt (tgt := 28) hx hb dX8_bitsOf_8 (by decide) (fun hc => ?_) (fun hc => ?_)
      · have hwp := hwp.1 hc
        have hl : lv_has ls 3 [(1, .float x1_5), (2, .int x2_5)] := lv_sub hl [0, 1] rfl
        unfold wp_X8_bitsOf_l28 at hwp
        obtain ⟨J28, μ28, hJ, hst28⟩ := hwp
        have hL28 : ∀ (n : Nat) (x1_28 : UInt32) (x2_28 : Int32), μ28 x1_28 x2_28 < n → J28 x1_28 x2_28 → ∀ (H : Heap) (locs : List Loc), va_P D vwCl [] H → va_D A [] → va_S A s.heap H locs → ∀ ls : Array Slot, lv_has ls 3 [(1, .float x1_28), (2, .int x2_28)] → W p l e rm_X8_bitsOf s m args below meth c H locs 0 0 Q (F0 m 28 ls []) := by
          intro n
          induction n with
          | zero => intro x1_28 x2_28 h; exact absurd h (Nat.not_lt_zero _)
          | succ n ih28 =>
            intro x1_28 x2_28 hμ28 hJ H locs hP hD hS ls hl
            have hwp := hst28 x1_28 x2_28 hJ
            refine lv_fload_n hx hb dX8_bitsOf_28 rfl (lv_at hl 0 rfl) ?_
            refine lv_fconst1 hx hb dX8_bitsOf_29 ?_
            refine lv_fcmp hx hb dX8_bitsOf_30 ?_
            refine lv_if_ge (tgt := 49) hx hb dX8_bitsOf_31 (by decide) (fun hc => ?_) (fun hc => ?_)
            · have hwp := hwp.1 hc
              have hl : lv_has ls 3 [(1, .float x1_28), (2, .int x2_28)] := lv_sub hl [0, 1] rfl
              exact hj49 x1_28 x2_28 _ _ hwp hP hD hS ls hl
            · have hwp := hwp.2 hc
              refine lv_iload_n hx hb dX8_bitsOf_34 rfl (lv_at hl 1 rfl) ?_
              refine lv_iconst (v := 1) hx hb dX8_bitsOf_35 (by decide) ?_
              refine lv_icmp_le (tgt := 49) hx hb dX8_bitsOf_36 (by decide) (fun hc => ?_) (fun hc => ?_)
              · have hwp := hwp.1 hc
                have hl : lv_has ls 3 [(1, .float x1_28), (2, .int x2_28)] := lv_sub hl [0, 1] rfl
                exact hj49 x1_28 x2_28 _ _ hwp hP hD hS ls hl
              · have hwp := hwp.2 hc
                refine lv_fload_n hx hb dX8_bitsOf_39 rfl (lv_at hl 0 rfl) ?_
                refine lv_fconst2 hx hb dX8_bitsOf_40 ?_
                have hn_2 := hwp.1
                have hwp := hwp.2
                refine lv_fmul hx hb dX8_bitsOf_41 hn_2 ?_
                refine lv_fstore_n (lv' := [(1, .float (FP.fmul x1_28 FP.fconst2)), (2, .int x2_28)]) hx hb dX8_bitsOf_42 rfl hl (by decide) rfl (fun ls hl => ?_)
                refine lv_iinc (v := (x2_28 + (-1 : Int32))) (lv' := [(2, .int (x2_28 + (-1 : Int32))), (1, .float (FP.fmul x1_28 FP.fconst2))]) hx hb dX8_bitsOf_43 hl (k := 1) rfl rfl (by decide) rfl (fun ls hl => ?_)
                refine lv_goto (tgt := 28) hx hb dX8_bitsOf_46 (by decide) ?_
                have hl : lv_has ls 3 [(1, .float (FP.fmul x1_28 FP.fconst2)), (2, .int (x2_28 + (-1 : Int32)))] := lv_sub hl [1, 0] rfl
                exact ih28 (FP.fmul x1_28 FP.fconst2) (x2_28 + (-1 : Int32)) (Nat.lt_of_lt_of_le hwp.2 (Nat.le_of_lt_succ hμ28)) hwp.1 _ _ hP hD hS ls hl
        exact hL28 _ x1_5 x2_5 (Nat.lt_succ_self _) hJ _ _ hP hD hS ls hl
      · have hwp := hwp.2 hc
        refine lv_iload_n hx hb dX8_bitsOf_11 rfl (lv_at hl 1 rfl) ?_
        refine lv_sipush (v := 254) hx hb dX8_bitsOf_12 (by decide) ?_
        refine lv_icmp_ge (tgt := 28) hx hb dX8_bitsOf_15 (by decide) (fun hc => ?_) (fun hc => ?_)
        · have hwp := hwp.1 hc
          have hl : lv_has ls 3 [(1, .float x1_5), (2, .int x2_5)] := lv_sub hl [0, 1] rfl
          unfold wp_X8_bitsOf_l28 at hwp
          obtain ⟨J28, μ28, hJ, hst28⟩ := hwp
          have hL28 : ∀ (n : Nat) (x1_28 : UInt32) (x2_28 : Int32), μ28 x1_28 x2_28 < n → J28 x1_28 x2_28 → ∀ (H : Heap) (locs : List Loc), va_P D vwCl [] H → va_D A [] → va_S A s.heap H locs → ∀ ls : Array Slot, lv_has ls 3 [(1, .float x1_28), (2, .int x2_28)] → W p l e rm_X8_bitsOf s m args below meth c H locs 0 0 Q (F0 m 28 ls []) := by
            intro n
            induction n with
            | zero => intro x1_28 x2_28 h; exact absurd h (Nat.not_lt_zero _)
            | succ n ih28 =>
              intro x1_28 x2_28 hμ28 hJ H locs hP hD hS ls hl
              have hwp := hst28 x1_28 x2_28 hJ
              refine lv_fload_n hx hb dX8_bitsOf_28 rfl (lv_at hl 0 rfl) ?_
              refine lv_fconst1 hx hb dX8_bitsOf_29 ?_
              refine lv_fcmp hx hb dX8_bitsOf_30 ?_
              refine lv_if_ge (tgt := 49) hx hb dX8_bitsOf_31 (by decide) (fun hc => ?_) (fun hc => ?_)
              · have hwp := hwp.1 hc
                have hl : lv_has ls 3 [(1, .float x1_28), (2, .int x2_28)] := lv_sub hl [0, 1] rfl
                exact hj49 x1_28 x2_28 _ _ hwp hP hD hS ls hl
              · have hwp := hwp.2 hc
                refine lv_iload_n hx hb dX8_bitsOf_34 rfl (lv_at hl 1 rfl) ?_
                refine lv_iconst (v := 1) hx hb dX8_bitsOf_35 (by decide) ?_
                refine lv_icmp_le (tgt := 49) hx hb dX8_bitsOf_36 (by decide) (fun hc => ?_) (fun hc => ?_)
                · have hwp := hwp.1 hc
                  have hl : lv_has ls 3 [(1, .float x1_28), (2, .int x2_28)] := lv_sub hl [0, 1] rfl
                  exact hj49 x1_28 x2_28 _ _ hwp hP hD hS ls hl
                · have hwp := hwp.2 hc
                  refine lv_fload_n hx hb dX8_bitsOf_39 rfl (lv_at hl 0 rfl) ?_
                  refine lv_fconst2 hx hb dX8_bitsOf_40 ?_
                  have hn_3 := hwp.1
                  have hwp := hwp.2
                  refine lv_fmul hx hb dX8_bitsOf_41 hn_3 ?_
                  refine lv_fstore_n (lv' := [(1, .float (FP.fmul x1_28 FP.fconst2)), (2, .int x2_28)]) hx hb dX8_bitsOf_42 rfl hl (by decide) rfl (fun ls hl => ?_)
                  refine lv_iinc (v := (x2_28 + (-1 : Int32))) (lv' := [(2, .int (x2_28 + (-1 : Int32))), (1, .float (FP.fmul x1_28 FP.fconst2))]) hx hb dX8_bitsOf_43 hl (k := 1) rfl rfl (by decide) rfl (fun ls hl => ?_)
                  refine lv_goto (tgt := 28) hx hb dX8_bitsOf_46 (by decide) ?_
                  have hl : lv_has ls 3 [(1, .float (FP.fmul x1_28 FP.fconst2)), (2, .int (x2_28 + (-1 : Int32)))] := lv_sub hl [1, 0] rfl
                  exact ih28 (FP.fmul x1_28 FP.fconst2) (x2_28 + (-1 : Int32)) (Nat.lt_of_lt_of_le hwp.2 (Nat.le_of_lt_succ hμ28)) hwp.1 _ _ hP hD hS ls hl
          exact hL28 _ x1_5 x2_5 (Nat.lt_succ_self _) hJ _ _ hP hD hS ls hl
        · have hwp := hwp.2 hc
          refine lv_fload_n hx hb dX8_bitsOf_18 rfl (lv_at hl 0 rfl) ?_
          refine lv_fconst2 hx hb dX8_bitsOf_19 ?_
          have hn_4 := hwp.1
          have hwp := hwp.2
          refine lv_fdiv hx hb dX8_bitsOf_20 hn_4 ?_
          refine lv_fstore_n (lv' := [(1, .float (FP.fdiv x1_5 FP.fconst2)), (2, .int x2_5)]) hx hb dX8_bitsOf_21 rfl hl (by decide) rfl (fun ls hl => ?_)
          refine lv_iinc (v := (x2_5 + (1 : Int32))) (lv' := [(2, .int (x2_5 + (1 : Int32))), (1, .float (FP.fdiv x1_5 FP.fconst2))]) hx hb dX8_bitsOf_22 hl (k := 1) rfl rfl (by decide) rfl (fun ls hl => ?_)
          refine lv_goto (tgt := 5) hx hb dX8_bitsOf_25 (by decide) ?_
          have hl : lv_has ls 3 [(1, .float (FP.fdiv x1_5 FP.fconst2)), (2, .int (x2_5 + (1 : Int32)))] := lv_sub hl [1, 0] rfl
          exact ih5 (FP.fdiv x1_5 FP.fconst2) (x2_5 + (1 : Int32)) (Nat.lt_of_lt_of_le hwp.2 (Nat.le_of_lt_succ hμ5)) hwp.1 _ _ hP hD hS ls hl
  exact hL5 _ x0 (127 : Int32) (Nat.lt_succ_self _) hJ _ _ hP hD hS ls hl
theorem mc_X8_spanBits_8 : ∀ w ∈ u_ws RX8 TX8 9, w ∈ wsX8_spanBits := fun w h => List.mem_cons_of_mem _ (List.mem_append_left _ (List.mem_append_left _ (List.mem_append_left _ (List.mem_append_left _ (List.mem_append_right _ h)))))
theorem ml_X8_spanBits_1 : (.fieldLink RX8 57 "StoryWall" "tensions" "LStoryWall$Tensions;" : Cond) ∈ wsX8_spanBits := List.mem_of_getElem? (i := 1) rfl
theorem ml_X8_spanBits_2 : (.fieldLink RX8 10 "StoryWall" "now" "LStoryWall$State;" : Cond) ∈ wsX8_spanBits := List.mem_of_getElem? (i := 2) rfl
abbrev rm_X8_spanBits : Room := { frames := 5, cells := 0, slots := 0, locals := 117 }
set_option maxHeartbeats 4000000 in
set_option maxRecDepth 100000 in
theorem c_X8_spanBits (l : Launch) (D : va_G) (cI cC cF cO : ClassId) (a_this a_now a_now_cards a_now_cards_numbers a_now_wall a_now_wall_slots a_now_settings a_tensions a_tensions_values a_tensions_climbs a_snapshot a_history a_text a_trial a_reading a_straightRow : Nat) (v_kept : Int32) (sz : Nat)  (v_now_cards_size : Int32) (v_now_cards_numbers : Nat → Int32) (v_now_wall_slots : Nat → Int32) (v_now_settings : Nat → Int32) (v_tensions_values : Nat → UInt32) (v_tensions_climbs : Nat → Int32) (post : Int32 → (Nat → UInt32) → (Nat → Int32) → Prop) (hwp : wp_X8_spanBits v_now_cards_size v_now_cards_numbers v_now_wall_slots v_now_settings v_tensions_values v_tensions_climbs post) : Met l yX8_spanBits wsX8_spanBits rm_X8_spanBits (gPre D (gT cI cC cF cO) [.ref a_this] [(a_this, .inr (8, [.ref a_now, .ref a_snapshot, .ref a_history, .ref a_text, .ref a_trial, .ref a_reading, .ref a_straightRow, .ref a_tensions, .int v_kept])), (a_now, .inr (4, [.ref a_now_cards, .ref a_now_wall, .ref a_now_settings])), (a_now_cards, .inr (1, [.ref a_now_cards_numbers, .int v_now_cards_size])), (a_now_cards_numbers, .inl (cI, 200, .inl v_now_cards_numbers)), (a_now_wall, .inr (7, [.ref a_now_wall_slots])), (a_now_wall_slots, .inl (cI, 96, .inl v_now_wall_slots)), (a_now_settings, .inl (cI, 3, .inl v_now_settings)), (a_tensions, .inr (6, [.ref a_tensions_values, .ref a_tensions_climbs])), (a_tensions_values, .inl (cF, 16, .inr (.inr (.inl v_tensions_values)))), (a_tensions_climbs, .inl (cI, 16, .inl v_tensions_climbs))] sz) (va_Qi (S := (Nat → UInt32) × (Nat → Int32)) (fun (r : Int32) (u : (Nat → UInt32) × (Nat → Int32)) => post r u.1 u.2) (gB D (gT cI cC cF cO) (fun (u : (Nat → UInt32) × (Nat → Int32)) => [(a_this, .inr (8, [.ref a_now, .ref a_snapshot, .ref a_history, .ref a_text, .ref a_trial, .ref a_reading, .ref a_straightRow, .ref a_tensions, .int v_kept])), (a_now, .inr (4, [.ref a_now_cards, .ref a_now_wall, .ref a_now_settings])), (a_now_cards, .inr (1, [.ref a_now_cards_numbers, .int v_now_cards_size])), (a_now_cards_numbers, .inl (cI, 200, .inl v_now_cards_numbers)), (a_now_wall, .inr (7, [.ref a_now_wall_slots])), (a_now_wall_slots, .inl (cI, 96, .inl v_now_wall_slots)), (a_now_settings, .inl (cI, 3, .inl v_now_settings)), (a_tensions, .inr (6, [.ref a_tensions_values, .ref a_tensions_climbs])), (a_tensions_values, .inl (cF, 16, .inr (.inr (.inl u.1)))), (a_tensions_climbs, .inl (cI, 16, .inl u.2))]) [(a_this, .inr (8, [.ref a_now, .ref a_snapshot, .ref a_history, .ref a_text, .ref a_trial, .ref a_reading, .ref a_straightRow, .ref a_tensions, .int v_kept])), (a_now, .inr (4, [.ref a_now_cards, .ref a_now_wall, .ref a_now_settings])), (a_now_cards, .inr (1, [.ref a_now_cards_numbers, .int v_now_cards_size])), (a_now_cards_numbers, .inl (cI, 200, .inl v_now_cards_numbers)), (a_now_wall, .inr (7, [.ref a_now_wall_slots])), (a_now_wall_slots, .inl (cI, 96, .inl v_now_wall_slots)), (a_now_settings, .inl (cI, 3, .inl v_now_settings)), (a_tensions, .inr (6, [.ref a_tensions_values, .ref a_tensions_climbs])), (a_tensions_values, .inl (cF, 16, .inr (.inr (.inl v_tensions_values)))), (a_tensions_climbs, .inl (cI, 16, .inl v_tensions_climbs))] sz) (va_A [(a_this, .inr (8, [.ref a_now, .ref a_snapshot, .ref a_history, .ref a_text, .ref a_trial, .ref a_reading, .ref a_straightRow, .ref a_tensions, .int v_kept])), (a_now, .inr (4, [.ref a_now_cards, .ref a_now_wall, .ref a_now_settings])), (a_now_cards, .inr (1, [.ref a_now_cards_numbers, .int v_now_cards_size])), (a_now_cards_numbers, .inl (cI, 200, .inl v_now_cards_numbers)), (a_now_wall, .inr (7, [.ref a_now_wall_slots])), (a_now_wall_slots, .inl (cI, 96, .inl v_now_wall_slots)), (a_now_settings, .inl (cI, 3, .inl v_now_settings)), (a_tensions, .inr (6, [.ref a_tensions_values, .ref a_tensions_climbs])), (a_tensions_values, .inl (cF, 16, .inr (.inr (.inl v_tensions_values)))), (a_tensions_climbs, .inl (cI, 16, .inl v_tensions_climbs))] sz)) 0 0 (va_A [(a_this, .inr (8, [.ref a_now, .ref a_snapshot, .ref a_history, .ref a_text, .ref a_trial, .ref a_reading, .ref a_straightRow, .ref a_tensions, .int v_kept])), (a_now, .inr (4, [.ref a_now_cards, .ref a_now_wall, .ref a_now_settings])), (a_now_cards, .inr (1, [.ref a_now_cards_numbers, .int v_now_cards_size])), (a_now_cards_numbers, .inl (cI, 200, .inl v_now_cards_numbers)), (a_now_wall, .inr (7, [.ref a_now_wall_slots])), (a_now_wall_slots, .inl (cI, 96, .inl v_now_wall_slots)), (a_now_settings, .inl (cI, 3, .inl v_now_settings)), (a_tensions, .inr (6, [.ref a_tensions_values, .ref a_tensions_climbs])), (a_tensions_values, .inl (cF, 16, .inr (.inr (.inl v_tensions_values)))), (a_tensions_climbs, .inl (cI, 16, .inl v_tensions_climbs))] sz) := by
  refine gOfi (own := RX8) (cc := cX8_spanBits) (maxL := 1) (ret := (some .int)) rfl (by decide) rfl (Nat.le_of_ble_eq_true rfl) rfl ?_
  intro p e s m below meth c A args Q hAe hx hb hr hts hown hml hlocks hname hA hK hX hT hP hD hS hret ls hl
  have hl : lv_has ls 1 [(0, .ref a_this)] := hl
  unfold wp_X8_spanBits at hwp
  refine lv_aload_n hx hb dX8_spanBits_0 rfl (lv_at hl 0 rfl) ?_
  refine va_get (D := D) (ci := 8) (v := .ref a_tensions) (C := RX8) (T := TX8) (N := 9) hx hb hts mc_X8_spanBits_8 hown hK hP 0 rfl rfl 7 (by decide) (hts _ ml_X8_spanBits_1) (fun _ h9 => h9) rfl dX8_spanBits_1 ?_
  refine lv_aload_n hx hb dX8_spanBits_4 rfl (lv_at hl 0 rfl) ?_
  refine va_get (D := D) (ci := 8) (v := .ref a_now) (C := RX8) (T := TX8) (N := 9) hx hb hts mc_X8_spanBits_8 hown hK hP 0 rfl rfl 0 (by decide) (hts _ ml_X8_spanBits_2) (fun _ h9 => h9) rfl dX8_spanBits_5 ?_
  refine gBackv (D := D) (tys := gT cI cC cF cO) (A := A) (wr := [(a_this, .inr (8, [.ref a_now, .ref a_snapshot, .ref a_history, .ref a_text, .ref a_trial, .ref a_reading, .ref a_straightRow, .ref a_tensions, .int v_kept]))]) (w1 := (fun u_3 : (Nat → UInt32) × (Nat → Int32) => [(a_tensions, .inr (6, [.ref a_tensions_values, .ref a_tensions_climbs])), (a_tensions_values, .inl (cF, 16, .inr (.inr (.inl u_3.1)))), (a_tensions_climbs, .inl (cI, 16, .inl u_3.2)), (a_now, .inr (4, [.ref a_now_cards, .ref a_now_wall, .ref a_now_settings])), (a_now_cards, .inr (1, [.ref a_now_cards_numbers, .int v_now_cards_size])), (a_now_cards_numbers, .inl (cI, 200, .inl v_now_cards_numbers)), (a_now_wall, .inr (7, [.ref a_now_wall_slots])), (a_now_wall_slots, .inl (cI, 96, .inl v_now_wall_slots)), (a_now_settings, .inl (cI, 3, .inl v_now_settings))])) (va_runV (As := [.ref a_now]) (rest := []) ⟨hx, hb, hml, hown, hts⟩ (c_X6_measure l D cI cC cF cO a_tensions a_tensions_values a_tensions_climbs a_now a_now_cards a_now_cards_numbers a_now_wall a_now_wall_slots a_now_settings _ _ _ _ _ _ _ _ hwp) (cwV 1 hts gX8_spanBits_X6_measure rfl rfl rfl (by decide +kernel) ⟨Nat.le_of_ble_eq_true rfl, Nat.le_of_ble_eq_true rfl⟩) (gPreV (C := RX6) (T := TX6) (N := 2) (ci := 6) hK hX hT hP hD hS hA [7, 8, 9, 1, 2, 3, 4, 5, 6] rfl rfl rfl (qb := 7) rfl) rfl rfl hl.1 rfl (lv_room (Nat.le_of_ble_eq_true rfl)) dX8_spanBits_8 ⟨Nat.le_of_ble_eq_true rfl, Nat.le_of_ble_eq_true rfl⟩) hP hD hS hA [7, 8, 9, 1, 2, 3, 4, 5, 6] [0] rfl rfl rfl (by decide) (fun u_3 H locs hwp hP hD hS => ?_)
  obtain ⟨v_tensions_values_1, v_tensions_climbs_2⟩ := u_3
  have hP : va_P D vwCl [(a_this, .inr (8, [.ref a_now, .ref a_snapshot, .ref a_history, .ref a_text, .ref a_trial, .ref a_reading, .ref a_straightRow, .ref a_tensions, .int v_kept])), (a_tensions, .inr (6, [.ref a_tensions_values, .ref a_tensions_climbs])), (a_tensions_values, .inl (cF, 16, .inr (.inr (.inl v_tensions_values_1)))), (a_tensions_climbs, .inl (cI, 16, .inl v_tensions_climbs_2)), (a_now, .inr (4, [.ref a_now_cards, .ref a_now_wall, .ref a_now_settings])), (a_now_cards, .inr (1, [.ref a_now_cards_numbers, .int v_now_cards_size])), (a_now_cards_numbers, .inl (cI, 200, .inl v_now_cards_numbers)), (a_now_wall, .inr (7, [.ref a_now_wall_slots])), (a_now_wall_slots, .inl (cI, 96, .inl v_now_wall_slots)), (a_now_settings, .inl (cI, 3, .inl v_now_settings))] H := hP
  have hD : va_D A [(a_this, .inr (8, [.ref a_now, .ref a_snapshot, .ref a_history, .ref a_text, .ref a_trial, .ref a_reading, .ref a_straightRow, .ref a_tensions, .int v_kept])), (a_tensions, .inr (6, [.ref a_tensions_values, .ref a_tensions_climbs])), (a_tensions_values, .inl (cF, 16, .inr (.inr (.inl v_tensions_values_1)))), (a_tensions_climbs, .inl (cI, 16, .inl v_tensions_climbs_2)), (a_now, .inr (4, [.ref a_now_cards, .ref a_now_wall, .ref a_now_settings])), (a_now_cards, .inr (1, [.ref a_now_cards_numbers, .int v_now_cards_size])), (a_now_cards_numbers, .inl (cI, 200, .inl v_now_cards_numbers)), (a_now_wall, .inr (7, [.ref a_now_wall_slots])), (a_now_wall_slots, .inl (cI, 96, .inl v_now_wall_slots)), (a_now_settings, .inl (cI, 3, .inl v_now_settings))] := hD
  refine lv_aload_n hx hb dX8_spanBits_11 rfl (lv_at hl 0 rfl) ?_
  refine va_get (D := D) (ci := 8) (v := .ref a_tensions) (C := RX8) (T := TX8) (N := 9) hx hb hts mc_X8_spanBits_8 hown hK hP 0 rfl rfl 7 (by decide) (hts _ ml_X8_spanBits_1) (fun _ h9 => h9) rfl dX8_spanBits_12 ?_
  refine gBackf (D := D) (tys := gT cI cC cF cO) (A := A) (wr := [(a_this, .inr (8, [.ref a_now, .ref a_snapshot, .ref a_history, .ref a_text, .ref a_trial, .ref a_reading, .ref a_straightRow, .ref a_tensions, .int v_kept])), (a_now, .inr (4, [.ref a_now_cards, .ref a_now_wall, .ref a_now_settings])), (a_now_cards, .inr (1, [.ref a_now_cards_numbers, .int v_now_cards_size])), (a_now_cards_numbers, .inl (cI, 200, .inl v_now_cards_numbers)), (a_now_wall, .inr (7, [.ref a_now_wall_slots])), (a_now_wall_slots, .inl (cI, 96, .inl v_now_wall_slots)), (a_now_settings, .inl (cI, 3, .inl v_now_settings))]) (w1 := (fun u_5 : Unit => [(a_tensions, .inr (6, [.ref a_tensions_values, .ref a_tensions_climbs])), (a_tensions_values, .inl (cF, 16, .inr (.inr (.inl v_tensions_values_1)))), (a_tensions_climbs, .inl (cI, 16, .inl v_tensions_climbs_2))])) (va_runV (As := []) (rest := []) ⟨hx, hb, hml, hown, hts⟩ (c_X6_span l D cI cC cF cO a_tensions a_tensions_values a_tensions_climbs _ _ _ _ hwp) (cwV 0 hts gX8_spanBits_X6_span rfl rfl rfl (by decide +kernel) ⟨Nat.le_of_ble_eq_true rfl, Nat.le_of_ble_eq_true rfl⟩) (gPreV (C := RX6) (T := TX6) (N := 2) (ci := 6) hK hX hT hP hD hS hA [1, 2, 3] rfl rfl rfl (qb := 1) rfl) rfl rfl hl.1 rfl (lv_room (Nat.le_of_ble_eq_true rfl)) dX8_spanBits_15 ⟨Nat.le_of_ble_eq_true rfl, Nat.le_of_ble_eq_true rfl⟩) hP hD hS hA [1, 2, 3] [0, 4, 5, 6, 7, 8, 9] rfl rfl rfl (by decide) (fun r_4 u_5 H locs hwp hP hD hS => ?_)
  have hP : va_P D vwCl [(a_this, .inr (8, [.ref a_now, .ref a_snapshot, .ref a_history, .ref a_text, .ref a_trial, .ref a_reading, .ref a_straightRow, .ref a_tensions, .int v_kept])), (a_now, .inr (4, [.ref a_now_cards, .ref a_now_wall, .ref a_now_settings])), (a_now_cards, .inr (1, [.ref a_now_cards_numbers, .int v_now_cards_size])), (a_now_cards_numbers, .inl (cI, 200, .inl v_now_cards_numbers)), (a_now_wall, .inr (7, [.ref a_now_wall_slots])), (a_now_wall_slots, .inl (cI, 96, .inl v_now_wall_slots)), (a_now_settings, .inl (cI, 3, .inl v_now_settings)), (a_tensions, .inr (6, [.ref a_tensions_values, .ref a_tensions_climbs])), (a_tensions_values, .inl (cF, 16, .inr (.inr (.inl v_tensions_values_1)))), (a_tensions_climbs, .inl (cI, 16, .inl v_tensions_climbs_2))] H := hP
  have hD : va_D A [(a_this, .inr (8, [.ref a_now, .ref a_snapshot, .ref a_history, .ref a_text, .ref a_trial, .ref a_reading, .ref a_straightRow, .ref a_tensions, .int v_kept])), (a_now, .inr (4, [.ref a_now_cards, .ref a_now_wall, .ref a_now_settings])), (a_now_cards, .inr (1, [.ref a_now_cards_numbers, .int v_now_cards_size])), (a_now_cards_numbers, .inl (cI, 200, .inl v_now_cards_numbers)), (a_now_wall, .inr (7, [.ref a_now_wall_slots])), (a_now_wall_slots, .inl (cI, 96, .inl v_now_wall_slots)), (a_now_settings, .inl (cI, 3, .inl v_now_settings)), (a_tensions, .inr (6, [.ref a_tensions_values, .ref a_tensions_climbs])), (a_tensions_values, .inl (cF, 16, .inr (.inr (.inl v_tensions_values_1)))), (a_tensions_climbs, .inl (cI, 16, .inl v_tensions_climbs_2))] := hD
  refine gBacki (D := D) (tys := gT cI cC cF cO) (A := A) (wr := [(a_this, .inr (8, [.ref a_now, .ref a_snapshot, .ref a_history, .ref a_text, .ref a_trial, .ref a_reading, .ref a_straightRow, .ref a_tensions, .int v_kept])), (a_now, .inr (4, [.ref a_now_cards, .ref a_now_wall, .ref a_now_settings])), (a_now_cards, .inr (1, [.ref a_now_cards_numbers, .int v_now_cards_size])), (a_now_cards_numbers, .inl (cI, 200, .inl v_now_cards_numbers)), (a_now_wall, .inr (7, [.ref a_now_wall_slots])), (a_now_wall_slots, .inl (cI, 96, .inl v_now_wall_slots)), (a_now_settings, .inl (cI, 3, .inl v_now_settings)), (a_tensions, .inr (6, [.ref a_tensions_values, .ref a_tensions_climbs])), (a_tensions_values, .inl (cF, 16, .inr (.inr (.inl v_tensions_values_1)))), (a_tensions_climbs, .inl (cI, 16, .inl v_tensions_climbs_2))]) (w1 := (fun u_7 : Unit => [])) (va_runS (As := [.float r_4]) (rest := []) ⟨hx, hb, hml, hown, hts⟩ (c_X8_bitsOf l D cI cC cF cO  _ _ _ hwp) (va_cwS 1 hts gX8_spanBits_X8_bitsOf rfl rfl rfl (by decide +kernel) ⟨Nat.le_of_ble_eq_true rfl, Nat.le_of_ble_eq_true rfl⟩) (gPreS hK hX hT hP hD hS hA [] rfl rfl) rfl rfl hl.1 rfl (lv_room (Nat.le_of_ble_eq_true rfl)) dX8_spanBits_18 ⟨Nat.le_of_ble_eq_true rfl, Nat.le_of_ble_eq_true rfl⟩) hP hD hS hA [] [0, 1, 2, 3, 4, 5, 6, 7, 8, 9] rfl rfl rfl (by decide) (fun r_6 u_7 H locs hwp hP hD hS => ?_)
  have hP : va_P D vwCl [(a_this, .inr (8, [.ref a_now, .ref a_snapshot, .ref a_history, .ref a_text, .ref a_trial, .ref a_reading, .ref a_straightRow, .ref a_tensions, .int v_kept])), (a_now, .inr (4, [.ref a_now_cards, .ref a_now_wall, .ref a_now_settings])), (a_now_cards, .inr (1, [.ref a_now_cards_numbers, .int v_now_cards_size])), (a_now_cards_numbers, .inl (cI, 200, .inl v_now_cards_numbers)), (a_now_wall, .inr (7, [.ref a_now_wall_slots])), (a_now_wall_slots, .inl (cI, 96, .inl v_now_wall_slots)), (a_now_settings, .inl (cI, 3, .inl v_now_settings)), (a_tensions, .inr (6, [.ref a_tensions_values, .ref a_tensions_climbs])), (a_tensions_values, .inl (cF, 16, .inr (.inr (.inl v_tensions_values_1)))), (a_tensions_climbs, .inl (cI, 16, .inl v_tensions_climbs_2))] H := hP
  have hD : va_D A [(a_this, .inr (8, [.ref a_now, .ref a_snapshot, .ref a_history, .ref a_text, .ref a_trial, .ref a_reading, .ref a_straightRow, .ref a_tensions, .int v_kept])), (a_now, .inr (4, [.ref a_now_cards, .ref a_now_wall, .ref a_now_settings])), (a_now_cards, .inr (1, [.ref a_now_cards_numbers, .int v_now_cards_size])), (a_now_cards_numbers, .inl (cI, 200, .inl v_now_cards_numbers)), (a_now_wall, .inr (7, [.ref a_now_wall_slots])), (a_now_wall_slots, .inl (cI, 96, .inl v_now_wall_slots)), (a_now_settings, .inl (cI, 3, .inl v_now_settings)), (a_tensions, .inr (6, [.ref a_tensions_values, .ref a_tensions_climbs])), (a_tensions_values, .inl (cF, 16, .inr (.inr (.inl v_tensions_values_1)))), (a_tensions_climbs, .inl (cI, 16, .inl v_tensions_climbs_2))] := hD
  exact hret (v_tensions_values_1, v_tensions_climbs_2) [0, 1, 2, 3, 4, 5, 6, 7, 8, 9] dX8_spanBits_21 hwp rfl rfl hP hD hS
abbrev rm_X9_in : Room := { frames := 0, cells := 0, slots := 0, locals := 0 }
set_option maxHeartbeats 4000000 in
set_option maxRecDepth 100000 in
theorem c_X9_in (l : Launch) (D : va_G) (cI cC cF cO : ClassId)   (sz : Nat) (x0 : Int32) (x1 : Int32) (x2 : Int32)  (post : Int32 → Prop) (hwp : wp_X9_in x0 x1 x2 post) : Met l yX9_in wsX9_in rm_X9_in (gPre D (gT cI cC cF cO) [.int x0, .int x1, .int x2] [] sz) (va_Qi (S := Unit) (fun (r : Int32) (u : Unit) => post r ) (gB D (gT cI cC cF cO) (fun (u : Unit) => []) [] sz) (va_A [] sz)) 0 0 (va_A [] sz) := by
  refine gOfz (own := RX9) (cc := cX9_in) (maxL := 3) (ret := (some .boolean)) rfl (by decide) rfl (Nat.le_of_ble_eq_true rfl) rfl ?_
  intro p e s m below meth c A args Q hAe hx hb hr hts hown hml hlocks hname hA hK hX hT hP hD hS hret ls hl
  have hl : lv_has ls 3 [(0, .int x0), (1, .int x1), (2, .int x2)] := hl
  unfold wp_X9_in at hwp
  refine lv_iload_n hx hb dX9_in_0 rfl (lv_at hl 0 rfl) ?_
  refine lv_iload_n hx hb dX9_in_1 rfl (lv_at hl 1 rfl) ?_
  refine lv_icmp_lt (tgt := 14) hx hb dX9_in_2 (by decide) (fun hc => ?_) (fun hc => ?_)
  · have hwp := hwp.1 hc
    refine lv_iconst (v := 0) hx hb dX9_in_14 (by decide) ?_
    exact hret () [] dX9_in_15 (Or.inl rfl) hwp rfl rfl hP hD hS
  · have hwp := hwp.2 hc
    refine lv_iload_n hx hb dX9_in_5 rfl (lv_at hl 0 rfl) ?_
    refine lv_iload_n hx hb dX9_in_6 rfl (lv_at hl 2 rfl) ?_
    refine lv_icmp_gt (tgt := 14) hx hb dX9_in_7 (by decide) (fun hc => ?_) (fun hc => ?_)
    · have hwp := hwp.1 hc
      refine lv_iconst (v := 0) hx hb dX9_in_14 (by decide) ?_
      exact hret () [] dX9_in_15 (Or.inl rfl) hwp rfl rfl hP hD hS
    · have hwp := hwp.2 hc
      refine lv_iconst (v := 1) hx hb dX9_in_10 (by decide) ?_
      refine lv_goto (tgt := 15) hx hb dX9_in_11 (by decide) ?_
      exact hret () [] dX9_in_15 (Or.inr rfl) hwp rfl rfl hP hD hS
theorem mc_X9_record_9 : ∀ w ∈ u_ws RX9 TX9 18, w ∈ wsX9_record := fun w h => List.mem_cons_of_mem _ (List.mem_append_right _ h)
theorem ml_X9_record_1 : (.fieldLink RX9 44 "StoryWallModel" "states" "I" : Cond) ∈ wsX9_record := List.mem_of_getElem? (i := 1) rfl
theorem ml_X9_record_2 : (.fieldLink RX9 13 "StoryWallModel" "before" "[I" : Cond) ∈ wsX9_record := List.mem_of_getElem? (i := 2) rfl
theorem ml_X9_record_3 : (.fieldLink RX9 7 "StoryWallModel" "s" "[I" : Cond) ∈ wsX9_record := List.mem_of_getElem? (i := 3) rfl
abbrev rm_X9_record : Room := { frames := 0, cells := 0, slots := 0, locals := 0 }
set_option maxHeartbeats 4000000 in
set_option maxRecDepth 100000 in
theorem c_X9_record (l : Launch) (D : va_G) (cI cC cF cO : ClassId) (a_this a_s a_before a_kept a_aside a_order a_rank a_straight a_sorted a_longest a_read a_text : Nat) (v_onWall : Int32) (v_straightMany : Int32) (v_length : Int32) (v_isKept : Int32) (v_at : Int32) (v_cards : Int32) (sz : Nat)  (v_states : Int32) (v_s : Nat → Int32) (v_before : Nat → Int32) (post : Int32 → (Nat → Int32) → Prop) (hwp : wp_X9_record v_states v_s v_before post) : Met l yX9_record wsX9_record rm_X9_record (gPre D (gT cI cC cF cO) [.ref a_this] [(a_this, .inr (9, [.ref a_s, .ref a_before, .ref a_kept, .ref a_aside, .ref a_order, .ref a_rank, .int v_onWall, .ref a_straight, .ref a_sorted, .ref a_longest, .int v_straightMany, .ref a_read, .ref a_text, .int v_length, .int v_states, .int v_isKept, .int v_at, .int v_cards])), (a_s, .inl (cI, 316, .inl v_s)), (a_before, .inl (cI, 1264, .inl v_before))] sz) (va_Qv (S := Int32 × (Nat → Int32)) (fun (u : Int32 × (Nat → Int32)) => post u.1 u.2) (gB D (gT cI cC cF cO) (fun (u : Int32 × (Nat → Int32)) => [(a_this, .inr (9, [.ref a_s, .ref a_before, .ref a_kept, .ref a_aside, .ref a_order, .ref a_rank, .int v_onWall, .ref a_straight, .ref a_sorted, .ref a_longest, .int v_straightMany, .ref a_read, .ref a_text, .int v_length, .int u.1, .int v_isKept, .int v_at, .int v_cards])), (a_s, .inl (cI, 316, .inl v_s)), (a_before, .inl (cI, 1264, .inl u.2))]) [(a_this, .inr (9, [.ref a_s, .ref a_before, .ref a_kept, .ref a_aside, .ref a_order, .ref a_rank, .int v_onWall, .ref a_straight, .ref a_sorted, .ref a_longest, .int v_straightMany, .ref a_read, .ref a_text, .int v_length, .int v_states, .int v_isKept, .int v_at, .int v_cards])), (a_s, .inl (cI, 316, .inl v_s)), (a_before, .inl (cI, 1264, .inl v_before))] sz) (va_A [(a_this, .inr (9, [.ref a_s, .ref a_before, .ref a_kept, .ref a_aside, .ref a_order, .ref a_rank, .int v_onWall, .ref a_straight, .ref a_sorted, .ref a_longest, .int v_straightMany, .ref a_read, .ref a_text, .int v_length, .int v_states, .int v_isKept, .int v_at, .int v_cards])), (a_s, .inl (cI, 316, .inl v_s)), (a_before, .inl (cI, 1264, .inl v_before))] sz)) 0 0 (va_A [(a_this, .inr (9, [.ref a_s, .ref a_before, .ref a_kept, .ref a_aside, .ref a_order, .ref a_rank, .int v_onWall, .ref a_straight, .ref a_sorted, .ref a_longest, .int v_straightMany, .ref a_read, .ref a_text, .int v_length, .int v_states, .int v_isKept, .int v_at, .int v_cards])), (a_s, .inl (cI, 316, .inl v_s)), (a_before, .inl (cI, 1264, .inl v_before))] sz) := by
  refine gOfv (own := RX9) (cc := cX9_record) (maxL := 2) (ret := none) rfl (by decide) rfl (Nat.le_of_ble_eq_true rfl) rfl ?_
  intro p e s m below meth c A args Q hAe hx hb hr hts hown hml hlocks hname hA hK hX hT hP hD hS hret ls hl
  have hl : lv_has ls 2 [(0, .ref a_this)] := hl
  unfold wp_X9_record at hwp
  refine lv_aload_n hx hb dX9_record_0 rfl (lv_at hl 0 rfl) ?_
  refine va_get (D := D) (ci := 9) (v := .int v_states) (C := RX9) (T := TX9) (N := 18) hx hb hts mc_X9_record_9 hown hK hP 0 rfl rfl 14 (by decide) (hts _ ml_X9_record_1) (fun _ h9 => h9) rfl dX9_record_1 ?_
  refine lv_iconst (v := 4) hx hb dX9_record_4 (by decide) ?_
  refine lv_icmp_ne (tgt := 49) hx hb dX9_record_5 (by decide) (fun hc => ?_) (fun hc => ?_)
  · have hwp := hwp.2 hc
    refine lv_iconst (v := 0) hx hb dX9_record_49 (by decide) ?_
    refine lv_istore_n (lv' := [(1, .int (0 : Int32)), (0, .ref a_this)]) hx hb dX9_record_50 rfl hl (by decide) rfl (fun ls hl => ?_)
    have hl : lv_has ls 2 [(0, .ref a_this), (1, .int (0 : Int32))] := lv_sub hl [1, 0] rfl
    unfold wp_X9_record_l51 at hwp
    obtain ⟨J51, μ51, hJ, hst51⟩ := hwp
    have hL51 : ∀ (n : Nat) (x1_51 : Int32) (v_before_51 : Nat → Int32), μ51 x1_51 v_before_51 < n → J51 x1_51 v_before_51 → ∀ (H : Heap) (locs : List Loc), va_P D vwCl [(a_this, .inr (9, [.ref a_s, .ref a_before, .ref a_kept, .ref a_aside, .ref a_order, .ref a_rank, .int v_onWall, .ref a_straight, .ref a_sorted, .ref a_longest, .int v_straightMany, .ref a_read, .ref a_text, .int v_length, .int v_states, .int v_isKept, .int v_at, .int v_cards])), (a_s, .inl (cI, 316, .inl v_s)), (a_before, .inl (cI, 1264, .inl v_before_51))] H → va_D A [(a_this, .inr (9, [.ref a_s, .ref a_before, .ref a_kept, .ref a_aside, .ref a_order, .ref a_rank, .int v_onWall, .ref a_straight, .ref a_sorted, .ref a_longest, .int v_straightMany, .ref a_read, .ref a_text, .int v_length, .int v_states, .int v_isKept, .int v_at, .int v_cards])), (a_s, .inl (cI, 316, .inl v_s)), (a_before, .inl (cI, 1264, .inl v_before_51))] → va_S A s.heap H locs → ∀ ls : Array Slot, lv_has ls 2 [(0, .ref a_this), (1, .int x1_51)] → W p l e rm_X9_record s m args below meth c H locs 0 0 Q (F0 m 51 ls []) := by
      intro n
      induction n with
      | zero => intro x1_51 v_before_51 h; exact absurd h (Nat.not_lt_zero _)
      | succ n ih51 =>
        intro x1_51 v_before_51 hμ51 hJ H locs hP hD hS ls hl
        have hwp := hst51 x1_51 v_before_51 hJ
        refine lv_iload_n hx hb dX9_record_51 rfl (lv_at hl 1 rfl) ?_
        refine lv_sipush (v := 316) hx hb dX9_record_52 (by decide) ?_
        refine lv_icmp_ge (tgt := 85) hx hb dX9_record_55 (by decide) (fun hc => ?_) (fun hc => ?_)
        · have hwp := hwp.1 hc
          refine lv_aload_n hx hb dX9_record_85 rfl (lv_at hl 0 rfl) ?_
          refine lv_dup hx hb dX9_record_86 rfl ?_
          refine va_get (D := D) (ci := 9) (v := .int v_states) (C := RX9) (T := TX9) (N := 18) hx hb hts mc_X9_record_9 hown hK hP 0 rfl rfl 14 (by decide) (hts _ ml_X9_record_1) (fun _ h9 => h9) rfl dX9_record_87 ?_
          refine lv_iconst (v := 1) hx hb dX9_record_90 (by decide) ?_
          refine lv_iadd hx hb dX9_record_91 ?_
          refine va_put (D := D) (ci := 9) (v := .int (v_states + (1 : Int32))) (ty := .int) (C := RX9) (T := TX9) (N := 18) hx hb hts mc_X9_record_9 tyX9 tyX9_ok nmX9 hown hK hP hD hS 0 rfl rfl 14 (by decide) (hts _ ml_X9_record_1) (fun _ h9 => h9) rfl (by decide +kernel) rfl rfl (Nat.le_of_ble_eq_true rfl) dX9_record_92 (fun H locs hP hD hS => ?_)
          have hP : va_P D vwCl [(a_this, .inr (9, [.ref a_s, .ref a_before, .ref a_kept, .ref a_aside, .ref a_order, .ref a_rank, .int v_onWall, .ref a_straight, .ref a_sorted, .ref a_longest, .int v_straightMany, .ref a_read, .ref a_text, .int v_length, .int (v_states + (1 : Int32)), .int v_isKept, .int v_at, .int v_cards])), (a_s, .inl (cI, 316, .inl v_s)), (a_before, .inl (cI, 1264, .inl v_before_51))] H := hP
          have hD : va_D A [(a_this, .inr (9, [.ref a_s, .ref a_before, .ref a_kept, .ref a_aside, .ref a_order, .ref a_rank, .int v_onWall, .ref a_straight, .ref a_sorted, .ref a_longest, .int v_straightMany, .ref a_read, .ref a_text, .int v_length, .int (v_states + (1 : Int32)), .int v_isKept, .int v_at, .int v_cards])), (a_s, .inl (cI, 316, .inl v_s)), (a_before, .inl (cI, 1264, .inl v_before_51))] := hD
          exact hret ((v_states + (1 : Int32)), v_before_51) [0, 1, 2] dX9_record_95 hwp rfl rfl hP hD hS
        · have hwp := hwp.2 hc
          refine lv_aload_n hx hb dX9_record_58 rfl (lv_at hl 0 rfl) ?_
          refine va_get (D := D) (ci := 9) (v := .ref a_before) (C := RX9) (T := TX9) (N := 18) hx hb hts mc_X9_record_9 hown hK hP 0 rfl rfl 1 (by decide) (hts _ ml_X9_record_2) (fun _ h9 => h9) rfl dX9_record_59 ?_
          refine lv_sipush (v := 316) hx hb dX9_record_62 (by decide) ?_
          refine lv_aload_n hx hb dX9_record_65 rfl (lv_at hl 0 rfl) ?_
          refine va_get (D := D) (ci := 9) (v := .int v_states) (C := RX9) (T := TX9) (N := 18) hx hb hts mc_X9_record_9 hown hK hP 0 rfl rfl 14 (by decide) (hts _ ml_X9_record_1) (fun _ h9 => h9) rfl dX9_record_66 ?_
          refine lv_imul hx hb dX9_record_69 ?_
          refine lv_iload_n hx hb dX9_record_70 rfl (lv_at hl 1 rfl) ?_
          refine lv_iadd hx hb dX9_record_71 ?_
          refine lv_aload_n hx hb dX9_record_72 rfl (lv_at hl 0 rfl) ?_
          refine va_get (D := D) (ci := 9) (v := .ref a_s) (C := RX9) (T := TX9) (N := 18) hx hb hts mc_X9_record_9 hown hK hP 0 rfl rfl 0 (by decide) (hts _ ml_X9_record_3) (fun _ h9 => h9) rfl dX9_record_73 ?_
          refine lv_iload_n hx hb dX9_record_76 rfl (lv_at hl 1 rfl) ?_
          have hn_1 := hwp.1
          have hwp := hwp.2
          refine va_iald (D := D) hx hb hK hP 1 0 rfl rfl hn_1 dX9_record_77 ?_
          have hn_2 := hwp.1
          have hwp := hwp.2
          refine va_iast (D := D) hx hb hK hP hD hS 2 0 rfl rfl hn_2 dX9_record_78 (fun H locs hP hD hS => ?_)
          have hP : va_P D vwCl [(a_this, .inr (9, [.ref a_s, .ref a_before, .ref a_kept, .ref a_aside, .ref a_order, .ref a_rank, .int v_onWall, .ref a_straight, .ref a_sorted, .ref a_longest, .int v_straightMany, .ref a_read, .ref a_text, .int v_length, .int v_states, .int v_isKept, .int v_at, .int v_cards])), (a_s, .inl (cI, 316, .inl v_s)), (a_before, .inl (cI, 1264, .inl (upd v_before_51 ((((316 : Int32) * v_states) + x1_51)).toNatClampNeg (v_s (x1_51).toNatClampNeg))))] H := hP
          have hD : va_D A [(a_this, .inr (9, [.ref a_s, .ref a_before, .ref a_kept, .ref a_aside, .ref a_order, .ref a_rank, .int v_onWall, .ref a_straight, .ref a_sorted, .ref a_longest, .int v_straightMany, .ref a_read, .ref a_text, .int v_length, .int v_states, .int v_isKept, .int v_at, .int v_cards])), (a_s, .inl (cI, 316, .inl v_s)), (a_before, .inl (cI, 1264, .inl (upd v_before_51 ((((316 : Int32) * v_states) + x1_51)).toNatClampNeg (v_s (x1_51).toNatClampNeg))))] := hD
          refine lv_iinc (v := (x1_51 + (1 : Int32))) (lv' := [(1, .int (x1_51 + (1 : Int32))), (0, .ref a_this)]) hx hb dX9_record_79 hl (k := 1) rfl rfl (by decide) rfl (fun ls hl => ?_)
          refine lv_goto (tgt := 51) hx hb dX9_record_82 (by decide) ?_
          have hl : lv_has ls 2 [(0, .ref a_this), (1, .int (x1_51 + (1 : Int32)))] := lv_sub hl [1, 0] rfl
          exact ih51 (x1_51 + (1 : Int32)) (upd v_before_51 ((((316 : Int32) * v_states) + x1_51)).toNatClampNeg (v_s (x1_51).toNatClampNeg)) (Nat.lt_of_lt_of_le hwp.2 (Nat.le_of_lt_succ hμ51)) hwp.1 _ _ hP hD hS ls hl
    exact hL51 _ (0 : Int32) v_before (Nat.lt_succ_self _) hJ _ _ hP hD hS ls hl
  · have hwp := hwp.1 hc
    refine lv_iconst (v := 0) hx hb dX9_record_8 (by decide) ?_
    refine lv_istore_n (lv' := [(1, .int (0 : Int32)), (0, .ref a_this)]) hx hb dX9_record_9 rfl hl (by decide) rfl (fun ls hl => ?_)
    have hl : lv_has ls 2 [(0, .ref a_this), (1, .int (0 : Int32))] := lv_sub hl [1, 0] rfl
    unfold wp_X9_record_l10 at hwp
    obtain ⟨J10, μ10, hJ, hst10⟩ := hwp
    have hL10 : ∀ (n : Nat) (x1_10 : Int32) (v_before_10 : Nat → Int32), μ10 x1_10 v_before_10 < n → J10 x1_10 v_before_10 → ∀ (H : Heap) (locs : List Loc), va_P D vwCl [(a_this, .inr (9, [.ref a_s, .ref a_before, .ref a_kept, .ref a_aside, .ref a_order, .ref a_rank, .int v_onWall, .ref a_straight, .ref a_sorted, .ref a_longest, .int v_straightMany, .ref a_read, .ref a_text, .int v_length, .int v_states, .int v_isKept, .int v_at, .int v_cards])), (a_s, .inl (cI, 316, .inl v_s)), (a_before, .inl (cI, 1264, .inl v_before_10))] H → va_D A [(a_this, .inr (9, [.ref a_s, .ref a_before, .ref a_kept, .ref a_aside, .ref a_order, .ref a_rank, .int v_onWall, .ref a_straight, .ref a_sorted, .ref a_longest, .int v_straightMany, .ref a_read, .ref a_text, .int v_length, .int v_states, .int v_isKept, .int v_at, .int v_cards])), (a_s, .inl (cI, 316, .inl v_s)), (a_before, .inl (cI, 1264, .inl v_before_10))] → va_S A s.heap H locs → ∀ ls : Array Slot, lv_has ls 2 [(0, .ref a_this), (1, .int x1_10)] → W p l e rm_X9_record s m args below meth c H locs 0 0 Q (F0 m 10 ls []) := by
      intro n
      induction n with
      | zero => intro x1_10 v_before_10 h; exact absurd h (Nat.not_lt_zero _)
      | succ n ih10 =>
        intro x1_10 v_before_10 hμ10 hJ H locs hP hD hS ls hl
        have hwp := hst10 x1_10 v_before_10 hJ
        refine lv_iload_n hx hb dX9_record_10 rfl (lv_at hl 1 rfl) ?_
        refine lv_sipush (v := 948) hx hb dX9_record_11 (by decide) ?_
        refine lv_icmp_ge (tgt := 39) hx hb dX9_record_14 (by decide) (fun hc => ?_) (fun hc => ?_)
        · have hwp := hwp.1 hc
          refine lv_aload_n hx hb dX9_record_39 rfl (lv_at hl 0 rfl) ?_
          refine lv_dup hx hb dX9_record_40 rfl ?_
          refine va_get (D := D) (ci := 9) (v := .int v_states) (C := RX9) (T := TX9) (N := 18) hx hb hts mc_X9_record_9 hown hK hP 0 rfl rfl 14 (by decide) (hts _ ml_X9_record_1) (fun _ h9 => h9) rfl dX9_record_41 ?_
          refine lv_iconst (v := 1) hx hb dX9_record_44 (by decide) ?_
          refine lv_isub hx hb dX9_record_45 ?_
          refine va_put (D := D) (ci := 9) (v := .int (v_states - (1 : Int32))) (ty := .int) (C := RX9) (T := TX9) (N := 18) hx hb hts mc_X9_record_9 tyX9 tyX9_ok nmX9 hown hK hP hD hS 0 rfl rfl 14 (by decide) (hts _ ml_X9_record_1) (fun _ h9 => h9) rfl (by decide +kernel) rfl rfl (Nat.le_of_ble_eq_true rfl) dX9_record_46 (fun H locs hP hD hS => ?_)
          have hP : va_P D vwCl [(a_this, .inr (9, [.ref a_s, .ref a_before, .ref a_kept, .ref a_aside, .ref a_order, .ref a_rank, .int v_onWall, .ref a_straight, .ref a_sorted, .ref a_longest, .int v_straightMany, .ref a_read, .ref a_text, .int v_length, .int (v_states - (1 : Int32)), .int v_isKept, .int v_at, .int v_cards])), (a_s, .inl (cI, 316, .inl v_s)), (a_before, .inl (cI, 1264, .inl v_before_10))] H := hP
          have hD : va_D A [(a_this, .inr (9, [.ref a_s, .ref a_before, .ref a_kept, .ref a_aside, .ref a_order, .ref a_rank, .int v_onWall, .ref a_straight, .ref a_sorted, .ref a_longest, .int v_straightMany, .ref a_read, .ref a_text, .int v_length, .int (v_states - (1 : Int32)), .int v_isKept, .int v_at, .int v_cards])), (a_s, .inl (cI, 316, .inl v_s)), (a_before, .inl (cI, 1264, .inl v_before_10))] := hD
          refine lv_iconst (v := 0) hx hb dX9_record_49 (by decide) ?_
          refine lv_istore_n (lv' := [(1, .int (0 : Int32)), (0, .ref a_this)]) hx hb dX9_record_50 rfl hl (by decide) rfl (fun ls hl => ?_)
          have hl : lv_has ls 2 [(0, .ref a_this), (1, .int (0 : Int32))] := lv_sub hl [1, 0] rfl
          unfold wp_X9_record_l51 at hwp
          obtain ⟨J51, μ51, hJ, hst51⟩ := hwp
          have hL51 : ∀ (n : Nat) (x1_51 : Int32) (v_before_51 : Nat → Int32), μ51 x1_51 v_before_51 < n → J51 x1_51 v_before_51 → ∀ (H : Heap) (locs : List Loc), va_P D vwCl [(a_this, .inr (9, [.ref a_s, .ref a_before, .ref a_kept, .ref a_aside, .ref a_order, .ref a_rank, .int v_onWall, .ref a_straight, .ref a_sorted, .ref a_longest, .int v_straightMany, .ref a_read, .ref a_text, .int v_length, .int (v_states - (1 : Int32)), .int v_isKept, .int v_at, .int v_cards])), (a_s, .inl (cI, 316, .inl v_s)), (a_before, .inl (cI, 1264, .inl v_before_51))] H → va_D A [(a_this, .inr (9, [.ref a_s, .ref a_before, .ref a_kept, .ref a_aside, .ref a_order, .ref a_rank, .int v_onWall, .ref a_straight, .ref a_sorted, .ref a_longest, .int v_straightMany, .ref a_read, .ref a_text, .int v_length, .int (v_states - (1 : Int32)), .int v_isKept, .int v_at, .int v_cards])), (a_s, .inl (cI, 316, .inl v_s)), (a_before, .inl (cI, 1264, .inl v_before_51))] → va_S A s.heap H locs → ∀ ls : Array Slot, lv_has ls 2 [(0, .ref a_this), (1, .int x1_51)] → W p l e rm_X9_record s m args below meth c H locs 0 0 Q (F0 m 51 ls []) := by
            intro n
            induction n with
            | zero => intro x1_51 v_before_51 h; exact absurd h (Nat.not_lt_zero _)
            | succ n ih51 =>
              intro x1_51 v_before_51 hμ51 hJ H locs hP hD hS ls hl
              have hwp := hst51 x1_51 v_before_51 hJ
              refine lv_iload_n hx hb dX9_record_51 rfl (lv_at hl 1 rfl) ?_
              refine lv_sipush (v := 316) hx hb dX9_record_52 (by decide) ?_
              refine lv_icmp_ge (tgt := 85) hx hb dX9_record_55 (by decide) (fun hc => ?_) (fun hc => ?_)
              · have hwp := hwp.1 hc
                refine lv_aload_n hx hb dX9_record_85 rfl (lv_at hl 0 rfl) ?_
                refine lv_dup hx hb dX9_record_86 rfl ?_
                refine va_get (D := D) (ci := 9) (v := .int (v_states - (1 : Int32))) (C := RX9) (T := TX9) (N := 18) hx hb hts mc_X9_record_9 hown hK hP 0 rfl rfl 14 (by decide) (hts _ ml_X9_record_1) (fun _ h9 => h9) rfl dX9_record_87 ?_
                refine lv_iconst (v := 1) hx hb dX9_record_90 (by decide) ?_
                refine lv_iadd hx hb dX9_record_91 ?_
                refine va_put (D := D) (ci := 9) (v := .int ((v_states - (1 : Int32)) + (1 : Int32))) (ty := .int) (C := RX9) (T := TX9) (N := 18) hx hb hts mc_X9_record_9 tyX9 tyX9_ok nmX9 hown hK hP hD hS 0 rfl rfl 14 (by decide) (hts _ ml_X9_record_1) (fun _ h9 => h9) rfl (by decide +kernel) rfl rfl (Nat.le_of_ble_eq_true rfl) dX9_record_92 (fun H locs hP hD hS => ?_)
                have hP : va_P D vwCl [(a_this, .inr (9, [.ref a_s, .ref a_before, .ref a_kept, .ref a_aside, .ref a_order, .ref a_rank, .int v_onWall, .ref a_straight, .ref a_sorted, .ref a_longest, .int v_straightMany, .ref a_read, .ref a_text, .int v_length, .int ((v_states - (1 : Int32)) + (1 : Int32)), .int v_isKept, .int v_at, .int v_cards])), (a_s, .inl (cI, 316, .inl v_s)), (a_before, .inl (cI, 1264, .inl v_before_51))] H := hP
                have hD : va_D A [(a_this, .inr (9, [.ref a_s, .ref a_before, .ref a_kept, .ref a_aside, .ref a_order, .ref a_rank, .int v_onWall, .ref a_straight, .ref a_sorted, .ref a_longest, .int v_straightMany, .ref a_read, .ref a_text, .int v_length, .int ((v_states - (1 : Int32)) + (1 : Int32)), .int v_isKept, .int v_at, .int v_cards])), (a_s, .inl (cI, 316, .inl v_s)), (a_before, .inl (cI, 1264, .inl v_before_51))] := hD
                exact hret (((v_states - (1 : Int32)) + (1 : Int32)), v_before_51) [0, 1, 2] dX9_record_95 hwp rfl rfl hP hD hS
              · have hwp := hwp.2 hc
                refine lv_aload_n hx hb dX9_record_58 rfl (lv_at hl 0 rfl) ?_
                refine va_get (D := D) (ci := 9) (v := .ref a_before) (C := RX9) (T := TX9) (N := 18) hx hb hts mc_X9_record_9 hown hK hP 0 rfl rfl 1 (by decide) (hts _ ml_X9_record_2) (fun _ h9 => h9) rfl dX9_record_59 ?_
                refine lv_sipush (v := 316) hx hb dX9_record_62 (by decide) ?_
                refine lv_aload_n hx hb dX9_record_65 rfl (lv_at hl 0 rfl) ?_
                refine va_get (D := D) (ci := 9) (v := .int (v_states - (1 : Int32))) (C := RX9) (T := TX9) (N := 18) hx hb hts mc_X9_record_9 hown hK hP 0 rfl rfl 14 (by decide) (hts _ ml_X9_record_1) (fun _ h9 => h9) rfl dX9_record_66 ?_
                refine lv_imul hx hb dX9_record_69 ?_
                refine lv_iload_n hx hb dX9_record_70 rfl (lv_at hl 1 rfl) ?_
                refine lv_iadd hx hb dX9_record_71 ?_
                refine lv_aload_n hx hb dX9_record_72 rfl (lv_at hl 0 rfl) ?_
                refine va_get (D := D) (ci := 9) (v := .ref a_s) (C := RX9) (T := TX9) (N := 18) hx hb hts mc_X9_record_9 hown hK hP 0 rfl rfl 0 (by decide) (hts _ ml_X9_record_3) (fun _ h9 => h9) rfl dX9_record_73 ?_
                refine lv_iload_n hx hb dX9_record_76 rfl (lv_at hl 1 rfl) ?_
                have hn_3 := hwp.1
                have hwp := hwp.2
                refine va_iald (D := D) hx hb hK hP 1 0 rfl rfl hn_3 dX9_record_77 ?_
                have hn_4 := hwp.1
                have hwp := hwp.2
                refine va_iast (D := D) hx hb hK hP hD hS 2 0 rfl rfl hn_4 dX9_record_78 (fun H locs hP hD hS => ?_)
                have hP : va_P D vwCl [(a_this, .inr (9, [.ref a_s, .ref a_before, .ref a_kept, .ref a_aside, .ref a_order, .ref a_rank, .int v_onWall, .ref a_straight, .ref a_sorted, .ref a_longest, .int v_straightMany, .ref a_read, .ref a_text, .int v_length, .int (v_states - (1 : Int32)), .int v_isKept, .int v_at, .int v_cards])), (a_s, .inl (cI, 316, .inl v_s)), (a_before, .inl (cI, 1264, .inl (upd v_before_51 ((((316 : Int32) * (v_states - (1 : Int32))) + x1_51)).toNatClampNeg (v_s (x1_51).toNatClampNeg))))] H := hP
                have hD : va_D A [(a_this, .inr (9, [.ref a_s, .ref a_before, .ref a_kept, .ref a_aside, .ref a_order, .ref a_rank, .int v_onWall, .ref a_straight, .ref a_sorted, .ref a_longest, .int v_straightMany, .ref a_read, .ref a_text, .int v_length, .int (v_states - (1 : Int32)), .int v_isKept, .int v_at, .int v_cards])), (a_s, .inl (cI, 316, .inl v_s)), (a_before, .inl (cI, 1264, .inl (upd v_before_51 ((((316 : Int32) * (v_states - (1 : Int32))) + x1_51)).toNatClampNeg (v_s (x1_51).toNatClampNeg))))] := hD
                refine lv_iinc (v := (x1_51 + (1 : Int32))) (lv' := [(1, .int (x1_51 + (1 : Int32))), (0, .ref a_this)]) hx hb dX9_record_79 hl (k := 1) rfl rfl (by decide) rfl (fun ls hl => ?_)
                refine lv_goto (tgt := 51) hx hb dX9_record_82 (by decide) ?_
                have hl : lv_has ls 2 [(0, .ref a_this), (1, .int (x1_51 + (1 : Int32)))] := lv_sub hl [1, 0] rfl
                exact ih51 (x1_51 + (1 : Int32)) (upd v_before_51 ((((316 : Int32) * (v_states - (1 : Int32))) + x1_51)).toNatClampNeg (v_s (x1_51).toNatClampNeg)) (Nat.lt_of_lt_of_le hwp.2 (Nat.le_of_lt_succ hμ51)) hwp.1 _ _ hP hD hS ls hl
          exact hL51 _ (0 : Int32) v_before_10 (Nat.lt_succ_self _) hJ _ _ hP hD hS ls hl
        · have hwp := hwp.2 hc
          refine lv_aload_n hx hb dX9_record_17 rfl (lv_at hl 0 rfl) ?_
          refine va_get (D := D) (ci := 9) (v := .ref a_before) (C := RX9) (T := TX9) (N := 18) hx hb hts mc_X9_record_9 hown hK hP 0 rfl rfl 1 (by decide) (hts _ ml_X9_record_2) (fun _ h9 => h9) rfl dX9_record_18 ?_
          refine lv_iload_n hx hb dX9_record_21 rfl (lv_at hl 1 rfl) ?_
          refine lv_aload_n hx hb dX9_record_22 rfl (lv_at hl 0 rfl) ?_
          refine va_get (D := D) (ci := 9) (v := .ref a_before) (C := RX9) (T := TX9) (N := 18) hx hb hts mc_X9_record_9 hown hK hP 0 rfl rfl 1 (by decide) (hts _ ml_X9_record_2) (fun _ h9 => h9) rfl dX9_record_23 ?_
          refine lv_sipush (v := 316) hx hb dX9_record_26 (by decide) ?_
          refine lv_iload_n hx hb dX9_record_29 rfl (lv_at hl 1 rfl) ?_
          refine lv_iadd hx hb dX9_record_30 ?_
          have hn_5 := hwp.1
          have hwp := hwp.2
          refine va_iald (D := D) hx hb hK hP 2 0 rfl rfl hn_5 dX9_record_31 ?_
          have hn_6 := hwp.1
          have hwp := hwp.2
          refine va_iast (D := D) hx hb hK hP hD hS 2 0 rfl rfl hn_6 dX9_record_32 (fun H locs hP hD hS => ?_)
          have hP : va_P D vwCl [(a_this, .inr (9, [.ref a_s, .ref a_before, .ref a_kept, .ref a_aside, .ref a_order, .ref a_rank, .int v_onWall, .ref a_straight, .ref a_sorted, .ref a_longest, .int v_straightMany, .ref a_read, .ref a_text, .int v_length, .int v_states, .int v_isKept, .int v_at, .int v_cards])), (a_s, .inl (cI, 316, .inl v_s)), (a_before, .inl (cI, 1264, .inl (upd v_before_10 (x1_10).toNatClampNeg (v_before_10 (((316 : Int32) + x1_10)).toNatClampNeg))))] H := hP
          have hD : va_D A [(a_this, .inr (9, [.ref a_s, .ref a_before, .ref a_kept, .ref a_aside, .ref a_order, .ref a_rank, .int v_onWall, .ref a_straight, .ref a_sorted, .ref a_longest, .int v_straightMany, .ref a_read, .ref a_text, .int v_length, .int v_states, .int v_isKept, .int v_at, .int v_cards])), (a_s, .inl (cI, 316, .inl v_s)), (a_before, .inl (cI, 1264, .inl (upd v_before_10 (x1_10).toNatClampNeg (v_before_10 (((316 : Int32) + x1_10)).toNatClampNeg))))] := hD
          refine lv_iinc (v := (x1_10 + (1 : Int32))) (lv' := [(1, .int (x1_10 + (1 : Int32))), (0, .ref a_this)]) hx hb dX9_record_33 hl (k := 1) rfl rfl (by decide) rfl (fun ls hl => ?_)
          refine lv_goto (tgt := 10) hx hb dX9_record_36 (by decide) ?_
          have hl : lv_has ls 2 [(0, .ref a_this), (1, .int (x1_10 + (1 : Int32)))] := lv_sub hl [1, 0] rfl
          exact ih10 (x1_10 + (1 : Int32)) (upd v_before_10 (x1_10).toNatClampNeg (v_before_10 (((316 : Int32) + x1_10)).toNatClampNeg)) (Nat.lt_of_lt_of_le hwp.2 (Nat.le_of_lt_succ hμ10)) hwp.1 _ _ hP hD hS ls hl
    exact hL10 _ (0 : Int32) v_before (Nat.lt_succ_self _) hJ _ _ hP hD hS ls hl
theorem mc_X9_of_9 : ∀ w ∈ u_ws RX9 TX9 18, w ∈ wsX9_of := fun w h => List.mem_cons_of_mem _ (List.mem_append_right _ h)
theorem ml_X9_of_1 : (.fieldLink RX9 7 "StoryWallModel" "s" "[I" : Cond) ∈ wsX9_of := List.mem_of_getElem? (i := 1) rfl
abbrev rm_X9_of : Room := { frames := 0, cells := 0, slots := 0, locals := 0 }
set_option maxHeartbeats 4000000 in
set_option maxRecDepth 100000 in
theorem c_X9_of (l : Launch) (D : va_G) (cI cC cF cO : ClassId) (a_this a_s a_before a_kept a_aside a_order a_rank a_straight a_sorted a_longest a_read a_text : Nat) (v_onWall : Int32) (v_straightMany : Int32) (v_length : Int32) (v_states : Int32) (v_isKept : Int32) (v_at : Int32) (v_cards : Int32) (sz : Nat) (x1 : Int32) (x2 : Int32) (v_s : Nat → Int32) (post : Int32 → Prop) (hwp : wp_X9_of x1 x2 v_s post) : Met l yX9_of wsX9_of rm_X9_of (gPre D (gT cI cC cF cO) [.ref a_this, .int x1, .int x2] [(a_this, .inr (9, [.ref a_s, .ref a_before, .ref a_kept, .ref a_aside, .ref a_order, .ref a_rank, .int v_onWall, .ref a_straight, .ref a_sorted, .ref a_longest, .int v_straightMany, .ref a_read, .ref a_text, .int v_length, .int v_states, .int v_isKept, .int v_at, .int v_cards])), (a_s, .inl (cI, 316, .inl v_s))] sz) (va_Qi (S := Unit) (fun (r : Int32) (u : Unit) => post r ) (gB D (gT cI cC cF cO) (fun (u : Unit) => [(a_this, .inr (9, [.ref a_s, .ref a_before, .ref a_kept, .ref a_aside, .ref a_order, .ref a_rank, .int v_onWall, .ref a_straight, .ref a_sorted, .ref a_longest, .int v_straightMany, .ref a_read, .ref a_text, .int v_length, .int v_states, .int v_isKept, .int v_at, .int v_cards])), (a_s, .inl (cI, 316, .inl v_s))]) [(a_this, .inr (9, [.ref a_s, .ref a_before, .ref a_kept, .ref a_aside, .ref a_order, .ref a_rank, .int v_onWall, .ref a_straight, .ref a_sorted, .ref a_longest, .int v_straightMany, .ref a_read, .ref a_text, .int v_length, .int v_states, .int v_isKept, .int v_at, .int v_cards])), (a_s, .inl (cI, 316, .inl v_s))] sz) (va_A [(a_this, .inr (9, [.ref a_s, .ref a_before, .ref a_kept, .ref a_aside, .ref a_order, .ref a_rank, .int v_onWall, .ref a_straight, .ref a_sorted, .ref a_longest, .int v_straightMany, .ref a_read, .ref a_text, .int v_length, .int v_states, .int v_isKept, .int v_at, .int v_cards])), (a_s, .inl (cI, 316, .inl v_s))] sz)) 0 0 (va_A [(a_this, .inr (9, [.ref a_s, .ref a_before, .ref a_kept, .ref a_aside, .ref a_order, .ref a_rank, .int v_onWall, .ref a_straight, .ref a_sorted, .ref a_longest, .int v_straightMany, .ref a_read, .ref a_text, .int v_length, .int v_states, .int v_isKept, .int v_at, .int v_cards])), (a_s, .inl (cI, 316, .inl v_s))] sz) := by
  refine gOfi (own := RX9) (cc := cX9_of) (maxL := 3) (ret := (some .int)) rfl (by decide) rfl (Nat.le_of_ble_eq_true rfl) rfl ?_
  intro p e s m below meth c A args Q hAe hx hb hr hts hown hml hlocks hname hA hK hX hT hP hD hS hret ls hl
  have hl : lv_has ls 3 [(0, .ref a_this), (1, .int x1), (2, .int x2)] := hl
  unfold wp_X9_of at hwp
  refine lv_aload_n hx hb dX9_of_0 rfl (lv_at hl 0 rfl) ?_
  refine va_get (D := D) (ci := 9) (v := .ref a_s) (C := RX9) (T := TX9) (N := 18) hx hb hts mc_X9_of_9 hown hK hP 0 rfl rfl 0 (by decide) (hts _ ml_X9_of_1) (fun _ h9 => h9) rfl dX9_of_1 ?_
  refine lv_iconst (v := 4) hx hb dX9_of_4 (by decide) ?_
  refine lv_iconst (v := 5) hx hb dX9_of_5 (by decide) ?_
  refine lv_iload_n hx hb dX9_of_6 rfl (lv_at hl 1 rfl) ?_
  refine lv_imul hx hb dX9_of_7 ?_
  refine lv_iadd hx hb dX9_of_8 ?_
  refine lv_iload_n hx hb dX9_of_9 rfl (lv_at hl 2 rfl) ?_
  refine lv_iadd hx hb dX9_of_10 ?_
  have hn_1 := hwp.1
  have hwp := hwp.2
  refine va_iald (D := D) hx hb hK hP 1 0 rfl rfl hn_1 dX9_of_11 ?_
  exact hret () [0, 1] dX9_of_12 hwp rfl rfl hP hD hS
abbrev rm_X9_row : Room := { frames := 0, cells := 0, slots := 0, locals := 0 }
set_option maxHeartbeats 4000000 in
set_option maxRecDepth 100000 in
theorem c_X9_row (l : Launch) (D : va_G) (cI cC cF cO : ClassId)   (sz : Nat) (x0 : Int32)  (post : Int32 → Prop) (hwp : wp_X9_row x0 post) : Met l yX9_row wsX9_row rm_X9_row (gPre D (gT cI cC cF cO) [.int x0] [] sz) (va_Qi (S := Unit) (fun (r : Int32) (u : Unit) => post r ) (gB D (gT cI cC cF cO) (fun (u : Unit) => []) [] sz) (va_A [] sz)) 0 0 (va_A [] sz) := by
  refine gOfi (own := RX9) (cc := cX9_row) (maxL := 1) (ret := (some .int)) rfl (by decide) rfl (Nat.le_of_ble_eq_true rfl) rfl ?_
  intro p e s m below meth c A args Q hAe hx hb hr hts hown hml hlocks hname hA hK hX hT hP hD hS hret ls hl
  have hl : lv_has ls 1 [(0, .int x0)] := hl
  unfold wp_X9_row at hwp
  refine lv_sipush (v := 204) hx hb dX9_row_0 (by decide) ?_
  refine lv_bipush (v := 7) hx hb dX9_row_3 (by decide) ?_
  refine lv_iload_n hx hb dX9_row_5 rfl (lv_at hl 0 rfl) ?_
  refine lv_imul hx hb dX9_row_6 ?_
  refine lv_iadd hx hb dX9_row_7 ?_
  exact hret () [] dX9_row_8 hwp rfl rfl hP hD hS
theorem mc_X9_isCard_9 : ∀ w ∈ u_ws RX9 TX9 18, w ∈ wsX9_isCard := fun w h => List.mem_cons_of_mem _ (List.mem_append_right _ h)
theorem ml_X9_isCard_1 : (.fieldLink RX9 7 "StoryWallModel" "s" "[I" : Cond) ∈ wsX9_isCard := List.mem_of_getElem? (i := 1) rfl
abbrev rm_X9_isCard : Room := { frames := 1, cells := 0, slots := 0, locals := 22 }
set_option maxHeartbeats 4000000 in
set_option maxRecDepth 100000 in
theorem c_X9_isCard (l : Launch) (D : va_G) (cI cC cF cO : ClassId) (a_this a_s a_before a_kept a_aside a_order a_rank a_straight a_sorted a_longest a_read a_text : Nat) (v_onWall : Int32) (v_straightMany : Int32) (v_length : Int32) (v_states : Int32) (v_isKept : Int32) (v_at : Int32) (v_cards : Int32) (sz : Nat) (x1 : Int32) (v_s : Nat → Int32) (post : Int32 → Prop) (hwp : wp_X9_isCard x1 v_s post) : Met l yX9_isCard wsX9_isCard rm_X9_isCard (gPre D (gT cI cC cF cO) [.ref a_this, .int x1] [(a_this, .inr (9, [.ref a_s, .ref a_before, .ref a_kept, .ref a_aside, .ref a_order, .ref a_rank, .int v_onWall, .ref a_straight, .ref a_sorted, .ref a_longest, .int v_straightMany, .ref a_read, .ref a_text, .int v_length, .int v_states, .int v_isKept, .int v_at, .int v_cards])), (a_s, .inl (cI, 316, .inl v_s))] sz) (va_Qi (S := Unit) (fun (r : Int32) (u : Unit) => post r ) (gB D (gT cI cC cF cO) (fun (u : Unit) => [(a_this, .inr (9, [.ref a_s, .ref a_before, .ref a_kept, .ref a_aside, .ref a_order, .ref a_rank, .int v_onWall, .ref a_straight, .ref a_sorted, .ref a_longest, .int v_straightMany, .ref a_read, .ref a_text, .int v_length, .int v_states, .int v_isKept, .int v_at, .int v_cards])), (a_s, .inl (cI, 316, .inl v_s))]) [(a_this, .inr (9, [.ref a_s, .ref a_before, .ref a_kept, .ref a_aside, .ref a_order, .ref a_rank, .int v_onWall, .ref a_straight, .ref a_sorted, .ref a_longest, .int v_straightMany, .ref a_read, .ref a_text, .int v_length, .int v_states, .int v_isKept, .int v_at, .int v_cards])), (a_s, .inl (cI, 316, .inl v_s))] sz) (va_A [(a_this, .inr (9, [.ref a_s, .ref a_before, .ref a_kept, .ref a_aside, .ref a_order, .ref a_rank, .int v_onWall, .ref a_straight, .ref a_sorted, .ref a_longest, .int v_straightMany, .ref a_read, .ref a_text, .int v_length, .int v_states, .int v_isKept, .int v_at, .int v_cards])), (a_s, .inl (cI, 316, .inl v_s))] sz)) 0 0 (va_A [(a_this, .inr (9, [.ref a_s, .ref a_before, .ref a_kept, .ref a_aside, .ref a_order, .ref a_rank, .int v_onWall, .ref a_straight, .ref a_sorted, .ref a_longest, .int v_straightMany, .ref a_read, .ref a_text, .int v_length, .int v_states, .int v_isKept, .int v_at, .int v_cards])), (a_s, .inl (cI, 316, .inl v_s))] sz) := by
  refine gOfz (own := RX9) (cc := cX9_isCard) (maxL := 2) (ret := (some .boolean)) rfl (by decide) rfl (Nat.le_of_ble_eq_true rfl) rfl ?_
  intro p e s m below meth c A args Q hAe hx hb hr hts hown hml hlocks hname hA hK hX hT hP hD hS hret ls hl
  have hl : lv_has ls 2 [(0, .ref a_this), (1, .int x1)] := hl
  unfold wp_X9_isCard at hwp
  refine lv_iload_n hx hb dX9_isCard_0 rfl (lv_at hl 1 rfl) ?_
  refine lv_iconst (v := 0) hx hb dX9_isCard_1 (by decide) ?_
  refine lv_aload_n hx hb dX9_isCard_2 rfl (lv_at hl 0 rfl) ?_
  refine va_get (D := D) (ci := 9) (v := .ref a_s) (C := RX9) (T := TX9) (N := 18) hx hb hts mc_X9_isCard_9 hown hK hP 0 rfl rfl 0 (by decide) (hts _ ml_X9_isCard_1) (fun _ h9 => h9) rfl dX9_isCard_3 ?_
  refine lv_iconst (v := 0) hx hb dX9_isCard_6 (by decide) ?_
  refine va_iald (D := D) hx hb hK hP 1 0 rfl rfl (gIn rfl) dX9_isCard_7 ?_
  refine lv_iconst (v := 1) hx hb dX9_isCard_8 (by decide) ?_
  refine lv_isub hx hb dX9_isCard_9 ?_
  refine gBacki (D := D) (tys := gT cI cC cF cO) (A := A) (wr := [(a_this, .inr (9, [.ref a_s, .ref a_before, .ref a_kept, .ref a_aside, .ref a_order, .ref a_rank, .int v_onWall, .ref a_straight, .ref a_sorted, .ref a_longest, .int v_straightMany, .ref a_read, .ref a_text, .int v_length, .int v_states, .int v_isKept, .int v_at, .int v_cards])), (a_s, .inl (cI, 316, .inl v_s))]) (w1 := (fun u_2 : Unit => [])) (va_runS (As := [.int x1, .int (0 : Int32), .int ((v_s ((0 : Int32)).toNatClampNeg) - (1 : Int32))]) (rest := []) ⟨hx, hb, hml, hown, hts⟩ (c_X9_in l D cI cC cF cO  _ _ _ _ _ hwp) (va_cwS 3 hts gX9_isCard_X9_in rfl rfl rfl (by decide +kernel) ⟨Nat.le_of_ble_eq_true rfl, Nat.le_of_ble_eq_true rfl⟩) (gPreS hK hX hT hP hD hS hA [] rfl rfl) rfl rfl hl.1 rfl (lv_room (Nat.le_of_ble_eq_true rfl)) dX9_isCard_10 ⟨Nat.le_of_ble_eq_true rfl, Nat.le_of_ble_eq_true rfl⟩) hP hD hS hA [] [0, 1] rfl rfl rfl (by decide) (fun r_1 u_2 H locs hwp hP hD hS => ?_)
  have hP : va_P D vwCl [(a_this, .inr (9, [.ref a_s, .ref a_before, .ref a_kept, .ref a_aside, .ref a_order, .ref a_rank, .int v_onWall, .ref a_straight, .ref a_sorted, .ref a_longest, .int v_straightMany, .ref a_read, .ref a_text, .int v_length, .int v_states, .int v_isKept, .int v_at, .int v_cards])), (a_s, .inl (cI, 316, .inl v_s))] H := hP
  have hD : va_D A [(a_this, .inr (9, [.ref a_s, .ref a_before, .ref a_kept, .ref a_aside, .ref a_order, .ref a_rank, .int v_onWall, .ref a_straight, .ref a_sorted, .ref a_longest, .int v_straightMany, .ref a_read, .ref a_text, .int v_length, .int v_states, .int v_isKept, .int v_at, .int v_cards])), (a_s, .inl (cI, 316, .inl v_s))] := hD
  have hn_3 := hwp.1
  have hwp := hwp.2
  exact hret () [0, 1] dX9_isCard_13 hn_3 hwp rfl rfl hP hD hS
theorem mc_X9_layOrder_9 : ∀ w ∈ u_ws RX9 TX9 18, w ∈ wsX9_layOrder := fun w h => List.mem_cons_of_mem _ (List.mem_append_right _ h)
theorem ml_X9_layOrder_1 : (.fieldLink RX9 52 "StoryWallModel" "onWall" "I" : Cond) ∈ wsX9_layOrder := List.mem_of_getElem? (i := 1) rfl
theorem ml_X9_layOrder_2 : (.fieldLink RX9 7 "StoryWallModel" "s" "[I" : Cond) ∈ wsX9_layOrder := List.mem_of_getElem? (i := 3) rfl
theorem ml_X9_layOrder_3 : (.fieldLink RX9 22 "StoryWallModel" "order" "[I" : Cond) ∈ wsX9_layOrder := List.mem_of_getElem? (i := 4) rfl
theorem ml_X9_layOrder_4 : (.fieldLink RX9 25 "StoryWallModel" "rank" "[I" : Cond) ∈ wsX9_layOrder := List.mem_of_getElem? (i := 2) rfl
abbrev rm_X9_layOrder : Room := { frames := 1, cells := 0, slots := 0, locals := 20 }
set_option maxHeartbeats 4000000 in
set_option maxRecDepth 100000 in
theorem c_X9_layOrder (l : Launch) (D : va_G) (cI cC cF cO : ClassId) (a_this a_s a_order a_rank a_before a_kept a_aside a_straight a_sorted a_longest a_read a_text : Nat) (v_straightMany : Int32) (v_length : Int32) (v_states : Int32) (v_isKept : Int32) (v_at : Int32) (v_cards : Int32) (sz : Nat)  (v_onWall : Int32) (v_s : Nat → Int32) (v_order : Nat → Int32) (v_rank : Nat → Int32) (post : Int32 → (Nat → Int32) → (Nat → Int32) → Prop) (hwp : wp_X9_layOrder v_onWall v_s v_order v_rank post) : Met l yX9_layOrder wsX9_layOrder rm_X9_layOrder (gPre D (gT cI cC cF cO) [.ref a_this] [(a_this, .inr (9, [.ref a_s, .ref a_before, .ref a_kept, .ref a_aside, .ref a_order, .ref a_rank, .int v_onWall, .ref a_straight, .ref a_sorted, .ref a_longest, .int v_straightMany, .ref a_read, .ref a_text, .int v_length, .int v_states, .int v_isKept, .int v_at, .int v_cards])), (a_s, .inl (cI, 316, .inl v_s)), (a_order, .inl (cI, 40, .inl v_order)), (a_rank, .inl (cI, 40, .inl v_rank))] sz) (va_Qv (S := Int32 × (Nat → Int32) × (Nat → Int32)) (fun (u : Int32 × (Nat → Int32) × (Nat → Int32)) => post u.1 u.2.1 u.2.2) (gB D (gT cI cC cF cO) (fun (u : Int32 × (Nat → Int32) × (Nat → Int32)) => [(a_this, .inr (9, [.ref a_s, .ref a_before, .ref a_kept, .ref a_aside, .ref a_order, .ref a_rank, .int u.1, .ref a_straight, .ref a_sorted, .ref a_longest, .int v_straightMany, .ref a_read, .ref a_text, .int v_length, .int v_states, .int v_isKept, .int v_at, .int v_cards])), (a_s, .inl (cI, 316, .inl v_s)), (a_order, .inl (cI, 40, .inl u.2.1)), (a_rank, .inl (cI, 40, .inl u.2.2))]) [(a_this, .inr (9, [.ref a_s, .ref a_before, .ref a_kept, .ref a_aside, .ref a_order, .ref a_rank, .int v_onWall, .ref a_straight, .ref a_sorted, .ref a_longest, .int v_straightMany, .ref a_read, .ref a_text, .int v_length, .int v_states, .int v_isKept, .int v_at, .int v_cards])), (a_s, .inl (cI, 316, .inl v_s)), (a_order, .inl (cI, 40, .inl v_order)), (a_rank, .inl (cI, 40, .inl v_rank))] sz) (va_A [(a_this, .inr (9, [.ref a_s, .ref a_before, .ref a_kept, .ref a_aside, .ref a_order, .ref a_rank, .int v_onWall, .ref a_straight, .ref a_sorted, .ref a_longest, .int v_straightMany, .ref a_read, .ref a_text, .int v_length, .int v_states, .int v_isKept, .int v_at, .int v_cards])), (a_s, .inl (cI, 316, .inl v_s)), (a_order, .inl (cI, 40, .inl v_order)), (a_rank, .inl (cI, 40, .inl v_rank))] sz)) 0 0 (va_A [(a_this, .inr (9, [.ref a_s, .ref a_before, .ref a_kept, .ref a_aside, .ref a_order, .ref a_rank, .int v_onWall, .ref a_straight, .ref a_sorted, .ref a_longest, .int v_straightMany, .ref a_read, .ref a_text, .int v_length, .int v_states, .int v_isKept, .int v_at, .int v_cards])), (a_s, .inl (cI, 316, .inl v_s)), (a_order, .inl (cI, 40, .inl v_order)), (a_rank, .inl (cI, 40, .inl v_rank))] sz) := by
  refine gOfv (own := RX9) (cc := cX9_layOrder) (maxL := 4) (ret := none) rfl (by decide) rfl (Nat.le_of_ble_eq_true rfl) rfl ?_
  intro p e s m below meth c A args Q hAe hx hb hr hts hown hml hlocks hname hA hK hX hT hP hD hS hret ls hl
  have hl : lv_has ls 4 [(0, .ref a_this)] := hl
  unfold wp_X9_layOrder at hwp
  refine lv_aload_n hx hb dX9_layOrder_0 rfl (lv_at hl 0 rfl) ?_
  refine lv_iconst (v := 0) hx hb dX9_layOrder_1 (by decide) ?_
  refine va_put (D := D) (ci := 9) (v := .int (0 : Int32)) (ty := .int) (C := RX9) (T := TX9) (N := 18) hx hb hts mc_X9_layOrder_9 tyX9 tyX9_ok nmX9 hown hK hP hD hS 0 rfl rfl 6 (by decide) (hts _ ml_X9_layOrder_1) (fun _ h9 => h9) rfl (by decide +kernel) rfl rfl (Nat.le_of_ble_eq_true rfl) dX9_layOrder_2 (fun H locs hP hD hS => ?_)
  have hP : va_P D vwCl [(a_this, .inr (9, [.ref a_s, .ref a_before, .ref a_kept, .ref a_aside, .ref a_order, .ref a_rank, .int (0 : Int32), .ref a_straight, .ref a_sorted, .ref a_longest, .int v_straightMany, .ref a_read, .ref a_text, .int v_length, .int v_states, .int v_isKept, .int v_at, .int v_cards])), (a_s, .inl (cI, 316, .inl v_s)), (a_order, .inl (cI, 40, .inl v_order)), (a_rank, .inl (cI, 40, .inl v_rank))] H := hP
  have hD : va_D A [(a_this, .inr (9, [.ref a_s, .ref a_before, .ref a_kept, .ref a_aside, .ref a_order, .ref a_rank, .int (0 : Int32), .ref a_straight, .ref a_sorted, .ref a_longest, .int v_straightMany, .ref a_read, .ref a_text, .int v_length, .int v_states, .int v_isKept, .int v_at, .int v_cards])), (a_s, .inl (cI, 316, .inl v_s)), (a_order, .inl (cI, 40, .inl v_order)), (a_rank, .inl (cI, 40, .inl v_rank))] := hD
  refine lv_iconst (v := 0) hx hb dX9_layOrder_5 (by decide) ?_
  refine lv_istore_n (lv' := [(1, .int (0 : Int32)), (0, .ref a_this)]) hx hb dX9_layOrder_6 rfl hl (by decide) rfl (fun ls hl => ?_)
  have hl : lv_has ls 4 [(0, .ref a_this), (1, .int (0 : Int32))] := lv_sub hl [1, 0] rfl
  unfold wp_X9_layOrder_l7 at hwp
  obtain ⟨J7, μ7, hJ, hst7⟩ := hwp
  have hL7 : ∀ (n : Nat) (x1_7 : Int32) (v_rank_7 : Nat → Int32), μ7 x1_7 v_rank_7 < n → J7 x1_7 v_rank_7 → ∀ (H : Heap) (locs : List Loc), va_P D vwCl [(a_this, .inr (9, [.ref a_s, .ref a_before, .ref a_kept, .ref a_aside, .ref a_order, .ref a_rank, .int (0 : Int32), .ref a_straight, .ref a_sorted, .ref a_longest, .int v_straightMany, .ref a_read, .ref a_text, .int v_length, .int v_states, .int v_isKept, .int v_at, .int v_cards])), (a_s, .inl (cI, 316, .inl v_s)), (a_order, .inl (cI, 40, .inl v_order)), (a_rank, .inl (cI, 40, .inl v_rank_7))] H → va_D A [(a_this, .inr (9, [.ref a_s, .ref a_before, .ref a_kept, .ref a_aside, .ref a_order, .ref a_rank, .int (0 : Int32), .ref a_straight, .ref a_sorted, .ref a_longest, .int v_straightMany, .ref a_read, .ref a_text, .int v_length, .int v_states, .int v_isKept, .int v_at, .int v_cards])), (a_s, .inl (cI, 316, .inl v_s)), (a_order, .inl (cI, 40, .inl v_order)), (a_rank, .inl (cI, 40, .inl v_rank_7))] → va_S A s.heap H locs → ∀ ls : Array Slot, lv_has ls 4 [(0, .ref a_this), (1, .int x1_7)] → W p l e rm_X9_layOrder s m args below meth c H locs 0 0 Q (F0 m 7 ls []) := by
    intro n
    induction n with
    | zero => intro x1_7 v_rank_7 h; exact absurd h (Nat.not_lt_zero _)
    | succ n ih7 =>
      intro x1_7 v_rank_7 hμ7 hJ H locs hP hD hS ls hl
      have hwp := hst7 x1_7 v_rank_7 hJ
      refine lv_iload_n hx hb dX9_layOrder_7 rfl (lv_at hl 1 rfl) ?_
      refine lv_bipush (v := 40) hx hb dX9_layOrder_8 (by decide) ?_
      refine lv_icmp_ge (tgt := 27) hx hb dX9_layOrder_10 (by decide) (fun hc => ?_) (fun hc => ?_)
      · have hwp := hwp.1 hc
        refine lv_iconst (v := 0) hx hb dX9_layOrder_27 (by decide) ?_
        refine lv_istore_n (lv' := [(1, .int (0 : Int32)), (0, .ref a_this)]) hx hb dX9_layOrder_28 rfl hl (by decide) rfl (fun ls hl => ?_)
        have hl : lv_has ls 4 [(0, .ref a_this), (1, .int (0 : Int32))] := lv_sub hl [1, 0] rfl
        unfold wp_X9_layOrder_l29 at hwp
        obtain ⟨J29, μ29, hJ, hst29⟩ := hwp
        have hL29 : ∀ (n : Nat) (x1_29 : Int32) (v_onWall_29 : Int32) (v_order_29 : Nat → Int32) (v_rank_29 : Nat → Int32), μ29 x1_29 v_onWall_29 v_order_29 v_rank_29 < n → J29 x1_29 v_onWall_29 v_order_29 v_rank_29 → ∀ (H : Heap) (locs : List Loc), va_P D vwCl [(a_this, .inr (9, [.ref a_s, .ref a_before, .ref a_kept, .ref a_aside, .ref a_order, .ref a_rank, .int v_onWall_29, .ref a_straight, .ref a_sorted, .ref a_longest, .int v_straightMany, .ref a_read, .ref a_text, .int v_length, .int v_states, .int v_isKept, .int v_at, .int v_cards])), (a_s, .inl (cI, 316, .inl v_s)), (a_order, .inl (cI, 40, .inl v_order_29)), (a_rank, .inl (cI, 40, .inl v_rank_29))] H → va_D A [(a_this, .inr (9, [.ref a_s, .ref a_before, .ref a_kept, .ref a_aside, .ref a_order, .ref a_rank, .int v_onWall_29, .ref a_straight, .ref a_sorted, .ref a_longest, .int v_straightMany, .ref a_read, .ref a_text, .int v_length, .int v_states, .int v_isKept, .int v_at, .int v_cards])), (a_s, .inl (cI, 316, .inl v_s)), (a_order, .inl (cI, 40, .inl v_order_29)), (a_rank, .inl (cI, 40, .inl v_rank_29))] → va_S A s.heap H locs → ∀ ls : Array Slot, lv_has ls 4 [(0, .ref a_this), (1, .int x1_29)] → W p l e rm_X9_layOrder s m args below meth c H locs 0 0 Q (F0 m 29 ls []) := by
          intro n
          induction n with
          | zero => intro x1_29 v_onWall_29 v_order_29 v_rank_29 h; exact absurd h (Nat.not_lt_zero _)
          | succ n ih29 =>
            intro x1_29 v_onWall_29 v_order_29 v_rank_29 hμ29 hJ H locs hP hD hS ls hl
            have hwp := hst29 x1_29 v_onWall_29 v_order_29 v_rank_29 hJ
            refine lv_iload_n hx hb dX9_layOrder_29 rfl (lv_at hl 1 rfl) ?_
            refine lv_bipush (v := 16) hx hb dX9_layOrder_30 (by decide) ?_
            refine lv_icmp_ge (tgt := 106) hx hb dX9_layOrder_32 (by decide) (fun hc => ?_) (fun hc => ?_)
            · have hwp := hwp.1 hc
              exact hret (v_onWall_29, v_order_29, v_rank_29) [0, 1, 2, 3] dX9_layOrder_106 hwp rfl rfl hP hD hS
            · have hwp := hwp.2 hc
              refine lv_iconst (v := 0) hx hb dX9_layOrder_35 (by decide) ?_
              refine lv_istore_n (lv' := [(2, .int (0 : Int32)), (0, .ref a_this), (1, .int x1_29)]) hx hb dX9_layOrder_36 rfl hl (by decide) rfl (fun ls hl => ?_)
              have hl : lv_has ls 4 [(0, .ref a_this), (1, .int x1_29), (2, .int (0 : Int32))] := lv_sub hl [1, 2, 0] rfl
              unfold wp_X9_layOrder_l37 at hwp
              obtain ⟨J37, μ37, hJ, hst37⟩ := hwp
              have hL37 : ∀ (n : Nat) (x2_37 : Int32) (v_onWall_37 : Int32) (v_order_37 : Nat → Int32) (v_rank_37 : Nat → Int32), μ37 x2_37 v_onWall_37 v_order_37 v_rank_37 < n → J37 x2_37 v_onWall_37 v_order_37 v_rank_37 → ∀ (H : Heap) (locs : List Loc), va_P D vwCl [(a_this, .inr (9, [.ref a_s, .ref a_before, .ref a_kept, .ref a_aside, .ref a_order, .ref a_rank, .int v_onWall_37, .ref a_straight, .ref a_sorted, .ref a_longest, .int v_straightMany, .ref a_read, .ref a_text, .int v_length, .int v_states, .int v_isKept, .int v_at, .int v_cards])), (a_s, .inl (cI, 316, .inl v_s)), (a_order, .inl (cI, 40, .inl v_order_37)), (a_rank, .inl (cI, 40, .inl v_rank_37))] H → va_D A [(a_this, .inr (9, [.ref a_s, .ref a_before, .ref a_kept, .ref a_aside, .ref a_order, .ref a_rank, .int v_onWall_37, .ref a_straight, .ref a_sorted, .ref a_longest, .int v_straightMany, .ref a_read, .ref a_text, .int v_length, .int v_states, .int v_isKept, .int v_at, .int v_cards])), (a_s, .inl (cI, 316, .inl v_s)), (a_order, .inl (cI, 40, .inl v_order_37)), (a_rank, .inl (cI, 40, .inl v_rank_37))] → va_S A s.heap H locs → ∀ ls : Array Slot, lv_has ls 4 [(0, .ref a_this), (1, .int x1_29), (2, .int x2_37)] → W p l e rm_X9_layOrder s m args below meth c H locs 0 0 Q (F0 m 37 ls []) := by
                intro n
                induction n with
                | zero => intro x2_37 v_onWall_37 v_order_37 v_rank_37 h; exact absurd h (Nat.not_lt_zero _)
                | succ n ih37 =>
                  intro x2_37 v_onWall_37 v_order_37 v_rank_37 hμ37 hJ H locs hP hD hS ls hl
                  have hwp := hst37 x2_37 v_onWall_37 v_order_37 v_rank_37 hJ
                  refine lv_iload_n hx hb dX9_layOrder_37 rfl (lv_at hl 2 rfl) ?_
                  refine lv_aload_n hx hb dX9_layOrder_38 rfl (lv_at hl 0 rfl) ?_
                  refine va_get (D := D) (ci := 9) (v := .ref a_s) (C := RX9) (T := TX9) (N := 18) hx hb hts mc_X9_layOrder_9 hown hK hP 0 rfl rfl 0 (by decide) (hts _ ml_X9_layOrder_2) (fun _ h9 => h9) rfl dX9_layOrder_39 ?_
                  refine lv_iload_n hx hb dX9_layOrder_42 rfl (lv_at hl 1 rfl) ?_
                  refine gBacki (D := D) (tys := gT cI cC cF cO) (A := A) (wr := [(a_this, .inr (9, [.ref a_s, .ref a_before, .ref a_kept, .ref a_aside, .ref a_order, .ref a_rank, .int v_onWall_37, .ref a_straight, .ref a_sorted, .ref a_longest, .int v_straightMany, .ref a_read, .ref a_text, .int v_length, .int v_states, .int v_isKept, .int v_at, .int v_cards])), (a_s, .inl (cI, 316, .inl v_s)), (a_order, .inl (cI, 40, .inl v_order_37)), (a_rank, .inl (cI, 40, .inl v_rank_37))]) (w1 := (fun u_2 : Unit => [])) (va_runS (As := [.int x1_29]) (rest := [.ref a_s, .int x2_37]) ⟨hx, hb, hml, hown, hts⟩ (c_X9_row l D cI cC cF cO  _ _ _ hwp) (va_cwS 1 hts gX9_layOrder_X9_row rfl rfl rfl (by decide +kernel) ⟨Nat.le_of_ble_eq_true rfl, Nat.le_of_ble_eq_true rfl⟩) (gPreS hK hX hT hP hD hS hA [] rfl rfl) rfl rfl hl.1 rfl (lv_room (Nat.le_of_ble_eq_true rfl)) dX9_layOrder_43 ⟨Nat.le_of_ble_eq_true rfl, Nat.le_of_ble_eq_true rfl⟩) hP hD hS hA [] [0, 1, 2, 3] rfl rfl rfl (by decide) (fun r_1 u_2 H locs hwp hP hD hS => ?_)
                  have hP : va_P D vwCl [(a_this, .inr (9, [.ref a_s, .ref a_before, .ref a_kept, .ref a_aside, .ref a_order, .ref a_rank, .int v_onWall_37, .ref a_straight, .ref a_sorted, .ref a_longest, .int v_straightMany, .ref a_read, .ref a_text, .int v_length, .int v_states, .int v_isKept, .int v_at, .int v_cards])), (a_s, .inl (cI, 316, .inl v_s)), (a_order, .inl (cI, 40, .inl v_order_37)), (a_rank, .inl (cI, 40, .inl v_rank_37))] H := hP
                  have hD : va_D A [(a_this, .inr (9, [.ref a_s, .ref a_before, .ref a_kept, .ref a_aside, .ref a_order, .ref a_rank, .int v_onWall_37, .ref a_straight, .ref a_sorted, .ref a_longest, .int v_straightMany, .ref a_read, .ref a_text, .int v_length, .int v_states, .int v_isKept, .int v_at, .int v_cards])), (a_s, .inl (cI, 316, .inl v_s)), (a_order, .inl (cI, 40, .inl v_order_37)), (a_rank, .inl (cI, 40, .inl v_rank_37))] := hD
                  have hn_3 := hwp.1
                  have hwp := hwp.2
                  refine va_iald (D := D) hx hb hK hP 1 0 rfl rfl hn_3 dX9_layOrder_46 ?_
                  refine lv_icmp_ge (tgt := 100) hx hb dX9_layOrder_47 (by decide) (fun hc => ?_) (fun hc => ?_)
                  · have hwp := hwp.1 hc
                    refine lv_iinc (v := (x1_29 + (1 : Int32))) (lv' := [(1, .int (x1_29 + (1 : Int32))), (0, .ref a_this), (2, .int x2_37)]) hx hb dX9_layOrder_100 hl (k := 1) rfl rfl (by decide) rfl (fun ls hl => ?_)
                    refine lv_goto (tgt := 29) hx hb dX9_layOrder_103 (by decide) ?_
                    have hl : lv_has ls 4 [(0, .ref a_this), (1, .int (x1_29 + (1 : Int32)))] := lv_sub hl [1, 0] rfl
                    exact ih29 (x1_29 + (1 : Int32)) v_onWall_37 v_order_37 v_rank_37 (Nat.lt_of_lt_of_le hwp.2 (Nat.le_of_lt_succ hμ29)) hwp.1 _ _ hP hD hS ls hl
                  · have hwp := hwp.2 hc
                    refine lv_aload_n hx hb dX9_layOrder_50 rfl (lv_at hl 0 rfl) ?_
                    refine va_get (D := D) (ci := 9) (v := .ref a_s) (C := RX9) (T := TX9) (N := 18) hx hb hts mc_X9_layOrder_9 hown hK hP 0 rfl rfl 0 (by decide) (hts _ ml_X9_layOrder_2) (fun _ h9 => h9) rfl dX9_layOrder_51 ?_
                    refine lv_iload_n hx hb dX9_layOrder_54 rfl (lv_at hl 1 rfl) ?_
                    refine gBacki (D := D) (tys := gT cI cC cF cO) (A := A) (wr := [(a_this, .inr (9, [.ref a_s, .ref a_before, .ref a_kept, .ref a_aside, .ref a_order, .ref a_rank, .int v_onWall_37, .ref a_straight, .ref a_sorted, .ref a_longest, .int v_straightMany, .ref a_read, .ref a_text, .int v_length, .int v_states, .int v_isKept, .int v_at, .int v_cards])), (a_s, .inl (cI, 316, .inl v_s)), (a_order, .inl (cI, 40, .inl v_order_37)), (a_rank, .inl (cI, 40, .inl v_rank_37))]) (w1 := (fun u_5 : Unit => [])) (va_runS (As := [.int x1_29]) (rest := [.ref a_s]) ⟨hx, hb, hml, hown, hts⟩ (c_X9_row l D cI cC cF cO  _ _ _ hwp) (va_cwS 1 hts gX9_layOrder_X9_row rfl rfl rfl (by decide +kernel) ⟨Nat.le_of_ble_eq_true rfl, Nat.le_of_ble_eq_true rfl⟩) (gPreS hK hX hT hP hD hS hA [] rfl rfl) rfl rfl hl.1 rfl (lv_room (Nat.le_of_ble_eq_true rfl)) dX9_layOrder_55 ⟨Nat.le_of_ble_eq_true rfl, Nat.le_of_ble_eq_true rfl⟩) hP hD hS hA [] [0, 1, 2, 3] rfl rfl rfl (by decide) (fun r_4 u_5 H locs hwp hP hD hS => ?_)
                    have hP : va_P D vwCl [(a_this, .inr (9, [.ref a_s, .ref a_before, .ref a_kept, .ref a_aside, .ref a_order, .ref a_rank, .int v_onWall_37, .ref a_straight, .ref a_sorted, .ref a_longest, .int v_straightMany, .ref a_read, .ref a_text, .int v_length, .int v_states, .int v_isKept, .int v_at, .int v_cards])), (a_s, .inl (cI, 316, .inl v_s)), (a_order, .inl (cI, 40, .inl v_order_37)), (a_rank, .inl (cI, 40, .inl v_rank_37))] H := hP
                    have hD : va_D A [(a_this, .inr (9, [.ref a_s, .ref a_before, .ref a_kept, .ref a_aside, .ref a_order, .ref a_rank, .int v_onWall_37, .ref a_straight, .ref a_sorted, .ref a_longest, .int v_straightMany, .ref a_read, .ref a_text, .int v_length, .int v_states, .int v_isKept, .int v_at, .int v_cards])), (a_s, .inl (cI, 316, .inl v_s)), (a_order, .inl (cI, 40, .inl v_order_37)), (a_rank, .inl (cI, 40, .inl v_rank_37))] := hD
                    refine lv_iconst (v := 1) hx hb dX9_layOrder_58 (by decide) ?_
                    refine lv_iadd hx hb dX9_layOrder_59 ?_
                    refine lv_iload_n hx hb dX9_layOrder_60 rfl (lv_at hl 2 rfl) ?_
                    refine lv_iadd hx hb dX9_layOrder_61 ?_
                    have hn_6 := hwp.1
                    have hwp := hwp.2
                    refine va_iald (D := D) hx hb hK hP 1 0 rfl rfl hn_6 dX9_layOrder_62 ?_
                    refine lv_istore_n (lv' := [(3, .int (v_s (((r_4 + (1 : Int32)) + x2_37)).toNatClampNeg)), (0, .ref a_this), (1, .int x1_29), (2, .int x2_37)]) hx hb dX9_layOrder_63 rfl hl (by decide) rfl (fun ls hl => ?_)
                    refine lv_aload_n hx hb dX9_layOrder_64 rfl (lv_at hl 1 rfl) ?_
                    refine va_get (D := D) (ci := 9) (v := .ref a_order) (C := RX9) (T := TX9) (N := 18) hx hb hts mc_X9_layOrder_9 hown hK hP 0 rfl rfl 4 (by decide) (hts _ ml_X9_layOrder_3) (fun _ h9 => h9) rfl dX9_layOrder_65 ?_
                    refine lv_aload_n hx hb dX9_layOrder_68 rfl (lv_at hl 1 rfl) ?_
                    refine va_get (D := D) (ci := 9) (v := .int v_onWall_37) (C := RX9) (T := TX9) (N := 18) hx hb hts mc_X9_layOrder_9 hown hK hP 0 rfl rfl 6 (by decide) (hts _ ml_X9_layOrder_1) (fun _ h9 => h9) rfl dX9_layOrder_69 ?_
                    refine lv_iload_n hx hb dX9_layOrder_72 rfl (lv_at hl 0 rfl) ?_
                    have hn_7 := hwp.1
                    have hwp := hwp.2
                    refine va_iast (D := D) hx hb hK hP hD hS 2 0 rfl rfl hn_7 dX9_layOrder_73 (fun H locs hP hD hS => ?_)
                    have hP : va_P D vwCl [(a_this, .inr (9, [.ref a_s, .ref a_before, .ref a_kept, .ref a_aside, .ref a_order, .ref a_rank, .int v_onWall_37, .ref a_straight, .ref a_sorted, .ref a_longest, .int v_straightMany, .ref a_read, .ref a_text, .int v_length, .int v_states, .int v_isKept, .int v_at, .int v_cards])), (a_s, .inl (cI, 316, .inl v_s)), (a_order, .inl (cI, 40, .inl (upd v_order_37 (v_onWall_37).toNatClampNeg (v_s (((r_4 + (1 : Int32)) + x2_37)).toNatClampNeg)))), (a_rank, .inl (cI, 40, .inl v_rank_37))] H := hP
                    have hD : va_D A [(a_this, .inr (9, [.ref a_s, .ref a_before, .ref a_kept, .ref a_aside, .ref a_order, .ref a_rank, .int v_onWall_37, .ref a_straight, .ref a_sorted, .ref a_longest, .int v_straightMany, .ref a_read, .ref a_text, .int v_length, .int v_states, .int v_isKept, .int v_at, .int v_cards])), (a_s, .inl (cI, 316, .inl v_s)), (a_order, .inl (cI, 40, .inl (upd v_order_37 (v_onWall_37).toNatClampNeg (v_s (((r_4 + (1 : Int32)) + x2_37)).toNatClampNeg)))), (a_rank, .inl (cI, 40, .inl v_rank_37))] := hD
                    refine lv_aload_n hx hb dX9_layOrder_74 rfl (lv_at hl 1 rfl) ?_
                    refine va_get (D := D) (ci := 9) (v := .ref a_rank) (C := RX9) (T := TX9) (N := 18) hx hb hts mc_X9_layOrder_9 hown hK hP 0 rfl rfl 5 (by decide) (hts _ ml_X9_layOrder_4) (fun _ h9 => h9) rfl dX9_layOrder_75 ?_
                    refine lv_iload_n hx hb dX9_layOrder_78 rfl (lv_at hl 0 rfl) ?_
                    refine lv_aload_n hx hb dX9_layOrder_79 rfl (lv_at hl 1 rfl) ?_
                    refine va_get (D := D) (ci := 9) (v := .int v_onWall_37) (C := RX9) (T := TX9) (N := 18) hx hb hts mc_X9_layOrder_9 hown hK hP 0 rfl rfl 6 (by decide) (hts _ ml_X9_layOrder_1) (fun _ h9 => h9) rfl dX9_layOrder_80 ?_
                    have hn_8 := hwp.1
                    have hwp := hwp.2
                    refine va_iast (D := D) hx hb hK hP hD hS 3 0 rfl rfl hn_8 dX9_layOrder_83 (fun H locs hP hD hS => ?_)
                    have hP : va_P D vwCl [(a_this, .inr (9, [.ref a_s, .ref a_before, .ref a_kept, .ref a_aside, .ref a_order, .ref a_rank, .int v_onWall_37, .ref a_straight, .ref a_sorted, .ref a_longest, .int v_straightMany, .ref a_read, .ref a_text, .int v_length, .int v_states, .int v_isKept, .int v_at, .int v_cards])), (a_s, .inl (cI, 316, .inl v_s)), (a_order, .inl (cI, 40, .inl (upd v_order_37 (v_onWall_37).toNatClampNeg (v_s (((r_4 + (1 : Int32)) + x2_37)).toNatClampNeg)))), (a_rank, .inl (cI, 40, .inl (upd v_rank_37 ((v_s (((r_4 + (1 : Int32)) + x2_37)).toNatClampNeg)).toNatClampNeg v_onWall_37)))] H := hP
                    have hD : va_D A [(a_this, .inr (9, [.ref a_s, .ref a_before, .ref a_kept, .ref a_aside, .ref a_order, .ref a_rank, .int v_onWall_37, .ref a_straight, .ref a_sorted, .ref a_longest, .int v_straightMany, .ref a_read, .ref a_text, .int v_length, .int v_states, .int v_isKept, .int v_at, .int v_cards])), (a_s, .inl (cI, 316, .inl v_s)), (a_order, .inl (cI, 40, .inl (upd v_order_37 (v_onWall_37).toNatClampNeg (v_s (((r_4 + (1 : Int32)) + x2_37)).toNatClampNeg)))), (a_rank, .inl (cI, 40, .inl (upd v_rank_37 ((v_s (((r_4 + (1 : Int32)) + x2_37)).toNatClampNeg)).toNatClampNeg v_onWall_37)))] := hD
                    refine lv_aload_n hx hb dX9_layOrder_84 rfl (lv_at hl 1 rfl) ?_
                    refine lv_dup hx hb dX9_layOrder_85 rfl ?_
                    refine va_get (D := D) (ci := 9) (v := .int v_onWall_37) (C := RX9) (T := TX9) (N := 18) hx hb hts mc_X9_layOrder_9 hown hK hP 0 rfl rfl 6 (by decide) (hts _ ml_X9_layOrder_1) (fun _ h9 => h9) rfl dX9_layOrder_86 ?_
                    refine lv_iconst (v := 1) hx hb dX9_layOrder_89 (by decide) ?_
                    refine lv_iadd hx hb dX9_layOrder_90 ?_
                    refine va_put (D := D) (ci := 9) (v := .int (v_onWall_37 + (1 : Int32))) (ty := .int) (C := RX9) (T := TX9) (N := 18) hx hb hts mc_X9_layOrder_9 tyX9 tyX9_ok nmX9 hown hK hP hD hS 0 rfl rfl 6 (by decide) (hts _ ml_X9_layOrder_1) (fun _ h9 => h9) rfl (by decide +kernel) rfl rfl (Nat.le_of_ble_eq_true rfl) dX9_layOrder_91 (fun H locs hP hD hS => ?_)
                    have hP : va_P D vwCl [(a_this, .inr (9, [.ref a_s, .ref a_before, .ref a_kept, .ref a_aside, .ref a_order, .ref a_rank, .int (v_onWall_37 + (1 : Int32)), .ref a_straight, .ref a_sorted, .ref a_longest, .int v_straightMany, .ref a_read, .ref a_text, .int v_length, .int v_states, .int v_isKept, .int v_at, .int v_cards])), (a_s, .inl (cI, 316, .inl v_s)), (a_order, .inl (cI, 40, .inl (upd v_order_37 (v_onWall_37).toNatClampNeg (v_s (((r_4 + (1 : Int32)) + x2_37)).toNatClampNeg)))), (a_rank, .inl (cI, 40, .inl (upd v_rank_37 ((v_s (((r_4 + (1 : Int32)) + x2_37)).toNatClampNeg)).toNatClampNeg v_onWall_37)))] H := hP
                    have hD : va_D A [(a_this, .inr (9, [.ref a_s, .ref a_before, .ref a_kept, .ref a_aside, .ref a_order, .ref a_rank, .int (v_onWall_37 + (1 : Int32)), .ref a_straight, .ref a_sorted, .ref a_longest, .int v_straightMany, .ref a_read, .ref a_text, .int v_length, .int v_states, .int v_isKept, .int v_at, .int v_cards])), (a_s, .inl (cI, 316, .inl v_s)), (a_order, .inl (cI, 40, .inl (upd v_order_37 (v_onWall_37).toNatClampNeg (v_s (((r_4 + (1 : Int32)) + x2_37)).toNatClampNeg)))), (a_rank, .inl (cI, 40, .inl (upd v_rank_37 ((v_s (((r_4 + (1 : Int32)) + x2_37)).toNatClampNeg)).toNatClampNeg v_onWall_37)))] := hD
                    refine lv_iinc (v := (x2_37 + (1 : Int32))) (lv' := [(2, .int (x2_37 + (1 : Int32))), (3, .int (v_s (((r_4 + (1 : Int32)) + x2_37)).toNatClampNeg)), (0, .ref a_this), (1, .int x1_29)]) hx hb dX9_layOrder_94 hl (k := 3) rfl rfl (by decide) rfl (fun ls hl => ?_)
                    refine lv_goto (tgt := 37) hx hb dX9_layOrder_97 (by decide) ?_
                    have hl : lv_has ls 4 [(0, .ref a_this), (1, .int x1_29), (2, .int (x2_37 + (1 : Int32)))] := lv_sub hl [2, 3, 0] rfl
                    exact ih37 (x2_37 + (1 : Int32)) (v_onWall_37 + (1 : Int32)) (upd v_order_37 (v_onWall_37).toNatClampNeg (v_s (((r_4 + (1 : Int32)) + x2_37)).toNatClampNeg)) (upd v_rank_37 ((v_s (((r_4 + (1 : Int32)) + x2_37)).toNatClampNeg)).toNatClampNeg v_onWall_37) (Nat.lt_of_lt_of_le hwp.2 (Nat.le_of_lt_succ hμ37)) hwp.1 _ _ hP hD hS ls hl
              exact hL37 _ (0 : Int32) v_onWall_29 v_order_29 v_rank_29 (Nat.lt_succ_self _) hJ _ _ hP hD hS ls hl
        exact hL29 _ (0 : Int32) (0 : Int32) v_order v_rank_7 (Nat.lt_succ_self _) hJ _ _ hP hD hS ls hl
      · have hwp := hwp.2 hc
        refine lv_aload_n hx hb dX9_layOrder_13 rfl (lv_at hl 0 rfl) ?_
        refine va_get (D := D) (ci := 9) (v := .ref a_rank) (C := RX9) (T := TX9) (N := 18) hx hb hts mc_X9_layOrder_9 hown hK hP 0 rfl rfl 5 (by decide) (hts _ ml_X9_layOrder_4) (fun _ h9 => h9) rfl dX9_layOrder_14 ?_
        refine lv_iload_n hx hb dX9_layOrder_17 rfl (lv_at hl 1 rfl) ?_
        refine lv_bipush (v := -5) hx hb dX9_layOrder_18 (by decide) ?_
        have hn_9 := hwp.1
        have hwp := hwp.2
        refine va_iast (D := D) hx hb hK hP hD hS 3 0 rfl rfl hn_9 dX9_layOrder_20 (fun H locs hP hD hS => ?_)
        have hP : va_P D vwCl [(a_this, .inr (9, [.ref a_s, .ref a_before, .ref a_kept, .ref a_aside, .ref a_order, .ref a_rank, .int (0 : Int32), .ref a_straight, .ref a_sorted, .ref a_longest, .int v_straightMany, .ref a_read, .ref a_text, .int v_length, .int v_states, .int v_isKept, .int v_at, .int v_cards])), (a_s, .inl (cI, 316, .inl v_s)), (a_order, .inl (cI, 40, .inl v_order)), (a_rank, .inl (cI, 40, .inl (upd v_rank_7 (x1_7).toNatClampNeg (-5 : Int32))))] H := hP
        have hD : va_D A [(a_this, .inr (9, [.ref a_s, .ref a_before, .ref a_kept, .ref a_aside, .ref a_order, .ref a_rank, .int (0 : Int32), .ref a_straight, .ref a_sorted, .ref a_longest, .int v_straightMany, .ref a_read, .ref a_text, .int v_length, .int v_states, .int v_isKept, .int v_at, .int v_cards])), (a_s, .inl (cI, 316, .inl v_s)), (a_order, .inl (cI, 40, .inl v_order)), (a_rank, .inl (cI, 40, .inl (upd v_rank_7 (x1_7).toNatClampNeg (-5 : Int32))))] := hD
        refine lv_iinc (v := (x1_7 + (1 : Int32))) (lv' := [(1, .int (x1_7 + (1 : Int32))), (0, .ref a_this)]) hx hb dX9_layOrder_21 hl (k := 1) rfl rfl (by decide) rfl (fun ls hl => ?_)
        refine lv_goto (tgt := 7) hx hb dX9_layOrder_24 (by decide) ?_
        have hl : lv_has ls 4 [(0, .ref a_this), (1, .int (x1_7 + (1 : Int32)))] := lv_sub hl [1, 0] rfl
        exact ih7 (x1_7 + (1 : Int32)) (upd v_rank_7 (x1_7).toNatClampNeg (-5 : Int32)) (Nat.lt_of_lt_of_le hwp.2 (Nat.le_of_lt_succ hμ7)) hwp.1 _ _ hP hD hS ls hl
  exact hL7 _ (0 : Int32) v_rank (Nat.lt_succ_self _) hJ _ _ hP hD hS ls hl
theorem mc_X9_sceneOf_9 : ∀ w ∈ u_ws RX9 TX9 18, w ∈ wsX9_sceneOf := fun w h => List.mem_cons_of_mem _ (List.mem_append_right _ h)
theorem ml_X9_sceneOf_1 : (.fieldLink RX9 7 "StoryWallModel" "s" "[I" : Cond) ∈ wsX9_sceneOf := List.mem_of_getElem? (i := 1) rfl
abbrev rm_X9_sceneOf : Room := { frames := 1, cells := 0, slots := 0, locals := 20 }
set_option maxHeartbeats 4000000 in
set_option maxRecDepth 100000 in
theorem c_X9_sceneOf (l : Launch) (D : va_G) (cI cC cF cO : ClassId) (a_this a_s a_before a_kept a_aside a_order a_rank a_straight a_sorted a_longest a_read a_text : Nat) (v_onWall : Int32) (v_straightMany : Int32) (v_length : Int32) (v_states : Int32) (v_isKept : Int32) (v_at : Int32) (v_cards : Int32) (sz : Nat) (x1 : Int32) (v_s : Nat → Int32) (post : Int32 → Prop) (hwp : wp_X9_sceneOf x1 v_s post) : Met l yX9_sceneOf wsX9_sceneOf rm_X9_sceneOf (gPre D (gT cI cC cF cO) [.ref a_this, .int x1] [(a_this, .inr (9, [.ref a_s, .ref a_before, .ref a_kept, .ref a_aside, .ref a_order, .ref a_rank, .int v_onWall, .ref a_straight, .ref a_sorted, .ref a_longest, .int v_straightMany, .ref a_read, .ref a_text, .int v_length, .int v_states, .int v_isKept, .int v_at, .int v_cards])), (a_s, .inl (cI, 316, .inl v_s))] sz) (va_Qi (S := Unit) (fun (r : Int32) (u : Unit) => post r ) (gB D (gT cI cC cF cO) (fun (u : Unit) => [(a_this, .inr (9, [.ref a_s, .ref a_before, .ref a_kept, .ref a_aside, .ref a_order, .ref a_rank, .int v_onWall, .ref a_straight, .ref a_sorted, .ref a_longest, .int v_straightMany, .ref a_read, .ref a_text, .int v_length, .int v_states, .int v_isKept, .int v_at, .int v_cards])), (a_s, .inl (cI, 316, .inl v_s))]) [(a_this, .inr (9, [.ref a_s, .ref a_before, .ref a_kept, .ref a_aside, .ref a_order, .ref a_rank, .int v_onWall, .ref a_straight, .ref a_sorted, .ref a_longest, .int v_straightMany, .ref a_read, .ref a_text, .int v_length, .int v_states, .int v_isKept, .int v_at, .int v_cards])), (a_s, .inl (cI, 316, .inl v_s))] sz) (va_A [(a_this, .inr (9, [.ref a_s, .ref a_before, .ref a_kept, .ref a_aside, .ref a_order, .ref a_rank, .int v_onWall, .ref a_straight, .ref a_sorted, .ref a_longest, .int v_straightMany, .ref a_read, .ref a_text, .int v_length, .int v_states, .int v_isKept, .int v_at, .int v_cards])), (a_s, .inl (cI, 316, .inl v_s))] sz)) 0 0 (va_A [(a_this, .inr (9, [.ref a_s, .ref a_before, .ref a_kept, .ref a_aside, .ref a_order, .ref a_rank, .int v_onWall, .ref a_straight, .ref a_sorted, .ref a_longest, .int v_straightMany, .ref a_read, .ref a_text, .int v_length, .int v_states, .int v_isKept, .int v_at, .int v_cards])), (a_s, .inl (cI, 316, .inl v_s))] sz) := by
  refine gOfi (own := RX9) (cc := cX9_sceneOf) (maxL := 5) (ret := (some .int)) rfl (by decide) rfl (Nat.le_of_ble_eq_true rfl) rfl ?_
  intro p e s m below meth c A args Q hAe hx hb hr hts hown hml hlocks hname hA hK hX hT hP hD hS hret ls hl
  have hl : lv_has ls 5 [(0, .ref a_this), (1, .int x1)] := hl
  unfold wp_X9_sceneOf at hwp
  refine lv_bipush (v := -5) hx hb dX9_sceneOf_0 (by decide) ?_
  refine lv_istore_n (lv' := [(2, .int (-5 : Int32)), (0, .ref a_this), (1, .int x1)]) hx hb dX9_sceneOf_2 rfl hl (by decide) rfl (fun ls hl => ?_)
  refine lv_iconst (v := 0) hx hb dX9_sceneOf_3 (by decide) ?_
  refine lv_istore_n (lv' := [(3, .int (0 : Int32)), (2, .int (-5 : Int32)), (0, .ref a_this), (1, .int x1)]) hx hb dX9_sceneOf_4 rfl hl (by decide) rfl (fun ls hl => ?_)
  have hl : lv_has ls 5 [(0, .ref a_this), (1, .int x1), (2, .int (-5 : Int32)), (3, .int (0 : Int32))] := lv_sub hl [2, 3, 1, 0] rfl
  unfold wp_X9_sceneOf_l5 at hwp
  obtain ⟨J5, μ5, hJ, hst5⟩ := hwp
  have hL5 : ∀ (n : Nat) (x2_5 : Int32) (x3_5 : Int32), μ5 x2_5 x3_5 < n → J5 x2_5 x3_5 → ∀ (H : Heap) (locs : List Loc), va_P D vwCl [(a_this, .inr (9, [.ref a_s, .ref a_before, .ref a_kept, .ref a_aside, .ref a_order, .ref a_rank, .int v_onWall, .ref a_straight, .ref a_sorted, .ref a_longest, .int v_straightMany, .ref a_read, .ref a_text, .int v_length, .int v_states, .int v_isKept, .int v_at, .int v_cards])), (a_s, .inl (cI, 316, .inl v_s))] H → va_D A [(a_this, .inr (9, [.ref a_s, .ref a_before, .ref a_kept, .ref a_aside, .ref a_order, .ref a_rank, .int v_onWall, .ref a_straight, .ref a_sorted, .ref a_longest, .int v_straightMany, .ref a_read, .ref a_text, .int v_length, .int v_states, .int v_isKept, .int v_at, .int v_cards])), (a_s, .inl (cI, 316, .inl v_s))] → va_S A s.heap H locs → ∀ ls : Array Slot, lv_has ls 5 [(0, .ref a_this), (1, .int x1), (2, .int x2_5), (3, .int x3_5)] → W p l e rm_X9_sceneOf s m args below meth c H locs 0 0 Q (F0 m 5 ls []) := by
    intro n
    induction n with
    | zero => intro x2_5 x3_5 h; exact absurd h (Nat.not_lt_zero _)
    | succ n ih5 =>
      intro x2_5 x3_5 hμ5 hJ H locs hP hD hS ls hl
      have hwp := hst5 x2_5 x3_5 hJ
      refine lv_iload_n hx hb dX9_sceneOf_5 rfl (lv_at hl 3 rfl) ?_
      refine lv_bipush (v := 16) hx hb dX9_sceneOf_6 (by decide) ?_
      refine lv_icmp_ge (tgt := 64) hx hb dX9_sceneOf_8 (by decide) (fun hc => ?_) (fun hc => ?_)
      · have hwp := hwp.1 hc
        refine lv_iload_n hx hb dX9_sceneOf_64 rfl (lv_at hl 2 rfl) ?_
        exact hret () [0, 1] dX9_sceneOf_65 hwp rfl rfl hP hD hS
      · have hwp := hwp.2 hc
        refine lv_iconst (v := 0) hx hb dX9_sceneOf_11 (by decide) ?_
        refine lv_istore (lv' := [(4, .int (0 : Int32)), (0, .ref a_this), (1, .int x1), (2, .int x2_5), (3, .int x3_5)]) hx hb dX9_sceneOf_12 hl (by decide) rfl (fun ls hl => ?_)
        have hl : lv_has ls 5 [(0, .ref a_this), (1, .int x1), (2, .int x2_5), (3, .int x3_5), (4, .int (0 : Int32))] := lv_sub hl [1, 2, 3, 4, 0] rfl
        unfold wp_X9_sceneOf_l14 at hwp
        obtain ⟨J14, μ14, hJ, hst14⟩ := hwp
        have hL14 : ∀ (n : Nat) (x2_14 : Int32) (x4_14 : Int32), μ14 x2_14 x4_14 < n → J14 x2_14 x4_14 → ∀ (H : Heap) (locs : List Loc), va_P D vwCl [(a_this, .inr (9, [.ref a_s, .ref a_before, .ref a_kept, .ref a_aside, .ref a_order, .ref a_rank, .int v_onWall, .ref a_straight, .ref a_sorted, .ref a_longest, .int v_straightMany, .ref a_read, .ref a_text, .int v_length, .int v_states, .int v_isKept, .int v_at, .int v_cards])), (a_s, .inl (cI, 316, .inl v_s))] H → va_D A [(a_this, .inr (9, [.ref a_s, .ref a_before, .ref a_kept, .ref a_aside, .ref a_order, .ref a_rank, .int v_onWall, .ref a_straight, .ref a_sorted, .ref a_longest, .int v_straightMany, .ref a_read, .ref a_text, .int v_length, .int v_states, .int v_isKept, .int v_at, .int v_cards])), (a_s, .inl (cI, 316, .inl v_s))] → va_S A s.heap H locs → ∀ ls : Array Slot, lv_has ls 5 [(0, .ref a_this), (1, .int x1), (2, .int x2_14), (3, .int x3_5), (4, .int x4_14)] → W p l e rm_X9_sceneOf s m args below meth c H locs 0 0 Q (F0 m 14 ls []) := by
          intro n
          induction n with
          | zero => intro x2_14 x4_14 h; exact absurd h (Nat.not_lt_zero _)
          | succ n ih14 =>
            intro x2_14 x4_14 hμ14 hJ H locs hP hD hS ls hl
            have hwp := hst14 x2_14 x4_14 hJ
            refine lv_iload hx hb dX9_sceneOf_14 (lv_at hl 4 rfl) ?_
            refine lv_aload_n hx hb dX9_sceneOf_16 rfl (lv_at hl 0 rfl) ?_
            refine va_get (D := D) (ci := 9) (v := .ref a_s) (C := RX9) (T := TX9) (N := 18) hx hb hts mc_X9_sceneOf_9 hown hK hP 0 rfl rfl 0 (by decide) (hts _ ml_X9_sceneOf_1) (fun _ h9 => h9) rfl dX9_sceneOf_17 ?_
            refine lv_iload_n hx hb dX9_sceneOf_20 rfl (lv_at hl 3 rfl) ?_
            refine gBacki (D := D) (tys := gT cI cC cF cO) (A := A) (wr := [(a_this, .inr (9, [.ref a_s, .ref a_before, .ref a_kept, .ref a_aside, .ref a_order, .ref a_rank, .int v_onWall, .ref a_straight, .ref a_sorted, .ref a_longest, .int v_straightMany, .ref a_read, .ref a_text, .int v_length, .int v_states, .int v_isKept, .int v_at, .int v_cards])), (a_s, .inl (cI, 316, .inl v_s))]) (w1 := (fun u_2 : Unit => [])) (va_runS (As := [.int x3_5]) (rest := [.ref a_s, .int x4_14]) ⟨hx, hb, hml, hown, hts⟩ (c_X9_row l D cI cC cF cO  _ _ _ hwp) (va_cwS 1 hts gX9_sceneOf_X9_row rfl rfl rfl (by decide +kernel) ⟨Nat.le_of_ble_eq_true rfl, Nat.le_of_ble_eq_true rfl⟩) (gPreS hK hX hT hP hD hS hA [] rfl rfl) rfl rfl hl.1 rfl (lv_room (Nat.le_of_ble_eq_true rfl)) dX9_sceneOf_21 ⟨Nat.le_of_ble_eq_true rfl, Nat.le_of_ble_eq_true rfl⟩) hP hD hS hA [] [0, 1] rfl rfl rfl (by decide) (fun r_1 u_2 H locs hwp hP hD hS => ?_)
            have hP : va_P D vwCl [(a_this, .inr (9, [.ref a_s, .ref a_before, .ref a_kept, .ref a_aside, .ref a_order, .ref a_rank, .int v_onWall, .ref a_straight, .ref a_sorted, .ref a_longest, .int v_straightMany, .ref a_read, .ref a_text, .int v_length, .int v_states, .int v_isKept, .int v_at, .int v_cards])), (a_s, .inl (cI, 316, .inl v_s))] H := hP
            have hD : va_D A [(a_this, .inr (9, [.ref a_s, .ref a_before, .ref a_kept, .ref a_aside, .ref a_order, .ref a_rank, .int v_onWall, .ref a_straight, .ref a_sorted, .ref a_longest, .int v_straightMany, .ref a_read, .ref a_text, .int v_length, .int v_states, .int v_isKept, .int v_at, .int v_cards])), (a_s, .inl (cI, 316, .inl v_s))] := hD
            have hn_3 := hwp.1
            have hwp := hwp.2
            refine va_iald (D := D) hx hb hK hP 1 0 rfl rfl hn_3 dX9_sceneOf_24 ?_
            refine lv_icmp_ge (tgt := 58) hx hb dX9_sceneOf_25 (by decide) (fun hc => ?_) (fun hc => ?_)
            · have hwp := hwp.1 hc
              refine lv_iinc (v := (x3_5 + (1 : Int32))) (lv' := [(3, .int (x3_5 + (1 : Int32))), (0, .ref a_this), (1, .int x1), (2, .int x2_14), (4, .int x4_14)]) hx hb dX9_sceneOf_58 hl (k := 3) rfl rfl (by decide) rfl (fun ls hl => ?_)
              refine lv_goto (tgt := 5) hx hb dX9_sceneOf_61 (by decide) ?_
              have hl : lv_has ls 5 [(0, .ref a_this), (1, .int x1), (2, .int x2_14), (3, .int (x3_5 + (1 : Int32)))] := lv_sub hl [1, 2, 3, 0] rfl
              exact ih5 x2_14 (x3_5 + (1 : Int32)) (Nat.lt_of_lt_of_le hwp.2 (Nat.le_of_lt_succ hμ5)) hwp.1 _ _ hP hD hS ls hl
            · have hwp := hwp.2 hc
              refine lv_aload_n hx hb dX9_sceneOf_28 rfl (lv_at hl 0 rfl) ?_
              refine va_get (D := D) (ci := 9) (v := .ref a_s) (C := RX9) (T := TX9) (N := 18) hx hb hts mc_X9_sceneOf_9 hown hK hP 0 rfl rfl 0 (by decide) (hts _ ml_X9_sceneOf_1) (fun _ h9 => h9) rfl dX9_sceneOf_29 ?_
              refine lv_iload_n hx hb dX9_sceneOf_32 rfl (lv_at hl 3 rfl) ?_
              refine gBacki (D := D) (tys := gT cI cC cF cO) (A := A) (wr := [(a_this, .inr (9, [.ref a_s, .ref a_before, .ref a_kept, .ref a_aside, .ref a_order, .ref a_rank, .int v_onWall, .ref a_straight, .ref a_sorted, .ref a_longest, .int v_straightMany, .ref a_read, .ref a_text, .int v_length, .int v_states, .int v_isKept, .int v_at, .int v_cards])), (a_s, .inl (cI, 316, .inl v_s))]) (w1 := (fun u_5 : Unit => [])) (va_runS (As := [.int x3_5]) (rest := [.ref a_s]) ⟨hx, hb, hml, hown, hts⟩ (c_X9_row l D cI cC cF cO  _ _ _ hwp) (va_cwS 1 hts gX9_sceneOf_X9_row rfl rfl rfl (by decide +kernel) ⟨Nat.le_of_ble_eq_true rfl, Nat.le_of_ble_eq_true rfl⟩) (gPreS hK hX hT hP hD hS hA [] rfl rfl) rfl rfl hl.1 rfl (lv_room (Nat.le_of_ble_eq_true rfl)) dX9_sceneOf_33 ⟨Nat.le_of_ble_eq_true rfl, Nat.le_of_ble_eq_true rfl⟩) hP hD hS hA [] [0, 1] rfl rfl rfl (by decide) (fun r_4 u_5 H locs hwp hP hD hS => ?_)
              have hP : va_P D vwCl [(a_this, .inr (9, [.ref a_s, .ref a_before, .ref a_kept, .ref a_aside, .ref a_order, .ref a_rank, .int v_onWall, .ref a_straight, .ref a_sorted, .ref a_longest, .int v_straightMany, .ref a_read, .ref a_text, .int v_length, .int v_states, .int v_isKept, .int v_at, .int v_cards])), (a_s, .inl (cI, 316, .inl v_s))] H := hP
              have hD : va_D A [(a_this, .inr (9, [.ref a_s, .ref a_before, .ref a_kept, .ref a_aside, .ref a_order, .ref a_rank, .int v_onWall, .ref a_straight, .ref a_sorted, .ref a_longest, .int v_straightMany, .ref a_read, .ref a_text, .int v_length, .int v_states, .int v_isKept, .int v_at, .int v_cards])), (a_s, .inl (cI, 316, .inl v_s))] := hD
              refine lv_iconst (v := 1) hx hb dX9_sceneOf_36 (by decide) ?_
              refine lv_iadd hx hb dX9_sceneOf_37 ?_
              refine lv_iload hx hb dX9_sceneOf_38 (lv_at hl 4 rfl) ?_
              refine lv_iadd hx hb dX9_sceneOf_40 ?_
              have hn_6 := hwp.1
              have hwp := hwp.2
              refine va_iald (D := D) hx hb hK hP 1 0 rfl rfl hn_6 dX9_sceneOf_41 ?_
              refine lv_iload_n hx hb dX9_sceneOf_42 rfl (lv_at hl 1 rfl) ?_
              refine lv_icmp_ne (tgt := 50) hx hb dX9_sceneOf_43 (by decide) (fun hc => ?_) (fun hc => ?_)
              · have hwp := hwp.2 hc
                refine lv_iload_n hx hb dX9_sceneOf_50 rfl (lv_at hl 2 rfl) ?_
                refine lv_istore_n (lv' := [(2, .int x2_14), (0, .ref a_this), (1, .int x1), (3, .int x3_5), (4, .int x4_14)]) hx hb dX9_sceneOf_51 rfl hl (by decide) rfl (fun ls hl => ?_)
                refine lv_iinc (v := (x4_14 + (1 : Int32))) (lv' := [(4, .int (x4_14 + (1 : Int32))), (2, .int x2_14), (0, .ref a_this), (1, .int x1), (3, .int x3_5)]) hx hb dX9_sceneOf_52 hl (k := 4) rfl rfl (by decide) rfl (fun ls hl => ?_)
                refine lv_goto (tgt := 14) hx hb dX9_sceneOf_55 (by decide) ?_
                have hl : lv_has ls 5 [(0, .ref a_this), (1, .int x1), (2, .int x2_14), (3, .int x3_5), (4, .int (x4_14 + (1 : Int32)))] := lv_sub hl [2, 3, 1, 4, 0] rfl
                exact ih14 x2_14 (x4_14 + (1 : Int32)) (Nat.lt_of_lt_of_le hwp.2 (Nat.le_of_lt_succ hμ14)) hwp.1 _ _ hP hD hS ls hl
              · have hwp := hwp.1 hc
                refine lv_iload_n hx hb dX9_sceneOf_46 rfl (lv_at hl 3 rfl) ?_
                refine lv_goto (tgt := 51) hx hb dX9_sceneOf_47 (by decide) ?_
                refine lv_istore_n (lv' := [(2, .int x3_5), (0, .ref a_this), (1, .int x1), (3, .int x3_5), (4, .int x4_14)]) hx hb dX9_sceneOf_51 rfl hl (by decide) rfl (fun ls hl => ?_)
                refine lv_iinc (v := (x4_14 + (1 : Int32))) (lv' := [(4, .int (x4_14 + (1 : Int32))), (2, .int x3_5), (0, .ref a_this), (1, .int x1), (3, .int x3_5)]) hx hb dX9_sceneOf_52 hl (k := 4) rfl rfl (by decide) rfl (fun ls hl => ?_)
                refine lv_goto (tgt := 14) hx hb dX9_sceneOf_55 (by decide) ?_
                have hl : lv_has ls 5 [(0, .ref a_this), (1, .int x1), (2, .int x3_5), (3, .int x3_5), (4, .int (x4_14 + (1 : Int32)))] := lv_sub hl [2, 3, 1, 4, 0] rfl
                exact ih14 x3_5 (x4_14 + (1 : Int32)) (Nat.lt_of_lt_of_le hwp.2 (Nat.le_of_lt_succ hμ14)) hwp.1 _ _ hP hD hS ls hl
        exact hL14 _ x2_5 (0 : Int32) (Nat.lt_succ_self _) hJ _ _ hP hD hS ls hl
  exact hL5 _ (-5 : Int32) (0 : Int32) (Nat.lt_succ_self _) hJ _ _ hP hD hS ls hl
theorem mc_X9_placeOf_9 : ∀ w ∈ u_ws RX9 TX9 18, w ∈ wsX9_placeOf := fun w h => List.mem_cons_of_mem _ (List.mem_append_right _ h)
theorem ml_X9_placeOf_1 : (.fieldLink RX9 7 "StoryWallModel" "s" "[I" : Cond) ∈ wsX9_placeOf := List.mem_of_getElem? (i := 1) rfl
abbrev rm_X9_placeOf : Room := { frames := 1, cells := 0, slots := 0, locals := 20 }
set_option maxHeartbeats 4000000 in
set_option maxRecDepth 100000 in
theorem c_X9_placeOf (l : Launch) (D : va_G) (cI cC cF cO : ClassId) (a_this a_s a_before a_kept a_aside a_order a_rank a_straight a_sorted a_longest a_read a_text : Nat) (v_onWall : Int32) (v_straightMany : Int32) (v_length : Int32) (v_states : Int32) (v_isKept : Int32) (v_at : Int32) (v_cards : Int32) (sz : Nat) (x1 : Int32) (v_s : Nat → Int32) (post : Int32 → Prop) (hwp : wp_X9_placeOf x1 v_s post) : Met l yX9_placeOf wsX9_placeOf rm_X9_placeOf (gPre D (gT cI cC cF cO) [.ref a_this, .int x1] [(a_this, .inr (9, [.ref a_s, .ref a_before, .ref a_kept, .ref a_aside, .ref a_order, .ref a_rank, .int v_onWall, .ref a_straight, .ref a_sorted, .ref a_longest, .int v_straightMany, .ref a_read, .ref a_text, .int v_length, .int v_states, .int v_isKept, .int v_at, .int v_cards])), (a_s, .inl (cI, 316, .inl v_s))] sz) (va_Qi (S := Unit) (fun (r : Int32) (u : Unit) => post r ) (gB D (gT cI cC cF cO) (fun (u : Unit) => [(a_this, .inr (9, [.ref a_s, .ref a_before, .ref a_kept, .ref a_aside, .ref a_order, .ref a_rank, .int v_onWall, .ref a_straight, .ref a_sorted, .ref a_longest, .int v_straightMany, .ref a_read, .ref a_text, .int v_length, .int v_states, .int v_isKept, .int v_at, .int v_cards])), (a_s, .inl (cI, 316, .inl v_s))]) [(a_this, .inr (9, [.ref a_s, .ref a_before, .ref a_kept, .ref a_aside, .ref a_order, .ref a_rank, .int v_onWall, .ref a_straight, .ref a_sorted, .ref a_longest, .int v_straightMany, .ref a_read, .ref a_text, .int v_length, .int v_states, .int v_isKept, .int v_at, .int v_cards])), (a_s, .inl (cI, 316, .inl v_s))] sz) (va_A [(a_this, .inr (9, [.ref a_s, .ref a_before, .ref a_kept, .ref a_aside, .ref a_order, .ref a_rank, .int v_onWall, .ref a_straight, .ref a_sorted, .ref a_longest, .int v_straightMany, .ref a_read, .ref a_text, .int v_length, .int v_states, .int v_isKept, .int v_at, .int v_cards])), (a_s, .inl (cI, 316, .inl v_s))] sz)) 0 0 (va_A [(a_this, .inr (9, [.ref a_s, .ref a_before, .ref a_kept, .ref a_aside, .ref a_order, .ref a_rank, .int v_onWall, .ref a_straight, .ref a_sorted, .ref a_longest, .int v_straightMany, .ref a_read, .ref a_text, .int v_length, .int v_states, .int v_isKept, .int v_at, .int v_cards])), (a_s, .inl (cI, 316, .inl v_s))] sz) := by
  refine gOfi (own := RX9) (cc := cX9_placeOf) (maxL := 5) (ret := (some .int)) rfl (by decide) rfl (Nat.le_of_ble_eq_true rfl) rfl ?_
  intro p e s m below meth c A args Q hAe hx hb hr hts hown hml hlocks hname hA hK hX hT hP hD hS hret ls hl
  have hl : lv_has ls 5 [(0, .ref a_this), (1, .int x1)] := hl
  unfold wp_X9_placeOf at hwp
  refine lv_bipush (v := -5) hx hb dX9_placeOf_0 (by decide) ?_
  refine lv_istore_n (lv' := [(2, .int (-5 : Int32)), (0, .ref a_this), (1, .int x1)]) hx hb dX9_placeOf_2 rfl hl (by decide) rfl (fun ls hl => ?_)
  refine lv_iconst (v := 0) hx hb dX9_placeOf_3 (by decide) ?_
  refine lv_istore_n (lv' := [(3, .int (0 : Int32)), (2, .int (-5 : Int32)), (0, .ref a_this), (1, .int x1)]) hx hb dX9_placeOf_4 rfl hl (by decide) rfl (fun ls hl => ?_)
  have hl : lv_has ls 5 [(0, .ref a_this), (1, .int x1), (2, .int (-5 : Int32)), (3, .int (0 : Int32))] := lv_sub hl [2, 3, 1, 0] rfl
  unfold wp_X9_placeOf_l5 at hwp
  obtain ⟨J5, μ5, hJ, hst5⟩ := hwp
  have hL5 : ∀ (n : Nat) (x2_5 : Int32) (x3_5 : Int32), μ5 x2_5 x3_5 < n → J5 x2_5 x3_5 → ∀ (H : Heap) (locs : List Loc), va_P D vwCl [(a_this, .inr (9, [.ref a_s, .ref a_before, .ref a_kept, .ref a_aside, .ref a_order, .ref a_rank, .int v_onWall, .ref a_straight, .ref a_sorted, .ref a_longest, .int v_straightMany, .ref a_read, .ref a_text, .int v_length, .int v_states, .int v_isKept, .int v_at, .int v_cards])), (a_s, .inl (cI, 316, .inl v_s))] H → va_D A [(a_this, .inr (9, [.ref a_s, .ref a_before, .ref a_kept, .ref a_aside, .ref a_order, .ref a_rank, .int v_onWall, .ref a_straight, .ref a_sorted, .ref a_longest, .int v_straightMany, .ref a_read, .ref a_text, .int v_length, .int v_states, .int v_isKept, .int v_at, .int v_cards])), (a_s, .inl (cI, 316, .inl v_s))] → va_S A s.heap H locs → ∀ ls : Array Slot, lv_has ls 5 [(0, .ref a_this), (1, .int x1), (2, .int x2_5), (3, .int x3_5)] → W p l e rm_X9_placeOf s m args below meth c H locs 0 0 Q (F0 m 5 ls []) := by
    intro n
    induction n with
    | zero => intro x2_5 x3_5 h; exact absurd h (Nat.not_lt_zero _)
    | succ n ih5 =>
      intro x2_5 x3_5 hμ5 hJ H locs hP hD hS ls hl
      have hwp := hst5 x2_5 x3_5 hJ
      refine lv_iload_n hx hb dX9_placeOf_5 rfl (lv_at hl 3 rfl) ?_
      refine lv_bipush (v := 16) hx hb dX9_placeOf_6 (by decide) ?_
      refine lv_icmp_ge (tgt := 65) hx hb dX9_placeOf_8 (by decide) (fun hc => ?_) (fun hc => ?_)
      · have hwp := hwp.1 hc
        refine lv_iload_n hx hb dX9_placeOf_65 rfl (lv_at hl 2 rfl) ?_
        exact hret () [0, 1] dX9_placeOf_66 hwp rfl rfl hP hD hS
      · have hwp := hwp.2 hc
        refine lv_iconst (v := 0) hx hb dX9_placeOf_11 (by decide) ?_
        refine lv_istore (lv' := [(4, .int (0 : Int32)), (0, .ref a_this), (1, .int x1), (2, .int x2_5), (3, .int x3_5)]) hx hb dX9_placeOf_12 hl (by decide) rfl (fun ls hl => ?_)
        have hl : lv_has ls 5 [(0, .ref a_this), (1, .int x1), (2, .int x2_5), (3, .int x3_5), (4, .int (0 : Int32))] := lv_sub hl [1, 2, 3, 4, 0] rfl
        unfold wp_X9_placeOf_l14 at hwp
        obtain ⟨J14, μ14, hJ, hst14⟩ := hwp
        have hL14 : ∀ (n : Nat) (x2_14 : Int32) (x4_14 : Int32), μ14 x2_14 x4_14 < n → J14 x2_14 x4_14 → ∀ (H : Heap) (locs : List Loc), va_P D vwCl [(a_this, .inr (9, [.ref a_s, .ref a_before, .ref a_kept, .ref a_aside, .ref a_order, .ref a_rank, .int v_onWall, .ref a_straight, .ref a_sorted, .ref a_longest, .int v_straightMany, .ref a_read, .ref a_text, .int v_length, .int v_states, .int v_isKept, .int v_at, .int v_cards])), (a_s, .inl (cI, 316, .inl v_s))] H → va_D A [(a_this, .inr (9, [.ref a_s, .ref a_before, .ref a_kept, .ref a_aside, .ref a_order, .ref a_rank, .int v_onWall, .ref a_straight, .ref a_sorted, .ref a_longest, .int v_straightMany, .ref a_read, .ref a_text, .int v_length, .int v_states, .int v_isKept, .int v_at, .int v_cards])), (a_s, .inl (cI, 316, .inl v_s))] → va_S A s.heap H locs → ∀ ls : Array Slot, lv_has ls 5 [(0, .ref a_this), (1, .int x1), (2, .int x2_14), (3, .int x3_5), (4, .int x4_14)] → W p l e rm_X9_placeOf s m args below meth c H locs 0 0 Q (F0 m 14 ls []) := by
          intro n
          induction n with
          | zero => intro x2_14 x4_14 h; exact absurd h (Nat.not_lt_zero _)
          | succ n ih14 =>
            intro x2_14 x4_14 hμ14 hJ H locs hP hD hS ls hl
            have hwp := hst14 x2_14 x4_14 hJ
            refine lv_iload hx hb dX9_placeOf_14 (lv_at hl 4 rfl) ?_
            refine lv_aload_n hx hb dX9_placeOf_16 rfl (lv_at hl 0 rfl) ?_
            refine va_get (D := D) (ci := 9) (v := .ref a_s) (C := RX9) (T := TX9) (N := 18) hx hb hts mc_X9_placeOf_9 hown hK hP 0 rfl rfl 0 (by decide) (hts _ ml_X9_placeOf_1) (fun _ h9 => h9) rfl dX9_placeOf_17 ?_
            refine lv_iload_n hx hb dX9_placeOf_20 rfl (lv_at hl 3 rfl) ?_
            refine gBacki (D := D) (tys := gT cI cC cF cO) (A := A) (wr := [(a_this, .inr (9, [.ref a_s, .ref a_before, .ref a_kept, .ref a_aside, .ref a_order, .ref a_rank, .int v_onWall, .ref a_straight, .ref a_sorted, .ref a_longest, .int v_straightMany, .ref a_read, .ref a_text, .int v_length, .int v_states, .int v_isKept, .int v_at, .int v_cards])), (a_s, .inl (cI, 316, .inl v_s))]) (w1 := (fun u_2 : Unit => [])) (va_runS (As := [.int x3_5]) (rest := [.ref a_s, .int x4_14]) ⟨hx, hb, hml, hown, hts⟩ (c_X9_row l D cI cC cF cO  _ _ _ hwp) (va_cwS 1 hts gX9_placeOf_X9_row rfl rfl rfl (by decide +kernel) ⟨Nat.le_of_ble_eq_true rfl, Nat.le_of_ble_eq_true rfl⟩) (gPreS hK hX hT hP hD hS hA [] rfl rfl) rfl rfl hl.1 rfl (lv_room (Nat.le_of_ble_eq_true rfl)) dX9_placeOf_21 ⟨Nat.le_of_ble_eq_true rfl, Nat.le_of_ble_eq_true rfl⟩) hP hD hS hA [] [0, 1] rfl rfl rfl (by decide) (fun r_1 u_2 H locs hwp hP hD hS => ?_)
            have hP : va_P D vwCl [(a_this, .inr (9, [.ref a_s, .ref a_before, .ref a_kept, .ref a_aside, .ref a_order, .ref a_rank, .int v_onWall, .ref a_straight, .ref a_sorted, .ref a_longest, .int v_straightMany, .ref a_read, .ref a_text, .int v_length, .int v_states, .int v_isKept, .int v_at, .int v_cards])), (a_s, .inl (cI, 316, .inl v_s))] H := hP
            have hD : va_D A [(a_this, .inr (9, [.ref a_s, .ref a_before, .ref a_kept, .ref a_aside, .ref a_order, .ref a_rank, .int v_onWall, .ref a_straight, .ref a_sorted, .ref a_longest, .int v_straightMany, .ref a_read, .ref a_text, .int v_length, .int v_states, .int v_isKept, .int v_at, .int v_cards])), (a_s, .inl (cI, 316, .inl v_s))] := hD
            have hn_3 := hwp.1
            have hwp := hwp.2
            refine va_iald (D := D) hx hb hK hP 1 0 rfl rfl hn_3 dX9_placeOf_24 ?_
            refine lv_icmp_ge (tgt := 59) hx hb dX9_placeOf_25 (by decide) (fun hc => ?_) (fun hc => ?_)
            · have hwp := hwp.1 hc
              refine lv_iinc (v := (x3_5 + (1 : Int32))) (lv' := [(3, .int (x3_5 + (1 : Int32))), (0, .ref a_this), (1, .int x1), (2, .int x2_14), (4, .int x4_14)]) hx hb dX9_placeOf_59 hl (k := 3) rfl rfl (by decide) rfl (fun ls hl => ?_)
              refine lv_goto (tgt := 5) hx hb dX9_placeOf_62 (by decide) ?_
              have hl : lv_has ls 5 [(0, .ref a_this), (1, .int x1), (2, .int x2_14), (3, .int (x3_5 + (1 : Int32)))] := lv_sub hl [1, 2, 3, 0] rfl
              exact ih5 x2_14 (x3_5 + (1 : Int32)) (Nat.lt_of_lt_of_le hwp.2 (Nat.le_of_lt_succ hμ5)) hwp.1 _ _ hP hD hS ls hl
            · have hwp := hwp.2 hc
              refine lv_aload_n hx hb dX9_placeOf_28 rfl (lv_at hl 0 rfl) ?_
              refine va_get (D := D) (ci := 9) (v := .ref a_s) (C := RX9) (T := TX9) (N := 18) hx hb hts mc_X9_placeOf_9 hown hK hP 0 rfl rfl 0 (by decide) (hts _ ml_X9_placeOf_1) (fun _ h9 => h9) rfl dX9_placeOf_29 ?_
              refine lv_iload_n hx hb dX9_placeOf_32 rfl (lv_at hl 3 rfl) ?_
              refine gBacki (D := D) (tys := gT cI cC cF cO) (A := A) (wr := [(a_this, .inr (9, [.ref a_s, .ref a_before, .ref a_kept, .ref a_aside, .ref a_order, .ref a_rank, .int v_onWall, .ref a_straight, .ref a_sorted, .ref a_longest, .int v_straightMany, .ref a_read, .ref a_text, .int v_length, .int v_states, .int v_isKept, .int v_at, .int v_cards])), (a_s, .inl (cI, 316, .inl v_s))]) (w1 := (fun u_5 : Unit => [])) (va_runS (As := [.int x3_5]) (rest := [.ref a_s]) ⟨hx, hb, hml, hown, hts⟩ (c_X9_row l D cI cC cF cO  _ _ _ hwp) (va_cwS 1 hts gX9_placeOf_X9_row rfl rfl rfl (by decide +kernel) ⟨Nat.le_of_ble_eq_true rfl, Nat.le_of_ble_eq_true rfl⟩) (gPreS hK hX hT hP hD hS hA [] rfl rfl) rfl rfl hl.1 rfl (lv_room (Nat.le_of_ble_eq_true rfl)) dX9_placeOf_33 ⟨Nat.le_of_ble_eq_true rfl, Nat.le_of_ble_eq_true rfl⟩) hP hD hS hA [] [0, 1] rfl rfl rfl (by decide) (fun r_4 u_5 H locs hwp hP hD hS => ?_)
              have hP : va_P D vwCl [(a_this, .inr (9, [.ref a_s, .ref a_before, .ref a_kept, .ref a_aside, .ref a_order, .ref a_rank, .int v_onWall, .ref a_straight, .ref a_sorted, .ref a_longest, .int v_straightMany, .ref a_read, .ref a_text, .int v_length, .int v_states, .int v_isKept, .int v_at, .int v_cards])), (a_s, .inl (cI, 316, .inl v_s))] H := hP
              have hD : va_D A [(a_this, .inr (9, [.ref a_s, .ref a_before, .ref a_kept, .ref a_aside, .ref a_order, .ref a_rank, .int v_onWall, .ref a_straight, .ref a_sorted, .ref a_longest, .int v_straightMany, .ref a_read, .ref a_text, .int v_length, .int v_states, .int v_isKept, .int v_at, .int v_cards])), (a_s, .inl (cI, 316, .inl v_s))] := hD
              refine lv_iconst (v := 1) hx hb dX9_placeOf_36 (by decide) ?_
              refine lv_iadd hx hb dX9_placeOf_37 ?_
              refine lv_iload hx hb dX9_placeOf_38 (lv_at hl 4 rfl) ?_
              refine lv_iadd hx hb dX9_placeOf_40 ?_
              have hn_6 := hwp.1
              have hwp := hwp.2
              refine va_iald (D := D) hx hb hK hP 1 0 rfl rfl hn_6 dX9_placeOf_41 ?_
              refine lv_iload_n hx hb dX9_placeOf_42 rfl (lv_at hl 1 rfl) ?_
              refine lv_icmp_ne (tgt := 51) hx hb dX9_placeOf_43 (by decide) (fun hc => ?_) (fun hc => ?_)
              · have hwp := hwp.2 hc
                refine lv_iload_n hx hb dX9_placeOf_51 rfl (lv_at hl 2 rfl) ?_
                refine lv_istore_n (lv' := [(2, .int x2_14), (0, .ref a_this), (1, .int x1), (3, .int x3_5), (4, .int x4_14)]) hx hb dX9_placeOf_52 rfl hl (by decide) rfl (fun ls hl => ?_)
                refine lv_iinc (v := (x4_14 + (1 : Int32))) (lv' := [(4, .int (x4_14 + (1 : Int32))), (2, .int x2_14), (0, .ref a_this), (1, .int x1), (3, .int x3_5)]) hx hb dX9_placeOf_53 hl (k := 4) rfl rfl (by decide) rfl (fun ls hl => ?_)
                refine lv_goto (tgt := 14) hx hb dX9_placeOf_56 (by decide) ?_
                have hl : lv_has ls 5 [(0, .ref a_this), (1, .int x1), (2, .int x2_14), (3, .int x3_5), (4, .int (x4_14 + (1 : Int32)))] := lv_sub hl [2, 3, 1, 4, 0] rfl
                exact ih14 x2_14 (x4_14 + (1 : Int32)) (Nat.lt_of_lt_of_le hwp.2 (Nat.le_of_lt_succ hμ14)) hwp.1 _ _ hP hD hS ls hl
              · have hwp := hwp.1 hc
                refine lv_iload hx hb dX9_placeOf_46 (lv_at hl 4 rfl) ?_
                refine lv_goto (tgt := 52) hx hb dX9_placeOf_48 (by decide) ?_
                refine lv_istore_n (lv' := [(2, .int x4_14), (0, .ref a_this), (1, .int x1), (3, .int x3_5), (4, .int x4_14)]) hx hb dX9_placeOf_52 rfl hl (by decide) rfl (fun ls hl => ?_)
                refine lv_iinc (v := (x4_14 + (1 : Int32))) (lv' := [(4, .int (x4_14 + (1 : Int32))), (2, .int x4_14), (0, .ref a_this), (1, .int x1), (3, .int x3_5)]) hx hb dX9_placeOf_53 hl (k := 4) rfl rfl (by decide) rfl (fun ls hl => ?_)
                refine lv_goto (tgt := 14) hx hb dX9_placeOf_56 (by decide) ?_
                have hl : lv_has ls 5 [(0, .ref a_this), (1, .int x1), (2, .int x4_14), (3, .int x3_5), (4, .int (x4_14 + (1 : Int32)))] := lv_sub hl [2, 3, 1, 4, 0] rfl
                exact ih14 x4_14 (x4_14 + (1 : Int32)) (Nat.lt_of_lt_of_le hwp.2 (Nat.le_of_lt_succ hμ14)) hwp.1 _ _ hP hD hS ls hl
        exact hL14 _ x2_5 (0 : Int32) (Nat.lt_succ_self _) hJ _ _ hP hD hS ls hl
  exact hL5 _ (-5 : Int32) (0 : Int32) (Nat.lt_succ_self _) hJ _ _ hP hD hS ls hl
