/-! contracts (by program): X8_bitsOf X8_spanBits -/
theorem ml_X8_bitsOf_0 : (.constantFloat RX8 298 (1258291200) : Cond) ∈ wsX8_bitsOf := List.mem_of_getElem? (i := 1) rfl
abbrev rm_X8_bitsOf : Room := { frames := 0, cells := 0, slots := 0, locals := 0 }
set_option maxHeartbeats 4000000 in
set_option maxRecDepth 100000 in
theorem c_X8_bitsOf (l : Launch) (D : va_G) (cI cC cF cO : ClassId)   (sz : Nat) (x0 : UInt32)  (post : Int32 → Prop) (hwp : wp_X8_bitsOf x0 post) : Met l yX8_bitsOf wsX8_bitsOf rm_X8_bitsOf (gPre D (gT cI cC cF cO) [.float x0] [] sz) (va_Qi (S := Unit) (fun (r : Int32) (u : Unit) => post r ) (gB D (gT cI cC cF cO) (fun (u : Unit) => []) [] sz) (va_A [] sz)) 0 0 (va_A [] sz) := by
  refine gOfi (own := RX8) (cc := cX8_bitsOf) (maxL := 3) (ret := (some .int)) rfl (by decide) rfl (Nat.le_of_ble_eq_true rfl) rfl ?_
  intro p e s m below meth c A args Q hAe hx hb hr hts hown hml hlocks hname hA hK hX hT hP hD hS hret ls hl
  have hl : lv_has ls 3 [(0, .float x0)] := hl
  unfold wp_X8_bitsOf at hwp
  have hj49 : ∀ (x1_49 : UInt32) (x2_49 : Int32) (H : Heap) (locs : List Loc), wp_X8_bitsOf_j49 x1_49 x2_49  post → va_P D vwCl [] H → va_D A [] → va_S A s.heap H locs → ∀ ls : Array Slot, lv_has ls 3 [(1, .float x1_49), (2, .int x2_49)] → W p l e rm_X8_bitsOf s m args below meth c H locs 0 0 Q (F0 m 49 ls []) := by
    intro x1_49 x2_49 H locs hwp hP hD hS ls hl
    unfold wp_X8_bitsOf_j49 at hwp
    refine lv_iload_n hx hb dX8_bitsOf_49 rfl (lv_at hl 1 rfl) ?_
    refine lv_iconst (v := 1) hx hb dX8_bitsOf_50 (by decide) ?_
    refine lv_isub hx hb dX8_bitsOf_51 ?_
    refine lv_bipush (v := 23) hx hb dX8_bitsOf_52 (by decide) ?_
    refine lv_ishl hx hb dX8_bitsOf_54 ?_
    refine lv_fload_n hx hb dX8_bitsOf_55 rfl (lv_at hl 0 rfl) ?_
    refine lv_ldcwf (v := 1258291200) hx hb hown (hts _ ml_X8_bitsOf_0) dX8_bitsOf_56 ?_
    have hn_1 := hwp.1
    have hwp := hwp.2
    refine lv_fmul hx hb dX8_bitsOf_59 hn_1 ?_
    refine lv_f2i hx hb dX8_bitsOf_60 ?_
    refine lv_iadd hx hb dX8_bitsOf_61 ?_
    exact hret () [] dX8_bitsOf_62 hwp rfl rfl hP hD hS
  refine lv_fload_n hx hb dX8_bitsOf_0 rfl (lv_at hl 0 rfl) ?_
  refine lv_fstore_n (lv' := [(1, .float x0), (0, .float x0)]) hx hb dX8_bitsOf_1 rfl hl (by decide) rfl (fun ls hl => ?_)
  refine lv_bipush (v := 127) hx hb dX8_bitsOf_2 (by decide) ?_
  refine lv_istore_n (lv' := [(2, .int (127 : Int32)), (1, .float x0), (0, .float x0)]) hx hb dX8_bitsOf_4 rfl hl (by decide) rfl (fun ls hl => ?_)
  have hl : lv_has ls 3 [(1, .float x0), (2, .int (127 : Int32))] := lv_sub hl [1, 0] rfl
  unfold wp_X8_bitsOf_l5 at hwp
  obtain ⟨J5, μ5, hJ, hst5⟩ := hwp
  have hL5 : ∀ (n : Nat) (x1_5 : UInt32) (x2_5 : Int32), μ5 x1_5 x2_5 < n → J5 x1_5 x2_5 → ∀ (H : Heap) (locs : List Loc), va_P D vwCl [] H → va_D A [] → va_S A s.heap H locs → ∀ ls : Array Slot, lv_has ls 3 [(1, .float x1_5), (2, .int x2_5)] → W p l e rm_X8_bitsOf s m args below meth c H locs 0 0 Q (F0 m 5 ls []) := by
    intro n
    induction n with
    | zero => intro x1_5 x2_5 h; exact absurd h (Nat.not_lt_zero _)
    | succ n ih5 =>
      intro x1_5 x2_5 hμ5 hJ H locs hP hD hS ls hl
      have hwp := hst5 x1_5 x2_5 hJ
      refine lv_fload_n hx hb dX8_bitsOf_5 rfl (lv_at hl 0 rfl) ?_
      refine lv_fconst2 hx hb dX8_bitsOf_6 ?_
      refine lv_fcmp hx hb dX8_bitsOf_7 ?_
      refine lv_if_lt (tgt := 28) hx hb dX8_bitsOf_8 (by decide) (fun hc => ?_) (fun hc => ?_)
      · have hwp := hwp.1 hc
        have hl : lv_has ls 3 [(1, .float x1_5), (2, .int x2_5)] := lv_sub hl [0, 1] rfl
        unfold wp_X8_bitsOf_l28 at hwp
        obtain ⟨J28, μ28, hJ, hst28⟩ := hwp
        have hL28 : ∀ (n : Nat) (x1_28 : UInt32) (x2_28 : Int32), μ28 x1_28 x2_28 < n → J28 x1_28 x2_28 → ∀ (H : Heap) (locs : List Loc), va_P D vwCl [] H → va_D A [] → va_S A s.heap H locs → ∀ ls : Array Slot, lv_has ls 3 [(1, .float x1_28), (2, .int x2_28)] → W p l e rm_X8_bitsOf s m args below meth c H locs 0 0 Q (F0 m 28 ls []) := by
          intro n
          induction n with
          | zero => intro x1_28 x2_28 h; exact absurd h (Nat.not_lt_zero _)
          | succ n ih28 =>
            intro x1_28 x2_28 hμ28 hJ H locs hP hD hS ls hl
            have hwp := hst28 x1_28 x2_28 hJ
            refine lv_fload_n hx hb dX8_bitsOf_28 rfl (lv_at hl 0 rfl) ?_
            refine lv_fconst1 hx hb dX8_bitsOf_29 ?_
            refine lv_fcmp hx hb dX8_bitsOf_30 ?_
            refine lv_if_ge (tgt := 49) hx hb dX8_bitsOf_31 (by decide) (fun hc => ?_) (fun hc => ?_)
            · have hwp := hwp.1 hc
              have hl : lv_has ls 3 [(1, .float x1_28), (2, .int x2_28)] := lv_sub hl [0, 1] rfl
              exact hj49 x1_28 x2_28 _ _ hwp hP hD hS ls hl
            · have hwp := hwp.2 hc
              refine lv_iload_n hx hb dX8_bitsOf_34 rfl (lv_at hl 1 rfl) ?_
              refine lv_iconst (v := 1) hx hb dX8_bitsOf_35 (by decide) ?_
              refine lv_icmp_le (tgt := 49) hx hb dX8_bitsOf_36 (by decide) (fun hc => ?_) (fun hc => ?_)
              · have hwp := hwp.1 hc
                have hl : lv_has ls 3 [(1, .float x1_28), (2, .int x2_28)] := lv_sub hl [0, 1] rfl
                exact hj49 x1_28 x2_28 _ _ hwp hP hD hS ls hl
              · have hwp := hwp.2 hc
                refine lv_fload_n hx hb dX8_bitsOf_39 rfl (lv_at hl 0 rfl) ?_
                refine lv_fconst2 hx hb dX8_bitsOf_40 ?_
                have hn_2 := hwp.1
                have hwp := hwp.2
                refine lv_fmul hx hb dX8_bitsOf_41 hn_2 ?_
                refine lv_fstore_n (lv' := [(1, .float (FP.fmul x1_28 FP.fconst2)), (2, .int x2_28)]) hx hb dX8_bitsOf_42 rfl hl (by decide) rfl (fun ls hl => ?_)
                refine lv_iinc (v := (x2_28 + (-1 : Int32))) (lv' := [(2, .int (x2_28 + (-1 : Int32))), (1, .float (FP.fmul x1_28 FP.fconst2))]) hx hb dX8_bitsOf_43 hl (k := 1) rfl rfl (by decide) rfl (fun ls hl => ?_)
                refine lv_goto (tgt := 28) hx hb dX8_bitsOf_46 (by decide) ?_
                have hl : lv_has ls 3 [(1, .float (FP.fmul x1_28 FP.fconst2)), (2, .int (x2_28 + (-1 : Int32)))] := lv_sub hl [1, 0] rfl
                exact ih28 (FP.fmul x1_28 FP.fconst2) (x2_28 + (-1 : Int32)) (Nat.lt_of_lt_of_le hwp.2 (Nat.le_of_lt_succ hμ28)) hwp.1 _ _ hP hD hS ls hl
        exact hL28 _ x1_5 x2_5 (Nat.lt_succ_self _) hJ _ _ hP hD hS ls hl
      · have hwp := hwp.2 hc
        refine lv_iload_n hx hb dX8_bitsOf_11 rfl (lv_at hl 1 rfl) ?_
        refine lv_sipush (v := 254) hx hb dX8_bitsOf_12 (by decide) ?_
        refine lv_icmp_ge (tgt := 28) hx hb dX8_bitsOf_15 (by decide) (fun hc => ?_) (fun hc => ?_)
        · have hwp := hwp.1 hc
          have hl : lv_has ls 3 [(1, .float x1_5), (2, .int x2_5)] := lv_sub hl [0, 1] rfl
          unfold wp_X8_bitsOf_l28 at hwp
          obtain ⟨J28, μ28, hJ, hst28⟩ := hwp
          have hL28 : ∀ (n : Nat) (x1_28 : UInt32) (x2_28 : Int32), μ28 x1_28 x2_28 < n → J28 x1_28 x2_28 → ∀ (H : Heap) (locs : List Loc), va_P D vwCl [] H → va_D A [] → va_S A s.heap H locs → ∀ ls : Array Slot, lv_has ls 3 [(1, .float x1_28), (2, .int x2_28)] → W p l e rm_X8_bitsOf s m args below meth c H locs 0 0 Q (F0 m 28 ls []) := by
            intro n
            induction n with
            | zero => intro x1_28 x2_28 h; exact absurd h (Nat.not_lt_zero _)
            | succ n ih28 =>
              intro x1_28 x2_28 hμ28 hJ H locs hP hD hS ls hl
              have hwp := hst28 x1_28 x2_28 hJ
              refine lv_fload_n hx hb dX8_bitsOf_28 rfl (lv_at hl 0 rfl) ?_
              refine lv_fconst1 hx hb dX8_bitsOf_29 ?_
              refine lv_fcmp hx hb dX8_bitsOf_30 ?_
              refine lv_if_ge (tgt := 49) hx hb dX8_bitsOf_31 (by decide) (fun hc => ?_) (fun hc => ?_)
              · have hwp := hwp.1 hc
                have hl : lv_has ls 3 [(1, .float x1_28), (2, .int x2_28)] := lv_sub hl [0, 1] rfl
                exact hj49 x1_28 x2_28 _ _ hwp hP hD hS ls hl
              · have hwp := hwp.2 hc
                refine lv_iload_n hx hb dX8_bitsOf_34 rfl (lv_at hl 1 rfl) ?_
                refine lv_iconst (v := 1) hx hb dX8_bitsOf_35 (by decide) ?_
                refine lv_icmp_le (tgt := 49) hx hb dX8_bitsOf_36 (by decide) (fun hc => ?_) (fun hc => ?_)
                · have hwp := hwp.1 hc
                  have hl : lv_has ls 3 [(1, .float x1_28), (2, .int x2_28)] := lv_sub hl [0, 1] rfl
                  exact hj49 x1_28 x2_28 _ _ hwp hP hD hS ls hl
                · have hwp := hwp.2 hc
                  refine lv_fload_n hx hb dX8_bitsOf_39 rfl (lv_at hl 0 rfl) ?_
                  refine lv_fconst2 hx hb dX8_bitsOf_40 ?_
                  have hn_3 := hwp.1
                  have hwp := hwp.2
                  refine lv_fmul hx hb dX8_bitsOf_41 hn_3 ?_
                  refine lv_fstore_n (lv' := [(1, .float (FP.fmul x1_28 FP.fconst2)), (2, .int x2_28)]) hx hb dX8_bitsOf_42 rfl hl (by decide) rfl (fun ls hl => ?_)
                  refine lv_iinc (v := (x2_28 + (-1 : Int32))) (lv' := [(2, .int (x2_28 + (-1 : Int32))), (1, .float (FP.fmul x1_28 FP.fconst2))]) hx hb dX8_bitsOf_43 hl (k := 1) rfl rfl (by decide) rfl (fun ls hl => ?_)
                  refine lv_goto (tgt := 28) hx hb dX8_bitsOf_46 (by decide) ?_
                  have hl : lv_has ls 3 [(1, .float (FP.fmul x1_28 FP.fconst2)), (2, .int (x2_28 + (-1 : Int32)))] := lv_sub hl [1, 0] rfl
                  exact ih28 (FP.fmul x1_28 FP.fconst2) (x2_28 + (-1 : Int32)) (Nat.lt_of_lt_of_le hwp.2 (Nat.le_of_lt_succ hμ28)) hwp.1 _ _ hP hD hS ls hl
          exact hL28 _ x1_5 x2_5 (Nat.lt_succ_self _) hJ _ _ hP hD hS ls hl
        · have hwp := hwp.2 hc
          refine lv_fload_n hx hb dX8_bitsOf_18 rfl (lv_at hl 0 rfl) ?_
          refine lv_fconst2 hx hb dX8_bitsOf_19 ?_
          have hn_4 := hwp.1
          have hwp := hwp.2
          refine lv_fdiv hx hb dX8_bitsOf_20 hn_4 ?_
          refine lv_fstore_n (lv' := [(1, .float (FP.fdiv x1_5 FP.fconst2)), (2, .int x2_5)]) hx hb dX8_bitsOf_21 rfl hl (by decide) rfl (fun ls hl => ?_)
          refine lv_iinc (v := (x2_5 + (1 : Int32))) (lv' := [(2, .int (x2_5 + (1 : Int32))), (1, .float (FP.fdiv x1_5 FP.fconst2))]) hx hb dX8_bitsOf_22 hl (k := 1) rfl rfl (by decide) rfl (fun ls hl => ?_)
          refine lv_goto (tgt := 5) hx hb dX8_bitsOf_25 (by decide) ?_
          have hl : lv_has ls 3 [(1, .float (FP.fdiv x1_5 FP.fconst2)), (2, .int (x2_5 + (1 : Int32)))] := lv_sub hl [1, 0] rfl
          exact ih5 (FP.fdiv x1_5 FP.fconst2) (x2_5 + (1 : Int32)) (Nat.lt_of_lt_of_le hwp.2 (Nat.le_of_lt_succ hμ5)) hwp.1 _ _ hP hD hS ls hl
  exact hL5 _ x0 (127 : Int32) (Nat.lt_succ_self _) hJ _ _ hP hD hS ls hl
theorem mc_X8_spanBits_8 : ∀ w ∈ u_ws RX8 TX8 9, w ∈ wsX8_spanBits := fun w h => List.mem_cons_of_mem _ (List.mem_append_left _ (List.mem_append_left _ (List.mem_append_left _ (List.mem_append_left _ (List.mem_append_right _ h)))))
theorem ml_X8_spanBits_1 : (.fieldLink RX8 57 "StoryWall" "tensions" "LStoryWall$Tensions;" : Cond) ∈ wsX8_spanBits := List.mem_of_getElem? (i := 1) rfl
theorem ml_X8_spanBits_2 : (.fieldLink RX8 10 "StoryWall" "now" "LStoryWall$State;" : Cond) ∈ wsX8_spanBits := List.mem_of_getElem? (i := 2) rfl
abbrev rm_X8_spanBits : Room := { frames := 5, cells := 0, slots := 0, locals := 117 }
set_option maxHeartbeats 4000000 in
set_option maxRecDepth 100000 in
theorem c_X8_spanBits (l : Launch) (D : va_G) (cI cC cF cO : ClassId) (a_this a_now a_now_cards a_now_cards_numbers a_now_wall a_now_wall_slots a_now_settings a_tensions a_tensions_values a_tensions_climbs a_snapshot a_history a_text a_trial a_reading a_straightRow : Nat) (v_kept : Int32) (sz : Nat)  (v_now_cards_size : Int32) (v_now_cards_numbers : Nat → Int32) (v_now_wall_slots : Nat → Int32) (v_now_settings : Nat → Int32) (v_tensions_values : Nat → UInt32) (v_tensions_climbs : Nat → Int32) (post : Int32 → (Nat → UInt32) → (Nat → Int32) → Prop) (hwp : wp_X8_spanBits v_now_cards_size v_now_cards_numbers v_now_wall_slots v_now_settings v_tensions_values v_tensions_climbs post) : Met l yX8_spanBits wsX8_spanBits rm_X8_spanBits (gPre D (gT cI cC cF cO) [.ref a_this] [(a_this, .inr (8, [.ref a_now, .ref a_snapshot, .ref a_history, .ref a_text, .ref a_trial, .ref a_reading, .ref a_straightRow, .ref a_tensions, .int v_kept])), (a_now, .inr (4, [.ref a_now_cards, .ref a_now_wall, .ref a_now_settings])), (a_now_cards, .inr (1, [.ref a_now_cards_numbers, .int v_now_cards_size])), (a_now_cards_numbers, .inl (cI, 200, .inl v_now_cards_numbers)), (a_now_wall, .inr (7, [.ref a_now_wall_slots])), (a_now_wall_slots, .inl (cI, 96, .inl v_now_wall_slots)), (a_now_settings, .inl (cI, 3, .inl v_now_settings)), (a_tensions, .inr (6, [.ref a_tensions_values, .ref a_tensions_climbs])), (a_tensions_values, .inl (cF, 16, .inr (.inr (.inl v_tensions_values)))), (a_tensions_climbs, .inl (cI, 16, .inl v_tensions_climbs))] sz) (va_Qi (S := (Nat → UInt32) × (Nat → Int32)) (fun (r : Int32) (u : (Nat → UInt32) × (Nat → Int32)) => post r u.1 u.2) (gB D (gT cI cC cF cO) (fun (u : (Nat → UInt32) × (Nat → Int32)) => [(a_this, .inr (8, [.ref a_now, .ref a_snapshot, .ref a_history, .ref a_text, .ref a_trial, .ref a_reading, .ref a_straightRow, .ref a_tensions, .int v_kept])), (a_now, .inr (4, [.ref a_now_cards, .ref a_now_wall, .ref a_now_settings])), (a_now_cards, .inr (1, [.ref a_now_cards_numbers, .int v_now_cards_size])), (a_now_cards_numbers, .inl (cI, 200, .inl v_now_cards_numbers)), (a_now_wall, .inr (7, [.ref a_now_wall_slots])), (a_now_wall_slots, .inl (cI, 96, .inl v_now_wall_slots)), (a_now_settings, .inl (cI, 3, .inl v_now_settings)), (a_tensions, .inr (6, [.ref a_tensions_values, .ref a_tensions_climbs])), (a_tensions_values, .inl (cF, 16, .inr (.inr (.inl u.1)))), (a_tensions_climbs, .inl (cI, 16, .inl u.2))]) [(a_this, .inr (8, [.ref a_now, .ref a_snapshot, .ref a_history, .ref a_text, .ref a_trial, .ref a_reading, .ref a_straightRow, .ref a_tensions, .int v_kept])), (a_now, .inr (4, [.ref a_now_cards, .ref a_now_wall, .ref a_now_settings])), (a_now_cards, .inr (1, [.ref a_now_cards_numbers, .int v_now_cards_size])), (a_now_cards_numbers, .inl (cI, 200, .inl v_now_cards_numbers)), (a_now_wall, .inr (7, [.ref a_now_wall_slots])), (a_now_wall_slots, .inl (cI, 96, .inl v_now_wall_slots)), (a_now_settings, .inl (cI, 3, .inl v_now_settings)), (a_tensions, .inr (6, [.ref a_tensions_values, .ref a_tensions_climbs])), (a_tensions_values, .inl (cF, 16, .inr (.inr (.inl v_tensions_values)))), (a_tensions_climbs, .inl (cI, 16, .inl v_tensions_climbs))] sz) (va_A [(a_this, .inr (8, [.ref a_now, .ref a_snapshot, .ref a_history, .ref a_text, .ref a_trial, .ref a_reading, .ref a_straightRow, .ref a_tensions, .int v_kept])), (a_now, .inr (4, [.ref a_now_cards, .ref a_now_wall, .ref a_now_settings])), (a_now_cards, .inr (1, [.ref a_now_cards_numbers, .int v_now_cards_size])), (a_now_cards_numbers, .inl (cI, 200, .inl v_now_cards_numbers)), (a_now_wall, .inr (7, [.ref a_now_wall_slots])), (a_now_wall_slots, .inl (cI, 96, .inl v_now_wall_slots)), (a_now_settings, .inl (cI, 3, .inl v_now_settings)), (a_tensions, .inr (6, [.ref a_tensions_values, .ref a_tensions_climbs])), (a_tensions_values, .inl (cF, 16, .inr (.inr (.inl v_tensions_values)))), (a_tensions_climbs, .inl (cI, 16, .inl v_tensions_climbs))] sz)) 0 0 (va_A [(a_this, .inr (8, [.ref a_now, .ref a_snapshot, .ref a_history, .ref a_text, .ref a_trial, .ref a_reading, .ref a_straightRow, .ref a_tensions, .int v_kept])), (a_now, .inr (4, [.ref a_now_cards, .ref a_now_wall, .ref a_now_settings])), (a_now_cards, .inr (1, [.ref a_now_cards_numbers, .int v_now_cards_size])), (a_now_cards_numbers, .inl (cI, 200, .inl v_now_cards_numbers)), (a_now_wall, .inr (7, [.ref a_now_wall_slots])), (a_now_wall_slots, .inl (cI, 96, .inl v_now_wall_slots)), (a_now_settings, .inl (cI, 3, .inl v_now_settings)), (a_tensions, .inr (6, [.ref a_tensions_values, .ref a_tensions_climbs])), (a_tensions_values, .inl (cF, 16, .inr (.inr (.inl v_tensions_values)))), (a_tensions_climbs, .inl (cI, 16, .inl v_tensions_climbs))] sz) := by
  refine gOfi (own := RX8) (cc := cX8_spanBits) (maxL := 1) (ret := (some .int)) rfl (by decide) rfl (Nat.le_of_ble_eq_true rfl) rfl ?_
  intro p e s m below meth c A args Q hAe hx hb hr hts hown hml hlocks hname hA hK hX hT hP hD hS hret ls hl
  have hl : lv_has ls 1 [(0, .ref a_this)] := hl
  unfold wp_X8_spanBits at hwp
  refine lv_aload_n hx hb dX8_spanBits_0 rfl (lv_at hl 0 rfl) ?_
  refine va_get (D := D) (ci := 8) (v := .ref a_tensions) (C := RX8) (T := TX8) (N := 9) hx hb hts mc_X8_spanBits_8 hown hK hP 0 rfl rfl 7 (by decide) (hts _ ml_X8_spanBits_1) (fun _ h9 => h9) rfl dX8_spanBits_1 ?_
  refine lv_aload_n hx hb dX8_spanBits_4 rfl (lv_at hl 0 rfl) ?_
  refine va_get (D := D) (ci := 8) (v := .ref a_now) (C := RX8) (T := TX8) (N := 9) hx hb hts mc_X8_spanBits_8 hown hK hP 0 rfl rfl 0 (by decide) (hts _ ml_X8_spanBits_2) (fun _ h9 => h9) rfl dX8_spanBits_5 ?_
  refine gBackv (D := D) (tys := gT cI cC cF cO) (A := A) (wr := [(a_this, .inr (8, [.ref a_now, .ref a_snapshot, .ref a_history, .ref a_text, .ref a_trial, .ref a_reading, .ref a_straightRow, .ref a_tensions, .int v_kept]))]) (w1 := (fun u_3 : (Nat → UInt32) × (Nat → Int32) => [(a_tensions, .inr (6, [.ref a_tensions_values, .ref a_tensions_climbs])), (a_tensions_values, .inl (cF, 16, .inr (.inr (.inl u_3.1)))), (a_tensions_climbs, .inl (cI, 16, .inl u_3.2)), (a_now, .inr (4, [.ref a_now_cards, .ref a_now_wall, .ref a_now_settings])), (a_now_cards, .inr (1, [.ref a_now_cards_numbers, .int v_now_cards_size])), (a_now_cards_numbers, .inl (cI, 200, .inl v_now_cards_numbers)), (a_now_wall, .inr (7, [.ref a_now_wall_slots])), (a_now_wall_slots, .inl (cI, 96, .inl v_now_wall_slots)), (a_now_settings, .inl (cI, 3, .inl v_now_settings))])) (va_runV (As := [.ref a_now]) (rest := []) ⟨hx, hb, hml, hown, hts⟩ (c_X6_measure l D cI cC cF cO a_tensions a_tensions_values a_tensions_climbs a_now a_now_cards a_now_cards_numbers a_now_wall a_now_wall_slots a_now_settings _ _ _ _ _ _ _ _ hwp) (cwV 1 hts gX8_spanBits_X6_measure rfl rfl rfl (by decide +kernel) ⟨Nat.le_of_ble_eq_true rfl, Nat.le_of_ble_eq_true rfl⟩) (gPreV (C := RX6) (T := TX6) (N := 2) (ci := 6) hK hX hT hP hD hS hA [7, 8, 9, 1, 2, 3, 4, 5, 6] rfl rfl rfl (qb := 7) rfl) rfl rfl hl.1 rfl (lv_room (Nat.le_of_ble_eq_true rfl)) dX8_spanBits_8 ⟨Nat.le_of_ble_eq_true rfl, Nat.le_of_ble_eq_true rfl⟩) hP hD hS hA [7, 8, 9, 1, 2, 3, 4, 5, 6] [0] rfl rfl rfl (by decide) (fun u_3 H locs hwp hP hD hS => ?_)
  obtain ⟨v_tensions_values_1, v_tensions_climbs_2⟩ := u_3
  have hP : va_P D vwCl [(a_this, .inr (8, [.ref a_now, .ref a_snapshot, .ref a_history, .ref a_text, .ref a_trial, .ref a_reading, .ref a_straightRow, .ref a_tensions, .int v_kept])), (a_tensions, .inr (6, [.ref a_tensions_values, .ref a_tensions_climbs])), (a_tensions_values, .inl (cF, 16, .inr (.inr (.inl v_tensions_values_1)))), (a_tensions_climbs, .inl (cI, 16, .inl v_tensions_climbs_2)), (a_now, .inr (4, [.ref a_now_cards, .ref a_now_wall, .ref a_now_settings])), (a_now_cards, .inr (1, [.ref a_now_cards_numbers, .int v_now_cards_size])), (a_now_cards_numbers, .inl (cI, 200, .inl v_now_cards_numbers)), (a_now_wall, .inr (7, [.ref a_now_wall_slots])), (a_now_wall_slots, .inl (cI, 96, .inl v_now_wall_slots)), (a_now_settings, .inl (cI, 3, .inl v_now_settings))] H := hP
  have hD : va_D A [(a_this, .inr (8, [.ref a_now, .ref a_snapshot, .ref a_history, .ref a_text, .ref a_trial, .ref a_reading, .ref a_straightRow, .ref a_tensions, .int v_kept])), (a_tensions, .inr (6, [.ref a_tensions_values, .ref a_tensions_climbs])), (a_tensions_values, .inl (cF, 16, .inr (.inr (.inl v_tensions_values_1)))), (a_tensions_climbs, .inl (cI, 16, .inl v_tensions_climbs_2)), (a_now, .inr (4, [.ref a_now_cards, .ref a_now_wall, .ref a_now_settings])), (a_now_cards, .inr (1, [.ref a_now_cards_numbers, .int v_now_cards_size])), (a_now_cards_numbers, .inl (cI, 200, .inl v_now_cards_numbers)), (a_now_wall, .inr (7, [.ref a_now_wall_slots])), (a_now_wall_slots, .inl (cI, 96, .inl v_now_wall_slots)), (a_now_settings, .inl (cI, 3, .inl v_now_settings))] := hD
  refine lv_aload_n hx hb dX8_spanBits_11 rfl (lv_at hl 0 rfl) ?_
  refine va_get (D := D) (ci := 8) (v := .ref a_tensions) (C := RX8) (T := TX8) (N := 9) hx hb hts mc_X8_spanBits_8 hown hK hP 0 rfl rfl 7 (by decide) (hts _ ml_X8_spanBits_1) (fun _ h9 => h9) rfl dX8_spanBits_12 ?_
  refine gBackf (D := D) (tys := gT cI cC cF cO) (A := A) (wr := [(a_this, .inr (8, [.ref a_now, .ref a_snapshot, .ref a_history, .ref a_text, .ref a_trial, .ref a_reading, .ref a_straightRow, .ref a_tensions, .int v_kept])), (a_now, .inr (4, [.ref a_now_cards, .ref a_now_wall, .ref a_now_settings])), (a_now_cards, .inr (1, [.ref a_now_cards_numbers, .int v_now_cards_size])), (a_now_cards_numbers, .inl (cI, 200, .inl v_now_cards_numbers)), (a_now_wall, .inr (7, [.ref a_now_wall_slots])), (a_now_wall_slots, .inl (cI, 96, .inl v_now_wall_slots)), (a_now_settings, .inl (cI, 3, .inl v_now_settings))]) (w1 := (fun u_5 : Unit => [(a_tensions, .inr (6, [.ref a_tensions_values, .ref a_tensions_climbs])), (a_tensions_values, .inl (cF, 16, .inr (.inr (.inl v_tensions_values_1)))), (a_tensions_climbs, .inl (cI, 16, .inl v_tensions_climbs_2))])) (va_runV (As := []) (rest := []) ⟨hx, hb, hml, hown, hts⟩ (c_X6_span l D cI cC cF cO a_tensions a_tensions_values a_tensions_climbs _ _ _ _ hwp) (cwV 0 hts gX8_spanBits_X6_span rfl rfl rfl (by decide +kernel) ⟨Nat.le_of_ble_eq_true rfl, Nat.le_of_ble_eq_true rfl⟩) (gPreV (C := RX6) (T := TX6) (N := 2) (ci := 6) hK hX hT hP hD hS hA [1, 2, 3] rfl rfl rfl (qb := 1) rfl) rfl rfl hl.1 rfl (lv_room (Nat.le_of_ble_eq_true rfl)) dX8_spanBits_15 ⟨Nat.le_of_ble_eq_true rfl, Nat.le_of_ble_eq_true rfl⟩) hP hD hS hA [1, 2, 3] [0, 4, 5, 6, 7, 8, 9] rfl rfl rfl (by decide) (fun r_4 u_5 H locs hwp hP hD hS => ?_)
  have hP : va_P D vwCl [(a_this, .inr (8, [.ref a_now, .ref a_snapshot, .ref a_history, .ref a_text, .ref a_trial, .ref a_reading, .ref a_straightRow, .ref a_tensions, .int v_kept])), (a_now, .inr (4, [.ref a_now_cards, .ref a_now_wall, .ref a_now_settings])), (a_now_cards, .inr (1, [.ref a_now_cards_numbers, .int v_now_cards_size])), (a_now_cards_numbers, .inl (cI, 200, .inl v_now_cards_numbers)), (a_now_wall, .inr (7, [.ref a_now_wall_slots])), (a_now_wall_slots, .inl (cI, 96, .inl v_now_wall_slots)), (a_now_settings, .inl (cI, 3, .inl v_now_settings)), (a_tensions, .inr (6, [.ref a_tensions_values, .ref a_tensions_climbs])), (a_tensions_values, .inl (cF, 16, .inr (.inr (.inl v_tensions_values_1)))), (a_tensions_climbs, .inl (cI, 16, .inl v_tensions_climbs_2))] H := hP
  have hD : va_D A [(a_this, .inr (8, [.ref a_now, .ref a_snapshot, .ref a_history, .ref a_text, .ref a_trial, .ref a_reading, .ref a_straightRow, .ref a_tensions, .int v_kept])), (a_now, .inr (4, [.ref a_now_cards, .ref a_now_wall, .ref a_now_settings])), (a_now_cards, .inr (1, [.ref a_now_cards_numbers, .int v_now_cards_size])), (a_now_cards_numbers, .inl (cI, 200, .inl v_now_cards_numbers)), (a_now_wall, .inr (7, [.ref a_now_wall_slots])), (a_now_wall_slots, .inl (cI, 96, .inl v_now_wall_slots)), (a_now_settings, .inl (cI, 3, .inl v_now_settings)), (a_tensions, .inr (6, [.ref a_tensions_values, .ref a_tensions_climbs])), (a_tensions_values, .inl (cF, 16, .inr (.inr (.inl v_tensions_values_1)))), (a_tensions_climbs, .inl (cI, 16, .inl v_tensions_climbs_2))] := hD
  refine gBacki (D := D) (tys := gT cI cC cF cO) (A := A) (wr := [(a_this, .inr (8, [.ref a_now, .ref a_snapshot, .ref a_history, .ref a_text, .ref a_trial, .ref a_reading, .ref a_straightRow, .ref a_tensions, .int v_kept])), (a_now, .inr (4, [.ref a_now_cards, .ref a_now_wall, .ref a_now_settings])), (a_now_cards, .inr (1, [.ref a_now_cards_numbers, .int v_now_cards_size])), (a_now_cards_numbers, .inl (cI, 200, .inl v_now_cards_numbers)), (a_now_wall, .inr (7, [.ref a_now_wall_slots])), (a_now_wall_slots, .inl (cI, 96, .inl v_now_wall_slots)), (a_now_settings, .inl (cI, 3, .inl v_now_settings)), (a_tensions, .inr (6, [.ref a_tensions_values, .ref a_tensions_climbs])), (a_tensions_values, .inl (cF, 16, .inr (.inr (.inl v_tensions_values_1)))), (a_tensions_climbs, .inl (cI, 16, .inl v_tensions_climbs_2))]) (w1 := (fun u_7 : Unit => [])) (va_runS (As := [.float r_4]) (rest := []) ⟨hx, hb, hml, hown, hts⟩ (c_X8_bitsOf l D cI cC cF cO  _ _ _ hwp) (va_cwS 1 hts gX8_spanBits_X8_bitsOf rfl rfl rfl (by decide +kernel) ⟨Nat.le_of_ble_eq_true rfl, Nat.le_of_ble_eq_true rfl⟩) (gPreS hK hX hT hP hD hS hA [] rfl rfl) rfl rfl hl.1 rfl (lv_room (Nat.le_of_ble_eq_true rfl)) dX8_spanBits_18 ⟨Nat.le_of_ble_eq_true rfl, Nat.le_of_ble_eq_true rfl⟩) hP hD hS hA [] [0, 1, 2, 3, 4, 5, 6, 7, 8, 9] rfl rfl rfl (by decide) (fun r_6 u_7 H locs hwp hP hD hS => ?_)
  have hP : va_P D vwCl [(a_this, .inr (8, [.ref a_now, .ref a_snapshot, .ref a_history, .ref a_text, .ref a_trial, .ref a_reading, .ref a_straightRow, .ref a_tensions, .int v_kept])), (a_now, .inr (4, [.ref a_now_cards, .ref a_now_wall, .ref a_now_settings])), (a_now_cards, .inr (1, [.ref a_now_cards_numbers, .int v_now_cards_size])), (a_now_cards_numbers, .inl (cI, 200, .inl v_now_cards_numbers)), (a_now_wall, .inr (7, [.ref a_now_wall_slots])), (a_now_wall_slots, .inl (cI, 96, .inl v_now_wall_slots)), (a_now_settings, .inl (cI, 3, .inl v_now_settings)), (a_tensions, .inr (6, [.ref a_tensions_values, .ref a_tensions_climbs])), (a_tensions_values, .inl (cF, 16, .inr (.inr (.inl v_tensions_values_1)))), (a_tensions_climbs, .inl (cI, 16, .inl v_tensions_climbs_2))] H := hP
  have hD : va_D A [(a_this, .inr (8, [.ref a_now, .ref a_snapshot, .ref a_history, .ref a_text, .ref a_trial, .ref a_reading, .ref a_straightRow, .ref a_tensions, .int v_kept])), (a_now, .inr (4, [.ref a_now_cards, .ref a_now_wall, .ref a_now_settings])), (a_now_cards, .inr (1, [.ref a_now_cards_numbers, .int v_now_cards_size])), (a_now_cards_numbers, .inl (cI, 200, .inl v_now_cards_numbers)), (a_now_wall, .inr (7, [.ref a_now_wall_slots])), (a_now_wall_slots, .inl (cI, 96, .inl v_now_wall_slots)), (a_now_settings, .inl (cI, 3, .inl v_now_settings)), (a_tensions, .inr (6, [.ref a_tensions_values, .ref a_tensions_climbs])), (a_tensions_values, .inl (cF, 16, .inr (.inr (.inl v_tensions_values_1)))), (a_tensions_climbs, .inl (cI, 16, .inl v_tensions_climbs_2))] := hD
  exact hret (v_tensions_values_1, v_tensions_climbs_2) [0, 1, 2, 3, 4, 5, 6, 7, 8, 9] dX8_spanBits_21 hwp rfl rfl hP hD hS
