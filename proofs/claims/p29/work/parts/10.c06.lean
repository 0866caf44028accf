/-! contracts (by program): X5_breaksMadeBy X5_fewestMoves X5_standsBefore X5_sort X5_moved X7_put X5_putOn X6_climbTo X8_isScene X8_slot X7_cardIn X7_sizeOf -/
theorem mc_X5_breaksMadeBy_5 : ∀ w ∈ u_ws RX5 TX5 7, w ∈ wsX5_breaksMadeBy := fun w h => List.mem_cons_of_mem _ (List.mem_append_right _ h)
theorem ml_X5_breaksMadeBy_1 : (.fieldLink RX5 30 "StoryWall$StraightRow" "size" "I" : Cond) ∈ wsX5_breaksMadeBy := List.mem_of_getElem? (i := 1) rfl
theorem ml_X5_breaksMadeBy_2 : (.fieldLink RX5 18 "StoryWall$StraightRow" "hours" "[I" : Cond) ∈ wsX5_breaksMadeBy := List.mem_of_getElem? (i := 3) rfl
theorem ml_X5_breaksMadeBy_3 : (.fieldLink RX5 9 "StoryWall$StraightRow" "ranks" "[I" : Cond) ∈ wsX5_breaksMadeBy := List.mem_of_getElem? (i := 2) rfl
abbrev rm_X5_breaksMadeBy : Room := { frames := 1, cells := 0, slots := 0, locals := 22 }
set_option maxHeartbeats 4000000 in
set_option maxRecDepth 100000 in
theorem c_X5_breaksMadeBy (l : Launch) (D : va_G) (cI cC cF cO : ClassId) (a_this a_ranks a_hours a_cards a_slots a_sorted a_longest : Nat)  (sz : Nat) (x1 : Int32) (x2 : Int32) (v_size : Int32) (v_ranks : Nat → Int32) (v_hours : Nat → Int32) (post : Int32 → Prop) (hwp : wp_X5_breaksMadeBy x1 x2 v_size v_ranks v_hours post) : Met l yX5_breaksMadeBy wsX5_breaksMadeBy rm_X5_breaksMadeBy (gPre D (gT cI cC cF cO) [.ref a_this, .int x1, .int x2] [(a_this, .inr (5, [.ref a_ranks, .ref a_cards, .ref a_hours, .ref a_slots, .ref a_sorted, .ref a_longest, .int v_size])), (a_ranks, .inl (cI, 40, .inl v_ranks)), (a_hours, .inl (cI, 40, .inl v_hours))] sz) (va_Qi (S := Unit) (fun (r : Int32) (u : Unit) => post r ) (gB D (gT cI cC cF cO) (fun (u : Unit) => [(a_this, .inr (5, [.ref a_ranks, .ref a_cards, .ref a_hours, .ref a_slots, .ref a_sorted, .ref a_longest, .int v_size])), (a_ranks, .inl (cI, 40, .inl v_ranks)), (a_hours, .inl (cI, 40, .inl v_hours))]) [(a_this, .inr (5, [.ref a_ranks, .ref a_cards, .ref a_hours, .ref a_slots, .ref a_sorted, .ref a_longest, .int v_size])), (a_ranks, .inl (cI, 40, .inl v_ranks)), (a_hours, .inl (cI, 40, .inl v_hours))] sz) (va_A [(a_this, .inr (5, [.ref a_ranks, .ref a_cards, .ref a_hours, .ref a_slots, .ref a_sorted, .ref a_longest, .int v_size])), (a_ranks, .inl (cI, 40, .inl v_ranks)), (a_hours, .inl (cI, 40, .inl v_hours))] sz)) 0 0 (va_A [(a_this, .inr (5, [.ref a_ranks, .ref a_cards, .ref a_hours, .ref a_slots, .ref a_sorted, .ref a_longest, .int v_size])), (a_ranks, .inl (cI, 40, .inl v_ranks)), (a_hours, .inl (cI, 40, .inl v_hours))] sz) := by
  refine gOfi (own := RX5) (cc := cX5_breaksMadeBy) (maxL := 9) (ret := (some .int)) rfl (by decide) rfl (Nat.le_of_ble_eq_true rfl) rfl ?_
  intro p e s m below meth c A args Q hAe hx hb hr hts hown hml hlocks hname hA hK hX hT hP hD hS hret ls hl
  have hl : lv_has ls 9 [(0, .ref a_this), (1, .int x1), (2, .int x2)] := hl
  unfold wp_X5_breaksMadeBy at hwp
  have hj110 : ∀ (x4_110 : Int32) (x5_110 : Int32) (x6_110 : Int32) (x7_110 : Int32) (x8_110 : Int32) (H : Heap) (locs : List Loc), wp_X5_breaksMadeBy_j110 x4_110 x5_110 x6_110 x7_110 x8_110 v_size v_ranks v_hours  post → va_P D vwCl [(a_this, .inr (5, [.ref a_ranks, .ref a_cards, .ref a_hours, .ref a_slots, .ref a_sorted, .ref a_longest, .int v_size])), (a_ranks, .inl (cI, 40, .inl v_ranks)), (a_hours, .inl (cI, 40, .inl v_hours))] H → va_D A [(a_this, .inr (5, [.ref a_ranks, .ref a_cards, .ref a_hours, .ref a_slots, .ref a_sorted, .ref a_longest, .int v_size])), (a_ranks, .inl (cI, 40, .inl v_ranks)), (a_hours, .inl (cI, 40, .inl v_hours))] → va_S A s.heap H locs → ∀ ls : Array Slot, lv_has ls 9 [(4, .int x4_110), (5, .int x5_110), (6, .int x6_110), (7, .int x7_110), (8, .int x8_110)] → W p l e rm_X5_breaksMadeBy s m args below meth c H locs 0 0 Q (F0 m 110 ls []) := by
    intro x4_110 x5_110 x6_110 x7_110 x8_110 H locs hwp hP hD hS ls hl
    unfold wp_X5_breaksMadeBy_j110 at hwp
    refine lv_iload hx hb dX5_breaksMadeBy_110 (lv_at hl 0 rfl) ?_
    refine lv_if_eq (tgt := 130) hx hb dX5_breaksMadeBy_112 (by decide) (fun hc => ?_) (fun hc => ?_)
    · have hwp := hwp.1 hc
      refine lv_iload hx hb dX5_breaksMadeBy_130 (lv_at hl 4 rfl) ?_
      exact hret () [0, 1, 2] dX5_breaksMadeBy_132 hwp rfl rfl hP hD hS
    · have hwp := hwp.2 hc
      refine lv_iload hx hb dX5_breaksMadeBy_115 (lv_at hl 1 rfl) ?_
      refine lv_if_eq (tgt := 130) hx hb dX5_breaksMadeBy_117 (by decide) (fun hc => ?_) (fun hc => ?_)
      · have hwp := hwp.1 hc
        refine lv_iload hx hb dX5_breaksMadeBy_130 (lv_at hl 4 rfl) ?_
        exact hret () [0, 1, 2] dX5_breaksMadeBy_132 hwp rfl rfl hP hD hS
      · have hwp := hwp.2 hc
        refine lv_iload hx hb dX5_breaksMadeBy_120 (lv_at hl 3 rfl) ?_
        refine lv_iload hx hb dX5_breaksMadeBy_122 (lv_at hl 2 rfl) ?_
        refine lv_icmp_ge (tgt := 130) hx hb dX5_breaksMadeBy_124 (by decide) (fun hc => ?_) (fun hc => ?_)
        · have hwp := hwp.1 hc
          refine lv_iload hx hb dX5_breaksMadeBy_130 (lv_at hl 4 rfl) ?_
          exact hret () [0, 1, 2] dX5_breaksMadeBy_132 hwp rfl rfl hP hD hS
        · have hwp := hwp.2 hc
          refine lv_iinc (v := (x8_110 + (-1 : Int32))) (lv' := [(8, .int (x8_110 + (-1 : Int32))), (4, .int x4_110), (5, .int x5_110), (6, .int x6_110), (7, .int x7_110)]) hx hb dX5_breaksMadeBy_127 hl (k := 4) rfl rfl (by decide) rfl (fun ls hl => ?_)
          refine lv_iload hx hb dX5_breaksMadeBy_130 (lv_at hl 0 rfl) ?_
          exact hret () [0, 1, 2] dX5_breaksMadeBy_132 hwp rfl rfl hP hD hS
  have hj96 : ∀ (x4_96 : Int32) (x5_96 : Int32) (x6_96 : Int32) (x7_96 : Int32) (x8_96 : Int32) (H : Heap) (locs : List Loc), wp_X5_breaksMadeBy_j96 x1 x4_96 x5_96 x6_96 x7_96 x8_96 v_size v_ranks v_hours  post → va_P D vwCl [(a_this, .inr (5, [.ref a_ranks, .ref a_cards, .ref a_hours, .ref a_slots, .ref a_sorted, .ref a_longest, .int v_size])), (a_ranks, .inl (cI, 40, .inl v_ranks)), (a_hours, .inl (cI, 40, .inl v_hours))] H → va_D A [(a_this, .inr (5, [.ref a_ranks, .ref a_cards, .ref a_hours, .ref a_slots, .ref a_sorted, .ref a_longest, .int v_size])), (a_ranks, .inl (cI, 40, .inl v_ranks)), (a_hours, .inl (cI, 40, .inl v_hours))] → va_S A s.heap H locs → ∀ ls : Array Slot, lv_has ls 9 [(1, .int x1), (4, .int x4_96), (5, .int x5_96), (6, .int x6_96), (7, .int x7_96), (8, .int x8_96)] → W p l e rm_X5_breaksMadeBy s m args below meth c H locs 0 0 Q (F0 m 96 ls []) := by
    intro x4_96 x5_96 x6_96 x7_96 x8_96 H locs hwp hP hD hS ls hl
    unfold wp_X5_breaksMadeBy_j96 at hwp
    refine lv_iload hx hb dX5_breaksMadeBy_96 (lv_at hl 2 rfl) ?_
    refine lv_if_eq (tgt := 110) hx hb dX5_breaksMadeBy_98 (by decide) (fun hc => ?_) (fun hc => ?_)
    · have hwp := hwp.1 hc
      have hl : lv_has ls 9 [(4, .int x4_96), (5, .int x5_96), (6, .int x6_96), (7, .int x7_96), (8, .int x8_96)] := lv_sub hl [1, 2, 3, 4, 5] rfl
      exact hj110 x4_96 x5_96 x6_96 x7_96 x8_96 _ _ hwp hP hD hS ls hl
    · have hwp := hwp.2 hc
      refine lv_iload hx hb dX5_breaksMadeBy_101 (lv_at hl 4 rfl) ?_
      refine lv_iload_n hx hb dX5_breaksMadeBy_103 rfl (lv_at hl 0 rfl) ?_
      refine lv_icmp_ge (tgt := 110) hx hb dX5_breaksMadeBy_104 (by decide) (fun hc => ?_) (fun hc => ?_)
      · have hwp := hwp.1 hc
        have hl : lv_has ls 9 [(4, .int x4_96), (5, .int x5_96), (6, .int x6_96), (7, .int x7_96), (8, .int x8_96)] := lv_sub hl [1, 2, 3, 4, 5] rfl
        exact hj110 x4_96 x5_96 x6_96 x7_96 x8_96 _ _ hwp hP hD hS ls hl
      · have hwp := hwp.2 hc
        refine lv_iinc (v := (x8_96 + (1 : Int32))) (lv' := [(8, .int (x8_96 + (1 : Int32))), (1, .int x1), (4, .int x4_96), (5, .int x5_96), (6, .int x6_96), (7, .int x7_96)]) hx hb dX5_breaksMadeBy_107 hl (k := 5) rfl rfl (by decide) rfl (fun ls hl => ?_)
        have hl : lv_has ls 9 [(4, .int x4_96), (5, .int x5_96), (6, .int x6_96), (7, .int x7_96), (8, .int (x8_96 + (1 : Int32)))] := lv_sub hl [2, 3, 4, 5, 0] rfl
        exact hj110 x4_96 x5_96 x6_96 x7_96 (x8_96 + (1 : Int32)) _ _ hwp hP hD hS ls hl
  have hj53 : ∀ (x3_53 : Int32) (x4_53 : Int32) (k0_53 : Int32) (H : Heap) (locs : List Loc), wp_X5_breaksMadeBy_j53 x1 x3_53 x4_53 k0_53 v_size v_ranks v_hours  post → va_P D vwCl [(a_this, .inr (5, [.ref a_ranks, .ref a_cards, .ref a_hours, .ref a_slots, .ref a_sorted, .ref a_longest, .int v_size])), (a_ranks, .inl (cI, 40, .inl v_ranks)), (a_hours, .inl (cI, 40, .inl v_hours))] H → va_D A [(a_this, .inr (5, [.ref a_ranks, .ref a_cards, .ref a_hours, .ref a_slots, .ref a_sorted, .ref a_longest, .int v_size])), (a_ranks, .inl (cI, 40, .inl v_ranks)), (a_hours, .inl (cI, 40, .inl v_hours))] → va_S A s.heap H locs → ∀ ls : Array Slot, lv_has ls 9 [(0, .ref a_this), (1, .int x1), (3, .int x3_53), (4, .int x4_53)] → W p l e rm_X5_breaksMadeBy s m args below meth c H locs 0 0 Q (F0 m 53 ls [.int k0_53]) := by
    intro x3_53 x4_53 k0_53 H locs hwp hP hD hS ls hl
    unfold wp_X5_breaksMadeBy_j53 at hwp
    refine lv_istore (lv' := [(5, .int k0_53), (0, .ref a_this), (1, .int x1), (3, .int x3_53), (4, .int x4_53)]) hx hb dX5_breaksMadeBy_53 hl (by decide) rfl (fun ls hl => ?_)
    refine lv_aload_n hx hb dX5_breaksMadeBy_55 rfl (lv_at hl 1 rfl) ?_
    refine lv_aload_n hx hb dX5_breaksMadeBy_56 rfl (lv_at hl 1 rfl) ?_
    refine va_get (D := D) (ci := 5) (v := .ref a_hours) (C := RX5) (T := TX5) (N := 7) hx hb hts mc_X5_breaksMadeBy_5 hown hK hP 0 rfl rfl 2 (by decide) (hts _ ml_X5_breaksMadeBy_2) (fun _ h9 => h9) rfl dX5_breaksMadeBy_57 ?_
    refine lv_iload_n hx hb dX5_breaksMadeBy_60 rfl (lv_at hl 3 rfl) ?_
    refine lv_iconst (v := 1) hx hb dX5_breaksMadeBy_61 (by decide) ?_
    refine lv_isub hx hb dX5_breaksMadeBy_62 ?_
    refine gBacki (D := D) (tys := gT cI cC cF cO) (A := A) (wr := [(a_ranks, .inl (cI, 40, .inl v_ranks))]) (w1 := (fun u_2 : Unit => [(a_this, .inr (5, [.ref a_ranks, .ref a_cards, .ref a_hours, .ref a_slots, .ref a_sorted, .ref a_longest, .int v_size])), (a_hours, .inl (cI, 40, .inl v_hours))])) (va_runV (As := [.ref a_hours, .int (x3_53 - (1 : Int32))]) (rest := []) ⟨hx, hb, hml, hown, hts⟩ (c_X5_valueAt l D cI cC cF cO a_this a_hours a_ranks a_cards a_hours a_slots a_sorted a_longest _ _ _ _ _ hwp) (cwV 2 hts gX5_breaksMadeBy_X5_valueAt rfl rfl rfl (by decide +kernel) ⟨Nat.le_of_ble_eq_true rfl, Nat.le_of_ble_eq_true rfl⟩) (gPreV (C := RX5) (T := TX5) (N := 7) (ci := 5) hK hX hT hP hD hS hA [0, 2] rfl rfl rfl (qb := 0) rfl) rfl rfl hl.1 rfl (lv_room (Nat.le_of_ble_eq_true rfl)) dX5_breaksMadeBy_63 ⟨Nat.le_of_ble_eq_true rfl, Nat.le_of_ble_eq_true rfl⟩) hP hD hS hA [0, 2] [1] rfl rfl rfl (by decide) (fun r_1 u_2 H locs hwp hP hD hS => ?_)
    have hP : va_P D vwCl [(a_ranks, .inl (cI, 40, .inl v_ranks)), (a_this, .inr (5, [.ref a_ranks, .ref a_cards, .ref a_hours, .ref a_slots, .ref a_sorted, .ref a_longest, .int v_size])), (a_hours, .inl (cI, 40, .inl v_hours))] H := hP
    have hD : va_D A [(a_ranks, .inl (cI, 40, .inl v_ranks)), (a_this, .inr (5, [.ref a_ranks, .ref a_cards, .ref a_hours, .ref a_slots, .ref a_sorted, .ref a_longest, .int v_size])), (a_hours, .inl (cI, 40, .inl v_hours))] := hD
    refine lv_istore (lv' := [(6, .int r_1), (5, .int k0_53), (0, .ref a_this), (1, .int x1), (3, .int x3_53), (4, .int x4_53)]) hx hb dX5_breaksMadeBy_66 hl (by decide) rfl (fun ls hl => ?_)
    refine lv_aload_n hx hb dX5_breaksMadeBy_68 rfl (lv_at hl 2 rfl) ?_
    refine lv_aload_n hx hb dX5_breaksMadeBy_69 rfl (lv_at hl 2 rfl) ?_
    refine va_get (D := D) (ci := 5) (v := .ref a_hours) (C := RX5) (T := TX5) (N := 7) hx hb hts mc_X5_breaksMadeBy_5 hown hK hP 1 rfl rfl 2 (by decide) (hts _ ml_X5_breaksMadeBy_2) (fun _ h9 => h9) rfl dX5_breaksMadeBy_70 ?_
    refine lv_iload_n hx hb dX5_breaksMadeBy_73 rfl (lv_at hl 4 rfl) ?_
    refine gBacki (D := D) (tys := gT cI cC cF cO) (A := A) (wr := [(a_ranks, .inl (cI, 40, .inl v_ranks))]) (w1 := (fun u_4 : Unit => [(a_this, .inr (5, [.ref a_ranks, .ref a_cards, .ref a_hours, .ref a_slots, .ref a_sorted, .ref a_longest, .int v_size])), (a_hours, .inl (cI, 40, .inl v_hours))])) (va_runV (As := [.ref a_hours, .int x3_53]) (rest := []) ⟨hx, hb, hml, hown, hts⟩ (c_X5_valueAt l D cI cC cF cO a_this a_hours a_ranks a_cards a_hours a_slots a_sorted a_longest _ _ _ _ _ hwp) (cwV 2 hts gX5_breaksMadeBy_X5_valueAt rfl rfl rfl (by decide +kernel) ⟨Nat.le_of_ble_eq_true rfl, Nat.le_of_ble_eq_true rfl⟩) (gPreV (C := RX5) (T := TX5) (N := 7) (ci := 5) hK hX hT hP hD hS hA [1, 2] rfl rfl rfl (qb := 1) rfl) rfl rfl hl.1 rfl (lv_room (Nat.le_of_ble_eq_true rfl)) dX5_breaksMadeBy_74 ⟨Nat.le_of_ble_eq_true rfl, Nat.le_of_ble_eq_true rfl⟩) hP hD hS hA [1, 2] [0] rfl rfl rfl (by decide) (fun r_3 u_4 H locs hwp hP hD hS => ?_)
    have hP : va_P D vwCl [(a_ranks, .inl (cI, 40, .inl v_ranks)), (a_this, .inr (5, [.ref a_ranks, .ref a_cards, .ref a_hours, .ref a_slots, .ref a_sorted, .ref a_longest, .int v_size])), (a_hours, .inl (cI, 40, .inl v_hours))] H := hP
    have hD : va_D A [(a_ranks, .inl (cI, 40, .inl v_ranks)), (a_this, .inr (5, [.ref a_ranks, .ref a_cards, .ref a_hours, .ref a_slots, .ref a_sorted, .ref a_longest, .int v_size])), (a_hours, .inl (cI, 40, .inl v_hours))] := hD
    refine lv_istore (lv' := [(7, .int r_3), (6, .int r_1), (5, .int k0_53), (0, .ref a_this), (1, .int x1), (3, .int x3_53), (4, .int x4_53)]) hx hb dX5_breaksMadeBy_77 hl (by decide) rfl (fun ls hl => ?_)
    refine lv_iconst (v := 0) hx hb dX5_breaksMadeBy_79 (by decide) ?_
    refine lv_istore (lv' := [(8, .int (0 : Int32)), (7, .int r_3), (6, .int r_1), (5, .int k0_53), (0, .ref a_this), (1, .int x1), (3, .int x3_53), (4, .int x4_53)]) hx hb dX5_breaksMadeBy_80 hl (by decide) rfl (fun ls hl => ?_)
    refine lv_iload hx hb dX5_breaksMadeBy_82 (lv_at hl 7 rfl) ?_
    refine lv_if_eq (tgt := 96) hx hb dX5_breaksMadeBy_84 (by decide) (fun hc => ?_) (fun hc => ?_)
    · have hwp := hwp.1 hc
      have hP : va_P D vwCl [(a_this, .inr (5, [.ref a_ranks, .ref a_cards, .ref a_hours, .ref a_slots, .ref a_sorted, .ref a_longest, .int v_size])), (a_ranks, .inl (cI, 40, .inl v_ranks)), (a_hours, .inl (cI, 40, .inl v_hours))] H := hP.sub [1, 0, 2] rfl
      have hD : va_D A [(a_this, .inr (5, [.ref a_ranks, .ref a_cards, .ref a_hours, .ref a_slots, .ref a_sorted, .ref a_longest, .int v_size])), (a_ranks, .inl (cI, 40, .inl v_ranks)), (a_hours, .inl (cI, 40, .inl v_hours))] := hD.sub [1, 0, 2] (by decide) rfl
      have hl : lv_has ls 9 [(1, .int x1), (4, .int x4_53), (5, .int k0_53), (6, .int r_1), (7, .int r_3), (8, .int (0 : Int32))] := lv_sub hl [5, 7, 3, 2, 1, 0] rfl
      exact hj96 x4_53 k0_53 r_1 r_3 (0 : Int32) _ _ hwp hP hD hS ls hl
    · have hwp := hwp.2 hc
      refine lv_iload_n hx hb dX5_breaksMadeBy_87 rfl (lv_at hl 5 rfl) ?_
      refine lv_iload hx hb dX5_breaksMadeBy_88 (lv_at hl 2 rfl) ?_
      refine lv_icmp_ge (tgt := 96) hx hb dX5_breaksMadeBy_90 (by decide) (fun hc => ?_) (fun hc => ?_)
      · have hwp := hwp.1 hc
        have hP : va_P D vwCl [(a_this, .inr (5, [.ref a_ranks, .ref a_cards, .ref a_hours, .ref a_slots, .ref a_sorted, .ref a_longest, .int v_size])), (a_ranks, .inl (cI, 40, .inl v_ranks)), (a_hours, .inl (cI, 40, .inl v_hours))] H := hP.sub [1, 0, 2] rfl
        have hD : va_D A [(a_this, .inr (5, [.ref a_ranks, .ref a_cards, .ref a_hours, .ref a_slots, .ref a_sorted, .ref a_longest, .int v_size])), (a_ranks, .inl (cI, 40, .inl v_ranks)), (a_hours, .inl (cI, 40, .inl v_hours))] := hD.sub [1, 0, 2] (by decide) rfl
        have hl : lv_has ls 9 [(1, .int x1), (4, .int x4_53), (5, .int k0_53), (6, .int r_1), (7, .int r_3), (8, .int (0 : Int32))] := lv_sub hl [5, 7, 3, 2, 1, 0] rfl
        exact hj96 x4_53 k0_53 r_1 r_3 (0 : Int32) _ _ hwp hP hD hS ls hl
      · have hwp := hwp.2 hc
        refine lv_iinc (v := ((0 : Int32) + (1 : Int32))) (lv' := [(8, .int ((0 : Int32) + (1 : Int32))), (7, .int r_3), (6, .int r_1), (5, .int k0_53), (0, .ref a_this), (1, .int x1), (3, .int x3_53), (4, .int x4_53)]) hx hb dX5_breaksMadeBy_93 hl (k := 0) rfl rfl (by decide) rfl (fun ls hl => ?_)
        have hP : va_P D vwCl [(a_this, .inr (5, [.ref a_ranks, .ref a_cards, .ref a_hours, .ref a_slots, .ref a_sorted, .ref a_longest, .int v_size])), (a_ranks, .inl (cI, 40, .inl v_ranks)), (a_hours, .inl (cI, 40, .inl v_hours))] H := hP.sub [1, 0, 2] rfl
        have hD : va_D A [(a_this, .inr (5, [.ref a_ranks, .ref a_cards, .ref a_hours, .ref a_slots, .ref a_sorted, .ref a_longest, .int v_size])), (a_ranks, .inl (cI, 40, .inl v_ranks)), (a_hours, .inl (cI, 40, .inl v_hours))] := hD.sub [1, 0, 2] (by decide) rfl
        have hl : lv_has ls 9 [(1, .int x1), (4, .int x4_53), (5, .int k0_53), (6, .int r_1), (7, .int r_3), (8, .int ((0 : Int32) + (1 : Int32)))] := lv_sub hl [5, 7, 3, 2, 1, 0] rfl
        exact hj96 x4_53 k0_53 r_1 r_3 ((0 : Int32) + (1 : Int32)) _ _ hwp hP hD hS ls hl
  have hj38 : ∀ (x3_38 : Int32) (k0_38 : Int32) (H : Heap) (locs : List Loc), wp_X5_breaksMadeBy_j38 x1 x3_38 k0_38 v_size v_ranks v_hours  post → va_P D vwCl [(a_this, .inr (5, [.ref a_ranks, .ref a_cards, .ref a_hours, .ref a_slots, .ref a_sorted, .ref a_longest, .int v_size])), (a_ranks, .inl (cI, 40, .inl v_ranks)), (a_hours, .inl (cI, 40, .inl v_hours))] H → va_D A [(a_this, .inr (5, [.ref a_ranks, .ref a_cards, .ref a_hours, .ref a_slots, .ref a_sorted, .ref a_longest, .int v_size])), (a_ranks, .inl (cI, 40, .inl v_ranks)), (a_hours, .inl (cI, 40, .inl v_hours))] → va_S A s.heap H locs → ∀ ls : Array Slot, lv_has ls 9 [(0, .ref a_this), (1, .int x1), (3, .int x3_38)] → W p l e rm_X5_breaksMadeBy s m args below meth c H locs 0 0 Q (F0 m 38 ls [.int k0_38]) := by
    intro x3_38 k0_38 H locs hwp hP hD hS ls hl
    unfold wp_X5_breaksMadeBy_j38 at hwp
    refine lv_istore (lv' := [(4, .int k0_38), (0, .ref a_this), (1, .int x1), (3, .int x3_38)]) hx hb dX5_breaksMadeBy_38 hl (by decide) rfl (fun ls hl => ?_)
    refine lv_iload_n hx hb dX5_breaksMadeBy_40 rfl (lv_at hl 3 rfl) ?_
    refine lv_aload_n hx hb dX5_breaksMadeBy_41 rfl (lv_at hl 1 rfl) ?_
    refine va_get (D := D) (ci := 5) (v := .int v_size) (C := RX5) (T := TX5) (N := 7) hx hb hts mc_X5_breaksMadeBy_5 hown hK hP 0 rfl rfl 6 (by decide) (hts _ ml_X5_breaksMadeBy_1) (fun _ h9 => h9) rfl dX5_breaksMadeBy_42 ?_
    refine lv_icmp_ge (tgt := 52) hx hb dX5_breaksMadeBy_45 (by decide) (fun hc => ?_) (fun hc => ?_)
    · have hwp := hwp.1 hc
      refine lv_iconst (v := 0) hx hb dX5_breaksMadeBy_52 (by decide) ?_
      have hl : lv_has ls 9 [(0, .ref a_this), (1, .int x1), (3, .int x3_38), (4, .int k0_38)] := lv_sub hl [1, 2, 3, 0] rfl
      exact hj53 x3_38 k0_38 (0 : Int32) _ _ hwp hP hD hS ls hl
    · have hwp := hwp.2 hc
      refine lv_iconst (v := 1) hx hb dX5_breaksMadeBy_48 (by decide) ?_
      refine lv_goto (tgt := 53) hx hb dX5_breaksMadeBy_49 (by decide) ?_
      have hl : lv_has ls 9 [(0, .ref a_this), (1, .int x1), (3, .int x3_38), (4, .int k0_38)] := lv_sub hl [1, 2, 3, 0] rfl
      exact hj53 x3_38 k0_38 (1 : Int32) _ _ hwp hP hD hS ls hl
  have hj29 : ∀ (x3_29 : Int32) (H : Heap) (locs : List Loc), wp_X5_breaksMadeBy_j29 x1 x3_29 v_size v_ranks v_hours  post → va_P D vwCl [(a_this, .inr (5, [.ref a_ranks, .ref a_cards, .ref a_hours, .ref a_slots, .ref a_sorted, .ref a_longest, .int v_size])), (a_ranks, .inl (cI, 40, .inl v_ranks)), (a_hours, .inl (cI, 40, .inl v_hours))] H → va_D A [(a_this, .inr (5, [.ref a_ranks, .ref a_cards, .ref a_hours, .ref a_slots, .ref a_sorted, .ref a_longest, .int v_size])), (a_ranks, .inl (cI, 40, .inl v_ranks)), (a_hours, .inl (cI, 40, .inl v_hours))] → va_S A s.heap H locs → ∀ ls : Array Slot, lv_has ls 9 [(0, .ref a_this), (1, .int x1), (3, .int x3_29)] → W p l e rm_X5_breaksMadeBy s m args below meth c H locs 0 0 Q (F0 m 29 ls []) := by
    intro x3_29 H locs hwp hP hD hS ls hl
    unfold wp_X5_breaksMadeBy_j29 at hwp
    refine lv_iload_n hx hb dX5_breaksMadeBy_29 rfl (lv_at hl 2 rfl) ?_
    refine lv_if_le (tgt := 37) hx hb dX5_breaksMadeBy_30 (by decide) (fun hc => ?_) (fun hc => ?_)
    · have hwp := hwp.1 hc
      refine lv_iconst (v := 0) hx hb dX5_breaksMadeBy_37 (by decide) ?_
      have hl : lv_has ls 9 [(0, .ref a_this), (1, .int x1), (3, .int x3_29)] := lv_sub hl [0, 1, 2] rfl
      exact hj38 x3_29 (0 : Int32) _ _ hwp hP hD hS ls hl
    · have hwp := hwp.2 hc
      refine lv_iconst (v := 1) hx hb dX5_breaksMadeBy_33 (by decide) ?_
      refine lv_goto (tgt := 38) hx hb dX5_breaksMadeBy_34 (by decide) ?_
      have hl : lv_has ls 9 [(0, .ref a_this), (1, .int x1), (3, .int x3_29)] := lv_sub hl [0, 1, 2] rfl
      exact hj38 x3_29 (1 : Int32) _ _ hwp hP hD hS ls hl
  refine lv_iconst (v := 0) hx hb dX5_breaksMadeBy_0 (by decide) ?_
  refine lv_istore_n (lv' := [(3, .int (0 : Int32)), (0, .ref a_this), (1, .int x1), (2, .int x2)]) hx hb dX5_breaksMadeBy_1 rfl hl (by decide) rfl (fun ls hl => ?_)
  have hl : lv_has ls 9 [(0, .ref a_this), (1, .int x1), (2, .int x2), (3, .int (0 : Int32))] := lv_sub hl [1, 2, 3, 0] rfl
  unfold wp_X5_breaksMadeBy_l2 at hwp
  obtain ⟨J2, μ2, hJ, hst2⟩ := hwp
  have hL2 : ∀ (n : Nat) (x3_2 : Int32), μ2 x3_2 < n → J2 x3_2 → ∀ (H : Heap) (locs : List Loc), va_P D vwCl [(a_this, .inr (5, [.ref a_ranks, .ref a_cards, .ref a_hours, .ref a_slots, .ref a_sorted, .ref a_longest, .int v_size])), (a_ranks, .inl (cI, 40, .inl v_ranks)), (a_hours, .inl (cI, 40, .inl v_hours))] H → va_D A [(a_this, .inr (5, [.ref a_ranks, .ref a_cards, .ref a_hours, .ref a_slots, .ref a_sorted, .ref a_longest, .int v_size])), (a_ranks, .inl (cI, 40, .inl v_ranks)), (a_hours, .inl (cI, 40, .inl v_hours))] → va_S A s.heap H locs → ∀ ls : Array Slot, lv_has ls 9 [(0, .ref a_this), (1, .int x1), (2, .int x2), (3, .int x3_2)] → W p l e rm_X5_breaksMadeBy s m args below meth c H locs 0 0 Q (F0 m 2 ls []) := by
    intro n
    induction n with
    | zero => intro x3_2 h; exact absurd h (Nat.not_lt_zero _)
    | succ n ih2 =>
      intro x3_2 hμ2 hJ H locs hP hD hS ls hl
      have hwp := hst2 x3_2 hJ
      refine lv_iload_n hx hb dX5_breaksMadeBy_2 rfl (lv_at hl 3 rfl) ?_
      refine lv_aload_n hx hb dX5_breaksMadeBy_3 rfl (lv_at hl 0 rfl) ?_
      refine va_get (D := D) (ci := 5) (v := .int v_size) (C := RX5) (T := TX5) (N := 7) hx hb hts mc_X5_breaksMadeBy_5 hown hK hP 0 rfl rfl 6 (by decide) (hts _ ml_X5_breaksMadeBy_1) (fun _ h9 => h9) rfl dX5_breaksMadeBy_4 ?_
      refine lv_icmp_ge (tgt := 29) hx hb dX5_breaksMadeBy_7 (by decide) (fun hc => ?_) (fun hc => ?_)
      · have hwp := hwp.1 hc
        have hl : lv_has ls 9 [(0, .ref a_this), (1, .int x1), (3, .int x3_2)] := lv_sub hl [0, 1, 3] rfl
        exact hj29 x3_2 _ _ hwp hP hD hS ls hl
      · have hwp := hwp.2 hc
        refine lv_aload_n hx hb dX5_breaksMadeBy_10 rfl (lv_at hl 0 rfl) ?_
        refine lv_aload_n hx hb dX5_breaksMadeBy_11 rfl (lv_at hl 0 rfl) ?_
        refine va_get (D := D) (ci := 5) (v := .ref a_ranks) (C := RX5) (T := TX5) (N := 7) hx hb hts mc_X5_breaksMadeBy_5 hown hK hP 0 rfl rfl 0 (by decide) (hts _ ml_X5_breaksMadeBy_3) (fun _ h9 => h9) rfl dX5_breaksMadeBy_12 ?_
        refine lv_iload_n hx hb dX5_breaksMadeBy_15 rfl (lv_at hl 3 rfl) ?_
        refine gBacki (D := D) (tys := gT cI cC cF cO) (A := A) (wr := [(a_hours, .inl (cI, 40, .inl v_hours))]) (w1 := (fun u_6 : Unit => [(a_this, .inr (5, [.ref a_ranks, .ref a_cards, .ref a_hours, .ref a_slots, .ref a_sorted, .ref a_longest, .int v_size])), (a_ranks, .inl (cI, 40, .inl v_ranks))])) (va_runV (As := [.ref a_ranks, .int x3_2]) (rest := []) ⟨hx, hb, hml, hown, hts⟩ (c_X5_valueAt l D cI cC cF cO a_this a_ranks a_ranks a_cards a_hours a_slots a_sorted a_longest _ _ _ _ _ hwp) (cwV 2 hts gX5_breaksMadeBy_X5_valueAt rfl rfl rfl (by decide +kernel) ⟨Nat.le_of_ble_eq_true rfl, Nat.le_of_ble_eq_true rfl⟩) (gPreV (C := RX5) (T := TX5) (N := 7) (ci := 5) hK hX hT hP hD hS hA [0, 1] rfl rfl rfl (qb := 0) rfl) rfl rfl hl.1 rfl (lv_room (Nat.le_of_ble_eq_true rfl)) dX5_breaksMadeBy_16 ⟨Nat.le_of_ble_eq_true rfl, Nat.le_of_ble_eq_true rfl⟩) hP hD hS hA [0, 1] [2] rfl rfl rfl (by decide) (fun r_5 u_6 H locs hwp hP hD hS => ?_)
        have hP : va_P D vwCl [(a_hours, .inl (cI, 40, .inl v_hours)), (a_this, .inr (5, [.ref a_ranks, .ref a_cards, .ref a_hours, .ref a_slots, .ref a_sorted, .ref a_longest, .int v_size])), (a_ranks, .inl (cI, 40, .inl v_ranks))] H := hP
        have hD : va_D A [(a_hours, .inl (cI, 40, .inl v_hours)), (a_this, .inr (5, [.ref a_ranks, .ref a_cards, .ref a_hours, .ref a_slots, .ref a_sorted, .ref a_longest, .int v_size])), (a_ranks, .inl (cI, 40, .inl v_ranks))] := hD
        refine lv_iload_n hx hb dX5_breaksMadeBy_19 rfl (lv_at hl 2 rfl) ?_
        refine lv_icmp_ge (tgt := 29) hx hb dX5_breaksMadeBy_20 (by decide) (fun hc => ?_) (fun hc => ?_)
        · have hwp := hwp.1 hc
          have hP : va_P D vwCl [(a_this, .inr (5, [.ref a_ranks, .ref a_cards, .ref a_hours, .ref a_slots, .ref a_sorted, .ref a_longest, .int v_size])), (a_ranks, .inl (cI, 40, .inl v_ranks)), (a_hours, .inl (cI, 40, .inl v_hours))] H := hP.sub [1, 2, 0] rfl
          have hD : va_D A [(a_this, .inr (5, [.ref a_ranks, .ref a_cards, .ref a_hours, .ref a_slots, .ref a_sorted, .ref a_longest, .int v_size])), (a_ranks, .inl (cI, 40, .inl v_ranks)), (a_hours, .inl (cI, 40, .inl v_hours))] := hD.sub [1, 2, 0] (by decide) rfl
          have hl : lv_has ls 9 [(0, .ref a_this), (1, .int x1), (3, .int x3_2)] := lv_sub hl [0, 1, 3] rfl
          exact hj29 x3_2 _ _ hwp hP hD hS ls hl
        · have hwp := hwp.2 hc
          refine lv_iinc (v := (x3_2 + (1 : Int32))) (lv' := [(3, .int (x3_2 + (1 : Int32))), (0, .ref a_this), (1, .int x1), (2, .int x2)]) hx hb dX5_breaksMadeBy_23 hl (k := 3) rfl rfl (by decide) rfl (fun ls hl => ?_)
          refine lv_goto (tgt := 2) hx hb dX5_breaksMadeBy_26 (by decide) ?_
          have hP : va_P D vwCl [(a_this, .inr (5, [.ref a_ranks, .ref a_cards, .ref a_hours, .ref a_slots, .ref a_sorted, .ref a_longest, .int v_size])), (a_ranks, .inl (cI, 40, .inl v_ranks)), (a_hours, .inl (cI, 40, .inl v_hours))] H := hP.sub [1, 2, 0] rfl
          have hD : va_D A [(a_this, .inr (5, [.ref a_ranks, .ref a_cards, .ref a_hours, .ref a_slots, .ref a_sorted, .ref a_longest, .int v_size])), (a_ranks, .inl (cI, 40, .inl v_ranks)), (a_hours, .inl (cI, 40, .inl v_hours))] := hD.sub [1, 2, 0] (by decide) rfl
          have hl : lv_has ls 9 [(0, .ref a_this), (1, .int x1), (2, .int x2), (3, .int (x3_2 + (1 : Int32)))] := lv_sub hl [1, 2, 3, 0] rfl
          exact ih2 (x3_2 + (1 : Int32)) (Nat.lt_of_lt_of_le hwp.2 (Nat.le_of_lt_succ hμ2)) hwp.1 _ _ hP hD hS ls hl
  exact hL2 _ (0 : Int32) (Nat.lt_succ_self _) hJ _ _ hP hD hS ls hl
theorem mc_X5_fewestMoves_5 : ∀ w ∈ u_ws RX5 TX5 7, w ∈ wsX5_fewestMoves := fun w h => List.mem_cons_of_mem _ (List.mem_append_right _ h)
theorem ml_X5_fewestMoves_1 : (.fieldLink RX5 30 "StoryWall$StraightRow" "size" "I" : Cond) ∈ wsX5_fewestMoves := List.mem_of_getElem? (i := 1) rfl
theorem ml_X5_fewestMoves_2 : (.fieldLink RX5 27 "StoryWall$StraightRow" "longest" "[I" : Cond) ∈ wsX5_fewestMoves := List.mem_of_getElem? (i := 3) rfl
theorem ml_X5_fewestMoves_3 : (.methodLink RX5 61 Lib.Math.max.name : Cond) ∈ wsX5_fewestMoves := List.mem_of_getElem? (i := 4) rfl
theorem ml_X5_fewestMoves_4 : (.static Lib.Math.max.name : Cond) ∈ wsX5_fewestMoves := List.mem_of_getElem? (i := 5) rfl
theorem ml_X5_fewestMoves_5 : (.initialized "java/lang/Math" : Cond) ∈ wsX5_fewestMoves := List.mem_of_getElem? (i := 6) rfl
theorem ml_X5_fewestMoves_6 : (.code Lib.Math.max.name Lib.Math.max.code 2 (some .int) : Cond) ∈ wsX5_fewestMoves := List.mem_of_getElem? (i := 7) rfl
theorem ml_X5_fewestMoves_7 : (.fieldLink RX5 18 "StoryWall$StraightRow" "hours" "[I" : Cond) ∈ wsX5_fewestMoves := List.mem_of_getElem? (i := 2) rfl
abbrev rm_X5_fewestMoves : Room := { frames := 1, cells := 0, slots := 0, locals := 21 }
set_option maxHeartbeats 4000000 in
set_option maxRecDepth 100000 in
theorem c_X5_fewestMoves (l : Launch) (D : va_G) (cI cC cF cO : ClassId) (a_this a_hours a_longest a_ranks a_cards a_slots a_sorted : Nat)  (sz : Nat)  (v_size : Int32) (v_hours : Nat → Int32) (v_longest : Nat → Int32) (post : Int32 → (Nat → Int32) → Prop) (hwp : wp_X5_fewestMoves v_size v_hours v_longest post) : Met l yX5_fewestMoves wsX5_fewestMoves rm_X5_fewestMoves (gPre D (gT cI cC cF cO) [.ref a_this] [(a_this, .inr (5, [.ref a_ranks, .ref a_cards, .ref a_hours, .ref a_slots, .ref a_sorted, .ref a_longest, .int v_size])), (a_hours, .inl (cI, 40, .inl v_hours)), (a_longest, .inl (cI, 40, .inl v_longest))] sz) (va_Qi (S := (Nat → Int32)) (fun (r : Int32) (u : (Nat → Int32)) => post r u) (gB D (gT cI cC cF cO) (fun (u : (Nat → Int32)) => [(a_this, .inr (5, [.ref a_ranks, .ref a_cards, .ref a_hours, .ref a_slots, .ref a_sorted, .ref a_longest, .int v_size])), (a_hours, .inl (cI, 40, .inl v_hours)), (a_longest, .inl (cI, 40, .inl u))]) [(a_this, .inr (5, [.ref a_ranks, .ref a_cards, .ref a_hours, .ref a_slots, .ref a_sorted, .ref a_longest, .int v_size])), (a_hours, .inl (cI, 40, .inl v_hours)), (a_longest, .inl (cI, 40, .inl v_longest))] sz) (va_A [(a_this, .inr (5, [.ref a_ranks, .ref a_cards, .ref a_hours, .ref a_slots, .ref a_sorted, .ref a_longest, .int v_size])), (a_hours, .inl (cI, 40, .inl v_hours)), (a_longest, .inl (cI, 40, .inl v_longest))] sz)) 0 0 (va_A [(a_this, .inr (5, [.ref a_ranks, .ref a_cards, .ref a_hours, .ref a_slots, .ref a_sorted, .ref a_longest, .int v_size])), (a_hours, .inl (cI, 40, .inl v_hours)), (a_longest, .inl (cI, 40, .inl v_longest))] sz) := by
  refine gOfi (own := RX5) (cc := cX5_fewestMoves) (maxL := 5) (ret := (some .int)) rfl (by decide) rfl (Nat.le_of_ble_eq_true rfl) rfl ?_
  intro p e s m below meth c A args Q hAe hx hb hr hts hown hml hlocks hname hA hK hX hT hP hD hS hret ls hl
  have hl : lv_has ls 5 [(0, .ref a_this)] := hl
  unfold wp_X5_fewestMoves at hwp
  refine lv_iconst (v := 0) hx hb dX5_fewestMoves_0 (by decide) ?_
  refine lv_istore_n (lv' := [(1, .int (0 : Int32)), (0, .ref a_this)]) hx hb dX5_fewestMoves_1 rfl hl (by decide) rfl (fun ls hl => ?_)
  refine lv_iconst (v := 0) hx hb dX5_fewestMoves_2 (by decide) ?_
  refine lv_istore_n (lv' := [(2, .int (0 : Int32)), (1, .int (0 : Int32)), (0, .ref a_this)]) hx hb dX5_fewestMoves_3 rfl hl (by decide) rfl (fun ls hl => ?_)
  have hl : lv_has ls 5 [(0, .ref a_this), (1, .int (0 : Int32)), (2, .int (0 : Int32))] := lv_sub hl [2, 1, 0] rfl
  unfold wp_X5_fewestMoves_l4 at hwp
  obtain ⟨J4, μ4, hJ, hst4⟩ := hwp
  have hL4 : ∀ (n : Nat) (x1_4 : Int32) (x2_4 : Int32) (v_longest_4 : Nat → Int32), μ4 x1_4 x2_4 v_longest_4 < n → J4 x1_4 x2_4 v_longest_4 → ∀ (H : Heap) (locs : List Loc), va_P D vwCl [(a_this, .inr (5, [.ref a_ranks, .ref a_cards, .ref a_hours, .ref a_slots, .ref a_sorted, .ref a_longest, .int v_size])), (a_hours, .inl (cI, 40, .inl v_hours)), (a_longest, .inl (cI, 40, .inl v_longest_4))] H → va_D A [(a_this, .inr (5, [.ref a_ranks, .ref a_cards, .ref a_hours, .ref a_slots, .ref a_sorted, .ref a_longest, .int v_size])), (a_hours, .inl (cI, 40, .inl v_hours)), (a_longest, .inl (cI, 40, .inl v_longest_4))] → va_S A s.heap H locs → ∀ ls : Array Slot, lv_has ls 5 [(0, .ref a_this), (1, .int x1_4), (2, .int x2_4)] → W p l e rm_X5_fewestMoves s m args below meth c H locs 0 0 Q (F0 m 4 ls []) := by
    intro n
    induction n with
    | zero => intro x1_4 x2_4 v_longest_4 h; exact absurd h (Nat.not_lt_zero _)
    | succ n ih4 =>
      intro x1_4 x2_4 v_longest_4 hμ4 hJ H locs hP hD hS ls hl
      have hwp := hst4 x1_4 x2_4 v_longest_4 hJ
      refine lv_iload_n hx hb dX5_fewestMoves_4 rfl (lv_at hl 2 rfl) ?_
      refine lv_aload_n hx hb dX5_fewestMoves_5 rfl (lv_at hl 0 rfl) ?_
      refine va_get (D := D) (ci := 5) (v := .int v_size) (C := RX5) (T := TX5) (N := 7) hx hb hts mc_X5_fewestMoves_5 hown hK hP 0 rfl rfl 6 (by decide) (hts _ ml_X5_fewestMoves_1) (fun _ h9 => h9) rfl dX5_fewestMoves_6 ?_
      refine lv_icmp_ge (tgt := 89) hx hb dX5_fewestMoves_9 (by decide) (fun hc => ?_) (fun hc => ?_)
      · have hwp := hwp.1 hc
        refine lv_aload_n hx hb dX5_fewestMoves_89 rfl (lv_at hl 0 rfl) ?_
        refine va_get (D := D) (ci := 5) (v := .int v_size) (C := RX5) (T := TX5) (N := 7) hx hb hts mc_X5_fewestMoves_5 hown hK hP 0 rfl rfl 6 (by decide) (hts _ ml_X5_fewestMoves_1) (fun _ h9 => h9) rfl dX5_fewestMoves_90 ?_
        refine lv_iload_n hx hb dX5_fewestMoves_93 rfl (lv_at hl 1 rfl) ?_
        refine lv_isub hx hb dX5_fewestMoves_94 ?_
        exact hret v_longest_4 [0, 1, 2] dX5_fewestMoves_95 hwp rfl rfl hP hD hS
      · have hwp := hwp.2 hc
        refine lv_iload_n hx hb dX5_fewestMoves_12 rfl (lv_at hl 2 rfl) ?_
        refine lv_bipush (v := 40) hx hb dX5_fewestMoves_13 (by decide) ?_
        refine lv_icmp_ge (tgt := 89) hx hb dX5_fewestMoves_15 (by decide) (fun hc => ?_) (fun hc => ?_)
        · have hwp := hwp.1 hc
          refine lv_aload_n hx hb dX5_fewestMoves_89 rfl (lv_at hl 0 rfl) ?_
          refine va_get (D := D) (ci := 5) (v := .int v_size) (C := RX5) (T := TX5) (N := 7) hx hb hts mc_X5_fewestMoves_5 hown hK hP 0 rfl rfl 6 (by decide) (hts _ ml_X5_fewestMoves_1) (fun _ h9 => h9) rfl dX5_fewestMoves_90 ?_
          refine lv_iload_n hx hb dX5_fewestMoves_93 rfl (lv_at hl 1 rfl) ?_
          refine lv_isub hx hb dX5_fewestMoves_94 ?_
          exact hret v_longest_4 [0, 1, 2] dX5_fewestMoves_95 hwp rfl rfl hP hD hS
        · have hwp := hwp.2 hc
          refine lv_iconst (v := 0) hx hb dX5_fewestMoves_18 (by decide) ?_
          refine lv_istore_n (lv' := [(3, .int (0 : Int32)), (0, .ref a_this), (1, .int x1_4), (2, .int x2_4)]) hx hb dX5_fewestMoves_19 rfl hl (by decide) rfl (fun ls hl => ?_)
          refine lv_iconst (v := 0) hx hb dX5_fewestMoves_20 (by decide) ?_
          refine lv_istore (lv' := [(4, .int (0 : Int32)), (3, .int (0 : Int32)), (0, .ref a_this), (1, .int x1_4), (2, .int x2_4)]) hx hb dX5_fewestMoves_21 hl (by decide) rfl (fun ls hl => ?_)
          have hl : lv_has ls 5 [(0, .ref a_this), (1, .int x1_4), (2, .int x2_4), (3, .int (0 : Int32)), (4, .int (0 : Int32))] := lv_sub hl [2, 3, 4, 1, 0] rfl
          unfold wp_X5_fewestMoves_l23 at hwp
          obtain ⟨J23, μ23, hJ, hst23⟩ := hwp
          have hL23 : ∀ (n : Nat) (x3_23 : Int32) (x4_23 : Int32), μ23 x3_23 x4_23 < n → J23 x3_23 x4_23 → ∀ (H : Heap) (locs : List Loc), va_P D vwCl [(a_this, .inr (5, [.ref a_ranks, .ref a_cards, .ref a_hours, .ref a_slots, .ref a_sorted, .ref a_longest, .int v_size])), (a_hours, .inl (cI, 40, .inl v_hours)), (a_longest, .inl (cI, 40, .inl v_longest_4))] H → va_D A [(a_this, .inr (5, [.ref a_ranks, .ref a_cards, .ref a_hours, .ref a_slots, .ref a_sorted, .ref a_longest, .int v_size])), (a_hours, .inl (cI, 40, .inl v_hours)), (a_longest, .inl (cI, 40, .inl v_longest_4))] → va_S A s.heap H locs → ∀ ls : Array Slot, lv_has ls 5 [(0, .ref a_this), (1, .int x1_4), (2, .int x2_4), (3, .int x3_23), (4, .int x4_23)] → W p l e rm_X5_fewestMoves s m args below meth c H locs 0 0 Q (F0 m 23 ls []) := by
            intro n
            induction n with
            | zero => intro x3_23 x4_23 h; exact absurd h (Nat.not_lt_zero _)
            | succ n ih23 =>
              intro x3_23 x4_23 hμ23 hJ H locs hP hD hS ls hl
              have hwp := hst23 x3_23 x4_23 hJ
              refine lv_iload hx hb dX5_fewestMoves_23 (lv_at hl 4 rfl) ?_
              refine lv_iload_n hx hb dX5_fewestMoves_25 rfl (lv_at hl 2 rfl) ?_
              refine lv_icmp_ge (tgt := 63) hx hb dX5_fewestMoves_26 (by decide) (fun hc => ?_) (fun hc => ?_)
              · have hwp := hwp.1 hc
                refine lv_aload_n hx hb dX5_fewestMoves_63 rfl (lv_at hl 0 rfl) ?_
                refine va_get (D := D) (ci := 5) (v := .ref a_longest) (C := RX5) (T := TX5) (N := 7) hx hb hts mc_X5_fewestMoves_5 hown hK hP 0 rfl rfl 5 (by decide) (hts _ ml_X5_fewestMoves_2) (fun _ h9 => h9) rfl dX5_fewestMoves_64 ?_
                refine lv_iload_n hx hb dX5_fewestMoves_67 rfl (lv_at hl 2 rfl) ?_
                refine lv_iload_n hx hb dX5_fewestMoves_68 rfl (lv_at hl 3 rfl) ?_
                refine lv_iconst (v := 1) hx hb dX5_fewestMoves_69 (by decide) ?_
                refine lv_iadd hx hb dX5_fewestMoves_70 ?_
                have hn_1 := hwp.1
                have hwp := hwp.2
                refine va_iast (D := D) hx hb hK hP hD hS 2 0 rfl rfl hn_1 dX5_fewestMoves_71 (fun H locs hP hD hS => ?_)
                have hP : va_P D vwCl [(a_this, .inr (5, [.ref a_ranks, .ref a_cards, .ref a_hours, .ref a_slots, .ref a_sorted, .ref a_longest, .int v_size])), (a_hours, .inl (cI, 40, .inl v_hours)), (a_longest, .inl (cI, 40, .inl (upd v_longest_4 (x2_4).toNatClampNeg (x3_23 + (1 : Int32)))))] H := hP
                have hD : va_D A [(a_this, .inr (5, [.ref a_ranks, .ref a_cards, .ref a_hours, .ref a_slots, .ref a_sorted, .ref a_longest, .int v_size])), (a_hours, .inl (cI, 40, .inl v_hours)), (a_longest, .inl (cI, 40, .inl (upd v_longest_4 (x2_4).toNatClampNeg (x3_23 + (1 : Int32)))))] := hD
                refine lv_iload_n hx hb dX5_fewestMoves_72 rfl (lv_at hl 1 rfl) ?_
                refine lv_aload_n hx hb dX5_fewestMoves_73 rfl (lv_at hl 0 rfl) ?_
                refine va_get (D := D) (ci := 5) (v := .ref a_longest) (C := RX5) (T := TX5) (N := 7) hx hb hts mc_X5_fewestMoves_5 hown hK hP 0 rfl rfl 5 (by decide) (hts _ ml_X5_fewestMoves_2) (fun _ h9 => h9) rfl dX5_fewestMoves_74 ?_
                refine lv_iload_n hx hb dX5_fewestMoves_77 rfl (lv_at hl 2 rfl) ?_
                have hn_2 := hwp.1
                have hwp := hwp.2
                refine va_iald (D := D) hx hb hK hP 2 0 rfl rfl hn_2 dX5_fewestMoves_78 ?_
                refine va_mmax hx hb (by rw [hml]; exact hl.1.symm) hown (hts _ ml_X5_fewestMoves_3) (hts _ ml_X5_fewestMoves_4) (hts _ ml_X5_fewestMoves_5) (hts _ ml_X5_fewestMoves_6) (Nat.le_of_ble_eq_true rfl) (Nat.le_of_ble_eq_true rfl) (Nat.le_of_ble_eq_true rfl) (Nat.le_of_ble_eq_true rfl) dX5_fewestMoves_79 ?_
                refine lv_istore_n (lv' := [(1, .int (if x1_4 < ((upd v_longest_4 (x2_4).toNatClampNeg (x3_23 + (1 : Int32))) (x2_4).toNatClampNeg) then ((upd v_longest_4 (x2_4).toNatClampNeg (x3_23 + (1 : Int32))) (x2_4).toNatClampNeg) else x1_4)), (0, .ref a_this), (2, .int x2_4), (3, .int x3_23), (4, .int x4_23)]) hx hb dX5_fewestMoves_82 rfl hl (by decide) rfl (fun ls hl => ?_)
                refine lv_iinc (v := (x2_4 + (1 : Int32))) (lv' := [(2, .int (x2_4 + (1 : Int32))), (1, .int (if x1_4 < ((upd v_longest_4 (x2_4).toNatClampNeg (x3_23 + (1 : Int32))) (x2_4).toNatClampNeg) then ((upd v_longest_4 (x2_4).toNatClampNeg (x3_23 + (1 : Int32))) (x2_4).toNatClampNeg) else x1_4)), (0, .ref a_this), (3, .int x3_23), (4, .int x4_23)]) hx hb dX5_fewestMoves_83 hl (k := 2) rfl rfl (by decide) rfl (fun ls hl => ?_)
                refine lv_goto (tgt := 4) hx hb dX5_fewestMoves_86 (by decide) ?_
                have hl : lv_has ls 5 [(0, .ref a_this), (1, .int (if x1_4 < ((upd v_longest_4 (x2_4).toNatClampNeg (x3_23 + (1 : Int32))) (x2_4).toNatClampNeg) then ((upd v_longest_4 (x2_4).toNatClampNeg (x3_23 + (1 : Int32))) (x2_4).toNatClampNeg) else x1_4)), (2, .int (x2_4 + (1 : Int32)))] := lv_sub hl [2, 1, 0] rfl
                exact ih4 (if x1_4 < ((upd v_longest_4 (x2_4).toNatClampNeg (x3_23 + (1 : Int32))) (x2_4).toNatClampNeg) then ((upd v_longest_4 (x2_4).toNatClampNeg (x3_23 + (1 : Int32))) (x2_4).toNatClampNeg) else x1_4) (x2_4 + (1 : Int32)) (upd v_longest_4 (x2_4).toNatClampNeg (x3_23 + (1 : Int32))) (Nat.lt_of_lt_of_le hwp.2 (Nat.le_of_lt_succ hμ4)) hwp.1 _ _ hP hD hS ls hl
              · have hwp := hwp.2 hc
                refine lv_aload_n hx hb dX5_fewestMoves_29 rfl (lv_at hl 0 rfl) ?_
                refine va_get (D := D) (ci := 5) (v := .ref a_hours) (C := RX5) (T := TX5) (N := 7) hx hb hts mc_X5_fewestMoves_5 hown hK hP 0 rfl rfl 2 (by decide) (hts _ ml_X5_fewestMoves_7) (fun _ h9 => h9) rfl dX5_fewestMoves_30 ?_
                refine lv_iload hx hb dX5_fewestMoves_33 (lv_at hl 4 rfl) ?_
                have hn_3 := hwp.1
                have hwp := hwp.2
                refine va_iald (D := D) hx hb hK hP 1 0 rfl rfl hn_3 dX5_fewestMoves_35 ?_
                refine lv_aload_n hx hb dX5_fewestMoves_36 rfl (lv_at hl 0 rfl) ?_
                refine va_get (D := D) (ci := 5) (v := .ref a_hours) (C := RX5) (T := TX5) (N := 7) hx hb hts mc_X5_fewestMoves_5 hown hK hP 0 rfl rfl 2 (by decide) (hts _ ml_X5_fewestMoves_7) (fun _ h9 => h9) rfl dX5_fewestMoves_37 ?_
                refine lv_iload_n hx hb dX5_fewestMoves_40 rfl (lv_at hl 2 rfl) ?_
                have hn_4 := hwp.1
                have hwp := hwp.2
                refine va_iald (D := D) hx hb hK hP 1 0 rfl rfl hn_4 dX5_fewestMoves_41 ?_
                refine lv_icmp_gt (tgt := 57) hx hb dX5_fewestMoves_42 (by decide) (fun hc => ?_) (fun hc => ?_)
                · have hwp := hwp.1 hc
                  refine lv_iinc (v := (x4_23 + (1 : Int32))) (lv' := [(4, .int (x4_23 + (1 : Int32))), (0, .ref a_this), (1, .int x1_4), (2, .int x2_4), (3, .int x3_23)]) hx hb dX5_fewestMoves_57 hl (k := 4) rfl rfl (by decide) rfl (fun ls hl => ?_)
                  refine lv_goto (tgt := 23) hx hb dX5_fewestMoves_60 (by decide) ?_
                  have hl : lv_has ls 5 [(0, .ref a_this), (1, .int x1_4), (2, .int x2_4), (3, .int x3_23), (4, .int (x4_23 + (1 : Int32)))] := lv_sub hl [1, 2, 3, 4, 0] rfl
                  exact ih23 x3_23 (x4_23 + (1 : Int32)) (Nat.lt_of_lt_of_le hwp.2 (Nat.le_of_lt_succ hμ23)) hwp.1 _ _ hP hD hS ls hl
                · have hwp := hwp.2 hc
                  refine lv_iload_n hx hb dX5_fewestMoves_45 rfl (lv_at hl 3 rfl) ?_
                  refine lv_aload_n hx hb dX5_fewestMoves_46 rfl (lv_at hl 0 rfl) ?_
                  refine va_get (D := D) (ci := 5) (v := .ref a_longest) (C := RX5) (T := TX5) (N := 7) hx hb hts mc_X5_fewestMoves_5 hown hK hP 0 rfl rfl 5 (by decide) (hts _ ml_X5_fewestMoves_2) (fun _ h9 => h9) rfl dX5_fewestMoves_47 ?_
                  refine lv_iload hx hb dX5_fewestMoves_50 (lv_at hl 4 rfl) ?_
                  have hn_5 := hwp.1
                  have hwp := hwp.2
                  refine va_iald (D := D) hx hb hK hP 2 0 rfl rfl hn_5 dX5_fewestMoves_52 ?_
                  refine va_mmax hx hb (by rw [hml]; exact hl.1.symm) hown (hts _ ml_X5_fewestMoves_3) (hts _ ml_X5_fewestMoves_4) (hts _ ml_X5_fewestMoves_5) (hts _ ml_X5_fewestMoves_6) (Nat.le_of_ble_eq_true rfl) (Nat.le_of_ble_eq_true rfl) (Nat.le_of_ble_eq_true rfl) (Nat.le_of_ble_eq_true rfl) dX5_fewestMoves_53 ?_
                  refine lv_istore_n (lv' := [(3, .int (if x3_23 < (v_longest_4 (x4_23).toNatClampNeg) then (v_longest_4 (x4_23).toNatClampNeg) else x3_23)), (0, .ref a_this), (1, .int x1_4), (2, .int x2_4), (4, .int x4_23)]) hx hb dX5_fewestMoves_56 rfl hl (by decide) rfl (fun ls hl => ?_)
                  refine lv_iinc (v := (x4_23 + (1 : Int32))) (lv' := [(4, .int (x4_23 + (1 : Int32))), (3, .int (if x3_23 < (v_longest_4 (x4_23).toNatClampNeg) then (v_longest_4 (x4_23).toNatClampNeg) else x3_23)), (0, .ref a_this), (1, .int x1_4), (2, .int x2_4)]) hx hb dX5_fewestMoves_57 hl (k := 4) rfl rfl (by decide) rfl (fun ls hl => ?_)
                  refine lv_goto (tgt := 23) hx hb dX5_fewestMoves_60 (by decide) ?_
                  have hl : lv_has ls 5 [(0, .ref a_this), (1, .int x1_4), (2, .int x2_4), (3, .int (if x3_23 < (v_longest_4 (x4_23).toNatClampNeg) then (v_longest_4 (x4_23).toNatClampNeg) else x3_23)), (4, .int (x4_23 + (1 : Int32)))] := lv_sub hl [2, 3, 4, 1, 0] rfl
                  exact ih23 (if x3_23 < (v_longest_4 (x4_23).toNatClampNeg) then (v_longest_4 (x4_23).toNatClampNeg) else x3_23) (x4_23 + (1 : Int32)) (Nat.lt_of_lt_of_le hwp.2 (Nat.le_of_lt_succ hμ23)) hwp.1 _ _ hP hD hS ls hl
          exact hL23 _ (0 : Int32) (0 : Int32) (Nat.lt_succ_self _) hJ _ _ hP hD hS ls hl
  exact hL4 _ (0 : Int32) (0 : Int32) v_longest (Nat.lt_succ_self _) hJ _ _ hP hD hS ls hl
theorem mc_X5_standsBefore_5 : ∀ w ∈ u_ws RX5 TX5 7, w ∈ wsX5_standsBefore := fun w h => List.mem_cons_of_mem _ (List.mem_append_right _ h)
theorem ml_X5_standsBefore_1 : (.fieldLink RX5 18 "StoryWall$StraightRow" "hours" "[I" : Cond) ∈ wsX5_standsBefore := List.mem_of_getElem? (i := 1) rfl
theorem ml_X5_standsBefore_2 : (.fieldLink RX5 15 "StoryWall$StraightRow" "cards" "[I" : Cond) ∈ wsX5_standsBefore := List.mem_of_getElem? (i := 2) rfl
abbrev rm_X5_standsBefore : Room := { frames := 1, cells := 0, slots := 0, locals := 22 }
set_option maxHeartbeats 4000000 in
set_option maxRecDepth 100000 in
theorem c_X5_standsBefore (l : Launch) (D : va_G) (cI cC cF cO : ClassId) (a_this a_cards a_hours a_ranks a_slots a_sorted a_longest : Nat)  (sz : Nat) (x1 : Int32) (x2 : Int32) (v_size : Int32) (v_cards : Nat → Int32) (v_hours : Nat → Int32) (post : Int32 → Prop) (hwp : wp_X5_standsBefore x1 x2 v_size v_cards v_hours post) : Met l yX5_standsBefore wsX5_standsBefore rm_X5_standsBefore (gPre D (gT cI cC cF cO) [.ref a_this, .int x1, .int x2] [(a_this, .inr (5, [.ref a_ranks, .ref a_cards, .ref a_hours, .ref a_slots, .ref a_sorted, .ref a_longest, .int v_size])), (a_cards, .inl (cI, 40, .inl v_cards)), (a_hours, .inl (cI, 40, .inl v_hours))] sz) (va_Qi (S := Unit) (fun (r : Int32) (u : Unit) => post r ) (gB D (gT cI cC cF cO) (fun (u : Unit) => [(a_this, .inr (5, [.ref a_ranks, .ref a_cards, .ref a_hours, .ref a_slots, .ref a_sorted, .ref a_longest, .int v_size])), (a_cards, .inl (cI, 40, .inl v_cards)), (a_hours, .inl (cI, 40, .inl v_hours))]) [(a_this, .inr (5, [.ref a_ranks, .ref a_cards, .ref a_hours, .ref a_slots, .ref a_sorted, .ref a_longest, .int v_size])), (a_cards, .inl (cI, 40, .inl v_cards)), (a_hours, .inl (cI, 40, .inl v_hours))] sz) (va_A [(a_this, .inr (5, [.ref a_ranks, .ref a_cards, .ref a_hours, .ref a_slots, .ref a_sorted, .ref a_longest, .int v_size])), (a_cards, .inl (cI, 40, .inl v_cards)), (a_hours, .inl (cI, 40, .inl v_hours))] sz)) 0 0 (va_A [(a_this, .inr (5, [.ref a_ranks, .ref a_cards, .ref a_hours, .ref a_slots, .ref a_sorted, .ref a_longest, .int v_size])), (a_cards, .inl (cI, 40, .inl v_cards)), (a_hours, .inl (cI, 40, .inl v_hours))] sz) := by
  refine gOfz (own := RX5) (cc := cX5_standsBefore) (maxL := 4) (ret := (some .boolean)) rfl (by decide) rfl (Nat.le_of_ble_eq_true rfl) rfl ?_
  intro p e s m below meth c A args Q hAe hx hb hr hts hown hml hlocks hname hA hK hX hT hP hD hS hret ls hl
  have hl : lv_has ls 4 [(0, .ref a_this), (1, .int x1), (2, .int x2)] := hl
  unfold wp_X5_standsBefore at hwp
  refine lv_aload_n hx hb dX5_standsBefore_0 rfl (lv_at hl 0 rfl) ?_
  refine lv_aload_n hx hb dX5_standsBefore_1 rfl (lv_at hl 0 rfl) ?_
  refine va_get (D := D) (ci := 5) (v := .ref a_hours) (C := RX5) (T := TX5) (N := 7) hx hb hts mc_X5_standsBefore_5 hown hK hP 0 rfl rfl 2 (by decide) (hts _ ml_X5_standsBefore_1) (fun _ h9 => h9) rfl dX5_standsBefore_2 ?_
  refine lv_iload_n hx hb dX5_standsBefore_5 rfl (lv_at hl 1 rfl) ?_
  refine gBacki (D := D) (tys := gT cI cC cF cO) (A := A) (wr := [(a_cards, .inl (cI, 40, .inl v_cards))]) (w1 := (fun u_2 : Unit => [(a_this, .inr (5, [.ref a_ranks, .ref a_cards, .ref a_hours, .ref a_slots, .ref a_sorted, .ref a_longest, .int v_size])), (a_hours, .inl (cI, 40, .inl v_hours))])) (va_runV (As := [.ref a_hours, .int x1]) (rest := []) ⟨hx, hb, hml, hown, hts⟩ (c_X5_valueAt l D cI cC cF cO a_this a_hours a_ranks a_cards a_hours a_slots a_sorted a_longest _ _ _ _ _ hwp) (cwV 2 hts gX5_standsBefore_X5_valueAt rfl rfl rfl (by decide +kernel) ⟨Nat.le_of_ble_eq_true rfl, Nat.le_of_ble_eq_true rfl⟩) (gPreV (C := RX5) (T := TX5) (N := 7) (ci := 5) hK hX hT hP hD hS hA [0, 2] rfl rfl rfl (qb := 0) rfl) rfl rfl hl.1 rfl (lv_room (Nat.le_of_ble_eq_true rfl)) dX5_standsBefore_6 ⟨Nat.le_of_ble_eq_true rfl, Nat.le_of_ble_eq_true rfl⟩) hP hD hS hA [0, 2] [1] rfl rfl rfl (by decide) (fun r_1 u_2 H locs hwp hP hD hS => ?_)
  have hP : va_P D vwCl [(a_cards, .inl (cI, 40, .inl v_cards)), (a_this, .inr (5, [.ref a_ranks, .ref a_cards, .ref a_hours, .ref a_slots, .ref a_sorted, .ref a_longest, .int v_size])), (a_hours, .inl (cI, 40, .inl v_hours))] H := hP
  have hD : va_D A [(a_cards, .inl (cI, 40, .inl v_cards)), (a_this, .inr (5, [.ref a_ranks, .ref a_cards, .ref a_hours, .ref a_slots, .ref a_sorted, .ref a_longest, .int v_size])), (a_hours, .inl (cI, 40, .inl v_hours))] := hD
  refine lv_aload_n hx hb dX5_standsBefore_9 rfl (lv_at hl 0 rfl) ?_
  refine lv_aload_n hx hb dX5_standsBefore_10 rfl (lv_at hl 0 rfl) ?_
  refine va_get (D := D) (ci := 5) (v := .ref a_hours) (C := RX5) (T := TX5) (N := 7) hx hb hts mc_X5_standsBefore_5 hown hK hP 1 rfl rfl 2 (by decide) (hts _ ml_X5_standsBefore_1) (fun _ h9 => h9) rfl dX5_standsBefore_11 ?_
  refine lv_iload_n hx hb dX5_standsBefore_14 rfl (lv_at hl 2 rfl) ?_
  refine gBacki (D := D) (tys := gT cI cC cF cO) (A := A) (wr := [(a_cards, .inl (cI, 40, .inl v_cards))]) (w1 := (fun u_4 : Unit => [(a_this, .inr (5, [.ref a_ranks, .ref a_cards, .ref a_hours, .ref a_slots, .ref a_sorted, .ref a_longest, .int v_size])), (a_hours, .inl (cI, 40, .inl v_hours))])) (va_runV (As := [.ref a_hours, .int x2]) (rest := [.int r_1]) ⟨hx, hb, hml, hown, hts⟩ (c_X5_valueAt l D cI cC cF cO a_this a_hours a_ranks a_cards a_hours a_slots a_sorted a_longest _ _ _ _ _ hwp) (cwV 2 hts gX5_standsBefore_X5_valueAt rfl rfl rfl (by decide +kernel) ⟨Nat.le_of_ble_eq_true rfl, Nat.le_of_ble_eq_true rfl⟩) (gPreV (C := RX5) (T := TX5) (N := 7) (ci := 5) hK hX hT hP hD hS hA [1, 2] rfl rfl rfl (qb := 1) rfl) rfl rfl hl.1 rfl (lv_room (Nat.le_of_ble_eq_true rfl)) dX5_standsBefore_15 ⟨Nat.le_of_ble_eq_true rfl, Nat.le_of_ble_eq_true rfl⟩) hP hD hS hA [1, 2] [0] rfl rfl rfl (by decide) (fun r_3 u_4 H locs hwp hP hD hS => ?_)
  have hP : va_P D vwCl [(a_cards, .inl (cI, 40, .inl v_cards)), (a_this, .inr (5, [.ref a_ranks, .ref a_cards, .ref a_hours, .ref a_slots, .ref a_sorted, .ref a_longest, .int v_size])), (a_hours, .inl (cI, 40, .inl v_hours))] H := hP
  have hD : va_D A [(a_cards, .inl (cI, 40, .inl v_cards)), (a_this, .inr (5, [.ref a_ranks, .ref a_cards, .ref a_hours, .ref a_slots, .ref a_sorted, .ref a_longest, .int v_size])), (a_hours, .inl (cI, 40, .inl v_hours))] := hD
  refine lv_isub hx hb dX5_standsBefore_18 ?_
  refine lv_istore_n (lv' := [(3, .int (r_1 - r_3)), (0, .ref a_this), (1, .int x1), (2, .int x2)]) hx hb dX5_standsBefore_19 rfl hl (by decide) rfl (fun ls hl => ?_)
  refine lv_iload_n hx hb dX5_standsBefore_20 rfl (lv_at hl 0 rfl) ?_
  refine lv_if_lt (tgt := 49) hx hb dX5_standsBefore_21 (by decide) (fun hc => ?_) (fun hc => ?_)
  · have hwp := hwp.1 hc
    refine lv_iconst (v := 1) hx hb dX5_standsBefore_49 (by decide) ?_
    refine lv_goto (tgt := 54) hx hb dX5_standsBefore_50 (by decide) ?_
    exact hret () [1, 0, 2] dX5_standsBefore_54 (Or.inr rfl) hwp rfl rfl hP hD hS
  · have hwp := hwp.2 hc
    refine lv_iload_n hx hb dX5_standsBefore_24 rfl (lv_at hl 0 rfl) ?_
    refine lv_if_ne (tgt := 53) hx hb dX5_standsBefore_25 (by decide) (fun hc => ?_) (fun hc => ?_)
    · have hwp := hwp.2 hc
      refine lv_iconst (v := 0) hx hb dX5_standsBefore_53 (by decide) ?_
      exact hret () [1, 0, 2] dX5_standsBefore_54 (Or.inl rfl) hwp rfl rfl hP hD hS
    · have hwp := hwp.1 hc
      refine lv_aload_n hx hb dX5_standsBefore_28 rfl (lv_at hl 1 rfl) ?_
      refine lv_aload_n hx hb dX5_standsBefore_29 rfl (lv_at hl 1 rfl) ?_
      refine va_get (D := D) (ci := 5) (v := .ref a_cards) (C := RX5) (T := TX5) (N := 7) hx hb hts mc_X5_standsBefore_5 hown hK hP 1 rfl rfl 1 (by decide) (hts _ ml_X5_standsBefore_2) (fun _ h9 => h9) rfl dX5_standsBefore_30 ?_
      refine lv_iload_n hx hb dX5_standsBefore_33 rfl (lv_at hl 2 rfl) ?_
      refine gBacki (D := D) (tys := gT cI cC cF cO) (A := A) (wr := [(a_hours, .inl (cI, 40, .inl v_hours))]) (w1 := (fun u_6 : Unit => [(a_this, .inr (5, [.ref a_ranks, .ref a_cards, .ref a_hours, .ref a_slots, .ref a_sorted, .ref a_longest, .int v_size])), (a_cards, .inl (cI, 40, .inl v_cards))])) (va_runV (As := [.ref a_cards, .int x1]) (rest := []) ⟨hx, hb, hml, hown, hts⟩ (c_X5_valueAt l D cI cC cF cO a_this a_cards a_ranks a_cards a_hours a_slots a_sorted a_longest _ _ _ _ _ hwp) (cwV 2 hts gX5_standsBefore_X5_valueAt rfl rfl rfl (by decide +kernel) ⟨Nat.le_of_ble_eq_true rfl, Nat.le_of_ble_eq_true rfl⟩) (gPreV (C := RX5) (T := TX5) (N := 7) (ci := 5) hK hX hT hP hD hS hA [1, 0] rfl rfl rfl (qb := 1) rfl) rfl rfl hl.1 rfl (lv_room (Nat.le_of_ble_eq_true rfl)) dX5_standsBefore_34 ⟨Nat.le_of_ble_eq_true rfl, Nat.le_of_ble_eq_true rfl⟩) hP hD hS hA [1, 0] [2] rfl rfl rfl (by decide) (fun r_5 u_6 H locs hwp hP hD hS => ?_)
      have hP : va_P D vwCl [(a_hours, .inl (cI, 40, .inl v_hours)), (a_this, .inr (5, [.ref a_ranks, .ref a_cards, .ref a_hours, .ref a_slots, .ref a_sorted, .ref a_longest, .int v_size])), (a_cards, .inl (cI, 40, .inl v_cards))] H := hP
      have hD : va_D A [(a_hours, .inl (cI, 40, .inl v_hours)), (a_this, .inr (5, [.ref a_ranks, .ref a_cards, .ref a_hours, .ref a_slots, .ref a_sorted, .ref a_longest, .int v_size])), (a_cards, .inl (cI, 40, .inl v_cards))] := hD
      refine lv_aload_n hx hb dX5_standsBefore_37 rfl (lv_at hl 1 rfl) ?_
      refine lv_aload_n hx hb dX5_standsBefore_38 rfl (lv_at hl 1 rfl) ?_
      refine va_get (D := D) (ci := 5) (v := .ref a_cards) (C := RX5) (T := TX5) (N := 7) hx hb hts mc_X5_standsBefore_5 hown hK hP 1 rfl rfl 1 (by decide) (hts _ ml_X5_standsBefore_2) (fun _ h9 => h9) rfl dX5_standsBefore_39 ?_
      refine lv_iload_n hx hb dX5_standsBefore_42 rfl (lv_at hl 3 rfl) ?_
      refine gBacki (D := D) (tys := gT cI cC cF cO) (A := A) (wr := [(a_hours, .inl (cI, 40, .inl v_hours))]) (w1 := (fun u_8 : Unit => [(a_this, .inr (5, [.ref a_ranks, .ref a_cards, .ref a_hours, .ref a_slots, .ref a_sorted, .ref a_longest, .int v_size])), (a_cards, .inl (cI, 40, .inl v_cards))])) (va_runV (As := [.ref a_cards, .int x2]) (rest := [.int r_5]) ⟨hx, hb, hml, hown, hts⟩ (c_X5_valueAt l D cI cC cF cO a_this a_cards a_ranks a_cards a_hours a_slots a_sorted a_longest _ _ _ _ _ hwp) (cwV 2 hts gX5_standsBefore_X5_valueAt rfl rfl rfl (by decide +kernel) ⟨Nat.le_of_ble_eq_true rfl, Nat.le_of_ble_eq_true rfl⟩) (gPreV (C := RX5) (T := TX5) (N := 7) (ci := 5) hK hX hT hP hD hS hA [1, 2] rfl rfl rfl (qb := 1) rfl) rfl rfl hl.1 rfl (lv_room (Nat.le_of_ble_eq_true rfl)) dX5_standsBefore_43 ⟨Nat.le_of_ble_eq_true rfl, Nat.le_of_ble_eq_true rfl⟩) hP hD hS hA [1, 2] [0] rfl rfl rfl (by decide) (fun r_7 u_8 H locs hwp hP hD hS => ?_)
      have hP : va_P D vwCl [(a_hours, .inl (cI, 40, .inl v_hours)), (a_this, .inr (5, [.ref a_ranks, .ref a_cards, .ref a_hours, .ref a_slots, .ref a_sorted, .ref a_longest, .int v_size])), (a_cards, .inl (cI, 40, .inl v_cards))] H := hP
      have hD : va_D A [(a_hours, .inl (cI, 40, .inl v_hours)), (a_this, .inr (5, [.ref a_ranks, .ref a_cards, .ref a_hours, .ref a_slots, .ref a_sorted, .ref a_longest, .int v_size])), (a_cards, .inl (cI, 40, .inl v_cards))] := hD
      refine lv_icmp_ge (tgt := 53) hx hb dX5_standsBefore_46 (by decide) (fun hc => ?_) (fun hc => ?_)
      · have hwp := hwp.1 hc
        refine lv_iconst (v := 0) hx hb dX5_standsBefore_53 (by decide) ?_
        exact hret () [1, 2, 0] dX5_standsBefore_54 (Or.inl rfl) hwp rfl rfl hP hD hS
      · have hwp := hwp.2 hc
        refine lv_iconst (v := 1) hx hb dX5_standsBefore_49 (by decide) ?_
        refine lv_goto (tgt := 54) hx hb dX5_standsBefore_50 (by decide) ?_
        exact hret () [1, 2, 0] dX5_standsBefore_54 (Or.inr rfl) hwp rfl rfl hP hD hS
theorem mc_X5_sort_5 : ∀ w ∈ u_ws RX5 TX5 7, w ∈ wsX5_sort := fun w h => List.mem_cons_of_mem _ (List.mem_append_right _ h)
theorem ml_X5_sort_1 : (.fieldLink RX5 30 "StoryWall$StraightRow" "size" "I" : Cond) ∈ wsX5_sort := List.mem_of_getElem? (i := 1) rfl
theorem ml_X5_sort_2 : (.fieldLink RX5 24 "StoryWall$StraightRow" "sorted" "[I" : Cond) ∈ wsX5_sort := List.mem_of_getElem? (i := 2) rfl
abbrev rm_X5_sort : Room := { frames := 2, cells := 0, slots := 0, locals := 45 }
set_option maxHeartbeats 4000000 in
set_option maxRecDepth 100000 in
theorem c_X5_sort (l : Launch) (D : va_G) (cI cC cF cO : ClassId) (a_this a_cards a_hours a_sorted a_ranks a_slots a_longest : Nat)  (sz : Nat)  (v_size : Int32) (v_cards : Nat → Int32) (v_hours : Nat → Int32) (v_sorted : Nat → Int32) (post : (Nat → Int32) → Prop) (hwp : wp_X5_sort v_size v_cards v_hours v_sorted post) : Met l yX5_sort wsX5_sort rm_X5_sort (gPre D (gT cI cC cF cO) [.ref a_this] [(a_this, .inr (5, [.ref a_ranks, .ref a_cards, .ref a_hours, .ref a_slots, .ref a_sorted, .ref a_longest, .int v_size])), (a_cards, .inl (cI, 40, .inl v_cards)), (a_hours, .inl (cI, 40, .inl v_hours)), (a_sorted, .inl (cI, 40, .inl v_sorted))] sz) (va_Qv (S := (Nat → Int32)) (fun (u : (Nat → Int32)) => post u) (gB D (gT cI cC cF cO) (fun (u : (Nat → Int32)) => [(a_this, .inr (5, [.ref a_ranks, .ref a_cards, .ref a_hours, .ref a_slots, .ref a_sorted, .ref a_longest, .int v_size])), (a_cards, .inl (cI, 40, .inl v_cards)), (a_hours, .inl (cI, 40, .inl v_hours)), (a_sorted, .inl (cI, 40, .inl u))]) [(a_this, .inr (5, [.ref a_ranks, .ref a_cards, .ref a_hours, .ref a_slots, .ref a_sorted, .ref a_longest, .int v_size])), (a_cards, .inl (cI, 40, .inl v_cards)), (a_hours, .inl (cI, 40, .inl v_hours)), (a_sorted, .inl (cI, 40, .inl v_sorted))] sz) (va_A [(a_this, .inr (5, [.ref a_ranks, .ref a_cards, .ref a_hours, .ref a_slots, .ref a_sorted, .ref a_longest, .int v_size])), (a_cards, .inl (cI, 40, .inl v_cards)), (a_hours, .inl (cI, 40, .inl v_hours)), (a_sorted, .inl (cI, 40, .inl v_sorted))] sz)) 0 0 (va_A [(a_this, .inr (5, [.ref a_ranks, .ref a_cards, .ref a_hours, .ref a_slots, .ref a_sorted, .ref a_longest, .int v_size])), (a_cards, .inl (cI, 40, .inl v_cards)), (a_hours, .inl (cI, 40, .inl v_hours)), (a_sorted, .inl (cI, 40, .inl v_sorted))] sz) := by
  refine gOfv (own := RX5) (cc := cX5_sort) (maxL := 3) (ret := none) rfl (by decide) rfl (Nat.le_of_ble_eq_true rfl) rfl ?_
  intro p e s m below meth c A args Q hAe hx hb hr hts hown hml hlocks hname hA hK hX hT hP hD hS hret ls hl
  have hl : lv_has ls 3 [(0, .ref a_this)] := hl
  unfold wp_X5_sort at hwp
  refine lv_iconst (v := 0) hx hb dX5_sort_0 (by decide) ?_
  refine lv_istore_n (lv' := [(1, .int (0 : Int32)), (0, .ref a_this)]) hx hb dX5_sort_1 rfl hl (by decide) rfl (fun ls hl => ?_)
  have hl : lv_has ls 3 [(0, .ref a_this), (1, .int (0 : Int32))] := lv_sub hl [1, 0] rfl
  unfold wp_X5_sort_l2 at hwp
  obtain ⟨J2, μ2, hJ, hst2⟩ := hwp
  have hL2 : ∀ (n : Nat) (x1_2 : Int32) (v_sorted_2 : Nat → Int32), μ2 x1_2 v_sorted_2 < n → J2 x1_2 v_sorted_2 → ∀ (H : Heap) (locs : List Loc), va_P D vwCl [(a_this, .inr (5, [.ref a_ranks, .ref a_cards, .ref a_hours, .ref a_slots, .ref a_sorted, .ref a_longest, .int v_size])), (a_cards, .inl (cI, 40, .inl v_cards)), (a_hours, .inl (cI, 40, .inl v_hours)), (a_sorted, .inl (cI, 40, .inl v_sorted_2))] H → va_D A [(a_this, .inr (5, [.ref a_ranks, .ref a_cards, .ref a_hours, .ref a_slots, .ref a_sorted, .ref a_longest, .int v_size])), (a_cards, .inl (cI, 40, .inl v_cards)), (a_hours, .inl (cI, 40, .inl v_hours)), (a_sorted, .inl (cI, 40, .inl v_sorted_2))] → va_S A s.heap H locs → ∀ ls : Array Slot, lv_has ls 3 [(0, .ref a_this), (1, .int x1_2)] → W p l e rm_X5_sort s m args below meth c H locs 0 0 Q (F0 m 2 ls []) := by
    intro n
    induction n with
    | zero => intro x1_2 v_sorted_2 h; exact absurd h (Nat.not_lt_zero _)
    | succ n ih2 =>
      intro x1_2 v_sorted_2 hμ2 hJ H locs hP hD hS ls hl
      have hwp := hst2 x1_2 v_sorted_2 hJ
      have hj58 : ∀ (x1_58 : Int32) (x2_58 : Int32) (v_sorted_58 : Nat → Int32) (H : Heap) (locs : List Loc), wp_X5_sort_j58 x1_58 x2_58 v_size v_cards v_hours v_sorted_58 (fun u0 u1 => J2 u0 u1 ∧ μ2 u0 u1 < μ2 x1_2 v_sorted_2) post → va_P D vwCl [(a_this, .inr (5, [.ref a_ranks, .ref a_cards, .ref a_hours, .ref a_slots, .ref a_sorted, .ref a_longest, .int v_size])), (a_cards, .inl (cI, 40, .inl v_cards)), (a_hours, .inl (cI, 40, .inl v_hours)), (a_sorted, .inl (cI, 40, .inl v_sorted_58))] H → va_D A [(a_this, .inr (5, [.ref a_ranks, .ref a_cards, .ref a_hours, .ref a_slots, .ref a_sorted, .ref a_longest, .int v_size])), (a_cards, .inl (cI, 40, .inl v_cards)), (a_hours, .inl (cI, 40, .inl v_hours)), (a_sorted, .inl (cI, 40, .inl v_sorted_58))] → va_S A s.heap H locs → ∀ ls : Array Slot, lv_has ls 3 [(0, .ref a_this), (1, .int x1_58), (2, .int x2_58)] → W p l e rm_X5_sort s m args below meth c H locs 0 0 Q (F0 m 58 ls []) := by
        intro x1_58 x2_58 v_sorted_58 H locs hwp hP hD hS ls hl
        unfold wp_X5_sort_j58 at hwp
        refine lv_aload_n hx hb dX5_sort_58 rfl (lv_at hl 0 rfl) ?_
        refine va_get (D := D) (ci := 5) (v := .ref a_sorted) (C := RX5) (T := TX5) (N := 7) hx hb hts mc_X5_sort_5 hown hK hP 0 rfl rfl 4 (by decide) (hts _ ml_X5_sort_2) (fun _ h9 => h9) rfl dX5_sort_59 ?_
        refine lv_iload_n hx hb dX5_sort_62 rfl (lv_at hl 2 rfl) ?_
        refine lv_iload_n hx hb dX5_sort_63 rfl (lv_at hl 1 rfl) ?_
        have hn_1 := hwp.1
        have hwp := hwp.2
        refine va_iast (D := D) hx hb hK hP hD hS 3 0 rfl rfl hn_1 dX5_sort_64 (fun H locs hP hD hS => ?_)
        have hP : va_P D vwCl [(a_this, .inr (5, [.ref a_ranks, .ref a_cards, .ref a_hours, .ref a_slots, .ref a_sorted, .ref a_longest, .int v_size])), (a_cards, .inl (cI, 40, .inl v_cards)), (a_hours, .inl (cI, 40, .inl v_hours)), (a_sorted, .inl (cI, 40, .inl (upd v_sorted_58 (x2_58).toNatClampNeg x1_58)))] H := hP
        have hD : va_D A [(a_this, .inr (5, [.ref a_ranks, .ref a_cards, .ref a_hours, .ref a_slots, .ref a_sorted, .ref a_longest, .int v_size])), (a_cards, .inl (cI, 40, .inl v_cards)), (a_hours, .inl (cI, 40, .inl v_hours)), (a_sorted, .inl (cI, 40, .inl (upd v_sorted_58 (x2_58).toNatClampNeg x1_58)))] := hD
        refine lv_iinc (v := (x1_58 + (1 : Int32))) (lv' := [(1, .int (x1_58 + (1 : Int32))), (0, .ref a_this), (2, .int x2_58)]) hx hb dX5_sort_65 hl (k := 1) rfl rfl (by decide) rfl (fun ls hl => ?_)
        refine lv_goto (tgt := 2) hx hb dX5_sort_68 (by decide) ?_
        have hl : lv_has ls 3 [(0, .ref a_this), (1, .int (x1_58 + (1 : Int32)))] := lv_sub hl [1, 0] rfl
        exact ih2 (x1_58 + (1 : Int32)) (upd v_sorted_58 (x2_58).toNatClampNeg x1_58) (Nat.lt_of_lt_of_le hwp.2 (Nat.le_of_lt_succ hμ2)) hwp.1 _ _ hP hD hS ls hl
      refine lv_iload_n hx hb dX5_sort_2 rfl (lv_at hl 1 rfl) ?_
      refine lv_aload_n hx hb dX5_sort_3 rfl (lv_at hl 0 rfl) ?_
      refine va_get (D := D) (ci := 5) (v := .int v_size) (C := RX5) (T := TX5) (N := 7) hx hb hts mc_X5_sort_5 hown hK hP 0 rfl rfl 6 (by decide) (hts _ ml_X5_sort_1) (fun _ h9 => h9) rfl dX5_sort_4 ?_
      refine lv_icmp_ge (tgt := 71) hx hb dX5_sort_7 (by decide) (fun hc => ?_) (fun hc => ?_)
      · have hwp := hwp.1 hc
        exact hret v_sorted_2 [0, 1, 2, 3] dX5_sort_71 hwp rfl rfl hP hD hS
      · have hwp := hwp.2 hc
        refine lv_iload_n hx hb dX5_sort_10 rfl (lv_at hl 1 rfl) ?_
        refine lv_bipush (v := 40) hx hb dX5_sort_11 (by decide) ?_
        refine lv_icmp_ge (tgt := 71) hx hb dX5_sort_13 (by decide) (fun hc => ?_) (fun hc => ?_)
        · have hwp := hwp.1 hc
          exact hret v_sorted_2 [0, 1, 2, 3] dX5_sort_71 hwp rfl rfl hP hD hS
        · have hwp := hwp.2 hc
          refine lv_iload_n hx hb dX5_sort_16 rfl (lv_at hl 1 rfl) ?_
          refine lv_istore_n (lv' := [(2, .int x1_2), (0, .ref a_this), (1, .int x1_2)]) hx hb dX5_sort_17 rfl hl (by decide) rfl (fun ls hl => ?_)
          have hl : lv_has ls 3 [(0, .ref a_this), (1, .int x1_2), (2, .int x1_2)] := lv_sub hl [1, 2, 0] rfl
          unfold wp_X5_sort_l18 at hwp
          obtain ⟨J18, μ18, hJ, hst18⟩ := hwp
          have hL18 : ∀ (n : Nat) (x2_18 : Int32) (v_sorted_18 : Nat → Int32), μ18 x2_18 v_sorted_18 < n → J18 x2_18 v_sorted_18 → ∀ (H : Heap) (locs : List Loc), va_P D vwCl [(a_this, .inr (5, [.ref a_ranks, .ref a_cards, .ref a_hours, .ref a_slots, .ref a_sorted, .ref a_longest, .int v_size])), (a_cards, .inl (cI, 40, .inl v_cards)), (a_hours, .inl (cI, 40, .inl v_hours)), (a_sorted, .inl (cI, 40, .inl v_sorted_18))] H → va_D A [(a_this, .inr (5, [.ref a_ranks, .ref a_cards, .ref a_hours, .ref a_slots, .ref a_sorted, .ref a_longest, .int v_size])), (a_cards, .inl (cI, 40, .inl v_cards)), (a_hours, .inl (cI, 40, .inl v_hours)), (a_sorted, .inl (cI, 40, .inl v_sorted_18))] → va_S A s.heap H locs → ∀ ls : Array Slot, lv_has ls 3 [(0, .ref a_this), (1, .int x1_2), (2, .int x2_18)] → W p l e rm_X5_sort s m args below meth c H locs 0 0 Q (F0 m 18 ls []) := by
            intro n
            induction n with
            | zero => intro x2_18 v_sorted_18 h; exact absurd h (Nat.not_lt_zero _)
            | succ n ih18 =>
              intro x2_18 v_sorted_18 hμ18 hJ H locs hP hD hS ls hl
              have hwp := hst18 x2_18 v_sorted_18 hJ
              refine lv_iload_n hx hb dX5_sort_18 rfl (lv_at hl 2 rfl) ?_
              refine lv_if_le (tgt := 58) hx hb dX5_sort_19 (by decide) (fun hc => ?_) (fun hc => ?_)
              · have hwp := hwp.1 hc
                have hl : lv_has ls 3 [(0, .ref a_this), (1, .int x1_2), (2, .int x2_18)] := lv_sub hl [0, 1, 2] rfl
                exact hj58 x1_2 x2_18 v_sorted_18 _ _ hwp hP hD hS ls hl
              · have hwp := hwp.2 hc
                refine lv_aload_n hx hb dX5_sort_22 rfl (lv_at hl 0 rfl) ?_
                refine lv_iload_n hx hb dX5_sort_23 rfl (lv_at hl 1 rfl) ?_
                refine lv_aload_n hx hb dX5_sort_24 rfl (lv_at hl 0 rfl) ?_
                refine va_get (D := D) (ci := 5) (v := .ref a_sorted) (C := RX5) (T := TX5) (N := 7) hx hb hts mc_X5_sort_5 hown hK hP 0 rfl rfl 4 (by decide) (hts _ ml_X5_sort_2) (fun _ h9 => h9) rfl dX5_sort_25 ?_
                refine lv_iload_n hx hb dX5_sort_28 rfl (lv_at hl 2 rfl) ?_
                refine lv_iconst (v := 1) hx hb dX5_sort_29 (by decide) ?_
                refine lv_isub hx hb dX5_sort_30 ?_
                have hn_2 := hwp.1
                have hwp := hwp.2
                refine va_iald (D := D) hx hb hK hP 3 0 rfl rfl hn_2 dX5_sort_31 ?_
                refine gBacki (D := D) (tys := gT cI cC cF cO) (A := A) (wr := [(a_sorted, .inl (cI, 40, .inl v_sorted_18))]) (w1 := (fun u_4 : Unit => [(a_this, .inr (5, [.ref a_ranks, .ref a_cards, .ref a_hours, .ref a_slots, .ref a_sorted, .ref a_longest, .int v_size])), (a_cards, .inl (cI, 40, .inl v_cards)), (a_hours, .inl (cI, 40, .inl v_hours))])) (va_runV (As := [.int x1_2, .int (v_sorted_18 ((x2_18 - (1 : Int32))).toNatClampNeg)]) (rest := []) ⟨hx, hb, hml, hown, hts⟩ (c_X5_standsBefore l D cI cC cF cO a_this a_cards a_hours a_ranks a_slots a_sorted a_longest _ _ _ _ _ _ _ hwp) (cwV 2 hts gX5_sort_X5_standsBefore rfl rfl rfl (by decide +kernel) ⟨Nat.le_of_ble_eq_true rfl, Nat.le_of_ble_eq_true rfl⟩) (gPreV (C := RX5) (T := TX5) (N := 7) (ci := 5) hK hX hT hP hD hS hA [0, 1, 2] rfl rfl rfl (qb := 0) rfl) rfl rfl hl.1 rfl (lv_room (Nat.le_of_ble_eq_true rfl)) dX5_sort_32 ⟨Nat.le_of_ble_eq_true rfl, Nat.le_of_ble_eq_true rfl⟩) hP hD hS hA [0, 1, 2] [3] rfl rfl rfl (by decide) (fun r_3 u_4 H locs hwp hP hD hS => ?_)
                have hP : va_P D vwCl [(a_sorted, .inl (cI, 40, .inl v_sorted_18)), (a_this, .inr (5, [.ref a_ranks, .ref a_cards, .ref a_hours, .ref a_slots, .ref a_sorted, .ref a_longest, .int v_size])), (a_cards, .inl (cI, 40, .inl v_cards)), (a_hours, .inl (cI, 40, .inl v_hours))] H := hP
                have hD : va_D A [(a_sorted, .inl (cI, 40, .inl v_sorted_18)), (a_this, .inr (5, [.ref a_ranks, .ref a_cards, .ref a_hours, .ref a_slots, .ref a_sorted, .ref a_longest, .int v_size])), (a_cards, .inl (cI, 40, .inl v_cards)), (a_hours, .inl (cI, 40, .inl v_hours))] := hD
                refine lv_if_eq (tgt := 58) hx hb dX5_sort_35 (by decide) (fun hc => ?_) (fun hc => ?_)
                · have hwp := hwp.1 hc
                  have hP : va_P D vwCl [(a_this, .inr (5, [.ref a_ranks, .ref a_cards, .ref a_hours, .ref a_slots, .ref a_sorted, .ref a_longest, .int v_size])), (a_cards, .inl (cI, 40, .inl v_cards)), (a_hours, .inl (cI, 40, .inl v_hours)), (a_sorted, .inl (cI, 40, .inl v_sorted_18))] H := hP.sub [1, 2, 3, 0] rfl
                  have hD : va_D A [(a_this, .inr (5, [.ref a_ranks, .ref a_cards, .ref a_hours, .ref a_slots, .ref a_sorted, .ref a_longest, .int v_size])), (a_cards, .inl (cI, 40, .inl v_cards)), (a_hours, .inl (cI, 40, .inl v_hours)), (a_sorted, .inl (cI, 40, .inl v_sorted_18))] := hD.sub [1, 2, 3, 0] (by decide) rfl
                  have hl : lv_has ls 3 [(0, .ref a_this), (1, .int x1_2), (2, .int x2_18)] := lv_sub hl [0, 1, 2] rfl
                  exact hj58 x1_2 x2_18 v_sorted_18 _ _ hwp hP hD hS ls hl
                · have hwp := hwp.2 hc
                  refine lv_aload_n hx hb dX5_sort_38 rfl (lv_at hl 0 rfl) ?_
                  refine va_get (D := D) (ci := 5) (v := .ref a_sorted) (C := RX5) (T := TX5) (N := 7) hx hb hts mc_X5_sort_5 hown hK hP 1 rfl rfl 4 (by decide) (hts _ ml_X5_sort_2) (fun _ h9 => h9) rfl dX5_sort_39 ?_
                  refine lv_iload_n hx hb dX5_sort_42 rfl (lv_at hl 2 rfl) ?_
                  refine lv_aload_n hx hb dX5_sort_43 rfl (lv_at hl 0 rfl) ?_
                  refine va_get (D := D) (ci := 5) (v := .ref a_sorted) (C := RX5) (T := TX5) (N := 7) hx hb hts mc_X5_sort_5 hown hK hP 1 rfl rfl 4 (by decide) (hts _ ml_X5_sort_2) (fun _ h9 => h9) rfl dX5_sort_44 ?_
                  refine lv_iload_n hx hb dX5_sort_47 rfl (lv_at hl 2 rfl) ?_
                  refine lv_iconst (v := 1) hx hb dX5_sort_48 (by decide) ?_
                  refine lv_isub hx hb dX5_sort_49 ?_
                  have hn_5 := hwp.1
                  have hwp := hwp.2
                  refine va_iald (D := D) hx hb hK hP 0 0 rfl rfl hn_5 dX5_sort_50 ?_
                  have hn_6 := hwp.1
                  have hwp := hwp.2
                  refine va_iast (D := D) hx hb hK hP hD hS 0 0 rfl rfl hn_6 dX5_sort_51 (fun H locs hP hD hS => ?_)
                  have hP : va_P D vwCl [(a_sorted, .inl (cI, 40, .inl (upd v_sorted_18 (x2_18).toNatClampNeg (v_sorted_18 ((x2_18 - (1 : Int32))).toNatClampNeg)))), (a_this, .inr (5, [.ref a_ranks, .ref a_cards, .ref a_hours, .ref a_slots, .ref a_sorted, .ref a_longest, .int v_size])), (a_cards, .inl (cI, 40, .inl v_cards)), (a_hours, .inl (cI, 40, .inl v_hours))] H := hP
                  have hD : va_D A [(a_sorted, .inl (cI, 40, .inl (upd v_sorted_18 (x2_18).toNatClampNeg (v_sorted_18 ((x2_18 - (1 : Int32))).toNatClampNeg)))), (a_this, .inr (5, [.ref a_ranks, .ref a_cards, .ref a_hours, .ref a_slots, .ref a_sorted, .ref a_longest, .int v_size])), (a_cards, .inl (cI, 40, .inl v_cards)), (a_hours, .inl (cI, 40, .inl v_hours))] := hD
                  refine lv_iinc (v := (x2_18 + (-1 : Int32))) (lv' := [(2, .int (x2_18 + (-1 : Int32))), (0, .ref a_this), (1, .int x1_2)]) hx hb dX5_sort_52 hl (k := 2) rfl rfl (by decide) rfl (fun ls hl => ?_)
                  refine lv_goto (tgt := 18) hx hb dX5_sort_55 (by decide) ?_
                  have hP : va_P D vwCl [(a_this, .inr (5, [.ref a_ranks, .ref a_cards, .ref a_hours, .ref a_slots, .ref a_sorted, .ref a_longest, .int v_size])), (a_cards, .inl (cI, 40, .inl v_cards)), (a_hours, .inl (cI, 40, .inl v_hours)), (a_sorted, .inl (cI, 40, .inl (upd v_sorted_18 (x2_18).toNatClampNeg (v_sorted_18 ((x2_18 - (1 : Int32))).toNatClampNeg))))] H := hP.sub [1, 2, 3, 0] rfl
                  have hD : va_D A [(a_this, .inr (5, [.ref a_ranks, .ref a_cards, .ref a_hours, .ref a_slots, .ref a_sorted, .ref a_longest, .int v_size])), (a_cards, .inl (cI, 40, .inl v_cards)), (a_hours, .inl (cI, 40, .inl v_hours)), (a_sorted, .inl (cI, 40, .inl (upd v_sorted_18 (x2_18).toNatClampNeg (v_sorted_18 ((x2_18 - (1 : Int32))).toNatClampNeg))))] := hD.sub [1, 2, 3, 0] (by decide) rfl
                  have hl : lv_has ls 3 [(0, .ref a_this), (1, .int x1_2), (2, .int (x2_18 + (-1 : Int32)))] := lv_sub hl [1, 2, 0] rfl
                  exact ih18 (x2_18 + (-1 : Int32)) (upd v_sorted_18 (x2_18).toNatClampNeg (v_sorted_18 ((x2_18 - (1 : Int32))).toNatClampNeg)) (Nat.lt_of_lt_of_le hwp.2 (Nat.le_of_lt_succ hμ18)) hwp.1 _ _ hP hD hS ls hl
          exact hL18 _ x1_2 v_sorted_2 (Nat.lt_succ_self _) hJ _ _ hP hD hS ls hl
  exact hL2 _ (0 : Int32) v_sorted (Nat.lt_succ_self _) hJ _ _ hP hD hS ls hl
theorem mc_X5_moved_5 : ∀ w ∈ u_ws RX5 TX5 7, w ∈ wsX5_moved := fun w h => List.mem_cons_of_mem _ (List.mem_append_right _ h)
theorem ml_X5_moved_1 : (.fieldLink RX5 30 "StoryWall$StraightRow" "size" "I" : Cond) ∈ wsX5_moved := List.mem_of_getElem? (i := 1) rfl
theorem ml_X5_moved_2 : (.fieldLink RX5 24 "StoryWall$StraightRow" "sorted" "[I" : Cond) ∈ wsX5_moved := List.mem_of_getElem? (i := 2) rfl
abbrev rm_X5_moved : Room := { frames := 1, cells := 0, slots := 0, locals := 22 }
set_option maxHeartbeats 4000000 in
set_option maxRecDepth 100000 in
theorem c_X5_moved (l : Launch) (D : va_G) (cI cC cF cO : ClassId) (a_this a_sorted a_ranks a_cards a_hours a_slots a_longest : Nat)  (sz : Nat)  (v_size : Int32) (v_sorted : Nat → Int32) (post : Int32 → Prop) (hwp : wp_X5_moved v_size v_sorted post) : Met l yX5_moved wsX5_moved rm_X5_moved (gPre D (gT cI cC cF cO) [.ref a_this] [(a_this, .inr (5, [.ref a_ranks, .ref a_cards, .ref a_hours, .ref a_slots, .ref a_sorted, .ref a_longest, .int v_size])), (a_sorted, .inl (cI, 40, .inl v_sorted))] sz) (va_Qi (S := Unit) (fun (r : Int32) (u : Unit) => post r ) (gB D (gT cI cC cF cO) (fun (u : Unit) => [(a_this, .inr (5, [.ref a_ranks, .ref a_cards, .ref a_hours, .ref a_slots, .ref a_sorted, .ref a_longest, .int v_size])), (a_sorted, .inl (cI, 40, .inl v_sorted))]) [(a_this, .inr (5, [.ref a_ranks, .ref a_cards, .ref a_hours, .ref a_slots, .ref a_sorted, .ref a_longest, .int v_size])), (a_sorted, .inl (cI, 40, .inl v_sorted))] sz) (va_A [(a_this, .inr (5, [.ref a_ranks, .ref a_cards, .ref a_hours, .ref a_slots, .ref a_sorted, .ref a_longest, .int v_size])), (a_sorted, .inl (cI, 40, .inl v_sorted))] sz)) 0 0 (va_A [(a_this, .inr (5, [.ref a_ranks, .ref a_cards, .ref a_hours, .ref a_slots, .ref a_sorted, .ref a_longest, .int v_size])), (a_sorted, .inl (cI, 40, .inl v_sorted))] sz) := by
  refine gOfi (own := RX5) (cc := cX5_moved) (maxL := 3) (ret := (some .int)) rfl (by decide) rfl (Nat.le_of_ble_eq_true rfl) rfl ?_
  intro p e s m below meth c A args Q hAe hx hb hr hts hown hml hlocks hname hA hK hX hT hP hD hS hret ls hl
  have hl : lv_has ls 3 [(0, .ref a_this)] := hl
  unfold wp_X5_moved at hwp
  refine lv_iconst (v := 0) hx hb dX5_moved_0 (by decide) ?_
  refine lv_istore_n (lv' := [(1, .int (0 : Int32)), (0, .ref a_this)]) hx hb dX5_moved_1 rfl hl (by decide) rfl (fun ls hl => ?_)
  refine lv_iconst (v := 0) hx hb dX5_moved_2 (by decide) ?_
  refine lv_istore_n (lv' := [(2, .int (0 : Int32)), (1, .int (0 : Int32)), (0, .ref a_this)]) hx hb dX5_moved_3 rfl hl (by decide) rfl (fun ls hl => ?_)
  have hl : lv_has ls 3 [(0, .ref a_this), (1, .int (0 : Int32)), (2, .int (0 : Int32))] := lv_sub hl [2, 1, 0] rfl
  unfold wp_X5_moved_l4 at hwp
  obtain ⟨J4, μ4, hJ, hst4⟩ := hwp
  have hL4 : ∀ (n : Nat) (x1_4 : Int32) (x2_4 : Int32), μ4 x1_4 x2_4 < n → J4 x1_4 x2_4 → ∀ (H : Heap) (locs : List Loc), va_P D vwCl [(a_this, .inr (5, [.ref a_ranks, .ref a_cards, .ref a_hours, .ref a_slots, .ref a_sorted, .ref a_longest, .int v_size])), (a_sorted, .inl (cI, 40, .inl v_sorted))] H → va_D A [(a_this, .inr (5, [.ref a_ranks, .ref a_cards, .ref a_hours, .ref a_slots, .ref a_sorted, .ref a_longest, .int v_size])), (a_sorted, .inl (cI, 40, .inl v_sorted))] → va_S A s.heap H locs → ∀ ls : Array Slot, lv_has ls 3 [(0, .ref a_this), (1, .int x1_4), (2, .int x2_4)] → W p l e rm_X5_moved s m args below meth c H locs 0 0 Q (F0 m 4 ls []) := by
    intro n
    induction n with
    | zero => intro x1_4 x2_4 h; exact absurd h (Nat.not_lt_zero _)
    | succ n ih4 =>
      intro x1_4 x2_4 hμ4 hJ H locs hP hD hS ls hl
      have hwp := hst4 x1_4 x2_4 hJ
      refine lv_iload_n hx hb dX5_moved_4 rfl (lv_at hl 2 rfl) ?_
      refine lv_aload_n hx hb dX5_moved_5 rfl (lv_at hl 0 rfl) ?_
      refine va_get (D := D) (ci := 5) (v := .int v_size) (C := RX5) (T := TX5) (N := 7) hx hb hts mc_X5_moved_5 hown hK hP 0 rfl rfl 6 (by decide) (hts _ ml_X5_moved_1) (fun _ h9 => h9) rfl dX5_moved_6 ?_
      refine lv_icmp_ge (tgt := 34) hx hb dX5_moved_9 (by decide) (fun hc => ?_) (fun hc => ?_)
      · have hwp := hwp.1 hc
        refine lv_iload_n hx hb dX5_moved_34 rfl (lv_at hl 1 rfl) ?_
        exact hret () [0, 1] dX5_moved_35 hwp rfl rfl hP hD hS
      · have hwp := hwp.2 hc
        refine lv_aload_n hx hb dX5_moved_12 rfl (lv_at hl 0 rfl) ?_
        refine lv_aload_n hx hb dX5_moved_13 rfl (lv_at hl 0 rfl) ?_
        refine va_get (D := D) (ci := 5) (v := .ref a_sorted) (C := RX5) (T := TX5) (N := 7) hx hb hts mc_X5_moved_5 hown hK hP 0 rfl rfl 4 (by decide) (hts _ ml_X5_moved_2) (fun _ h9 => h9) rfl dX5_moved_14 ?_
        refine lv_iload_n hx hb dX5_moved_17 rfl (lv_at hl 2 rfl) ?_
        refine gBacki (D := D) (tys := gT cI cC cF cO) (A := A) (wr := []) (w1 := (fun u_2 : Unit => [(a_this, .inr (5, [.ref a_ranks, .ref a_cards, .ref a_hours, .ref a_slots, .ref a_sorted, .ref a_longest, .int v_size])), (a_sorted, .inl (cI, 40, .inl v_sorted))])) (va_runV (As := [.ref a_sorted, .int x2_4]) (rest := []) ⟨hx, hb, hml, hown, hts⟩ (c_X5_valueAt l D cI cC cF cO a_this a_sorted a_ranks a_cards a_hours a_slots a_sorted a_longest _ _ _ _ _ hwp) (cwV 2 hts gX5_moved_X5_valueAt rfl rfl rfl (by decide +kernel) ⟨Nat.le_of_ble_eq_true rfl, Nat.le_of_ble_eq_true rfl⟩) (gPreV (C := RX5) (T := TX5) (N := 7) (ci := 5) hK hX hT hP hD hS hA [0, 1] rfl rfl rfl (qb := 0) rfl) rfl rfl hl.1 rfl (lv_room (Nat.le_of_ble_eq_true rfl)) dX5_moved_18 ⟨Nat.le_of_ble_eq_true rfl, Nat.le_of_ble_eq_true rfl⟩) hP hD hS hA [0, 1] [] rfl rfl rfl (by decide) (fun r_1 u_2 H locs hwp hP hD hS => ?_)
        have hP : va_P D vwCl [(a_this, .inr (5, [.ref a_ranks, .ref a_cards, .ref a_hours, .ref a_slots, .ref a_sorted, .ref a_longest, .int v_size])), (a_sorted, .inl (cI, 40, .inl v_sorted))] H := hP
        have hD : va_D A [(a_this, .inr (5, [.ref a_ranks, .ref a_cards, .ref a_hours, .ref a_slots, .ref a_sorted, .ref a_longest, .int v_size])), (a_sorted, .inl (cI, 40, .inl v_sorted))] := hD
        refine lv_iload_n hx hb dX5_moved_21 rfl (lv_at hl 2 rfl) ?_
        refine lv_icmp_eq (tgt := 28) hx hb dX5_moved_22 (by decide) (fun hc => ?_) (fun hc => ?_)
        · have hwp := hwp.1 hc
          refine lv_iinc (v := (x2_4 + (1 : Int32))) (lv' := [(2, .int (x2_4 + (1 : Int32))), (0, .ref a_this), (1, .int x1_4)]) hx hb dX5_moved_28 hl (k := 2) rfl rfl (by decide) rfl (fun ls hl => ?_)
          refine lv_goto (tgt := 4) hx hb dX5_moved_31 (by decide) ?_
          have hl : lv_has ls 3 [(0, .ref a_this), (1, .int x1_4), (2, .int (x2_4 + (1 : Int32)))] := lv_sub hl [1, 2, 0] rfl
          exact ih4 x1_4 (x2_4 + (1 : Int32)) (Nat.lt_of_lt_of_le hwp.2 (Nat.le_of_lt_succ hμ4)) hwp.1 _ _ hP hD hS ls hl
        · have hwp := hwp.2 hc
          refine lv_iinc (v := (x1_4 + (1 : Int32))) (lv' := [(1, .int (x1_4 + (1 : Int32))), (0, .ref a_this), (2, .int x2_4)]) hx hb dX5_moved_25 hl (k := 1) rfl rfl (by decide) rfl (fun ls hl => ?_)
          refine lv_iinc (v := (x2_4 + (1 : Int32))) (lv' := [(2, .int (x2_4 + (1 : Int32))), (1, .int (x1_4 + (1 : Int32))), (0, .ref a_this)]) hx hb dX5_moved_28 hl (k := 2) rfl rfl (by decide) rfl (fun ls hl => ?_)
          refine lv_goto (tgt := 4) hx hb dX5_moved_31 (by decide) ?_
          have hl : lv_has ls 3 [(0, .ref a_this), (1, .int (x1_4 + (1 : Int32))), (2, .int (x2_4 + (1 : Int32)))] := lv_sub hl [2, 1, 0] rfl
          exact ih4 (x1_4 + (1 : Int32)) (x2_4 + (1 : Int32)) (Nat.lt_of_lt_of_le hwp.2 (Nat.le_of_lt_succ hμ4)) hwp.1 _ _ hP hD hS ls hl
  exact hL4 _ (0 : Int32) (0 : Int32) (Nat.lt_succ_self _) hJ _ _ hP hD hS ls hl
theorem mc_X7_put_7 : ∀ w ∈ u_ws RX7 TX7 1, w ∈ wsX7_put := fun w h => List.mem_cons_of_mem _ (List.mem_append_right _ h)
theorem ml_X7_put_1 : (.fieldLink RX7 9 "StoryWall$Wall" "slots" "[I" : Cond) ∈ wsX7_put := List.mem_of_getElem? (i := 1) rfl
abbrev rm_X7_put : Room := { frames := 0, cells := 0, slots := 0, locals := 0 }
set_option maxHeartbeats 4000000 in
set_option maxRecDepth 100000 in
theorem c_X7_put (l : Launch) (D : va_G) (cI cC cF cO : ClassId) (a_this a_slots : Nat)  (sz : Nat) (x1 : Int32) (x2 : Int32) (v_slots : Nat → Int32) (post : (Nat → Int32) → Prop) (hwp : wp_X7_put x1 x2 v_slots post) : Met l yX7_put wsX7_put rm_X7_put (gPre D (gT cI cC cF cO) [.ref a_this, .int x1, .int x2] [(a_this, .inr (7, [.ref a_slots])), (a_slots, .inl (cI, 96, .inl v_slots))] sz) (va_Qv (S := (Nat → Int32)) (fun (u : (Nat → Int32)) => post u) (gB D (gT cI cC cF cO) (fun (u : (Nat → Int32)) => [(a_this, .inr (7, [.ref a_slots])), (a_slots, .inl (cI, 96, .inl u))]) [(a_this, .inr (7, [.ref a_slots])), (a_slots, .inl (cI, 96, .inl v_slots))] sz) (va_A [(a_this, .inr (7, [.ref a_slots])), (a_slots, .inl (cI, 96, .inl v_slots))] sz)) 0 0 (va_A [(a_this, .inr (7, [.ref a_slots])), (a_slots, .inl (cI, 96, .inl v_slots))] sz) := by
  refine gOfv (own := RX7) (cc := cX7_put) (maxL := 3) (ret := none) rfl (by decide) rfl (Nat.le_of_ble_eq_true rfl) rfl ?_
  intro p e s m below meth c A args Q hAe hx hb hr hts hown hml hlocks hname hA hK hX hT hP hD hS hret ls hl
  have hl : lv_has ls 3 [(0, .ref a_this), (1, .int x1), (2, .int x2)] := hl
  unfold wp_X7_put at hwp
  refine lv_iload_n hx hb dX7_put_0 rfl (lv_at hl 1 rfl) ?_
  refine lv_if_lt (tgt := 20) hx hb dX7_put_1 (by decide) (fun hc => ?_) (fun hc => ?_)
  · have hwp := hwp.1 hc
    exact hret v_slots [0, 1] dX7_put_20 hwp rfl rfl hP hD hS
  · have hwp := hwp.2 hc
    refine lv_iload_n hx hb dX7_put_4 rfl (lv_at hl 1 rfl) ?_
    refine lv_aload_n hx hb dX7_put_5 rfl (lv_at hl 0 rfl) ?_
    refine va_get (D := D) (ci := 7) (v := .ref a_slots) (C := RX7) (T := TX7) (N := 1) hx hb hts mc_X7_put_7 hown hK hP 0 rfl rfl 0 (by decide) (hts _ ml_X7_put_1) (fun _ h9 => h9) rfl dX7_put_6 ?_
    refine va_alen (D := D) (v := 96) hx hb hK hP 1 0 rfl rfl rfl dX7_put_9 ?_
    refine lv_icmp_ge (tgt := 20) hx hb dX7_put_10 (by decide) (fun hc => ?_) (fun hc => ?_)
    · have hwp := hwp.1 hc
      exact hret v_slots [0, 1] dX7_put_20 hwp rfl rfl hP hD hS
    · have hwp := hwp.2 hc
      refine lv_aload_n hx hb dX7_put_13 rfl (lv_at hl 0 rfl) ?_
      refine va_get (D := D) (ci := 7) (v := .ref a_slots) (C := RX7) (T := TX7) (N := 1) hx hb hts mc_X7_put_7 hown hK hP 0 rfl rfl 0 (by decide) (hts _ ml_X7_put_1) (fun _ h9 => h9) rfl dX7_put_14 ?_
      refine lv_iload_n hx hb dX7_put_17 rfl (lv_at hl 1 rfl) ?_
      refine lv_iload_n hx hb dX7_put_18 rfl (lv_at hl 2 rfl) ?_
      have hn_1 := hwp.1
      have hwp := hwp.2
      refine va_iast (D := D) hx hb hK hP hD hS 1 0 rfl rfl hn_1 dX7_put_19 (fun H locs hP hD hS => ?_)
      have hP : va_P D vwCl [(a_this, .inr (7, [.ref a_slots])), (a_slots, .inl (cI, 96, .inl (upd v_slots (x1).toNatClampNeg x2)))] H := hP
      have hD : va_D A [(a_this, .inr (7, [.ref a_slots])), (a_slots, .inl (cI, 96, .inl (upd v_slots (x1).toNatClampNeg x2)))] := hD
      exact hret (upd v_slots (x1).toNatClampNeg x2) [0, 1] dX7_put_20 hwp rfl rfl hP hD hS
theorem mc_X5_putOn_5 : ∀ w ∈ u_ws RX5 TX5 7, w ∈ wsX5_putOn := fun w h => List.mem_cons_of_mem _ (List.mem_append_left _ (List.mem_append_right _ h))
theorem ml_X5_putOn_1 : (.fieldLink RX5 30 "StoryWall$StraightRow" "size" "I" : Cond) ∈ wsX5_putOn := List.mem_of_getElem? (i := 1) rfl
theorem ml_X5_putOn_2 : (.fieldLink RX5 21 "StoryWall$StraightRow" "slots" "[I" : Cond) ∈ wsX5_putOn := List.mem_of_getElem? (i := 2) rfl
theorem ml_X5_putOn_3 : (.fieldLink RX5 15 "StoryWall$StraightRow" "cards" "[I" : Cond) ∈ wsX5_putOn := List.mem_of_getElem? (i := 3) rfl
theorem ml_X5_putOn_4 : (.fieldLink RX5 24 "StoryWall$StraightRow" "sorted" "[I" : Cond) ∈ wsX5_putOn := List.mem_of_getElem? (i := 4) rfl
abbrev rm_X5_putOn : Room := { frames := 1, cells := 0, slots := 0, locals := 22 }
set_option maxHeartbeats 4000000 in
set_option maxRecDepth 100000 in
theorem c_X5_putOn (l : Launch) (D : va_G) (cI cC cF cO : ClassId) (a_this a_cards a_slots a_sorted a_p1 a_p1_slots a_ranks a_hours a_longest : Nat)  (sz : Nat)  (v_size : Int32) (v_cards : Nat → Int32) (v_slots : Nat → Int32) (v_sorted : Nat → Int32) (v_p1_slots : Nat → Int32) (post : (Nat → Int32) → Prop) (hwp : wp_X5_putOn v_size v_cards v_slots v_sorted v_p1_slots post) : Met l yX5_putOn wsX5_putOn rm_X5_putOn (gPre D (gT cI cC cF cO) [.ref a_this, .ref a_p1] [(a_this, .inr (5, [.ref a_ranks, .ref a_cards, .ref a_hours, .ref a_slots, .ref a_sorted, .ref a_longest, .int v_size])), (a_cards, .inl (cI, 40, .inl v_cards)), (a_slots, .inl (cI, 40, .inl v_slots)), (a_sorted, .inl (cI, 40, .inl v_sorted)), (a_p1, .inr (7, [.ref a_p1_slots])), (a_p1_slots, .inl (cI, 96, .inl v_p1_slots))] sz) (va_Qv (S := (Nat → Int32)) (fun (u : (Nat → Int32)) => post u) (gB D (gT cI cC cF cO) (fun (u : (Nat → Int32)) => [(a_this, .inr (5, [.ref a_ranks, .ref a_cards, .ref a_hours, .ref a_slots, .ref a_sorted, .ref a_longest, .int v_size])), (a_cards, .inl (cI, 40, .inl v_cards)), (a_slots, .inl (cI, 40, .inl v_slots)), (a_sorted, .inl (cI, 40, .inl v_sorted)), (a_p1, .inr (7, [.ref a_p1_slots])), (a_p1_slots, .inl (cI, 96, .inl u))]) [(a_this, .inr (5, [.ref a_ranks, .ref a_cards, .ref a_hours, .ref a_slots, .ref a_sorted, .ref a_longest, .int v_size])), (a_cards, .inl (cI, 40, .inl v_cards)), (a_slots, .inl (cI, 40, .inl v_slots)), (a_sorted, .inl (cI, 40, .inl v_sorted)), (a_p1, .inr (7, [.ref a_p1_slots])), (a_p1_slots, .inl (cI, 96, .inl v_p1_slots))] sz) (va_A [(a_this, .inr (5, [.ref a_ranks, .ref a_cards, .ref a_hours, .ref a_slots, .ref a_sorted, .ref a_longest, .int v_size])), (a_cards, .inl (cI, 40, .inl v_cards)), (a_slots, .inl (cI, 40, .inl v_slots)), (a_sorted, .inl (cI, 40, .inl v_sorted)), (a_p1, .inr (7, [.ref a_p1_slots])), (a_p1_slots, .inl (cI, 96, .inl v_p1_slots))] sz)) 0 0 (va_A [(a_this, .inr (5, [.ref a_ranks, .ref a_cards, .ref a_hours, .ref a_slots, .ref a_sorted, .ref a_longest, .int v_size])), (a_cards, .inl (cI, 40, .inl v_cards)), (a_slots, .inl (cI, 40, .inl v_slots)), (a_sorted, .inl (cI, 40, .inl v_sorted)), (a_p1, .inr (7, [.ref a_p1_slots])), (a_p1_slots, .inl (cI, 96, .inl v_p1_slots))] sz) := by
  refine gOfv (own := RX5) (cc := cX5_putOn) (maxL := 3) (ret := none) rfl (by decide) rfl (Nat.le_of_ble_eq_true rfl) rfl ?_
  intro p e s m below meth c A args Q hAe hx hb hr hts hown hml hlocks hname hA hK hX hT hP hD hS hret ls hl
  have hl : lv_has ls 3 [(0, .ref a_this), (1, .ref a_p1)] := hl
  unfold wp_X5_putOn at hwp
  refine lv_iconst (v := 0) hx hb dX5_putOn_0 (by decide) ?_
  refine lv_istore_n (lv' := [(2, .int (0 : Int32)), (0, .ref a_this), (1, .ref a_p1)]) hx hb dX5_putOn_1 rfl hl (by decide) rfl (fun ls hl => ?_)
  have hl : lv_has ls 3 [(0, .ref a_this), (1, .ref a_p1), (2, .int (0 : Int32))] := lv_sub hl [1, 2, 0] rfl
  unfold wp_X5_putOn_l2 at hwp
  obtain ⟨J2, μ2, hJ, hst2⟩ := hwp
  have hL2 : ∀ (n : Nat) (x2_2 : Int32) (v_p1_slots_2 : Nat → Int32), μ2 x2_2 v_p1_slots_2 < n → J2 x2_2 v_p1_slots_2 → ∀ (H : Heap) (locs : List Loc), va_P D vwCl [(a_this, .inr (5, [.ref a_ranks, .ref a_cards, .ref a_hours, .ref a_slots, .ref a_sorted, .ref a_longest, .int v_size])), (a_cards, .inl (cI, 40, .inl v_cards)), (a_slots, .inl (cI, 40, .inl v_slots)), (a_sorted, .inl (cI, 40, .inl v_sorted)), (a_p1, .inr (7, [.ref a_p1_slots])), (a_p1_slots, .inl (cI, 96, .inl v_p1_slots_2))] H → va_D A [(a_this, .inr (5, [.ref a_ranks, .ref a_cards, .ref a_hours, .ref a_slots, .ref a_sorted, .ref a_longest, .int v_size])), (a_cards, .inl (cI, 40, .inl v_cards)), (a_slots, .inl (cI, 40, .inl v_slots)), (a_sorted, .inl (cI, 40, .inl v_sorted)), (a_p1, .inr (7, [.ref a_p1_slots])), (a_p1_slots, .inl (cI, 96, .inl v_p1_slots_2))] → va_S A s.heap H locs → ∀ ls : Array Slot, lv_has ls 3 [(0, .ref a_this), (1, .ref a_p1), (2, .int x2_2)] → W p l e rm_X5_putOn s m args below meth c H locs 0 0 Q (F0 m 2 ls []) := by
    intro n
    induction n with
    | zero => intro x2_2 v_p1_slots_2 h; exact absurd h (Nat.not_lt_zero _)
    | succ n ih2 =>
      intro x2_2 v_p1_slots_2 hμ2 hJ H locs hP hD hS ls hl
      have hwp := hst2 x2_2 v_p1_slots_2 hJ
      refine lv_iload_n hx hb dX5_putOn_2 rfl (lv_at hl 2 rfl) ?_
      refine lv_aload_n hx hb dX5_putOn_3 rfl (lv_at hl 0 rfl) ?_
      refine va_get (D := D) (ci := 5) (v := .int v_size) (C := RX5) (T := TX5) (N := 7) hx hb hts mc_X5_putOn_5 hown hK hP 0 rfl rfl 6 (by decide) (hts _ ml_X5_putOn_1) (fun _ h9 => h9) rfl dX5_putOn_4 ?_
      refine lv_icmp_ge (tgt := 46) hx hb dX5_putOn_7 (by decide) (fun hc => ?_) (fun hc => ?_)
      · have hwp := hwp.1 hc
        exact hret v_p1_slots_2 [0, 1, 2, 3, 4, 5] dX5_putOn_46 hwp rfl rfl hP hD hS
      · have hwp := hwp.2 hc
        refine lv_aload_n hx hb dX5_putOn_10 rfl (lv_at hl 1 rfl) ?_
        refine lv_aload_n hx hb dX5_putOn_11 rfl (lv_at hl 0 rfl) ?_
        refine lv_aload_n hx hb dX5_putOn_12 rfl (lv_at hl 0 rfl) ?_
        refine va_get (D := D) (ci := 5) (v := .ref a_slots) (C := RX5) (T := TX5) (N := 7) hx hb hts mc_X5_putOn_5 hown hK hP 0 rfl rfl 3 (by decide) (hts _ ml_X5_putOn_2) (fun _ h9 => h9) rfl dX5_putOn_13 ?_
        refine lv_iload_n hx hb dX5_putOn_16 rfl (lv_at hl 2 rfl) ?_
        refine gBacki (D := D) (tys := gT cI cC cF cO) (A := A) (wr := [(a_cards, .inl (cI, 40, .inl v_cards)), (a_sorted, .inl (cI, 40, .inl v_sorted)), (a_p1, .inr (7, [.ref a_p1_slots])), (a_p1_slots, .inl (cI, 96, .inl v_p1_slots_2))]) (w1 := (fun u_2 : Unit => [(a_this, .inr (5, [.ref a_ranks, .ref a_cards, .ref a_hours, .ref a_slots, .ref a_sorted, .ref a_longest, .int v_size])), (a_slots, .inl (cI, 40, .inl v_slots))])) (va_runV (As := [.ref a_slots, .int x2_2]) (rest := [.ref a_p1]) ⟨hx, hb, hml, hown, hts⟩ (c_X5_valueAt l D cI cC cF cO a_this a_slots a_ranks a_cards a_hours a_slots a_sorted a_longest _ _ _ _ _ hwp) (cwV 2 hts gX5_putOn_X5_valueAt rfl rfl rfl (by decide +kernel) ⟨Nat.le_of_ble_eq_true rfl, Nat.le_of_ble_eq_true rfl⟩) (gPreV (C := RX5) (T := TX5) (N := 7) (ci := 5) hK hX hT hP hD hS hA [0, 2] rfl rfl rfl (qb := 0) rfl) rfl rfl hl.1 rfl (lv_room (Nat.le_of_ble_eq_true rfl)) dX5_putOn_17 ⟨Nat.le_of_ble_eq_true rfl, Nat.le_of_ble_eq_true rfl⟩) hP hD hS hA [0, 2] [1, 3, 4, 5] rfl rfl rfl (by decide) (fun r_1 u_2 H locs hwp hP hD hS => ?_)
        have hP : va_P D vwCl [(a_cards, .inl (cI, 40, .inl v_cards)), (a_sorted, .inl (cI, 40, .inl v_sorted)), (a_p1, .inr (7, [.ref a_p1_slots])), (a_p1_slots, .inl (cI, 96, .inl v_p1_slots_2)), (a_this, .inr (5, [.ref a_ranks, .ref a_cards, .ref a_hours, .ref a_slots, .ref a_sorted, .ref a_longest, .int v_size])), (a_slots, .inl (cI, 40, .inl v_slots))] H := hP
        have hD : va_D A [(a_cards, .inl (cI, 40, .inl v_cards)), (a_sorted, .inl (cI, 40, .inl v_sorted)), (a_p1, .inr (7, [.ref a_p1_slots])), (a_p1_slots, .inl (cI, 96, .inl v_p1_slots_2)), (a_this, .inr (5, [.ref a_ranks, .ref a_cards, .ref a_hours, .ref a_slots, .ref a_sorted, .ref a_longest, .int v_size])), (a_slots, .inl (cI, 40, .inl v_slots))] := hD
        refine lv_aload_n hx hb dX5_putOn_20 rfl (lv_at hl 0 rfl) ?_
        refine lv_aload_n hx hb dX5_putOn_21 rfl (lv_at hl 0 rfl) ?_
        refine va_get (D := D) (ci := 5) (v := .ref a_cards) (C := RX5) (T := TX5) (N := 7) hx hb hts mc_X5_putOn_5 hown hK hP 4 rfl rfl 1 (by decide) (hts _ ml_X5_putOn_3) (fun _ h9 => h9) rfl dX5_putOn_22 ?_
        refine lv_aload_n hx hb dX5_putOn_25 rfl (lv_at hl 0 rfl) ?_
        refine lv_aload_n hx hb dX5_putOn_26 rfl (lv_at hl 0 rfl) ?_
        refine va_get (D := D) (ci := 5) (v := .ref a_sorted) (C := RX5) (T := TX5) (N := 7) hx hb hts mc_X5_putOn_5 hown hK hP 4 rfl rfl 4 (by decide) (hts _ ml_X5_putOn_4) (fun _ h9 => h9) rfl dX5_putOn_27 ?_
        refine lv_iload_n hx hb dX5_putOn_30 rfl (lv_at hl 2 rfl) ?_
        refine gBacki (D := D) (tys := gT cI cC cF cO) (A := A) (wr := [(a_cards, .inl (cI, 40, .inl v_cards)), (a_p1, .inr (7, [.ref a_p1_slots])), (a_p1_slots, .inl (cI, 96, .inl v_p1_slots_2)), (a_slots, .inl (cI, 40, .inl v_slots))]) (w1 := (fun u_4 : Unit => [(a_this, .inr (5, [.ref a_ranks, .ref a_cards, .ref a_hours, .ref a_slots, .ref a_sorted, .ref a_longest, .int v_size])), (a_sorted, .inl (cI, 40, .inl v_sorted))])) (va_runV (As := [.ref a_sorted, .int x2_2]) (rest := [.ref a_cards, .ref a_this, .int r_1, .ref a_p1]) ⟨hx, hb, hml, hown, hts⟩ (c_X5_valueAt l D cI cC cF cO a_this a_sorted a_ranks a_cards a_hours a_slots a_sorted a_longest _ _ _ _ _ hwp) (cwV 2 hts gX5_putOn_X5_valueAt rfl rfl rfl (by decide +kernel) ⟨Nat.le_of_ble_eq_true rfl, Nat.le_of_ble_eq_true rfl⟩) (gPreV (C := RX5) (T := TX5) (N := 7) (ci := 5) hK hX hT hP hD hS hA [4, 1] rfl rfl rfl (qb := 4) rfl) rfl rfl hl.1 rfl (lv_room (Nat.le_of_ble_eq_true rfl)) dX5_putOn_31 ⟨Nat.le_of_ble_eq_true rfl, Nat.le_of_ble_eq_true rfl⟩) hP hD hS hA [4, 1] [0, 2, 3, 5] rfl rfl rfl (by decide) (fun r_3 u_4 H locs hwp hP hD hS => ?_)
        have hP : va_P D vwCl [(a_cards, .inl (cI, 40, .inl v_cards)), (a_p1, .inr (7, [.ref a_p1_slots])), (a_p1_slots, .inl (cI, 96, .inl v_p1_slots_2)), (a_slots, .inl (cI, 40, .inl v_slots)), (a_this, .inr (5, [.ref a_ranks, .ref a_cards, .ref a_hours, .ref a_slots, .ref a_sorted, .ref a_longest, .int v_size])), (a_sorted, .inl (cI, 40, .inl v_sorted))] H := hP
        have hD : va_D A [(a_cards, .inl (cI, 40, .inl v_cards)), (a_p1, .inr (7, [.ref a_p1_slots])), (a_p1_slots, .inl (cI, 96, .inl v_p1_slots_2)), (a_slots, .inl (cI, 40, .inl v_slots)), (a_this, .inr (5, [.ref a_ranks, .ref a_cards, .ref a_hours, .ref a_slots, .ref a_sorted, .ref a_longest, .int v_size])), (a_sorted, .inl (cI, 40, .inl v_sorted))] := hD
        refine gBacki (D := D) (tys := gT cI cC cF cO) (A := A) (wr := [(a_p1, .inr (7, [.ref a_p1_slots])), (a_p1_slots, .inl (cI, 96, .inl v_p1_slots_2)), (a_slots, .inl (cI, 40, .inl v_slots)), (a_sorted, .inl (cI, 40, .inl v_sorted))]) (w1 := (fun u_6 : Unit => [(a_this, .inr (5, [.ref a_ranks, .ref a_cards, .ref a_hours, .ref a_slots, .ref a_sorted, .ref a_longest, .int v_size])), (a_cards, .inl (cI, 40, .inl v_cards))])) (va_runV (As := [.ref a_cards, .int r_3]) (rest := [.int r_1, .ref a_p1]) ⟨hx, hb, hml, hown, hts⟩ (c_X5_valueAt l D cI cC cF cO a_this a_cards a_ranks a_cards a_hours a_slots a_sorted a_longest _ _ _ _ _ hwp) (cwV 2 hts gX5_putOn_X5_valueAt rfl rfl rfl (by decide +kernel) ⟨Nat.le_of_ble_eq_true rfl, Nat.le_of_ble_eq_true rfl⟩) (gPreV (C := RX5) (T := TX5) (N := 7) (ci := 5) hK hX hT hP hD hS hA [4, 0] rfl rfl rfl (qb := 4) rfl) rfl rfl hl.1 rfl (lv_room (Nat.le_of_ble_eq_true rfl)) dX5_putOn_34 ⟨Nat.le_of_ble_eq_true rfl, Nat.le_of_ble_eq_true rfl⟩) hP hD hS hA [4, 0] [1, 2, 3, 5] rfl rfl rfl (by decide) (fun r_5 u_6 H locs hwp hP hD hS => ?_)
        have hP : va_P D vwCl [(a_p1, .inr (7, [.ref a_p1_slots])), (a_p1_slots, .inl (cI, 96, .inl v_p1_slots_2)), (a_slots, .inl (cI, 40, .inl v_slots)), (a_sorted, .inl (cI, 40, .inl v_sorted)), (a_this, .inr (5, [.ref a_ranks, .ref a_cards, .ref a_hours, .ref a_slots, .ref a_sorted, .ref a_longest, .int v_size])), (a_cards, .inl (cI, 40, .inl v_cards))] H := hP
        have hD : va_D A [(a_p1, .inr (7, [.ref a_p1_slots])), (a_p1_slots, .inl (cI, 96, .inl v_p1_slots_2)), (a_slots, .inl (cI, 40, .inl v_slots)), (a_sorted, .inl (cI, 40, .inl v_sorted)), (a_this, .inr (5, [.ref a_ranks, .ref a_cards, .ref a_hours, .ref a_slots, .ref a_sorted, .ref a_longest, .int v_size])), (a_cards, .inl (cI, 40, .inl v_cards))] := hD
        refine gBackv (D := D) (tys := gT cI cC cF cO) (A := A) (wr := [(a_slots, .inl (cI, 40, .inl v_slots)), (a_sorted, .inl (cI, 40, .inl v_sorted)), (a_this, .inr (5, [.ref a_ranks, .ref a_cards, .ref a_hours, .ref a_slots, .ref a_sorted, .ref a_longest, .int v_size])), (a_cards, .inl (cI, 40, .inl v_cards))]) (w1 := (fun u_8 : (Nat → Int32) => [(a_p1, .inr (7, [.ref a_p1_slots])), (a_p1_slots, .inl (cI, 96, .inl u_8))])) (va_runV (As := [.int r_1, .int r_5]) (rest := []) ⟨hx, hb, hml, hown, hts⟩ (c_X7_put l D cI cC cF cO a_p1 a_p1_slots _ _ _ _ _ hwp) (cwV 2 hts gX5_putOn_X7_put rfl rfl rfl (by decide +kernel) ⟨Nat.le_of_ble_eq_true rfl, Nat.le_of_ble_eq_true rfl⟩) (gPreV (C := RX7) (T := TX7) (N := 1) (ci := 7) hK hX hT hP hD hS hA [0, 1] rfl rfl rfl (qb := 0) rfl) rfl rfl hl.1 rfl (lv_room (Nat.le_of_ble_eq_true rfl)) dX5_putOn_37 ⟨Nat.le_of_ble_eq_true rfl, Nat.le_of_ble_eq_true rfl⟩) hP hD hS hA [0, 1] [2, 3, 4, 5] rfl rfl rfl (by decide) (fun u_8 H locs hwp hP hD hS => ?_)
        have hP : va_P D vwCl [(a_slots, .inl (cI, 40, .inl v_slots)), (a_sorted, .inl (cI, 40, .inl v_sorted)), (a_this, .inr (5, [.ref a_ranks, .ref a_cards, .ref a_hours, .ref a_slots, .ref a_sorted, .ref a_longest, .int v_size])), (a_cards, .inl (cI, 40, .inl v_cards)), (a_p1, .inr (7, [.ref a_p1_slots])), (a_p1_slots, .inl (cI, 96, .inl u_8))] H := hP
        have hD : va_D A [(a_slots, .inl (cI, 40, .inl v_slots)), (a_sorted, .inl (cI, 40, .inl v_sorted)), (a_this, .inr (5, [.ref a_ranks, .ref a_cards, .ref a_hours, .ref a_slots, .ref a_sorted, .ref a_longest, .int v_size])), (a_cards, .inl (cI, 40, .inl v_cards)), (a_p1, .inr (7, [.ref a_p1_slots])), (a_p1_slots, .inl (cI, 96, .inl u_8))] := hD
        refine lv_iinc (v := (x2_2 + (1 : Int32))) (lv' := [(2, .int (x2_2 + (1 : Int32))), (0, .ref a_this), (1, .ref a_p1)]) hx hb dX5_putOn_40 hl (k := 2) rfl rfl (by decide) rfl (fun ls hl => ?_)
        refine lv_goto (tgt := 2) hx hb dX5_putOn_43 (by decide) ?_
        have hP : va_P D vwCl [(a_this, .inr (5, [.ref a_ranks, .ref a_cards, .ref a_hours, .ref a_slots, .ref a_sorted, .ref a_longest, .int v_size])), (a_cards, .inl (cI, 40, .inl v_cards)), (a_slots, .inl (cI, 40, .inl v_slots)), (a_sorted, .inl (cI, 40, .inl v_sorted)), (a_p1, .inr (7, [.ref a_p1_slots])), (a_p1_slots, .inl (cI, 96, .inl u_8))] H := hP.sub [2, 3, 0, 1, 4, 5] rfl
        have hD : va_D A [(a_this, .inr (5, [.ref a_ranks, .ref a_cards, .ref a_hours, .ref a_slots, .ref a_sorted, .ref a_longest, .int v_size])), (a_cards, .inl (cI, 40, .inl v_cards)), (a_slots, .inl (cI, 40, .inl v_slots)), (a_sorted, .inl (cI, 40, .inl v_sorted)), (a_p1, .inr (7, [.ref a_p1_slots])), (a_p1_slots, .inl (cI, 96, .inl u_8))] := hD.sub [2, 3, 0, 1, 4, 5] (by decide) rfl
        have hl : lv_has ls 3 [(0, .ref a_this), (1, .ref a_p1), (2, .int (x2_2 + (1 : Int32)))] := lv_sub hl [1, 2, 0] rfl
        exact ih2 (x2_2 + (1 : Int32)) u_8 (Nat.lt_of_lt_of_le hwp.2 (Nat.le_of_lt_succ hμ2)) hwp.1 _ _ hP hD hS ls hl
  exact hL2 _ (0 : Int32) v_p1_slots (Nat.lt_succ_self _) hJ _ _ hP hD hS ls hl
theorem mc_X6_climbTo_6 : ∀ w ∈ u_ws RX6 TX6 2, w ∈ wsX6_climbTo := fun w h => List.mem_cons_of_mem _ (List.mem_append_right _ h)
theorem ml_X6_climbTo_1 : (.fieldLink RX6 15 "StoryWall$Tensions" "climbs" "[I" : Cond) ∈ wsX6_climbTo := List.mem_of_getElem? (i := 1) rfl
abbrev rm_X6_climbTo : Room := { frames := 0, cells := 0, slots := 0, locals := 0 }
set_option maxHeartbeats 4000000 in
set_option maxRecDepth 100000 in
theorem c_X6_climbTo (l : Launch) (D : va_G) (cI cC cF cO : ClassId) (a_this a_climbs a_values : Nat)  (sz : Nat) (x1 : Int32) (v_climbs : Nat → Int32) (post : Int32 → Prop) (hwp : wp_X6_climbTo x1 v_climbs post) : Met l yX6_climbTo wsX6_climbTo rm_X6_climbTo (gPre D (gT cI cC cF cO) [.ref a_this, .int x1] [(a_this, .inr (6, [.ref a_values, .ref a_climbs])), (a_climbs, .inl (cI, 16, .inl v_climbs))] sz) (va_Qi (S := Unit) (fun (r : Int32) (u : Unit) => post r ) (gB D (gT cI cC cF cO) (fun (u : Unit) => [(a_this, .inr (6, [.ref a_values, .ref a_climbs])), (a_climbs, .inl (cI, 16, .inl v_climbs))]) [(a_this, .inr (6, [.ref a_values, .ref a_climbs])), (a_climbs, .inl (cI, 16, .inl v_climbs))] sz) (va_A [(a_this, .inr (6, [.ref a_values, .ref a_climbs])), (a_climbs, .inl (cI, 16, .inl v_climbs))] sz)) 0 0 (va_A [(a_this, .inr (6, [.ref a_values, .ref a_climbs])), (a_climbs, .inl (cI, 16, .inl v_climbs))] sz) := by
  refine gOfi (own := RX6) (cc := cX6_climbTo) (maxL := 2) (ret := (some .int)) rfl (by decide) rfl (Nat.le_of_ble_eq_true rfl) rfl ?_
  intro p e s m below meth c A args Q hAe hx hb hr hts hown hml hlocks hname hA hK hX hT hP hD hS hret ls hl
  have hl : lv_has ls 2 [(0, .ref a_this), (1, .int x1)] := hl
  unfold wp_X6_climbTo at hwp
  refine lv_iload_n hx hb dX6_climbTo_0 rfl (lv_at hl 1 rfl) ?_
  refine lv_if_lt (tgt := 22) hx hb dX6_climbTo_1 (by decide) (fun hc => ?_) (fun hc => ?_)
  · have hwp := hwp.1 hc
    refine lv_iconst (v := 0) hx hb dX6_climbTo_22 (by decide) ?_
    exact hret () [0, 1] dX6_climbTo_23 hwp rfl rfl hP hD hS
  · have hwp := hwp.2 hc
    refine lv_iload_n hx hb dX6_climbTo_4 rfl (lv_at hl 1 rfl) ?_
    refine lv_aload_n hx hb dX6_climbTo_5 rfl (lv_at hl 0 rfl) ?_
    refine va_get (D := D) (ci := 6) (v := .ref a_climbs) (C := RX6) (T := TX6) (N := 2) hx hb hts mc_X6_climbTo_6 hown hK hP 0 rfl rfl 1 (by decide) (hts _ ml_X6_climbTo_1) (fun _ h9 => h9) rfl dX6_climbTo_6 ?_
    refine va_alen (D := D) (v := 16) hx hb hK hP 1 0 rfl rfl rfl dX6_climbTo_9 ?_
    refine lv_icmp_ge (tgt := 22) hx hb dX6_climbTo_10 (by decide) (fun hc => ?_) (fun hc => ?_)
    · have hwp := hwp.1 hc
      refine lv_iconst (v := 0) hx hb dX6_climbTo_22 (by decide) ?_
      exact hret () [0, 1] dX6_climbTo_23 hwp rfl rfl hP hD hS
    · have hwp := hwp.2 hc
      refine lv_aload_n hx hb dX6_climbTo_13 rfl (lv_at hl 0 rfl) ?_
      refine va_get (D := D) (ci := 6) (v := .ref a_climbs) (C := RX6) (T := TX6) (N := 2) hx hb hts mc_X6_climbTo_6 hown hK hP 0 rfl rfl 1 (by decide) (hts _ ml_X6_climbTo_1) (fun _ h9 => h9) rfl dX6_climbTo_14 ?_
      refine lv_iload_n hx hb dX6_climbTo_17 rfl (lv_at hl 1 rfl) ?_
      have hn_1 := hwp.1
      have hwp := hwp.2
      refine va_iald (D := D) hx hb hK hP 1 0 rfl rfl hn_1 dX6_climbTo_18 ?_
      refine lv_goto (tgt := 23) hx hb dX6_climbTo_19 (by decide) ?_
      exact hret () [0, 1] dX6_climbTo_23 hwp rfl rfl hP hD hS
abbrev rm_X8_isScene : Room := { frames := 0, cells := 0, slots := 0, locals := 0 }
set_option maxHeartbeats 4000000 in
set_option maxRecDepth 100000 in
theorem c_X8_isScene (l : Launch) (D : va_G) (cI cC cF cO : ClassId)   (sz : Nat) (x0 : Int32)  (post : Int32 → Prop) (hwp : wp_X8_isScene x0 post) : Met l yX8_isScene wsX8_isScene rm_X8_isScene (gPre D (gT cI cC cF cO) [.int x0] [] sz) (va_Qi (S := Unit) (fun (r : Int32) (u : Unit) => post r ) (gB D (gT cI cC cF cO) (fun (u : Unit) => []) [] sz) (va_A [] sz)) 0 0 (va_A [] sz) := by
  refine gOfz (own := RX8) (cc := cX8_isScene) (maxL := 1) (ret := (some .boolean)) rfl (by decide) rfl (Nat.le_of_ble_eq_true rfl) rfl ?_
  intro p e s m below meth c A args Q hAe hx hb hr hts hown hml hlocks hname hA hK hX hT hP hD hS hret ls hl
  have hl : lv_has ls 1 [(0, .int x0)] := hl
  unfold wp_X8_isScene at hwp
  refine lv_iload_n hx hb dX8_isScene_0 rfl (lv_at hl 0 rfl) ?_
  refine lv_if_lt (tgt := 14) hx hb dX8_isScene_1 (by decide) (fun hc => ?_) (fun hc => ?_)
  · have hwp := hwp.1 hc
    refine lv_iconst (v := 0) hx hb dX8_isScene_14 (by decide) ?_
    exact hret () [] dX8_isScene_15 (Or.inl rfl) hwp rfl rfl hP hD hS
  · have hwp := hwp.2 hc
    refine lv_iload_n hx hb dX8_isScene_4 rfl (lv_at hl 0 rfl) ?_
    refine lv_bipush (v := 16) hx hb dX8_isScene_5 (by decide) ?_
    refine lv_icmp_ge (tgt := 14) hx hb dX8_isScene_7 (by decide) (fun hc => ?_) (fun hc => ?_)
    · have hwp := hwp.1 hc
      refine lv_iconst (v := 0) hx hb dX8_isScene_14 (by decide) ?_
      exact hret () [] dX8_isScene_15 (Or.inl rfl) hwp rfl rfl hP hD hS
    · have hwp := hwp.2 hc
      refine lv_iconst (v := 1) hx hb dX8_isScene_10 (by decide) ?_
      refine lv_goto (tgt := 15) hx hb dX8_isScene_11 (by decide) ?_
      exact hret () [] dX8_isScene_15 (Or.inr rfl) hwp rfl rfl hP hD hS
abbrev rm_X8_slot : Room := { frames := 0, cells := 0, slots := 0, locals := 0 }
set_option maxHeartbeats 4000000 in
set_option maxRecDepth 100000 in
theorem c_X8_slot (l : Launch) (D : va_G) (cI cC cF cO : ClassId)   (sz : Nat) (x0 : Int32) (x1 : Int32)  (post : Int32 → Prop) (hwp : wp_X8_slot x0 x1 post) : Met l yX8_slot wsX8_slot rm_X8_slot (gPre D (gT cI cC cF cO) [.int x0, .int x1] [] sz) (va_Qi (S := Unit) (fun (r : Int32) (u : Unit) => post r ) (gB D (gT cI cC cF cO) (fun (u : Unit) => []) [] sz) (va_A [] sz)) 0 0 (va_A [] sz) := by
  refine gOfi (own := RX8) (cc := cX8_slot) (maxL := 2) (ret := (some .int)) rfl (by decide) rfl (Nat.le_of_ble_eq_true rfl) rfl ?_
  intro p e s m below meth c A args Q hAe hx hb hr hts hown hml hlocks hname hA hK hX hT hP hD hS hret ls hl
  have hl : lv_has ls 2 [(0, .int x0), (1, .int x1)] := hl
  unfold wp_X8_slot at hwp
  refine lv_iload_n hx hb dX8_slot_0 rfl (lv_at hl 0 rfl) ?_
  refine lv_bipush (v := 6) hx hb dX8_slot_1 (by decide) ?_
  refine lv_imul hx hb dX8_slot_3 ?_
  refine lv_iload_n hx hb dX8_slot_4 rfl (lv_at hl 1 rfl) ?_
  refine lv_iadd hx hb dX8_slot_5 ?_
  exact hret () [] dX8_slot_6 hwp rfl rfl hP hD hS
theorem ml_X7_cardIn_0 : (.initialized RX8 : Cond) ∈ wsX7_cardIn := List.mem_of_getElem? (i := 2) rfl
theorem ml_X7_cardIn_1 : (.static yX8_isScene : Cond) ∈ wsX7_cardIn := List.mem_of_getElem? (i := 1) rfl
theorem ml_X7_cardIn_2 : (.static yX8_slot : Cond) ∈ wsX7_cardIn := List.mem_of_getElem? (i := 4) rfl
abbrev rm_X7_cardIn : Room := { frames := 1, cells := 0, slots := 0, locals := 21 }
set_option maxHeartbeats 4000000 in
set_option maxRecDepth 100000 in
theorem c_X7_cardIn (l : Launch) (D : va_G) (cI cC cF cO : ClassId) (a_this a_slots : Nat)  (sz : Nat) (x1 : Int32) (x2 : Int32) (v_slots : Nat → Int32) (post : Int32 → Prop) (hwp : wp_X7_cardIn x1 x2 v_slots post) : Met l yX7_cardIn wsX7_cardIn rm_X7_cardIn (gPre D (gT cI cC cF cO) [.ref a_this, .int x1, .int x2] [(a_this, .inr (7, [.ref a_slots])), (a_slots, .inl (cI, 96, .inl v_slots))] sz) (va_Qi (S := Unit) (fun (r : Int32) (u : Unit) => post r ) (gB D (gT cI cC cF cO) (fun (u : Unit) => [(a_this, .inr (7, [.ref a_slots])), (a_slots, .inl (cI, 96, .inl v_slots))]) [(a_this, .inr (7, [.ref a_slots])), (a_slots, .inl (cI, 96, .inl v_slots))] sz) (va_A [(a_this, .inr (7, [.ref a_slots])), (a_slots, .inl (cI, 96, .inl v_slots))] sz)) 0 0 (va_A [(a_this, .inr (7, [.ref a_slots])), (a_slots, .inl (cI, 96, .inl v_slots))] sz) := by
  refine gOfi (own := RX7) (cc := cX7_cardIn) (maxL := 3) (ret := (some .int)) rfl (by decide) rfl (Nat.le_of_ble_eq_true rfl) rfl ?_
  intro p e s m below meth c A args Q hAe hx hb hr hts hown hml hlocks hname hA hK hX hT hP hD hS hret ls hl
  have hl : lv_has ls 3 [(0, .ref a_this), (1, .int x1), (2, .int x2)] := hl
  unfold wp_X7_cardIn at hwp
  refine lv_iload_n hx hb dX7_cardIn_0 rfl (lv_at hl 1 rfl) ?_
  refine gBacki (D := D) (tys := gT cI cC cF cO) (A := A) (wr := [(a_this, .inr (7, [.ref a_slots])), (a_slots, .inl (cI, 96, .inl v_slots))]) (w1 := (fun u_2 : Unit => [])) (va_runSN (host := "StoryWall") (As := [.int x1]) (rest := []) ⟨hx, hb, hml, hown, hts⟩ (c_X8_isScene l D cI cC cF cO  _ _ _ hwp) ⟨va_cnB 1 hts gX7_cardIn_X8_isScene_n21 rfl rfl rfl (hX.1 _ (List.mem_of_getElem? (i := 14) rfl)) (hts _ ml_X7_cardIn_0) (by decide +kernel) ⟨Nat.le_of_ble_eq_true rfl, Nat.le_of_ble_eq_true rfl⟩, (hts _ ml_X7_cardIn_1), trivial⟩ (gPreS hK hX hT hP hD hS hA [] rfl rfl) rfl rfl hl.1 rfl (lv_room (Nat.le_of_ble_eq_true rfl)) dX7_cardIn_1 ⟨Nat.le_of_ble_eq_true rfl, Nat.le_of_ble_eq_true rfl⟩) hP hD hS hA [] [0, 1] rfl rfl rfl (by decide) (fun r_1 u_2 H locs hwp hP hD hS => ?_)
  have hP : va_P D vwCl [(a_this, .inr (7, [.ref a_slots])), (a_slots, .inl (cI, 96, .inl v_slots))] H := hP
  have hD : va_D A [(a_this, .inr (7, [.ref a_slots])), (a_slots, .inl (cI, 96, .inl v_slots))] := hD
  refine lv_if_eq (tgt := 29) hx hb dX7_cardIn_4 (by decide) (fun hc => ?_) (fun hc => ?_)
  · have hwp := hwp.1 hc
    refine lv_bipush (v := -5) hx hb dX7_cardIn_29 (by decide) ?_
    exact hret () [0, 1] dX7_cardIn_31 hwp rfl rfl hP hD hS
  · have hwp := hwp.2 hc
    refine lv_iload_n hx hb dX7_cardIn_7 rfl (lv_at hl 2 rfl) ?_
    refine lv_if_lt (tgt := 29) hx hb dX7_cardIn_8 (by decide) (fun hc => ?_) (fun hc => ?_)
    · have hwp := hwp.1 hc
      refine lv_bipush (v := -5) hx hb dX7_cardIn_29 (by decide) ?_
      exact hret () [0, 1] dX7_cardIn_31 hwp rfl rfl hP hD hS
    · have hwp := hwp.2 hc
      refine lv_iload_n hx hb dX7_cardIn_11 rfl (lv_at hl 2 rfl) ?_
      refine lv_bipush (v := 6) hx hb dX7_cardIn_12 (by decide) ?_
      refine lv_icmp_ge (tgt := 29) hx hb dX7_cardIn_14 (by decide) (fun hc => ?_) (fun hc => ?_)
      · have hwp := hwp.1 hc
        refine lv_bipush (v := -5) hx hb dX7_cardIn_29 (by decide) ?_
        exact hret () [0, 1] dX7_cardIn_31 hwp rfl rfl hP hD hS
      · have hwp := hwp.2 hc
        refine lv_aload_n hx hb dX7_cardIn_17 rfl (lv_at hl 0 rfl) ?_
        refine lv_iload_n hx hb dX7_cardIn_18 rfl (lv_at hl 1 rfl) ?_
        refine lv_iload_n hx hb dX7_cardIn_19 rfl (lv_at hl 2 rfl) ?_
        refine gBacki (D := D) (tys := gT cI cC cF cO) (A := A) (wr := [(a_this, .inr (7, [.ref a_slots])), (a_slots, .inl (cI, 96, .inl v_slots))]) (w1 := (fun u_4 : Unit => [])) (va_runSN (host := "StoryWall") (As := [.int x1, .int x2]) (rest := [.ref a_this]) ⟨hx, hb, hml, hown, hts⟩ (c_X8_slot l D cI cC cF cO  _ _ _ _ hwp) ⟨va_cnB 2 hts gX7_cardIn_X8_slot_n25 rfl rfl rfl (hX.1 _ (List.mem_of_getElem? (i := 15) rfl)) (hts _ ml_X7_cardIn_0) (by decide +kernel) ⟨Nat.le_of_ble_eq_true rfl, Nat.le_of_ble_eq_true rfl⟩, (hts _ ml_X7_cardIn_2), trivial⟩ (gPreS hK hX hT hP hD hS hA [] rfl rfl) rfl rfl hl.1 rfl (lv_room (Nat.le_of_ble_eq_true rfl)) dX7_cardIn_20 ⟨Nat.le_of_ble_eq_true rfl, Nat.le_of_ble_eq_true rfl⟩) hP hD hS hA [] [0, 1] rfl rfl rfl (by decide) (fun r_3 u_4 H locs hwp hP hD hS => ?_)
        have hP : va_P D vwCl [(a_this, .inr (7, [.ref a_slots])), (a_slots, .inl (cI, 96, .inl v_slots))] H := hP
        have hD : va_D A [(a_this, .inr (7, [.ref a_slots])), (a_slots, .inl (cI, 96, .inl v_slots))] := hD
        refine gBacki (D := D) (tys := gT cI cC cF cO) (A := A) (wr := []) (w1 := (fun u_6 : Unit => [(a_this, .inr (7, [.ref a_slots])), (a_slots, .inl (cI, 96, .inl v_slots))])) (va_runV (As := [.int r_3]) (rest := []) ⟨hx, hb, hml, hown, hts⟩ (c_X7_cardAt l D cI cC cF cO a_this a_slots _ _ _ _ hwp) (cwV 1 hts gX7_cardIn_X7_cardAt rfl rfl rfl (by decide +kernel) ⟨Nat.le_of_ble_eq_true rfl, Nat.le_of_ble_eq_true rfl⟩) (gPreV (C := RX7) (T := TX7) (N := 1) (ci := 7) hK hX hT hP hD hS hA [0, 1] rfl rfl rfl (qb := 0) rfl) rfl rfl hl.1 rfl (lv_room (Nat.le_of_ble_eq_true rfl)) dX7_cardIn_23 ⟨Nat.le_of_ble_eq_true rfl, Nat.le_of_ble_eq_true rfl⟩) hP hD hS hA [0, 1] [] rfl rfl rfl (by decide) (fun r_5 u_6 H locs hwp hP hD hS => ?_)
        have hP : va_P D vwCl [(a_this, .inr (7, [.ref a_slots])), (a_slots, .inl (cI, 96, .inl v_slots))] H := hP
        have hD : va_D A [(a_this, .inr (7, [.ref a_slots])), (a_slots, .inl (cI, 96, .inl v_slots))] := hD
        refine lv_goto (tgt := 31) hx hb dX7_cardIn_26 (by decide) ?_
        exact hret () [0, 1] dX7_cardIn_31 hwp rfl rfl hP hD hS
abbrev rm_X7_sizeOf : Room := { frames := 2, cells := 0, slots := 0, locals := 43 }
set_option maxHeartbeats 4000000 in
set_option maxRecDepth 100000 in
theorem c_X7_sizeOf (l : Launch) (D : va_G) (cI cC cF cO : ClassId) (a_this a_slots : Nat)  (sz : Nat) (x1 : Int32) (v_slots : Nat → Int32) (post : Int32 → Prop) (hwp : wp_X7_sizeOf x1 v_slots post) : Met l yX7_sizeOf wsX7_sizeOf rm_X7_sizeOf (gPre D (gT cI cC cF cO) [.ref a_this, .int x1] [(a_this, .inr (7, [.ref a_slots])), (a_slots, .inl (cI, 96, .inl v_slots))] sz) (va_Qi (S := Unit) (fun (r : Int32) (u : Unit) => post r ) (gB D (gT cI cC cF cO) (fun (u : Unit) => [(a_this, .inr (7, [.ref a_slots])), (a_slots, .inl (cI, 96, .inl v_slots))]) [(a_this, .inr (7, [.ref a_slots])), (a_slots, .inl (cI, 96, .inl v_slots))] sz) (va_A [(a_this, .inr (7, [.ref a_slots])), (a_slots, .inl (cI, 96, .inl v_slots))] sz)) 0 0 (va_A [(a_this, .inr (7, [.ref a_slots])), (a_slots, .inl (cI, 96, .inl v_slots))] sz) := by
  refine gOfi (own := RX7) (cc := cX7_sizeOf) (maxL := 4) (ret := (some .int)) rfl (by decide) rfl (Nat.le_of_ble_eq_true rfl) rfl ?_
  intro p e s m below meth c A args Q hAe hx hb hr hts hown hml hlocks hname hA hK hX hT hP hD hS hret ls hl
  have hl : lv_has ls 4 [(0, .ref a_this), (1, .int x1)] := hl
  unfold wp_X7_sizeOf at hwp
  refine lv_iconst (v := 0) hx hb dX7_sizeOf_0 (by decide) ?_
  refine lv_istore_n (lv' := [(2, .int (0 : Int32)), (0, .ref a_this), (1, .int x1)]) hx hb dX7_sizeOf_1 rfl hl (by decide) rfl (fun ls hl => ?_)
  refine lv_iconst (v := 0) hx hb dX7_sizeOf_2 (by decide) ?_
  refine lv_istore_n (lv' := [(3, .int (0 : Int32)), (2, .int (0 : Int32)), (0, .ref a_this), (1, .int x1)]) hx hb dX7_sizeOf_3 rfl hl (by decide) rfl (fun ls hl => ?_)
  have hl : lv_has ls 4 [(0, .ref a_this), (1, .int x1), (2, .int (0 : Int32)), (3, .int (0 : Int32))] := lv_sub hl [2, 3, 1, 0] rfl
  unfold wp_X7_sizeOf_l4 at hwp
  obtain ⟨J4, μ4, hJ, hst4⟩ := hwp
  have hL4 : ∀ (n : Nat) (x2_4 : Int32) (x3_4 : Int32), μ4 x2_4 x3_4 < n → J4 x2_4 x3_4 → ∀ (H : Heap) (locs : List Loc), va_P D vwCl [(a_this, .inr (7, [.ref a_slots])), (a_slots, .inl (cI, 96, .inl v_slots))] H → va_D A [(a_this, .inr (7, [.ref a_slots])), (a_slots, .inl (cI, 96, .inl v_slots))] → va_S A s.heap H locs → ∀ ls : Array Slot, lv_has ls 4 [(0, .ref a_this), (1, .int x1), (2, .int x2_4), (3, .int x3_4)] → W p l e rm_X7_sizeOf s m args below meth c H locs 0 0 Q (F0 m 4 ls []) := by
    intro n
    induction n with
    | zero => intro x2_4 x3_4 h; exact absurd h (Nat.not_lt_zero _)
    | succ n ih4 =>
      intro x2_4 x3_4 hμ4 hJ H locs hP hD hS ls hl
      have hwp := hst4 x2_4 x3_4 hJ
      refine lv_iload_n hx hb dX7_sizeOf_4 rfl (lv_at hl 3 rfl) ?_
      refine lv_bipush (v := 6) hx hb dX7_sizeOf_5 (by decide) ?_
      refine lv_icmp_ge (tgt := 30) hx hb dX7_sizeOf_7 (by decide) (fun hc => ?_) (fun hc => ?_)
      · have hwp := hwp.1 hc
        refine lv_iload_n hx hb dX7_sizeOf_30 rfl (lv_at hl 2 rfl) ?_
        exact hret () [0, 1] dX7_sizeOf_31 hwp rfl rfl hP hD hS
      · have hwp := hwp.2 hc
        refine lv_aload_n hx hb dX7_sizeOf_10 rfl (lv_at hl 0 rfl) ?_
        refine lv_iload_n hx hb dX7_sizeOf_11 rfl (lv_at hl 1 rfl) ?_
        refine lv_iload_n hx hb dX7_sizeOf_12 rfl (lv_at hl 3 rfl) ?_
        refine gBacki (D := D) (tys := gT cI cC cF cO) (A := A) (wr := []) (w1 := (fun u_2 : Unit => [(a_this, .inr (7, [.ref a_slots])), (a_slots, .inl (cI, 96, .inl v_slots))])) (va_runV (As := [.int x1, .int x3_4]) (rest := []) ⟨hx, hb, hml, hown, hts⟩ (c_X7_cardIn l D cI cC cF cO a_this a_slots _ _ _ _ _ hwp) (cwV 2 hts gX7_sizeOf_X7_cardIn rfl rfl rfl (by decide +kernel) ⟨Nat.le_of_ble_eq_true rfl, Nat.le_of_ble_eq_true rfl⟩) (gPreV (C := RX7) (T := TX7) (N := 1) (ci := 7) hK hX hT hP hD hS hA [0, 1] rfl rfl rfl (qb := 0) rfl) rfl rfl hl.1 rfl (lv_room (Nat.le_of_ble_eq_true rfl)) dX7_sizeOf_13 ⟨Nat.le_of_ble_eq_true rfl, Nat.le_of_ble_eq_true rfl⟩) hP hD hS hA [0, 1] [] rfl rfl rfl (by decide) (fun r_1 u_2 H locs hwp hP hD hS => ?_)
        have hP : va_P D vwCl [(a_this, .inr (7, [.ref a_slots])), (a_slots, .inl (cI, 96, .inl v_slots))] H := hP
        have hD : va_D A [(a_this, .inr (7, [.ref a_slots])), (a_slots, .inl (cI, 96, .inl v_slots))] := hD
        refine lv_bipush (v := -5) hx hb dX7_sizeOf_16 (by decide) ?_
        refine lv_icmp_eq (tgt := 24) hx hb dX7_sizeOf_18 (by decide) (fun hc => ?_) (fun hc => ?_)
        · have hwp := hwp.1 hc
          refine lv_iinc (v := (x3_4 + (1 : Int32))) (lv' := [(3, .int (x3_4 + (1 : Int32))), (0, .ref a_this), (1, .int x1), (2, .int x2_4)]) hx hb dX7_sizeOf_24 hl (k := 3) rfl rfl (by decide) rfl (fun ls hl => ?_)
          refine lv_goto (tgt := 4) hx hb dX7_sizeOf_27 (by decide) ?_
          have hl : lv_has ls 4 [(0, .ref a_this), (1, .int x1), (2, .int x2_4), (3, .int (x3_4 + (1 : Int32)))] := lv_sub hl [1, 2, 3, 0] rfl
          exact ih4 x2_4 (x3_4 + (1 : Int32)) (Nat.lt_of_lt_of_le hwp.2 (Nat.le_of_lt_succ hμ4)) hwp.1 _ _ hP hD hS ls hl
        · have hwp := hwp.2 hc
          refine lv_iinc (v := (x2_4 + (1 : Int32))) (lv' := [(2, .int (x2_4 + (1 : Int32))), (0, .ref a_this), (1, .int x1), (3, .int x3_4)]) hx hb dX7_sizeOf_21 hl (k := 2) rfl rfl (by decide) rfl (fun ls hl => ?_)
          refine lv_iinc (v := (x3_4 + (1 : Int32))) (lv' := [(3, .int (x3_4 + (1 : Int32))), (2, .int (x2_4 + (1 : Int32))), (0, .ref a_this), (1, .int x1)]) hx hb dX7_sizeOf_24 hl (k := 3) rfl rfl (by decide) rfl (fun ls hl => ?_)
          refine lv_goto (tgt := 4) hx hb dX7_sizeOf_27 (by decide) ?_
          have hl : lv_has ls 4 [(0, .ref a_this), (1, .int x1), (2, .int (x2_4 + (1 : Int32))), (3, .int (x3_4 + (1 : Int32)))] := lv_sub hl [2, 3, 1, 0] rfl
          exact ih4 (x2_4 + (1 : Int32)) (x3_4 + (1 : Int32)) (Nat.lt_of_lt_of_le hwp.2 (Nat.le_of_lt_succ hμ4)) hwp.1 _ _ hP hD hS ls hl
  exact hL4 _ (0 : Int32) (0 : Int32) (Nat.lt_succ_self _) hJ _ _ hP hD hS ls hl
