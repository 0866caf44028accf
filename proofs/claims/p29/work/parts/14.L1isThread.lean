/-! contract of the law's isThread (by program) -/
abbrev rm_L_isThread : Room := { frames := 7, cells := 0, slots := 0, locals := 156 }
set_option maxHeartbeats 40000000 in
set_option maxRecDepth 100000 in
theorem c_L_isThread (l : Launch) (D : va_G) (cI cC cF cO : ClassId) (xa : Nat → Nat) (v : VT) (sz : Nat) (x1 : Int32) (post : Int32 → VT → Prop) (hwp : wv_L_isThread x1 v post) : Met l yL_isThread wsL_isThread rm_L_isThread (gPre D (gT cI cC cF cO) [.ref (xa 0), .int x1] (gW cI cC cF cO xa v) sz) (va_Qi post (gB D (gT cI cC cF cO) (gW cI cC cF cO xa) (gW cI cC cF cO xa v) sz) (va_A (gW cI cC cF cO xa v) sz)) 0 0 (va_A (gW cI cC cF cO xa v) sz) := by
  refine gOfz (own := RL) (cc := cL_isThread) (maxL := 16) (ret := (some .boolean)) rfl (by decide) rfl (Nat.le_of_ble_eq_true rfl) rfl ?_
  intro p e s m below meth c A args Q hAe hx hb hr hts hown hml hlocks hname hA hK hX hT hP hD hS hret ls hl
  have hl : lv_has ls 16 [(0, .ref (xa 0)), (1, .int x1)] := hl
  unfold wv_L_isThread at hwp
  have hj421 : ∀ (x3_421 : Int32) (x11_421 : Int32) (k0_421 : Int32) (k1_421 : Int32) (v_421 : VT) (H : Heap) (locs : List Loc), wv_L_isThread_j421 x3_421 x11_421 k0_421 k1_421 v_421  post → va_P D vwCl (gW cI cC cF cO xa v_421) H → va_D A (gW cI cC cF cO xa v_421) → va_S A s.heap H locs → ∀ ls : Array Slot, lv_has ls 16 [(3, .int x3_421), (11, .int x11_421)] → W p l e rm_L_isThread s m args below meth c H locs 0 0 Q (F0 m 421 ls [.int k0_421, .int k1_421]) := by
    intro x3_421 x11_421 k0_421 k1_421 v_421 H locs hwp hP hD hS ls hl
    unfold wv_L_isThread_j421 at hwp
    refine lv_icmp_ne (tgt := 449) hx hb dL_isThread_421 (by decide) (fun hc => ?_) (fun hc => ?_)
    · have hwp := hwp.2 hc
      refine lv_iconst (v := 0) hx hb dL_isThread_449 (by decide) ?_
      exact hret v_421 gI dL_isThread_450 (Or.inl rfl) hwp (gI_at cI cC cF cO xa v_421) gI_nd hP hD hS
    · have hwp := hwp.1 hc
      refine lv_iload hx hb dL_isThread_424 (lv_at hl 1 rfl) ?_
      refine lv_if_lt (tgt := 449) hx hb dL_isThread_426 (by decide) (fun hc => ?_) (fun hc => ?_)
      · have hwp := hwp.1 hc
        refine lv_iconst (v := 0) hx hb dL_isThread_449 (by decide) ?_
        exact hret v_421 gI dL_isThread_450 (Or.inl rfl) hwp (gI_at cI cC cF cO xa v_421) gI_nd hP hD hS
      · have hwp := hwp.2 hc
        refine lv_iload hx hb dL_isThread_429 (lv_at hl 1 rfl) ?_
        refine lv_iload_n hx hb dL_isThread_431 rfl (lv_at hl 0 rfl) ?_
        refine lv_icmp_gt (tgt := 449) hx hb dL_isThread_432 (by decide) (fun hc => ?_) (fun hc => ?_)
        · have hwp := hwp.1 hc
          refine lv_iconst (v := 0) hx hb dL_isThread_449 (by decide) ?_
          exact hret v_421 gI dL_isThread_450 (Or.inl rfl) hwp (gI_at cI cC cF cO xa v_421) gI_nd hP hD hS
        · have hwp := hwp.2 hc
          refine lv_iload_n hx hb dL_isThread_435 rfl (lv_at hl 0 rfl) ?_
          refine lv_if_eq (tgt := 445) hx hb dL_isThread_436 (by decide) (fun hc => ?_) (fun hc => ?_)
          · have hwp := hwp.1 hc
            refine lv_iconst (v := 1) hx hb dL_isThread_445 (by decide) ?_
            refine lv_goto (tgt := 450) hx hb dL_isThread_446 (by decide) ?_
            exact hret v_421 gI dL_isThread_450 (Or.inr rfl) hwp (gI_at cI cC cF cO xa v_421) gI_nd hP hD hS
          · have hwp := hwp.2 hc
            refine lv_iload hx hb dL_isThread_439 (lv_at hl 1 rfl) ?_
            refine lv_iload_n hx hb dL_isThread_441 rfl (lv_at hl 0 rfl) ?_
            refine lv_icmp_ge (tgt := 449) hx hb dL_isThread_442 (by decide) (fun hc => ?_) (fun hc => ?_)
            · have hwp := hwp.1 hc
              refine lv_iconst (v := 0) hx hb dL_isThread_449 (by decide) ?_
              exact hret v_421 gI dL_isThread_450 (Or.inl rfl) hwp (gI_at cI cC cF cO xa v_421) gI_nd hP hD hS
            · have hwp := hwp.2 hc
              refine lv_iconst (v := 1) hx hb dL_isThread_445 (by decide) ?_
              refine lv_goto (tgt := 450) hx hb dL_isThread_446 (by decide) ?_
              exact hret v_421 gI dL_isThread_450 (Or.inr rfl) hwp (gI_at cI cC cF cO xa v_421) gI_nd hP hD hS
  have hj411 : ∀ (x3_411 : Int32) (x4_411 : Int32) (x11_411 : Int32) (k0_411 : Int32) (v_411 : VT) (H : Heap) (locs : List Loc), wv_L_isThread_j411 x3_411 x4_411 x11_411 k0_411 v_411  post → va_P D vwCl (gW cI cC cF cO xa v_411) H → va_D A (gW cI cC cF cO xa v_411) → va_S A s.heap H locs → ∀ ls : Array Slot, lv_has ls 16 [(3, .int x3_411), (4, .int x4_411), (11, .int x11_411)] → W p l e rm_L_isThread s m args below meth c H locs 0 0 Q (F0 m 411 ls [.int k0_411]) := by
    intro x3_411 x4_411 x11_411 k0_411 v_411 H locs hwp hP hD hS ls hl
    unfold wv_L_isThread_j411 at hwp
    refine lv_iload hx hb dL_isThread_411 (lv_at hl 1 rfl) ?_
    refine lv_if_ne (tgt := 420) hx hb dL_isThread_413 (by decide) (fun hc => ?_) (fun hc => ?_)
    · have hwp := hwp.2 hc
      refine lv_iconst (v := 0) hx hb dL_isThread_420 (by decide) ?_
      have hl : lv_has ls 16 [(3, .int x3_411), (11, .int x11_411)] := lv_sub hl [0, 2] rfl
      exact hj421 x3_411 x11_411 (0 : Int32) k0_411 v_411 _ _ hwp hP hD hS ls hl
    · have hwp := hwp.1 hc
      refine lv_iconst (v := 1) hx hb dL_isThread_416 (by decide) ?_
      refine lv_goto (tgt := 421) hx hb dL_isThread_417 (by decide) ?_
      have hl : lv_has ls 16 [(3, .int x3_411), (11, .int x11_411)] := lv_sub hl [0, 2] rfl
      exact hj421 x3_411 x11_411 (1 : Int32) k0_411 v_411 _ _ hwp hP hD hS ls hl
  have hj394 : ∀ (x3_394 : Int32) (x4_394 : Int32) (x11_394 : Int32) (k0_394 : Int32) (v_394 : VT) (H : Heap) (locs : List Loc), wv_L_isThread_j394 x3_394 x4_394 x11_394 k0_394 v_394  post → va_P D vwCl (gW cI cC cF cO xa v_394) H → va_D A (gW cI cC cF cO xa v_394) → va_S A s.heap H locs → ∀ ls : Array Slot, lv_has ls 16 [(3, .int x3_394), (4, .int x4_394), (11, .int x11_394)] → W p l e rm_L_isThread s m args below meth c H locs 0 0 Q (F0 m 394 ls [.int k0_394]) := by
    intro x3_394 x4_394 x11_394 k0_394 v_394 H locs hwp hP hD hS ls hl
    unfold wv_L_isThread_j394 at hwp
    refine lv_istore (lv' := [(10, .int k0_394), (3, .int x3_394), (4, .int x4_394), (11, .int x11_394)]) hx hb dL_isThread_394 hl (by decide) rfl (fun ls hl => ?_)
    refine lv_iload hx hb dL_isThread_396 (lv_at hl 0 rfl) ?_
    refine lv_if_eq (tgt := 449) hx hb dL_isThread_398 (by decide) (fun hc => ?_) (fun hc => ?_)
    · have hwp := hwp.1 hc
      refine lv_iconst (v := 0) hx hb dL_isThread_449 (by decide) ?_
      exact hret v_394 gI dL_isThread_450 (Or.inl rfl) hwp (gI_at cI cC cF cO xa v_394) gI_nd hP hD hS
    · have hwp := hwp.2 hc
      refine lv_iload hx hb dL_isThread_401 (lv_at hl 3 rfl) ?_
      refine lv_if_ne (tgt := 410) hx hb dL_isThread_403 (by decide) (fun hc => ?_) (fun hc => ?_)
      · have hwp := hwp.2 hc
        refine lv_iconst (v := 0) hx hb dL_isThread_410 (by decide) ?_
        have hl : lv_has ls 16 [(3, .int x3_394), (4, .int x4_394), (11, .int x11_394)] := lv_sub hl [1, 2, 3] rfl
        exact hj411 x3_394 x4_394 x11_394 (0 : Int32) v_394 _ _ hwp hP hD hS ls hl
      · have hwp := hwp.1 hc
        refine lv_iconst (v := 1) hx hb dL_isThread_406 (by decide) ?_
        refine lv_goto (tgt := 411) hx hb dL_isThread_407 (by decide) ?_
        have hl : lv_has ls 16 [(3, .int x3_394), (4, .int x4_394), (11, .int x11_394)] := lv_sub hl [1, 2, 3] rfl
        exact hj411 x3_394 x4_394 x11_394 (1 : Int32) v_394 _ _ hwp hP hD hS ls hl
  have hj393 : ∀ (x3_393 : Int32) (x4_393 : Int32) (x11_393 : Int32) (v_393 : VT) (H : Heap) (locs : List Loc), wv_L_isThread_j393 x3_393 x4_393 x11_393 v_393  post → va_P D vwCl (gW cI cC cF cO xa v_393) H → va_D A (gW cI cC cF cO xa v_393) → va_S A s.heap H locs → ∀ ls : Array Slot, lv_has ls 16 [(3, .int x3_393), (4, .int x4_393), (11, .int x11_393)] → W p l e rm_L_isThread s m args below meth c H locs 0 0 Q (F0 m 393 ls []) := by
    intro x3_393 x4_393 x11_393 v_393 H locs hwp hP hD hS ls hl
    unfold wv_L_isThread_j393 at hwp
    refine lv_iconst (v := 0) hx hb dL_isThread_393 (by decide) ?_
    have hl : lv_has ls 16 [(3, .int x3_393), (4, .int x4_393), (11, .int x11_393)] := lv_sub hl [0, 1, 2] rfl
    exact hj394 x3_393 x4_393 x11_393 (0 : Int32) v_393 _ _ hwp hP hD hS ls hl
  refine lv_iconst (v := 0) hx hb dL_isThread_0 (by decide) ?_
  refine lv_istore_n (lv' := [(2, .int (0 : Int32)), (0, .ref (xa 0)), (1, .int x1)]) hx hb dL_isThread_1 rfl hl (by decide) rfl (fun ls hl => ?_)
  refine lv_iconst (v := 0) hx hb dL_isThread_2 (by decide) ?_
  refine lv_istore_n (lv' := [(3, .int (0 : Int32)), (2, .int (0 : Int32)), (0, .ref (xa 0)), (1, .int x1)]) hx hb dL_isThread_3 rfl hl (by decide) rfl (fun ls hl => ?_)
  refine lv_iconst (v := 0) hx hb dL_isThread_4 (by decide) ?_
  refine lv_istore (lv' := [(4, .int (0 : Int32)), (3, .int (0 : Int32)), (2, .int (0 : Int32)), (0, .ref (xa 0)), (1, .int x1)]) hx hb dL_isThread_5 hl (by decide) rfl (fun ls hl => ?_)
  refine lv_iconst (v := 0) hx hb dL_isThread_7 (by decide) ?_
  refine lv_istore (lv' := [(5, .int (0 : Int32)), (4, .int (0 : Int32)), (3, .int (0 : Int32)), (2, .int (0 : Int32)), (0, .ref (xa 0)), (1, .int x1)]) hx hb dL_isThread_8 hl (by decide) rfl (fun ls hl => ?_)
  refine lv_iconst (v := 0) hx hb dL_isThread_10 (by decide) ?_
  refine lv_istore (lv' := [(6, .int (0 : Int32)), (5, .int (0 : Int32)), (4, .int (0 : Int32)), (3, .int (0 : Int32)), (2, .int (0 : Int32)), (0, .ref (xa 0)), (1, .int x1)]) hx hb dL_isThread_11 hl (by decide) rfl (fun ls hl => ?_)
  refine lv_iconst (v := 0) hx hb dL_isThread_13 (by decide) ?_
  refine lv_istore (lv' := [(7, .int (0 : Int32)), (6, .int (0 : Int32)), (5, .int (0 : Int32)), (4, .int (0 : Int32)), (3, .int (0 : Int32)), (2, .int (0 : Int32)), (0, .ref (xa 0)), (1, .int x1)]) hx hb dL_isThread_14 hl (by decide) rfl (fun ls hl => ?_)
  refine lv_bipush (v := -5) hx hb dL_isThread_16 (by decide) ?_
  refine lv_istore (lv' := [(8, .int (-5 : Int32)), (7, .int (0 : Int32)), (6, .int (0 : Int32)), (5, .int (0 : Int32)), (4, .int (0 : Int32)), (3, .int (0 : Int32)), (2, .int (0 : Int32)), (0, .ref (xa 0)), (1, .int x1)]) hx hb dL_isThread_18 hl (by decide) rfl (fun ls hl => ?_)
  refine lv_bipush (v := -5) hx hb dL_isThread_20 (by decide) ?_
  refine lv_istore (lv' := [(9, .int (-5 : Int32)), (8, .int (-5 : Int32)), (7, .int (0 : Int32)), (6, .int (0 : Int32)), (5, .int (0 : Int32)), (4, .int (0 : Int32)), (3, .int (0 : Int32)), (2, .int (0 : Int32)), (0, .ref (xa 0)), (1, .int x1)]) hx hb dL_isThread_22 hl (by decide) rfl (fun ls hl => ?_)
  refine lv_iconst (v := 1) hx hb dL_isThread_24 (by decide) ?_
  refine lv_istore (lv' := [(10, .int (1 : Int32)), (9, .int (-5 : Int32)), (8, .int (-5 : Int32)), (7, .int (0 : Int32)), (6, .int (0 : Int32)), (5, .int (0 : Int32)), (4, .int (0 : Int32)), (3, .int (0 : Int32)), (2, .int (0 : Int32)), (0, .ref (xa 0)), (1, .int x1)]) hx hb dL_isThread_25 hl (by decide) rfl (fun ls hl => ?_)
  refine lv_iconst (v := 0) hx hb dL_isThread_27 (by decide) ?_
  refine lv_istore (lv' := [(11, .int (0 : Int32)), (10, .int (1 : Int32)), (9, .int (-5 : Int32)), (8, .int (-5 : Int32)), (7, .int (0 : Int32)), (6, .int (0 : Int32)), (5, .int (0 : Int32)), (4, .int (0 : Int32)), (3, .int (0 : Int32)), (2, .int (0 : Int32)), (0, .ref (xa 0)), (1, .int x1)]) hx hb dL_isThread_28 hl (by decide) rfl (fun ls hl => ?_)
  have hl : lv_has ls 16 [(0, .ref (xa 0)), (1, .int x1), (2, .int (0 : Int32)), (3, .int (0 : Int32)), (4, .int (0 : Int32)), (5, .int (0 : Int32)), (6, .int (0 : Int32)), (7, .int (0 : Int32)), (8, .int (-5 : Int32)), (9, .int (-5 : Int32)), (10, .int (1 : Int32)), (11, .int (0 : Int32))] := lv_sub hl [10, 11, 9, 8, 7, 6, 5, 4, 3, 2, 1, 0] rfl
  unfold wv_L_isThread_l30 at hwp
  obtain ⟨J30, μ30, hJ, hst30⟩ := hwp
  have hL30 : ∀ (n : Nat) (x2_30 : Int32) (x3_30 : Int32) (x4_30 : Int32) (x5_30 : Int32) (x6_30 : Int32) (x7_30 : Int32) (x8_30 : Int32) (x9_30 : Int32) (x10_30 : Int32) (x11_30 : Int32) (v_30 : VT), μ30 x2_30 x3_30 x4_30 x5_30 x6_30 x7_30 x8_30 x9_30 x10_30 x11_30 v_30 < n → J30 x2_30 x3_30 x4_30 x5_30 x6_30 x7_30 x8_30 x9_30 x10_30 x11_30 v_30 → ∀ (H : Heap) (locs : List Loc), va_P D vwCl (gW cI cC cF cO xa v_30) H → va_D A (gW cI cC cF cO xa v_30) → va_S A s.heap H locs → ∀ ls : Array Slot, lv_has ls 16 [(0, .ref (xa 0)), (1, .int x1), (2, .int x2_30), (3, .int x3_30), (4, .int x4_30), (5, .int x5_30), (6, .int x6_30), (7, .int x7_30), (8, .int x8_30), (9, .int x9_30), (10, .int x10_30), (11, .int x11_30)] → W p l e rm_L_isThread s m args below meth c H locs 0 0 Q (F0 m 30 ls []) := by
    intro n
    induction n with
    | zero => intro x2_30 x3_30 x4_30 x5_30 x6_30 x7_30 x8_30 x9_30 x10_30 x11_30 v_30 h; exact absurd h (Nat.not_lt_zero _)
    | succ n ih30 =>
      intro x2_30 x3_30 x4_30 x5_30 x6_30 x7_30 x8_30 x9_30 x10_30 x11_30 v_30 hμ30 hJ H locs hP hD hS ls hl
      have hwp := hst30 x2_30 x3_30 x4_30 x5_30 x6_30 x7_30 x8_30 x9_30 x10_30 x11_30 v_30 hJ
      refine lv_iload hx hb dL_isThread_30 (lv_at hl 11 rfl) ?_
      refine lv_bipush (v := 16) hx hb dL_isThread_32 (by decide) ?_
      refine lv_icmp_ge (tgt := 310) hx hb dL_isThread_34 (by decide) (fun hc => ?_) (fun hc => ?_)
      · have hwp := hwp.1 hc
        refine lv_aload_n hx hb dL_isThread_310 rfl (lv_at hl 0 rfl) ?_
        refine lv_iload_n hx hb dL_isThread_311 rfl (lv_at hl 1 rfl) ?_
        refine lv_iconst (v := 4) hx hb dL_isThread_312 (by decide) ?_
        refine gBacki (D := D) (tys := gT cI cC cF cO) (A := A) (wr := []) (w1 := gW cI cC cF cO xa) (va_runV (As := [.int x1, .int (4 : Int32)]) (rest := []) ⟨hx, hb, hml, hown, hts⟩ (d_X8_thread l D cI cC cF cO xa v_30 _ (x1) ((4 : Int32)) _ hwp) (cwV 2 hts gL_isThread_X8_thread rfl rfl rfl (by decide +kernel) ⟨Nat.le_of_ble_eq_true rfl, Nat.le_of_ble_eq_true rfl⟩) (gPreV (C := RX8) (T := TX8) (N := 9) (ci := 8) hK hX hT hP hD hS hA gI (gI_at cI cC cF cO xa v_30) gI_nd rfl (qb := 0) rfl) rfl rfl hl.1 rfl (lv_room (Nat.le_of_ble_eq_true rfl)) dL_isThread_313 ⟨Nat.le_of_ble_eq_true rfl, Nat.le_of_ble_eq_true rfl⟩) hP hD hS hA gI [] (gI_at cI cC cF cO xa v_30) rfl rfl (fun i h => absurd h List.not_mem_nil) (fun r_1 v_2 H locs hwp hP hD hS => ?_)
        have hP : va_P D vwCl (gW cI cC cF cO xa v_2) H := hP
        have hD : va_D A (gW cI cC cF cO xa v_2) := hD
        refine lv_istore (lv' := [(11, .int r_1), (0, .ref (xa 0)), (1, .int x1), (2, .int x2_30), (3, .int x3_30), (4, .int x4_30), (5, .int x5_30), (6, .int x6_30), (7, .int x7_30), (8, .int x8_30), (9, .int x9_30), (10, .int x10_30)]) hx hb dL_isThread_316 hl (by decide) rfl (fun ls hl => ?_)
        refine lv_iload hx hb dL_isThread_318 (lv_at hl 11 rfl) ?_
        refine lv_if_eq (tgt := 393) hx hb dL_isThread_320 (by decide) (fun hc => ?_) (fun hc => ?_)
        · have hwp := hwp.1 hc
          have hl : lv_has ls 16 [(3, .int x3_30), (4, .int x4_30), (11, .int r_1)] := lv_sub hl [4, 5, 0] rfl
          exact hj393 x3_30 x4_30 r_1 v_2 _ _ hwp hP hD hS ls hl
        · have hwp := hwp.2 hc
          refine lv_iload_n hx hb dL_isThread_323 rfl (lv_at hl 3 rfl) ?_
          refine lv_aload_n hx hb dL_isThread_324 rfl (lv_at hl 1 rfl) ?_
          refine lv_iload_n hx hb dL_isThread_325 rfl (lv_at hl 2 rfl) ?_
          refine lv_iconst (v := 0) hx hb dL_isThread_326 (by decide) ?_
          refine gBacki (D := D) (tys := gT cI cC cF cO) (A := A) (wr := []) (w1 := gW cI cC cF cO xa) (va_runV (As := [.int x1, .int (0 : Int32)]) (rest := [.int x2_30]) ⟨hx, hb, hml, hown, hts⟩ (d_X8_thread l D cI cC cF cO xa v_2 _ (x1) ((0 : Int32)) _ hwp) (cwV 2 hts gL_isThread_X8_thread rfl rfl rfl (by decide +kernel) ⟨Nat.le_of_ble_eq_true rfl, Nat.le_of_ble_eq_true rfl⟩) (gPreV (C := RX8) (T := TX8) (N := 9) (ci := 8) hK hX hT hP hD hS hA gI (gI_at cI cC cF cO xa v_2) gI_nd rfl (qb := 0) rfl) rfl rfl hl.1 rfl (lv_room (Nat.le_of_ble_eq_true rfl)) dL_isThread_327 ⟨Nat.le_of_ble_eq_true rfl, Nat.le_of_ble_eq_true rfl⟩) hP hD hS hA gI [] (gI_at cI cC cF cO xa v_2) rfl rfl (fun i h => absurd h List.not_mem_nil) (fun r_3 v_4 H locs hwp hP hD hS => ?_)
          have hP : va_P D vwCl (gW cI cC cF cO xa v_4) H := hP
          have hD : va_D A (gW cI cC cF cO xa v_4) := hD
          refine lv_icmp_ne (tgt := 393) hx hb dL_isThread_330 (by decide) (fun hc => ?_) (fun hc => ?_)
          · have hwp := hwp.2 hc
            have hl : lv_has ls 16 [(3, .int x3_30), (4, .int x4_30), (11, .int r_1)] := lv_sub hl [4, 5, 0] rfl
            exact hj393 x3_30 x4_30 r_1 v_4 _ _ hwp hP hD hS ls hl
          · have hwp := hwp.1 hc
            refine lv_iload_n hx hb dL_isThread_333 rfl (lv_at hl 4 rfl) ?_
            refine lv_aload_n hx hb dL_isThread_334 rfl (lv_at hl 1 rfl) ?_
            refine lv_iload_n hx hb dL_isThread_335 rfl (lv_at hl 2 rfl) ?_
            refine lv_iconst (v := 2) hx hb dL_isThread_336 (by decide) ?_
            refine gBacki (D := D) (tys := gT cI cC cF cO) (A := A) (wr := []) (w1 := gW cI cC cF cO xa) (va_runV (As := [.int x1, .int (2 : Int32)]) (rest := [.int x3_30]) ⟨hx, hb, hml, hown, hts⟩ (d_X8_thread l D cI cC cF cO xa v_4 _ (x1) ((2 : Int32)) _ hwp) (cwV 2 hts gL_isThread_X8_thread rfl rfl rfl (by decide +kernel) ⟨Nat.le_of_ble_eq_true rfl, Nat.le_of_ble_eq_true rfl⟩) (gPreV (C := RX8) (T := TX8) (N := 9) (ci := 8) hK hX hT hP hD hS hA gI (gI_at cI cC cF cO xa v_4) gI_nd rfl (qb := 0) rfl) rfl rfl hl.1 rfl (lv_room (Nat.le_of_ble_eq_true rfl)) dL_isThread_337 ⟨Nat.le_of_ble_eq_true rfl, Nat.le_of_ble_eq_true rfl⟩) hP hD hS hA gI [] (gI_at cI cC cF cO xa v_4) rfl rfl (fun i h => absurd h List.not_mem_nil) (fun r_5 v_6 H locs hwp hP hD hS => ?_)
            have hP : va_P D vwCl (gW cI cC cF cO xa v_6) H := hP
            have hD : va_D A (gW cI cC cF cO xa v_6) := hD
            refine lv_icmp_ne (tgt := 393) hx hb dL_isThread_340 (by decide) (fun hc => ?_) (fun hc => ?_)
            · have hwp := hwp.2 hc
              have hl : lv_has ls 16 [(3, .int x3_30), (4, .int x4_30), (11, .int r_1)] := lv_sub hl [4, 5, 0] rfl
              exact hj393 x3_30 x4_30 r_1 v_6 _ _ hwp hP hD hS ls hl
            · have hwp := hwp.1 hc
              refine lv_iload hx hb dL_isThread_343 (lv_at hl 5 rfl) ?_
              refine lv_aload_n hx hb dL_isThread_345 rfl (lv_at hl 1 rfl) ?_
              refine lv_iload_n hx hb dL_isThread_346 rfl (lv_at hl 2 rfl) ?_
              refine lv_iconst (v := 3) hx hb dL_isThread_347 (by decide) ?_
              refine gBacki (D := D) (tys := gT cI cC cF cO) (A := A) (wr := []) (w1 := gW cI cC cF cO xa) (va_runV (As := [.int x1, .int (3 : Int32)]) (rest := [.int x4_30]) ⟨hx, hb, hml, hown, hts⟩ (d_X8_thread l D cI cC cF cO xa v_6 _ (x1) ((3 : Int32)) _ hwp) (cwV 2 hts gL_isThread_X8_thread rfl rfl rfl (by decide +kernel) ⟨Nat.le_of_ble_eq_true rfl, Nat.le_of_ble_eq_true rfl⟩) (gPreV (C := RX8) (T := TX8) (N := 9) (ci := 8) hK hX hT hP hD hS hA gI (gI_at cI cC cF cO xa v_6) gI_nd rfl (qb := 0) rfl) rfl rfl hl.1 rfl (lv_room (Nat.le_of_ble_eq_true rfl)) dL_isThread_348 ⟨Nat.le_of_ble_eq_true rfl, Nat.le_of_ble_eq_true rfl⟩) hP hD hS hA gI [] (gI_at cI cC cF cO xa v_6) rfl rfl (fun i h => absurd h List.not_mem_nil) (fun r_7 v_8 H locs hwp hP hD hS => ?_)
              have hP : va_P D vwCl (gW cI cC cF cO xa v_8) H := hP
              have hD : va_D A (gW cI cC cF cO xa v_8) := hD
              refine lv_icmp_ne (tgt := 393) hx hb dL_isThread_351 (by decide) (fun hc => ?_) (fun hc => ?_)
              · have hwp := hwp.2 hc
                have hl : lv_has ls 16 [(3, .int x3_30), (4, .int x4_30), (11, .int r_1)] := lv_sub hl [4, 5, 0] rfl
                exact hj393 x3_30 x4_30 r_1 v_8 _ _ hwp hP hD hS ls hl
              · have hwp := hwp.1 hc
                refine lv_iload hx hb dL_isThread_354 (lv_at hl 6 rfl) ?_
                refine lv_aload_n hx hb dL_isThread_356 rfl (lv_at hl 1 rfl) ?_
                refine lv_iload_n hx hb dL_isThread_357 rfl (lv_at hl 2 rfl) ?_
                refine lv_iconst (v := 5) hx hb dL_isThread_358 (by decide) ?_
                refine gBacki (D := D) (tys := gT cI cC cF cO) (A := A) (wr := []) (w1 := gW cI cC cF cO xa) (va_runV (As := [.int x1, .int (5 : Int32)]) (rest := [.int x5_30]) ⟨hx, hb, hml, hown, hts⟩ (d_X8_thread l D cI cC cF cO xa v_8 _ (x1) ((5 : Int32)) _ hwp) (cwV 2 hts gL_isThread_X8_thread rfl rfl rfl (by decide +kernel) ⟨Nat.le_of_ble_eq_true rfl, Nat.le_of_ble_eq_true rfl⟩) (gPreV (C := RX8) (T := TX8) (N := 9) (ci := 8) hK hX hT hP hD hS hA gI (gI_at cI cC cF cO xa v_8) gI_nd rfl (qb := 0) rfl) rfl rfl hl.1 rfl (lv_room (Nat.le_of_ble_eq_true rfl)) dL_isThread_359 ⟨Nat.le_of_ble_eq_true rfl, Nat.le_of_ble_eq_true rfl⟩) hP hD hS hA gI [] (gI_at cI cC cF cO xa v_8) rfl rfl (fun i h => absurd h List.not_mem_nil) (fun r_9 v_10 H locs hwp hP hD hS => ?_)
                have hP : va_P D vwCl (gW cI cC cF cO xa v_10) H := hP
                have hD : va_D A (gW cI cC cF cO xa v_10) := hD
                refine lv_icmp_ne (tgt := 393) hx hb dL_isThread_362 (by decide) (fun hc => ?_) (fun hc => ?_)
                · have hwp := hwp.2 hc
                  have hl : lv_has ls 16 [(3, .int x3_30), (4, .int x4_30), (11, .int r_1)] := lv_sub hl [4, 5, 0] rfl
                  exact hj393 x3_30 x4_30 r_1 v_10 _ _ hwp hP hD hS ls hl
                · have hwp := hwp.1 hc
                  refine lv_iload hx hb dL_isThread_365 (lv_at hl 7 rfl) ?_
                  refine lv_aload_n hx hb dL_isThread_367 rfl (lv_at hl 1 rfl) ?_
                  refine lv_iload_n hx hb dL_isThread_368 rfl (lv_at hl 2 rfl) ?_
                  refine lv_bipush (v := 6) hx hb dL_isThread_369 (by decide) ?_
                  refine gBacki (D := D) (tys := gT cI cC cF cO) (A := A) (wr := []) (w1 := gW cI cC cF cO xa) (va_runV (As := [.int x1, .int (6 : Int32)]) (rest := [.int x6_30]) ⟨hx, hb, hml, hown, hts⟩ (d_X8_thread l D cI cC cF cO xa v_10 _ (x1) ((6 : Int32)) _ hwp) (cwV 2 hts gL_isThread_X8_thread rfl rfl rfl (by decide +kernel) ⟨Nat.le_of_ble_eq_true rfl, Nat.le_of_ble_eq_true rfl⟩) (gPreV (C := RX8) (T := TX8) (N := 9) (ci := 8) hK hX hT hP hD hS hA gI (gI_at cI cC cF cO xa v_10) gI_nd rfl (qb := 0) rfl) rfl rfl hl.1 rfl (lv_room (Nat.le_of_ble_eq_true rfl)) dL_isThread_371 ⟨Nat.le_of_ble_eq_true rfl, Nat.le_of_ble_eq_true rfl⟩) hP hD hS hA gI [] (gI_at cI cC cF cO xa v_10) rfl rfl (fun i h => absurd h List.not_mem_nil) (fun r_11 v_12 H locs hwp hP hD hS => ?_)
                  have hP : va_P D vwCl (gW cI cC cF cO xa v_12) H := hP
                  have hD : va_D A (gW cI cC cF cO xa v_12) := hD
                  refine lv_icmp_ne (tgt := 393) hx hb dL_isThread_374 (by decide) (fun hc => ?_) (fun hc => ?_)
                  · have hwp := hwp.2 hc
                    have hl : lv_has ls 16 [(3, .int x3_30), (4, .int x4_30), (11, .int r_1)] := lv_sub hl [4, 5, 0] rfl
                    exact hj393 x3_30 x4_30 r_1 v_12 _ _ hwp hP hD hS ls hl
                  · have hwp := hwp.1 hc
                    refine lv_iload hx hb dL_isThread_377 (lv_at hl 8 rfl) ?_
                    refine lv_aload_n hx hb dL_isThread_379 rfl (lv_at hl 1 rfl) ?_
                    refine lv_iload_n hx hb dL_isThread_380 rfl (lv_at hl 2 rfl) ?_
                    refine lv_bipush (v := 7) hx hb dL_isThread_381 (by decide) ?_
                    refine gBacki (D := D) (tys := gT cI cC cF cO) (A := A) (wr := []) (w1 := gW cI cC cF cO xa) (va_runV (As := [.int x1, .int (7 : Int32)]) (rest := [.int x7_30]) ⟨hx, hb, hml, hown, hts⟩ (d_X8_thread l D cI cC cF cO xa v_12 _ (x1) ((7 : Int32)) _ hwp) (cwV 2 hts gL_isThread_X8_thread rfl rfl rfl (by decide +kernel) ⟨Nat.le_of_ble_eq_true rfl, Nat.le_of_ble_eq_true rfl⟩) (gPreV (C := RX8) (T := TX8) (N := 9) (ci := 8) hK hX hT hP hD hS hA gI (gI_at cI cC cF cO xa v_12) gI_nd rfl (qb := 0) rfl) rfl rfl hl.1 rfl (lv_room (Nat.le_of_ble_eq_true rfl)) dL_isThread_383 ⟨Nat.le_of_ble_eq_true rfl, Nat.le_of_ble_eq_true rfl⟩) hP hD hS hA gI [] (gI_at cI cC cF cO xa v_12) rfl rfl (fun i h => absurd h List.not_mem_nil) (fun r_13 v_14 H locs hwp hP hD hS => ?_)
                    have hP : va_P D vwCl (gW cI cC cF cO xa v_14) H := hP
                    have hD : va_D A (gW cI cC cF cO xa v_14) := hD
                    refine lv_icmp_ne (tgt := 393) hx hb dL_isThread_386 (by decide) (fun hc => ?_) (fun hc => ?_)
                    · have hwp := hwp.2 hc
                      have hl : lv_has ls 16 [(3, .int x3_30), (4, .int x4_30), (11, .int r_1)] := lv_sub hl [4, 5, 0] rfl
                      exact hj393 x3_30 x4_30 r_1 v_14 _ _ hwp hP hD hS ls hl
                    · have hwp := hwp.1 hc
                      refine lv_iconst (v := 1) hx hb dL_isThread_389 (by decide) ?_
                      refine lv_goto (tgt := 394) hx hb dL_isThread_390 (by decide) ?_
                      have hl : lv_has ls 16 [(3, .int x3_30), (4, .int x4_30), (11, .int r_1)] := lv_sub hl [4, 5, 0] rfl
                      exact hj394 x3_30 x4_30 r_1 (1 : Int32) v_14 _ _ hwp hP hD hS ls hl
      · have hwp := hwp.2 hc
        refine lv_iconst (v := 0) hx hb dL_isThread_37 (by decide) ?_
        refine lv_istore (lv' := [(12, .int (0 : Int32)), (0, .ref (xa 0)), (1, .int x1), (2, .int x2_30), (3, .int x3_30), (4, .int x4_30), (5, .int x5_30), (6, .int x6_30), (7, .int x7_30), (8, .int x8_30), (9, .int x9_30), (10, .int x10_30), (11, .int x11_30)]) hx hb dL_isThread_38 hl (by decide) rfl (fun ls hl => ?_)
        have hl : lv_has ls 16 [(0, .ref (xa 0)), (1, .int x1), (2, .int x2_30), (3, .int x3_30), (4, .int x4_30), (5, .int x5_30), (6, .int x6_30), (7, .int x7_30), (8, .int x8_30), (9, .int x9_30), (10, .int x10_30), (11, .int x11_30), (12, .int (0 : Int32))] := lv_sub hl [1, 2, 3, 4, 5, 6, 7, 8, 9, 10, 11, 12, 0] rfl
        unfold wv_L_isThread_l40 at hwp
        obtain ⟨J40, μ40, hJ, hst40⟩ := hwp
        have hL40 : ∀ (n : Nat) (x2_40 : Int32) (x3_40 : Int32) (x4_40 : Int32) (x5_40 : Int32) (x6_40 : Int32) (x7_40 : Int32) (x8_40 : Int32) (x9_40 : Int32) (x10_40 : Int32) (x12_40 : Int32) (v_40 : VT), μ40 x2_40 x3_40 x4_40 x5_40 x6_40 x7_40 x8_40 x9_40 x10_40 x12_40 v_40 < n → J40 x2_40 x3_40 x4_40 x5_40 x6_40 x7_40 x8_40 x9_40 x10_40 x12_40 v_40 → ∀ (H : Heap) (locs : List Loc), va_P D vwCl (gW cI cC cF cO xa v_40) H → va_D A (gW cI cC cF cO xa v_40) → va_S A s.heap H locs → ∀ ls : Array Slot, lv_has ls 16 [(0, .ref (xa 0)), (1, .int x1), (2, .int x2_40), (3, .int x3_40), (4, .int x4_40), (5, .int x5_40), (6, .int x6_40), (7, .int x7_40), (8, .int x8_40), (9, .int x9_40), (10, .int x10_40), (11, .int x11_30), (12, .int x12_40)] → W p l e rm_L_isThread s m args below meth c H locs 0 0 Q (F0 m 40 ls []) := by
          intro n
          induction n with
          | zero => intro x2_40 x3_40 x4_40 x5_40 x6_40 x7_40 x8_40 x9_40 x10_40 x12_40 v_40 h; exact absurd h (Nat.not_lt_zero _)
          | succ n ih40 =>
            intro x2_40 x3_40 x4_40 x5_40 x6_40 x7_40 x8_40 x9_40 x10_40 x12_40 v_40 hμ40 hJ H locs hP hD hS ls hl
            have hwp := hst40 x2_40 x3_40 x4_40 x5_40 x6_40 x7_40 x8_40 x9_40 x10_40 x12_40 v_40 hJ
            have hj282 : ∀ (x2_282 : Int32) (x4_282 : Int32) (x5_282 : Int32) (x6_282 : Int32) (x7_282 : Int32) (x8_282 : Int32) (x9_282 : Int32) (x10_282 : Int32) (x12_282 : Int32) (x13_282 : Int32) (x14_282 : Int32) (k0_282 : Int32) (k1_282 : Int32) (v_282 : VT) (H : Heap) (locs : List Loc), wv_L_isThread_j282 x1 x2_282 x4_282 x5_282 x6_282 x7_282 x8_282 x9_282 x10_282 x11_30 x12_282 x13_282 x14_282 k0_282 k1_282 v_282 (fun u0 u1 u2 u3 u4 u5 u6 u7 u8 u9 u10 => J30 u0 u1 u2 u3 u4 u5 u6 u7 u8 u9 u10 ∧ μ30 u0 u1 u2 u3 u4 u5 u6 u7 u8 u9 u10 < μ30 x2_30 x3_30 x4_30 x5_30 x6_30 x7_30 x8_30 x9_30 x10_30 x11_30 v_30) (fun u0 u1 u2 u3 u4 u5 u6 u7 u8 u9 u10 => J40 u0 u1 u2 u3 u4 u5 u6 u7 u8 u9 u10 ∧ μ40 u0 u1 u2 u3 u4 u5 u6 u7 u8 u9 u10 < μ40 x2_40 x3_40 x4_40 x5_40 x6_40 x7_40 x8_40 x9_40 x10_40 x12_40 v_40) post → va_P D vwCl (gW cI cC cF cO xa v_282) H → va_D A (gW cI cC cF cO xa v_282) → va_S A s.heap H locs → ∀ ls : Array Slot, lv_has ls 16 [(0, .ref (xa 0)), (1, .int x1), (2, .int x2_282), (4, .int x4_282), (5, .int x5_282), (6, .int x6_282), (7, .int x7_282), (8, .int x8_282), (9, .int x9_282), (10, .int x10_282), (11, .int x11_30), (12, .int x12_282), (13, .int x13_282), (14, .int x14_282)] → W p l e rm_L_isThread s m args below meth c H locs 0 0 Q (F0 m 282 ls [.int k0_282, .int k1_282]) := by
              intro x2_282 x4_282 x5_282 x6_282 x7_282 x8_282 x9_282 x10_282 x12_282 x13_282 x14_282 k0_282 k1_282 v_282 H locs hwp hP hD hS ls hl
              unfold wv_L_isThread_j282 at hwp
              refine lv_iadd hx hb dL_isThread_282 ?_
              refine lv_istore_n (lv' := [(3, .int (k1_282 + k0_282)), (0, .ref (xa 0)), (1, .int x1), (2, .int x2_282), (4, .int x4_282), (5, .int x5_282), (6, .int x6_282), (7, .int x7_282), (8, .int x8_282), (9, .int x9_282), (10, .int x10_282), (11, .int x11_30), (12, .int x12_282), (13, .int x13_282), (14, .int x14_282)]) hx hb dL_isThread_283 rfl hl (by decide) rfl (fun ls hl => ?_)
              refine lv_iload hx hb dL_isThread_284 (lv_at hl 14 rfl) ?_
              refine lv_if_eq (tgt := 294) hx hb dL_isThread_286 (by decide) (fun hc => ?_) (fun hc => ?_)
              · have hwp := hwp.1 hc
                refine lv_iload hx hb dL_isThread_294 (lv_at hl 13 rfl) ?_
                refine lv_istore (lv' := [(9, .int x13_282), (3, .int (k1_282 + k0_282)), (0, .ref (xa 0)), (1, .int x1), (2, .int x2_282), (4, .int x4_282), (5, .int x5_282), (6, .int x6_282), (7, .int x7_282), (8, .int x8_282), (10, .int x10_282), (11, .int x11_30), (12, .int x12_282), (13, .int x13_282), (14, .int x14_282)]) hx hb dL_isThread_296 hl (by decide) rfl (fun ls hl => ?_)
                refine lv_iinc (v := (x12_282 + (1 : Int32))) (lv' := [(12, .int (x12_282 + (1 : Int32))), (9, .int x13_282), (3, .int (k1_282 + k0_282)), (0, .ref (xa 0)), (1, .int x1), (2, .int x2_282), (4, .int x4_282), (5, .int x5_282), (6, .int x6_282), (7, .int x7_282), (8, .int x8_282), (10, .int x10_282), (11, .int x11_30), (13, .int x13_282), (14, .int x14_282)]) hx hb dL_isThread_298 hl (k := 12) rfl rfl (by decide) rfl (fun ls hl => ?_)
                refine lv_goto (tgt := 40) hx hb dL_isThread_301 (by decide) ?_
                have hl : lv_has ls 16 [(0, .ref (xa 0)), (1, .int x1), (2, .int x2_282), (3, .int (k1_282 + k0_282)), (4, .int x4_282), (5, .int x5_282), (6, .int x6_282), (7, .int x7_282), (8, .int x8_282), (9, .int x13_282), (10, .int x10_282), (11, .int x11_30), (12, .int (x12_282 + (1 : Int32)))] := lv_sub hl [3, 4, 5, 2, 6, 7, 8, 9, 10, 1, 11, 12, 0] rfl
                exact ih40 x2_282 (k1_282 + k0_282) x4_282 x5_282 x6_282 x7_282 x8_282 x13_282 x10_282 (x12_282 + (1 : Int32)) v_282 (Nat.lt_of_lt_of_le hwp.2 (Nat.le_of_lt_succ hμ40)) hwp.1 _ _ hP hD hS ls hl
              · have hwp := hwp.2 hc
                refine lv_iload hx hb dL_isThread_289 (lv_at hl 9 rfl) ?_
                refine lv_goto (tgt := 296) hx hb dL_isThread_291 (by decide) ?_
                refine lv_istore (lv' := [(9, .int x9_282), (3, .int (k1_282 + k0_282)), (0, .ref (xa 0)), (1, .int x1), (2, .int x2_282), (4, .int x4_282), (5, .int x5_282), (6, .int x6_282), (7, .int x7_282), (8, .int x8_282), (10, .int x10_282), (11, .int x11_30), (12, .int x12_282), (13, .int x13_282), (14, .int x14_282)]) hx hb dL_isThread_296 hl (by decide) rfl (fun ls hl => ?_)
                refine lv_iinc (v := (x12_282 + (1 : Int32))) (lv' := [(12, .int (x12_282 + (1 : Int32))), (9, .int x9_282), (3, .int (k1_282 + k0_282)), (0, .ref (xa 0)), (1, .int x1), (2, .int x2_282), (4, .int x4_282), (5, .int x5_282), (6, .int x6_282), (7, .int x7_282), (8, .int x8_282), (10, .int x10_282), (11, .int x11_30), (13, .int x13_282), (14, .int x14_282)]) hx hb dL_isThread_298 hl (k := 12) rfl rfl (by decide) rfl (fun ls hl => ?_)
                refine lv_goto (tgt := 40) hx hb dL_isThread_301 (by decide) ?_
                have hl : lv_has ls 16 [(0, .ref (xa 0)), (1, .int x1), (2, .int x2_282), (3, .int (k1_282 + k0_282)), (4, .int x4_282), (5, .int x5_282), (6, .int x6_282), (7, .int x7_282), (8, .int x8_282), (9, .int x9_282), (10, .int x10_282), (11, .int x11_30), (12, .int (x12_282 + (1 : Int32)))] := lv_sub hl [3, 4, 5, 2, 6, 7, 8, 9, 10, 1, 11, 12, 0] rfl
                exact ih40 x2_282 (k1_282 + k0_282) x4_282 x5_282 x6_282 x7_282 x8_282 x9_282 x10_282 (x12_282 + (1 : Int32)) v_282 (Nat.lt_of_lt_of_le hwp.2 (Nat.le_of_lt_succ hμ40)) hwp.1 _ _ hP hD hS ls hl
            have hj268 : ∀ (x2_268 : Int32) (x3_268 : Int32) (x4_268 : Int32) (x5_268 : Int32) (x7_268 : Int32) (x8_268 : Int32) (x9_268 : Int32) (x10_268 : Int32) (x12_268 : Int32) (x13_268 : Int32) (x14_268 : Int32) (k0_268 : Int32) (k1_268 : Int32) (v_268 : VT) (H : Heap) (locs : List Loc), wv_L_isThread_j268 x1 x2_268 x3_268 x4_268 x5_268 x7_268 x8_268 x9_268 x10_268 x11_30 x12_268 x13_268 x14_268 k0_268 k1_268 v_268 (fun u0 u1 u2 u3 u4 u5 u6 u7 u8 u9 u10 => J30 u0 u1 u2 u3 u4 u5 u6 u7 u8 u9 u10 ∧ μ30 u0 u1 u2 u3 u4 u5 u6 u7 u8 u9 u10 < μ30 x2_30 x3_30 x4_30 x5_30 x6_30 x7_30 x8_30 x9_30 x10_30 x11_30 v_30) (fun u0 u1 u2 u3 u4 u5 u6 u7 u8 u9 u10 => J40 u0 u1 u2 u3 u4 u5 u6 u7 u8 u9 u10 ∧ μ40 u0 u1 u2 u3 u4 u5 u6 u7 u8 u9 u10 < μ40 x2_40 x3_40 x4_40 x5_40 x6_40 x7_40 x8_40 x9_40 x10_40 x12_40 v_40) post → va_P D vwCl (gW cI cC cF cO xa v_268) H → va_D A (gW cI cC cF cO xa v_268) → va_S A s.heap H locs → ∀ ls : Array Slot, lv_has ls 16 [(0, .ref (xa 0)), (1, .int x1), (2, .int x2_268), (3, .int x3_268), (4, .int x4_268), (5, .int x5_268), (7, .int x7_268), (8, .int x8_268), (9, .int x9_268), (10, .int x10_268), (11, .int x11_30), (12, .int x12_268), (13, .int x13_268), (14, .int x14_268)] → W p l e rm_L_isThread s m args below meth c H locs 0 0 Q (F0 m 268 ls [.int k0_268, .int k1_268]) := by
              intro x2_268 x3_268 x4_268 x5_268 x7_268 x8_268 x9_268 x10_268 x12_268 x13_268 x14_268 k0_268 k1_268 v_268 H locs hwp hP hD hS ls hl
              unfold wv_L_isThread_j268 at hwp
              refine lv_iadd hx hb dL_isThread_268 ?_
              refine lv_istore (lv' := [(6, .int (k1_268 + k0_268)), (0, .ref (xa 0)), (1, .int x1), (2, .int x2_268), (3, .int x3_268), (4, .int x4_268), (5, .int x5_268), (7, .int x7_268), (8, .int x8_268), (9, .int x9_268), (10, .int x10_268), (11, .int x11_30), (12, .int x12_268), (13, .int x13_268), (14, .int x14_268)]) hx hb dL_isThread_269 hl (by decide) rfl (fun ls hl => ?_)
              refine lv_iload_n hx hb dL_isThread_271 rfl (lv_at hl 4 rfl) ?_
              refine lv_iload hx hb dL_isThread_272 (lv_at hl 14 rfl) ?_
              refine lv_if_eq (tgt := 281) hx hb dL_isThread_274 (by decide) (fun hc => ?_) (fun hc => ?_)
              · have hwp := hwp.1 hc
                refine lv_iconst (v := 1) hx hb dL_isThread_281 (by decide) ?_
                have hl : lv_has ls 16 [(0, .ref (xa 0)), (1, .int x1), (2, .int x2_268), (4, .int x4_268), (5, .int x5_268), (6, .int (k1_268 + k0_268)), (7, .int x7_268), (8, .int x8_268), (9, .int x9_268), (10, .int x10_268), (11, .int x11_30), (12, .int x12_268), (13, .int x13_268), (14, .int x14_268)] := lv_sub hl [1, 2, 3, 5, 6, 0, 7, 8, 9, 10, 11, 12, 13, 14] rfl
                exact hj282 x2_268 x4_268 x5_268 (k1_268 + k0_268) x7_268 x8_268 x9_268 x10_268 x12_268 x13_268 x14_268 (1 : Int32) x3_268 v_268 _ _ hwp hP hD hS ls hl
              · have hwp := hwp.2 hc
                refine lv_iconst (v := 0) hx hb dL_isThread_277 (by decide) ?_
                refine lv_goto (tgt := 282) hx hb dL_isThread_278 (by decide) ?_
                have hl : lv_has ls 16 [(0, .ref (xa 0)), (1, .int x1), (2, .int x2_268), (4, .int x4_268), (5, .int x5_268), (6, .int (k1_268 + k0_268)), (7, .int x7_268), (8, .int x8_268), (9, .int x9_268), (10, .int x10_268), (11, .int x11_30), (12, .int x12_268), (13, .int x13_268), (14, .int x14_268)] := lv_sub hl [1, 2, 3, 5, 6, 0, 7, 8, 9, 10, 11, 12, 13, 14] rfl
                exact hj282 x2_268 x4_268 x5_268 (k1_268 + k0_268) x7_268 x8_268 x9_268 x10_268 x12_268 x13_268 x14_268 (0 : Int32) x3_268 v_268 _ _ hwp hP hD hS ls hl
            have hj247 : ∀ (x2_247 : Int32) (x3_247 : Int32) (x5_247 : Int32) (x6_247 : Int32) (x7_247 : Int32) (x8_247 : Int32) (x9_247 : Int32) (x10_247 : Int32) (x12_247 : Int32) (x13_247 : Int32) (x14_247 : Int32) (x15_247 : Int32) (k0_247 : Int32) (k1_247 : Int32) (v_247 : VT) (H : Heap) (locs : List Loc), wv_L_isThread_j247 x1 x2_247 x3_247 x5_247 x6_247 x7_247 x8_247 x9_247 x10_247 x11_30 x12_247 x13_247 x14_247 x15_247 k0_247 k1_247 v_247 (fun u0 u1 u2 u3 u4 u5 u6 u7 u8 u9 u10 => J30 u0 u1 u2 u3 u4 u5 u6 u7 u8 u9 u10 ∧ μ30 u0 u1 u2 u3 u4 u5 u6 u7 u8 u9 u10 < μ30 x2_30 x3_30 x4_30 x5_30 x6_30 x7_30 x8_30 x9_30 x10_30 x11_30 v_30) (fun u0 u1 u2 u3 u4 u5 u6 u7 u8 u9 u10 => J40 u0 u1 u2 u3 u4 u5 u6 u7 u8 u9 u10 ∧ μ40 u0 u1 u2 u3 u4 u5 u6 u7 u8 u9 u10 < μ40 x2_40 x3_40 x4_40 x5_40 x6_40 x7_40 x8_40 x9_40 x10_40 x12_40 v_40) post → va_P D vwCl (gW cI cC cF cO xa v_247) H → va_D A (gW cI cC cF cO xa v_247) → va_S A s.heap H locs → ∀ ls : Array Slot, lv_has ls 16 [(0, .ref (xa 0)), (1, .int x1), (2, .int x2_247), (3, .int x3_247), (5, .int x5_247), (6, .int x6_247), (7, .int x7_247), (8, .int x8_247), (9, .int x9_247), (10, .int x10_247), (11, .int x11_30), (12, .int x12_247), (13, .int x13_247), (14, .int x14_247), (15, .int x15_247)] → W p l e rm_L_isThread s m args below meth c H locs 0 0 Q (F0 m 247 ls [.int k0_247, .int k1_247]) := by
              intro x2_247 x3_247 x5_247 x6_247 x7_247 x8_247 x9_247 x10_247 x12_247 x13_247 x14_247 x15_247 k0_247 k1_247 v_247 H locs hwp hP hD hS ls hl
              unfold wv_L_isThread_j247 at hwp
              refine lv_iadd hx hb dL_isThread_247 ?_
              refine lv_istore (lv' := [(4, .int (k1_247 + k0_247)), (0, .ref (xa 0)), (1, .int x1), (2, .int x2_247), (3, .int x3_247), (5, .int x5_247), (6, .int x6_247), (7, .int x7_247), (8, .int x8_247), (9, .int x9_247), (10, .int x10_247), (11, .int x11_30), (12, .int x12_247), (13, .int x13_247), (14, .int x14_247), (15, .int x15_247)]) hx hb dL_isThread_248 hl (by decide) rfl (fun ls hl => ?_)
              refine lv_iload hx hb dL_isThread_250 (lv_at hl 6 rfl) ?_
              refine lv_iload hx hb dL_isThread_252 (lv_at hl 15 rfl) ?_
              refine lv_aload_n hx hb dL_isThread_254 rfl (lv_at hl 1 rfl) ?_
              refine lv_bipush (v := 11) hx hb dL_isThread_255 (by decide) ?_
              refine gBacki (D := D) (tys := gT cI cC cF cO) (A := A) (wr := []) (w1 := gW cI cC cF cO xa) (va_runV (As := [.int (11 : Int32)]) (rest := [.int x15_247, .int x6_247]) ⟨hx, hb, hml, hown, hts⟩ (d_X8_count l D cI cC cF cO xa v_247 _ ((11 : Int32)) _ hwp) (cwV 1 hts gL_isThread_X8_count rfl rfl rfl (by decide +kernel) ⟨Nat.le_of_ble_eq_true rfl, Nat.le_of_ble_eq_true rfl⟩) (gPreV (C := RX8) (T := TX8) (N := 9) (ci := 8) hK hX hT hP hD hS hA gI (gI_at cI cC cF cO xa v_247) gI_nd rfl (qb := 0) rfl) rfl rfl hl.1 rfl (lv_room (Nat.le_of_ble_eq_true rfl)) dL_isThread_257 ⟨Nat.le_of_ble_eq_true rfl, Nat.le_of_ble_eq_true rfl⟩) hP hD hS hA gI [] (gI_at cI cC cF cO xa v_247) rfl rfl (fun i h => absurd h List.not_mem_nil) (fun r_15 v_16 H locs hwp hP hD hS => ?_)
              have hP : va_P D vwCl (gW cI cC cF cO xa v_16) H := hP
              have hD : va_D A (gW cI cC cF cO xa v_16) := hD
              refine lv_icmp_le (tgt := 267) hx hb dL_isThread_260 (by decide) (fun hc => ?_) (fun hc => ?_)
              · have hwp := hwp.1 hc
                refine lv_iconst (v := 0) hx hb dL_isThread_267 (by decide) ?_
                have hl : lv_has ls 16 [(0, .ref (xa 0)), (1, .int x1), (2, .int x2_247), (3, .int x3_247), (4, .int (k1_247 + k0_247)), (5, .int x5_247), (7, .int x7_247), (8, .int x8_247), (9, .int x9_247), (10, .int x10_247), (11, .int x11_30), (12, .int x12_247), (13, .int x13_247), (14, .int x14_247)] := lv_sub hl [1, 2, 3, 4, 0, 5, 7, 8, 9, 10, 11, 12, 13, 14] rfl
                exact hj268 x2_247 x3_247 (k1_247 + k0_247) x5_247 x7_247 x8_247 x9_247 x10_247 x12_247 x13_247 x14_247 (0 : Int32) x6_247 v_16 _ _ hwp hP hD hS ls hl
              · have hwp := hwp.2 hc
                refine lv_iconst (v := 1) hx hb dL_isThread_263 (by decide) ?_
                refine lv_goto (tgt := 268) hx hb dL_isThread_264 (by decide) ?_
                have hl : lv_has ls 16 [(0, .ref (xa 0)), (1, .int x1), (2, .int x2_247), (3, .int x3_247), (4, .int (k1_247 + k0_247)), (5, .int x5_247), (7, .int x7_247), (8, .int x8_247), (9, .int x9_247), (10, .int x10_247), (11, .int x11_30), (12, .int x12_247), (13, .int x13_247), (14, .int x14_247)] := lv_sub hl [1, 2, 3, 4, 0, 5, 7, 8, 9, 10, 11, 12, 13, 14] rfl
                exact hj268 x2_247 x3_247 (k1_247 + k0_247) x5_247 x7_247 x8_247 x9_247 x10_247 x12_247 x13_247 x14_247 (1 : Int32) x6_247 v_16 _ _ hwp hP hD hS ls hl
            have hj233 : ∀ (x2_233 : Int32) (x3_233 : Int32) (x4_233 : Int32) (x5_233 : Int32) (x6_233 : Int32) (x7_233 : Int32) (x8_233 : Int32) (x9_233 : Int32) (x12_233 : Int32) (x13_233 : Int32) (x14_233 : Int32) (x15_233 : Int32) (k0_233 : Int32) (v_233 : VT) (H : Heap) (locs : List Loc), wv_L_isThread_j233 x1 x2_233 x3_233 x4_233 x5_233 x6_233 x7_233 x8_233 x9_233 x11_30 x12_233 x13_233 x14_233 x15_233 k0_233 v_233 (fun u0 u1 u2 u3 u4 u5 u6 u7 u8 u9 u10 => J30 u0 u1 u2 u3 u4 u5 u6 u7 u8 u9 u10 ∧ μ30 u0 u1 u2 u3 u4 u5 u6 u7 u8 u9 u10 < μ30 x2_30 x3_30 x4_30 x5_30 x6_30 x7_30 x8_30 x9_30 x10_30 x11_30 v_30) (fun u0 u1 u2 u3 u4 u5 u6 u7 u8 u9 u10 => J40 u0 u1 u2 u3 u4 u5 u6 u7 u8 u9 u10 ∧ μ40 u0 u1 u2 u3 u4 u5 u6 u7 u8 u9 u10 < μ40 x2_40 x3_40 x4_40 x5_40 x6_40 x7_40 x8_40 x9_40 x10_40 x12_40 v_40) post → va_P D vwCl (gW cI cC cF cO xa v_233) H → va_D A (gW cI cC cF cO xa v_233) → va_S A s.heap H locs → ∀ ls : Array Slot, lv_has ls 16 [(0, .ref (xa 0)), (1, .int x1), (2, .int x2_233), (3, .int x3_233), (4, .int x4_233), (5, .int x5_233), (6, .int x6_233), (7, .int x7_233), (8, .int x8_233), (9, .int x9_233), (11, .int x11_30), (12, .int x12_233), (13, .int x13_233), (14, .int x14_233), (15, .int x15_233)] → W p l e rm_L_isThread s m args below meth c H locs 0 0 Q (F0 m 233 ls [.int k0_233]) := by
              intro x2_233 x3_233 x4_233 x5_233 x6_233 x7_233 x8_233 x9_233 x12_233 x13_233 x14_233 x15_233 k0_233 v_233 H locs hwp hP hD hS ls hl
              unfold wv_L_isThread_j233 at hwp
              refine lv_istore (lv' := [(10, .int k0_233), (0, .ref (xa 0)), (1, .int x1), (2, .int x2_233), (3, .int x3_233), (4, .int x4_233), (5, .int x5_233), (6, .int x6_233), (7, .int x7_233), (8, .int x8_233), (9, .int x9_233), (11, .int x11_30), (12, .int x12_233), (13, .int x13_233), (14, .int x14_233), (15, .int x15_233)]) hx hb dL_isThread_233 hl (by decide) rfl (fun ls hl => ?_)
              refine lv_iload hx hb dL_isThread_235 (lv_at hl 5 rfl) ?_
              refine lv_iload hx hb dL_isThread_237 (lv_at hl 15 rfl) ?_
              refine lv_if_ge (tgt := 246) hx hb dL_isThread_239 (by decide) (fun hc => ?_) (fun hc => ?_)
              · have hwp := hwp.1 hc
                refine lv_iconst (v := 0) hx hb dL_isThread_246 (by decide) ?_
                have hl : lv_has ls 16 [(0, .ref (xa 0)), (1, .int x1), (2, .int x2_233), (3, .int x3_233), (5, .int x5_233), (6, .int x6_233), (7, .int x7_233), (8, .int x8_233), (9, .int x9_233), (10, .int k0_233), (11, .int x11_30), (12, .int x12_233), (13, .int x13_233), (14, .int x14_233), (15, .int x15_233)] := lv_sub hl [1, 2, 3, 4, 6, 7, 8, 9, 10, 0, 11, 12, 13, 14, 15] rfl
                exact hj247 x2_233 x3_233 x5_233 x6_233 x7_233 x8_233 x9_233 k0_233 x12_233 x13_233 x14_233 x15_233 (0 : Int32) x4_233 v_233 _ _ hwp hP hD hS ls hl
              · have hwp := hwp.2 hc
                refine lv_iconst (v := 1) hx hb dL_isThread_242 (by decide) ?_
                refine lv_goto (tgt := 247) hx hb dL_isThread_243 (by decide) ?_
                have hl : lv_has ls 16 [(0, .ref (xa 0)), (1, .int x1), (2, .int x2_233), (3, .int x3_233), (5, .int x5_233), (6, .int x6_233), (7, .int x7_233), (8, .int x8_233), (9, .int x9_233), (10, .int k0_233), (11, .int x11_30), (12, .int x12_233), (13, .int x13_233), (14, .int x14_233), (15, .int x15_233)] := lv_sub hl [1, 2, 3, 4, 6, 7, 8, 9, 10, 0, 11, 12, 13, 14, 15] rfl
                exact hj247 x2_233 x3_233 x5_233 x6_233 x7_233 x8_233 x9_233 k0_233 x12_233 x13_233 x14_233 x15_233 (1 : Int32) x4_233 v_233 _ _ hwp hP hD hS ls hl
            have hj232 : ∀ (x2_232 : Int32) (x3_232 : Int32) (x4_232 : Int32) (x5_232 : Int32) (x6_232 : Int32) (x7_232 : Int32) (x8_232 : Int32) (x9_232 : Int32) (x12_232 : Int32) (x13_232 : Int32) (x14_232 : Int32) (x15_232 : Int32) (v_232 : VT) (H : Heap) (locs : List Loc), wv_L_isThread_j232 x1 x2_232 x3_232 x4_232 x5_232 x6_232 x7_232 x8_232 x9_232 x11_30 x12_232 x13_232 x14_232 x15_232 v_232 (fun u0 u1 u2 u3 u4 u5 u6 u7 u8 u9 u10 => J30 u0 u1 u2 u3 u4 u5 u6 u7 u8 u9 u10 ∧ μ30 u0 u1 u2 u3 u4 u5 u6 u7 u8 u9 u10 < μ30 x2_30 x3_30 x4_30 x5_30 x6_30 x7_30 x8_30 x9_30 x10_30 x11_30 v_30) (fun u0 u1 u2 u3 u4 u5 u6 u7 u8 u9 u10 => J40 u0 u1 u2 u3 u4 u5 u6 u7 u8 u9 u10 ∧ μ40 u0 u1 u2 u3 u4 u5 u6 u7 u8 u9 u10 < μ40 x2_40 x3_40 x4_40 x5_40 x6_40 x7_40 x8_40 x9_40 x10_40 x12_40 v_40) post → va_P D vwCl (gW cI cC cF cO xa v_232) H → va_D A (gW cI cC cF cO xa v_232) → va_S A s.heap H locs → ∀ ls : Array Slot, lv_has ls 16 [(0, .ref (xa 0)), (1, .int x1), (2, .int x2_232), (3, .int x3_232), (4, .int x4_232), (5, .int x5_232), (6, .int x6_232), (7, .int x7_232), (8, .int x8_232), (9, .int x9_232), (11, .int x11_30), (12, .int x12_232), (13, .int x13_232), (14, .int x14_232), (15, .int x15_232)] → W p l e rm_L_isThread s m args below meth c H locs 0 0 Q (F0 m 232 ls []) := by
              intro x2_232 x3_232 x4_232 x5_232 x6_232 x7_232 x8_232 x9_232 x12_232 x13_232 x14_232 x15_232 v_232 H locs hwp hP hD hS ls hl
              unfold wv_L_isThread_j232 at hwp
              refine lv_iconst (v := 0) hx hb dL_isThread_232 (by decide) ?_
              have hl : lv_has ls 16 [(0, .ref (xa 0)), (1, .int x1), (2, .int x2_232), (3, .int x3_232), (4, .int x4_232), (5, .int x5_232), (6, .int x6_232), (7, .int x7_232), (8, .int x8_232), (9, .int x9_232), (11, .int x11_30), (12, .int x12_232), (13, .int x13_232), (14, .int x14_232), (15, .int x15_232)] := lv_sub hl [0, 1, 2, 3, 4, 5, 6, 7, 8, 9, 10, 11, 12, 13, 14] rfl
              exact hj233 x2_232 x3_232 x4_232 x5_232 x6_232 x7_232 x8_232 x9_232 x12_232 x13_232 x14_232 x15_232 (0 : Int32) v_232 _ _ hwp hP hD hS ls hl
            have hj225 : ∀ (x2_225 : Int32) (x3_225 : Int32) (x4_225 : Int32) (x5_225 : Int32) (x6_225 : Int32) (x7_225 : Int32) (x8_225 : Int32) (x9_225 : Int32) (x12_225 : Int32) (x13_225 : Int32) (x14_225 : Int32) (x15_225 : Int32) (k0_225 : Int32) (k1_225 : Int32) (v_225 : VT) (H : Heap) (locs : List Loc), wv_L_isThread_j225 x1 x2_225 x3_225 x4_225 x5_225 x6_225 x7_225 x8_225 x9_225 x11_30 x12_225 x13_225 x14_225 x15_225 k0_225 k1_225 v_225 (fun u0 u1 u2 u3 u4 u5 u6 u7 u8 u9 u10 => J30 u0 u1 u2 u3 u4 u5 u6 u7 u8 u9 u10 ∧ μ30 u0 u1 u2 u3 u4 u5 u6 u7 u8 u9 u10 < μ30 x2_30 x3_30 x4_30 x5_30 x6_30 x7_30 x8_30 x9_30 x10_30 x11_30 v_30) (fun u0 u1 u2 u3 u4 u5 u6 u7 u8 u9 u10 => J40 u0 u1 u2 u3 u4 u5 u6 u7 u8 u9 u10 ∧ μ40 u0 u1 u2 u3 u4 u5 u6 u7 u8 u9 u10 < μ40 x2_40 x3_40 x4_40 x5_40 x6_40 x7_40 x8_40 x9_40 x10_40 x12_40 v_40) post → va_P D vwCl (gW cI cC cF cO xa v_225) H → va_D A (gW cI cC cF cO xa v_225) → va_S A s.heap H locs → ∀ ls : Array Slot, lv_has ls 16 [(0, .ref (xa 0)), (1, .int x1), (2, .int x2_225), (3, .int x3_225), (4, .int x4_225), (5, .int x5_225), (6, .int x6_225), (7, .int x7_225), (8, .int x8_225), (9, .int x9_225), (11, .int x11_30), (12, .int x12_225), (13, .int x13_225), (14, .int x14_225), (15, .int x15_225)] → W p l e rm_L_isThread s m args below meth c H locs 0 0 Q (F0 m 225 ls [.int k0_225, .int k1_225]) := by
              intro x2_225 x3_225 x4_225 x5_225 x6_225 x7_225 x8_225 x9_225 x12_225 x13_225 x14_225 x15_225 k0_225 k1_225 v_225 H locs hwp hP hD hS ls hl
              unfold wv_L_isThread_j225 at hwp
              refine lv_icmp_ne (tgt := 232) hx hb dL_isThread_225 (by decide) (fun hc => ?_) (fun hc => ?_)
              · have hwp := hwp.2 hc
                have hl : lv_has ls 16 [(0, .ref (xa 0)), (1, .int x1), (2, .int x2_225), (3, .int x3_225), (4, .int x4_225), (5, .int x5_225), (6, .int x6_225), (7, .int x7_225), (8, .int x8_225), (9, .int x9_225), (11, .int x11_30), (12, .int x12_225), (13, .int x13_225), (14, .int x14_225), (15, .int x15_225)] := lv_sub hl [0, 1, 2, 3, 4, 5, 6, 7, 8, 9, 10, 11, 12, 13, 14] rfl
                exact hj232 x2_225 x3_225 x4_225 x5_225 x6_225 x7_225 x8_225 x9_225 x12_225 x13_225 x14_225 x15_225 v_225 _ _ hwp hP hD hS ls hl
              · have hwp := hwp.1 hc
                refine lv_iconst (v := 1) hx hb dL_isThread_228 (by decide) ?_
                refine lv_goto (tgt := 233) hx hb dL_isThread_229 (by decide) ?_
                have hl : lv_has ls 16 [(0, .ref (xa 0)), (1, .int x1), (2, .int x2_225), (3, .int x3_225), (4, .int x4_225), (5, .int x5_225), (6, .int x6_225), (7, .int x7_225), (8, .int x8_225), (9, .int x9_225), (11, .int x11_30), (12, .int x12_225), (13, .int x13_225), (14, .int x14_225), (15, .int x15_225)] := lv_sub hl [0, 1, 2, 3, 4, 5, 6, 7, 8, 9, 10, 11, 12, 13, 14] rfl
                exact hj233 x2_225 x3_225 x4_225 x5_225 x6_225 x7_225 x8_225 x9_225 x12_225 x13_225 x14_225 x15_225 (1 : Int32) v_225 _ _ hwp hP hD hS ls hl
            have hj200 : ∀ (x2_200 : Int32) (x3_200 : Int32) (x4_200 : Int32) (x5_200 : Int32) (x6_200 : Int32) (x7_200 : Int32) (x8_200 : Int32) (x9_200 : Int32) (x10_200 : Int32) (x12_200 : Int32) (x13_200 : Int32) (x14_200 : Int32) (k0_200 : Int32) (v_200 : VT) (H : Heap) (locs : List Loc), wv_L_isThread_j200 x1 x2_200 x3_200 x4_200 x5_200 x6_200 x7_200 x8_200 x9_200 x10_200 x11_30 x12_200 x13_200 x14_200 k0_200 v_200 (fun u0 u1 u2 u3 u4 u5 u6 u7 u8 u9 u10 => J30 u0 u1 u2 u3 u4 u5 u6 u7 u8 u9 u10 ∧ μ30 u0 u1 u2 u3 u4 u5 u6 u7 u8 u9 u10 < μ30 x2_30 x3_30 x4_30 x5_30 x6_30 x7_30 x8_30 x9_30 x10_30 x11_30 v_30) (fun u0 u1 u2 u3 u4 u5 u6 u7 u8 u9 u10 => J40 u0 u1 u2 u3 u4 u5 u6 u7 u8 u9 u10 ∧ μ40 u0 u1 u2 u3 u4 u5 u6 u7 u8 u9 u10 < μ40 x2_40 x3_40 x4_40 x5_40 x6_40 x7_40 x8_40 x9_40 x10_40 x12_40 v_40) post → va_P D vwCl (gW cI cC cF cO xa v_200) H → va_D A (gW cI cC cF cO xa v_200) → va_S A s.heap H locs → ∀ ls : Array Slot, lv_has ls 16 [(0, .ref (xa 0)), (1, .int x1), (2, .int x2_200), (3, .int x3_200), (4, .int x4_200), (5, .int x5_200), (6, .int x6_200), (7, .int x7_200), (8, .int x8_200), (9, .int x9_200), (10, .int x10_200), (11, .int x11_30), (12, .int x12_200), (13, .int x13_200), (14, .int x14_200)] → W p l e rm_L_isThread s m args below meth c H locs 0 0 Q (F0 m 200 ls [.int k0_200]) := by
              intro x2_200 x3_200 x4_200 x5_200 x6_200 x7_200 x8_200 x9_200 x10_200 x12_200 x13_200 x14_200 k0_200 v_200 H locs hwp hP hD hS ls hl
              unfold wv_L_isThread_j200 at hwp
              refine lv_istore (lv' := [(15, .int k0_200), (0, .ref (xa 0)), (1, .int x1), (2, .int x2_200), (3, .int x3_200), (4, .int x4_200), (5, .int x5_200), (6, .int x6_200), (7, .int x7_200), (8, .int x8_200), (9, .int x9_200), (10, .int x10_200), (11, .int x11_30), (12, .int x12_200), (13, .int x13_200), (14, .int x14_200)]) hx hb dL_isThread_200 hl (by decide) rfl (fun ls hl => ?_)
              refine lv_iload hx hb dL_isThread_202 (lv_at hl 11 rfl) ?_
              refine lv_if_eq (tgt := 232) hx hb dL_isThread_204 (by decide) (fun hc => ?_) (fun hc => ?_)
              · have hwp := hwp.1 hc
                have hl : lv_has ls 16 [(0, .ref (xa 0)), (1, .int x1), (2, .int x2_200), (3, .int x3_200), (4, .int x4_200), (5, .int x5_200), (6, .int x6_200), (7, .int x7_200), (8, .int x8_200), (9, .int x9_200), (11, .int x11_30), (12, .int x12_200), (13, .int x13_200), (14, .int x14_200), (15, .int k0_200)] := lv_sub hl [1, 2, 3, 4, 5, 6, 7, 8, 9, 10, 12, 13, 14, 15, 0] rfl
                exact hj232 x2_200 x3_200 x4_200 x5_200 x6_200 x7_200 x8_200 x9_200 x12_200 x13_200 x14_200 k0_200 v_200 _ _ hwp hP hD hS ls hl
              · have hwp := hwp.2 hc
                refine lv_aload_n hx hb dL_isThread_207 rfl (lv_at hl 1 rfl) ?_
                refine lv_iload hx hb dL_isThread_208 (lv_at hl 14 rfl) ?_
                refine lv_bipush (v := 7) hx hb dL_isThread_210 (by decide) ?_
                refine gBacki (D := D) (tys := gT cI cC cF cO) (A := A) (wr := []) (w1 := gW cI cC cF cO xa) (va_runV (As := [.int x13_200, .int (7 : Int32)]) (rest := []) ⟨hx, hb, hml, hown, hts⟩ (d_X8_card l D cI cC cF cO xa v_200 _ (x13_200) ((7 : Int32)) _ hwp) (cwV 2 hts gL_isThread_X8_card rfl rfl rfl (by decide +kernel) ⟨Nat.le_of_ble_eq_true rfl, Nat.le_of_ble_eq_true rfl⟩) (gPreV (C := RX8) (T := TX8) (N := 9) (ci := 8) hK hX hT hP hD hS hA gI (gI_at cI cC cF cO xa v_200) gI_nd rfl (qb := 0) rfl) rfl rfl hl.1 rfl (lv_room (Nat.le_of_ble_eq_true rfl)) dL_isThread_212 ⟨Nat.le_of_ble_eq_true rfl, Nat.le_of_ble_eq_true rfl⟩) hP hD hS hA gI [] (gI_at cI cC cF cO xa v_200) rfl rfl (fun i h => absurd h List.not_mem_nil) (fun r_17 v_18 H locs hwp hP hD hS => ?_)
                have hP : va_P D vwCl (gW cI cC cF cO xa v_18) H := hP
                have hD : va_D A (gW cI cC cF cO xa v_18) := hD
                refine lv_iload hx hb dL_isThread_215 (lv_at hl 0 rfl) ?_
                refine lv_if_ge (tgt := 224) hx hb dL_isThread_217 (by decide) (fun hc => ?_) (fun hc => ?_)
                · have hwp := hwp.1 hc
                  refine lv_iconst (v := 0) hx hb dL_isThread_224 (by decide) ?_
                  have hl : lv_has ls 16 [(0, .ref (xa 0)), (1, .int x1), (2, .int x2_200), (3, .int x3_200), (4, .int x4_200), (5, .int x5_200), (6, .int x6_200), (7, .int x7_200), (8, .int x8_200), (9, .int x9_200), (11, .int x11_30), (12, .int x12_200), (13, .int x13_200), (14, .int x14_200), (15, .int k0_200)] := lv_sub hl [1, 2, 3, 4, 5, 6, 7, 8, 9, 10, 12, 13, 14, 15, 0] rfl
                  exact hj225 x2_200 x3_200 x4_200 x5_200 x6_200 x7_200 x8_200 x9_200 x12_200 x13_200 x14_200 k0_200 (0 : Int32) r_17 v_18 _ _ hwp hP hD hS ls hl
                · have hwp := hwp.2 hc
                  refine lv_iconst (v := 1) hx hb dL_isThread_220 (by decide) ?_
                  refine lv_goto (tgt := 225) hx hb dL_isThread_221 (by decide) ?_
                  have hl : lv_has ls 16 [(0, .ref (xa 0)), (1, .int x1), (2, .int x2_200), (3, .int x3_200), (4, .int x4_200), (5, .int x5_200), (6, .int x6_200), (7, .int x7_200), (8, .int x8_200), (9, .int x9_200), (11, .int x11_30), (12, .int x12_200), (13, .int x13_200), (14, .int x14_200), (15, .int k0_200)] := lv_sub hl [1, 2, 3, 4, 5, 6, 7, 8, 9, 10, 12, 13, 14, 15, 0] rfl
                  exact hj225 x2_200 x3_200 x4_200 x5_200 x6_200 x7_200 x8_200 x9_200 x12_200 x13_200 x14_200 k0_200 (1 : Int32) r_17 v_18 _ _ hwp hP hD hS ls hl
            have hj181 : ∀ (x2_181 : Int32) (x3_181 : Int32) (x4_181 : Int32) (x5_181 : Int32) (x6_181 : Int32) (x7_181 : Int32) (x8_181 : Int32) (x9_181 : Int32) (x10_181 : Int32) (x12_181 : Int32) (x13_181 : Int32) (x14_181 : Int32) (v_181 : VT) (H : Heap) (locs : List Loc), wv_L_isThread_j181 x1 x2_181 x3_181 x4_181 x5_181 x6_181 x7_181 x8_181 x9_181 x10_181 x11_30 x12_181 x13_181 x14_181 v_181 (fun u0 u1 u2 u3 u4 u5 u6 u7 u8 u9 u10 => J30 u0 u1 u2 u3 u4 u5 u6 u7 u8 u9 u10 ∧ μ30 u0 u1 u2 u3 u4 u5 u6 u7 u8 u9 u10 < μ30 x2_30 x3_30 x4_30 x5_30 x6_30 x7_30 x8_30 x9_30 x10_30 x11_30 v_30) (fun u0 u1 u2 u3 u4 u5 u6 u7 u8 u9 u10 => J40 u0 u1 u2 u3 u4 u5 u6 u7 u8 u9 u10 ∧ μ40 u0 u1 u2 u3 u4 u5 u6 u7 u8 u9 u10 < μ40 x2_40 x3_40 x4_40 x5_40 x6_40 x7_40 x8_40 x9_40 x10_40 x12_40 v_40) post → va_P D vwCl (gW cI cC cF cO xa v_181) H → va_D A (gW cI cC cF cO xa v_181) → va_S A s.heap H locs → ∀ ls : Array Slot, lv_has ls 16 [(0, .ref (xa 0)), (1, .int x1), (2, .int x2_181), (3, .int x3_181), (4, .int x4_181), (5, .int x5_181), (6, .int x6_181), (7, .int x7_181), (8, .int x8_181), (9, .int x9_181), (10, .int x10_181), (11, .int x11_30), (12, .int x12_181), (13, .int x13_181), (14, .int x14_181)] → W p l e rm_L_isThread s m args below meth c H locs 0 0 Q (F0 m 181 ls []) := by
              intro x2_181 x3_181 x4_181 x5_181 x6_181 x7_181 x8_181 x9_181 x10_181 x12_181 x13_181 x14_181 v_181 H locs hwp hP hD hS ls hl
              unfold wv_L_isThread_j181 at hwp
              refine lv_iconst (v := 0) hx hb dL_isThread_181 (by decide) ?_
              refine lv_goto (tgt := 200) hx hb dL_isThread_182 (by decide) ?_
              have hl : lv_has ls 16 [(0, .ref (xa 0)), (1, .int x1), (2, .int x2_181), (3, .int x3_181), (4, .int x4_181), (5, .int x5_181), (6, .int x6_181), (7, .int x7_181), (8, .int x8_181), (9, .int x9_181), (10, .int x10_181), (11, .int x11_30), (12, .int x12_181), (13, .int x13_181), (14, .int x14_181)] := lv_sub hl [0, 1, 2, 3, 4, 5, 6, 7, 8, 9, 10, 11, 12, 13, 14] rfl
              exact hj200 x2_181 x3_181 x4_181 x5_181 x6_181 x7_181 x8_181 x9_181 x10_181 x12_181 x13_181 x14_181 (0 : Int32) v_181 _ _ hwp hP hD hS ls hl
            have hj169 : ∀ (x2_169 : Int32) (x3_169 : Int32) (x4_169 : Int32) (x5_169 : Int32) (x6_169 : Int32) (x7_169 : Int32) (x8_169 : Int32) (x9_169 : Int32) (x10_169 : Int32) (x12_169 : Int32) (x13_169 : Int32) (k0_169 : Int32) (v_169 : VT) (H : Heap) (locs : List Loc), wv_L_isThread_j169 x1 x2_169 x3_169 x4_169 x5_169 x6_169 x7_169 x8_169 x9_169 x10_169 x11_30 x12_169 x13_169 k0_169 v_169 (fun u0 u1 u2 u3 u4 u5 u6 u7 u8 u9 u10 => J30 u0 u1 u2 u3 u4 u5 u6 u7 u8 u9 u10 ∧ μ30 u0 u1 u2 u3 u4 u5 u6 u7 u8 u9 u10 < μ30 x2_30 x3_30 x4_30 x5_30 x6_30 x7_30 x8_30 x9_30 x10_30 x11_30 v_30) (fun u0 u1 u2 u3 u4 u5 u6 u7 u8 u9 u10 => J40 u0 u1 u2 u3 u4 u5 u6 u7 u8 u9 u10 ∧ μ40 u0 u1 u2 u3 u4 u5 u6 u7 u8 u9 u10 < μ40 x2_40 x3_40 x4_40 x5_40 x6_40 x7_40 x8_40 x9_40 x10_40 x12_40 v_40) post → va_P D vwCl (gW cI cC cF cO xa v_169) H → va_D A (gW cI cC cF cO xa v_169) → va_S A s.heap H locs → ∀ ls : Array Slot, lv_has ls 16 [(0, .ref (xa 0)), (1, .int x1), (2, .int x2_169), (3, .int x3_169), (4, .int x4_169), (5, .int x5_169), (6, .int x6_169), (7, .int x7_169), (8, .int x8_169), (9, .int x9_169), (10, .int x10_169), (11, .int x11_30), (12, .int x12_169), (13, .int x13_169)] → W p l e rm_L_isThread s m args below meth c H locs 0 0 Q (F0 m 169 ls [.int k0_169]) := by
              intro x2_169 x3_169 x4_169 x5_169 x6_169 x7_169 x8_169 x9_169 x10_169 x12_169 x13_169 k0_169 v_169 H locs hwp hP hD hS ls hl
              unfold wv_L_isThread_j169 at hwp
              refine lv_istore (lv' := [(14, .int k0_169), (0, .ref (xa 0)), (1, .int x1), (2, .int x2_169), (3, .int x3_169), (4, .int x4_169), (5, .int x5_169), (6, .int x6_169), (7, .int x7_169), (8, .int x8_169), (9, .int x9_169), (10, .int x10_169), (11, .int x11_30), (12, .int x12_169), (13, .int x13_169)]) hx hb dL_isThread_169 hl (by decide) rfl (fun ls hl => ?_)
              refine lv_iload hx hb dL_isThread_171 (lv_at hl 0 rfl) ?_
              refine lv_if_ne (tgt := 181) hx hb dL_isThread_173 (by decide) (fun hc => ?_) (fun hc => ?_)
              · have hwp := hwp.2 hc
                have hl : lv_has ls 16 [(0, .ref (xa 0)), (1, .int x1), (2, .int x2_169), (3, .int x3_169), (4, .int x4_169), (5, .int x5_169), (6, .int x6_169), (7, .int x7_169), (8, .int x8_169), (9, .int x9_169), (10, .int x10_169), (11, .int x11_30), (12, .int x12_169), (13, .int x13_169), (14, .int k0_169)] := lv_sub hl [1, 2, 3, 4, 5, 6, 7, 8, 9, 10, 11, 12, 13, 14, 0] rfl
                exact hj181 x2_169 x3_169 x4_169 x5_169 x6_169 x7_169 x8_169 x9_169 x10_169 x12_169 x13_169 k0_169 v_169 _ _ hwp hP hD hS ls hl
              · have hwp := hwp.1 hc
                refine lv_iload hx hb dL_isThread_176 (lv_at hl 10 rfl) ?_
                refine lv_if_ge (tgt := 185) hx hb dL_isThread_178 (by decide) (fun hc => ?_) (fun hc => ?_)
                · have hwp := hwp.1 hc
                  refine lv_aload_n hx hb dL_isThread_185 rfl (lv_at hl 1 rfl) ?_
                  refine lv_iload hx hb dL_isThread_186 (lv_at hl 14 rfl) ?_
                  refine lv_iconst (v := 1) hx hb dL_isThread_188 (by decide) ?_
                  refine gBacki (D := D) (tys := gT cI cC cF cO) (A := A) (wr := []) (w1 := gW cI cC cF cO xa) (va_runV (As := [.int x13_169, .int (1 : Int32)]) (rest := []) ⟨hx, hb, hml, hown, hts⟩ (d_X8_card l D cI cC cF cO xa v_169 _ (x13_169) ((1 : Int32)) _ hwp) (cwV 2 hts gL_isThread_X8_card rfl rfl rfl (by decide +kernel) ⟨Nat.le_of_ble_eq_true rfl, Nat.le_of_ble_eq_true rfl⟩) (gPreV (C := RX8) (T := TX8) (N := 9) (ci := 8) hK hX hT hP hD hS hA gI (gI_at cI cC cF cO xa v_169) gI_nd rfl (qb := 0) rfl) rfl rfl hl.1 rfl (lv_room (Nat.le_of_ble_eq_true rfl)) dL_isThread_189 ⟨Nat.le_of_ble_eq_true rfl, Nat.le_of_ble_eq_true rfl⟩) hP hD hS hA gI [] (gI_at cI cC cF cO xa v_169) rfl rfl (fun i h => absurd h List.not_mem_nil) (fun r_19 v_20 H locs hwp hP hD hS => ?_)
                  have hP : va_P D vwCl (gW cI cC cF cO xa v_20) H := hP
                  have hD : va_D A (gW cI cC cF cO xa v_20) := hD
                  refine lv_aload_n hx hb dL_isThread_192 rfl (lv_at hl 1 rfl) ?_
                  refine lv_iload hx hb dL_isThread_193 (lv_at hl 10 rfl) ?_
                  refine lv_iconst (v := 1) hx hb dL_isThread_195 (by decide) ?_
                  refine gBacki (D := D) (tys := gT cI cC cF cO) (A := A) (wr := []) (w1 := gW cI cC cF cO xa) (va_runV (As := [.int x9_169, .int (1 : Int32)]) (rest := [.int r_19]) ⟨hx, hb, hml, hown, hts⟩ (d_X8_card l D cI cC cF cO xa v_20 _ (x9_169) ((1 : Int32)) _ hwp) (cwV 2 hts gL_isThread_X8_card rfl rfl rfl (by decide +kernel) ⟨Nat.le_of_ble_eq_true rfl, Nat.le_of_ble_eq_true rfl⟩) (gPreV (C := RX8) (T := TX8) (N := 9) (ci := 8) hK hX hT hP hD hS hA gI (gI_at cI cC cF cO xa v_20) gI_nd rfl (qb := 0) rfl) rfl rfl hl.1 rfl (lv_room (Nat.le_of_ble_eq_true rfl)) dL_isThread_196 ⟨Nat.le_of_ble_eq_true rfl, Nat.le_of_ble_eq_true rfl⟩) hP hD hS hA gI [] (gI_at cI cC cF cO xa v_20) rfl rfl (fun i h => absurd h List.not_mem_nil) (fun r_21 v_22 H locs hwp hP hD hS => ?_)
                  have hP : va_P D vwCl (gW cI cC cF cO xa v_22) H := hP
                  have hD : va_D A (gW cI cC cF cO xa v_22) := hD
                  refine lv_isub hx hb dL_isThread_199 ?_
                  have hl : lv_has ls 16 [(0, .ref (xa 0)), (1, .int x1), (2, .int x2_169), (3, .int x3_169), (4, .int x4_169), (5, .int x5_169), (6, .int x6_169), (7, .int x7_169), (8, .int x8_169), (9, .int x9_169), (10, .int x10_169), (11, .int x11_30), (12, .int x12_169), (13, .int x13_169), (14, .int k0_169)] := lv_sub hl [1, 2, 3, 4, 5, 6, 7, 8, 9, 10, 11, 12, 13, 14, 0] rfl
                  exact hj200 x2_169 x3_169 x4_169 x5_169 x6_169 x7_169 x8_169 x9_169 x10_169 x12_169 x13_169 k0_169 (r_19 - r_21) v_22 _ _ hwp hP hD hS ls hl
                · have hwp := hwp.2 hc
                  have hl : lv_has ls 16 [(0, .ref (xa 0)), (1, .int x1), (2, .int x2_169), (3, .int x3_169), (4, .int x4_169), (5, .int x5_169), (6, .int x6_169), (7, .int x7_169), (8, .int x8_169), (9, .int x9_169), (10, .int x10_169), (11, .int x11_30), (12, .int x12_169), (13, .int x13_169), (14, .int k0_169)] := lv_sub hl [1, 2, 3, 4, 5, 6, 7, 8, 9, 10, 11, 12, 13, 14, 0] rfl
                  exact hj181 x2_169 x3_169 x4_169 x5_169 x6_169 x7_169 x8_169 x9_169 x10_169 x12_169 x13_169 k0_169 v_169 _ _ hwp hP hD hS ls hl
            have hj146 : ∀ (x2_146 : Int32) (x3_146 : Int32) (x4_146 : Int32) (x6_146 : Int32) (x7_146 : Int32) (x9_146 : Int32) (x10_146 : Int32) (x12_146 : Int32) (x13_146 : Int32) (k0_146 : Int32) (k1_146 : Int32) (v_146 : VT) (H : Heap) (locs : List Loc), wv_L_isThread_j146 x1 x2_146 x3_146 x4_146 x6_146 x7_146 x9_146 x10_146 x11_30 x12_146 x13_146 k0_146 k1_146 v_146 (fun u0 u1 u2 u3 u4 u5 u6 u7 u8 u9 u10 => J30 u0 u1 u2 u3 u4 u5 u6 u7 u8 u9 u10 ∧ μ30 u0 u1 u2 u3 u4 u5 u6 u7 u8 u9 u10 < μ30 x2_30 x3_30 x4_30 x5_30 x6_30 x7_30 x8_30 x9_30 x10_30 x11_30 v_30) (fun u0 u1 u2 u3 u4 u5 u6 u7 u8 u9 u10 => J40 u0 u1 u2 u3 u4 u5 u6 u7 u8 u9 u10 ∧ μ40 u0 u1 u2 u3 u4 u5 u6 u7 u8 u9 u10 < μ40 x2_40 x3_40 x4_40 x5_40 x6_40 x7_40 x8_40 x9_40 x10_40 x12_40 v_40) post → va_P D vwCl (gW cI cC cF cO xa v_146) H → va_D A (gW cI cC cF cO xa v_146) → va_S A s.heap H locs → ∀ ls : Array Slot, lv_has ls 16 [(0, .ref (xa 0)), (1, .int x1), (2, .int x2_146), (3, .int x3_146), (4, .int x4_146), (6, .int x6_146), (7, .int x7_146), (9, .int x9_146), (10, .int x10_146), (11, .int x11_30), (12, .int x12_146), (13, .int x13_146)] → W p l e rm_L_isThread s m args below meth c H locs 0 0 Q (F0 m 146 ls [.int k0_146, .int k1_146]) := by
              intro x2_146 x3_146 x4_146 x6_146 x7_146 x9_146 x10_146 x12_146 x13_146 k0_146 k1_146 v_146 H locs hwp hP hD hS ls hl
              unfold wv_L_isThread_j146 at hwp
              refine lv_iadd hx hb dL_isThread_146 ?_
              refine lv_istore (lv' := [(5, .int (k1_146 + k0_146)), (0, .ref (xa 0)), (1, .int x1), (2, .int x2_146), (3, .int x3_146), (4, .int x4_146), (6, .int x6_146), (7, .int x7_146), (9, .int x9_146), (10, .int x10_146), (11, .int x11_30), (12, .int x12_146), (13, .int x13_146)]) hx hb dL_isThread_147 hl (by decide) rfl (fun ls hl => ?_)
              refine lv_iload hx hb dL_isThread_149 (lv_at hl 12 rfl) ?_
              refine lv_istore (lv' := [(8, .int x13_146), (5, .int (k1_146 + k0_146)), (0, .ref (xa 0)), (1, .int x1), (2, .int x2_146), (3, .int x3_146), (4, .int x4_146), (6, .int x6_146), (7, .int x7_146), (9, .int x9_146), (10, .int x10_146), (11, .int x11_30), (12, .int x12_146), (13, .int x13_146)]) hx hb dL_isThread_151 hl (by decide) rfl (fun ls hl => ?_)
              refine lv_aload_n hx hb dL_isThread_153 rfl (lv_at hl 2 rfl) ?_
              refine lv_iload hx hb dL_isThread_154 (lv_at hl 13 rfl) ?_
              refine lv_iconst (v := 4) hx hb dL_isThread_156 (by decide) ?_
              refine gBacki (D := D) (tys := gT cI cC cF cO) (A := A) (wr := []) (w1 := gW cI cC cF cO xa) (va_runV (As := [.int x13_146, .int (4 : Int32)]) (rest := []) ⟨hx, hb, hml, hown, hts⟩ (d_X8_card l D cI cC cF cO xa v_146 _ (x13_146) ((4 : Int32)) _ hwp) (cwV 2 hts gL_isThread_X8_card rfl rfl rfl (by decide +kernel) ⟨Nat.le_of_ble_eq_true rfl, Nat.le_of_ble_eq_true rfl⟩) (gPreV (C := RX8) (T := TX8) (N := 9) (ci := 8) hK hX hT hP hD hS hA gI (gI_at cI cC cF cO xa v_146) gI_nd rfl (qb := 0) rfl) rfl rfl hl.1 rfl (lv_room (Nat.le_of_ble_eq_true rfl)) dL_isThread_157 ⟨Nat.le_of_ble_eq_true rfl, Nat.le_of_ble_eq_true rfl⟩) hP hD hS hA gI [] (gI_at cI cC cF cO xa v_146) rfl rfl (fun i h => absurd h List.not_mem_nil) (fun r_23 v_24 H locs hwp hP hD hS => ?_)
              have hP : va_P D vwCl (gW cI cC cF cO xa v_24) H := hP
              have hD : va_D A (gW cI cC cF cO xa v_24) := hD
              refine lv_iconst (v := 1) hx hb dL_isThread_160 (by decide) ?_
              refine lv_icmp_ne (tgt := 168) hx hb dL_isThread_161 (by decide) (fun hc => ?_) (fun hc => ?_)
              · have hwp := hwp.2 hc
                refine lv_iconst (v := 0) hx hb dL_isThread_168 (by decide) ?_
                have hl : lv_has ls 16 [(0, .ref (xa 0)), (1, .int x1), (2, .int x2_146), (3, .int x3_146), (4, .int x4_146), (5, .int (k1_146 + k0_146)), (6, .int x6_146), (7, .int x7_146), (8, .int x13_146), (9, .int x9_146), (10, .int x10_146), (11, .int x11_30), (12, .int x12_146), (13, .int x13_146)] := lv_sub hl [2, 3, 4, 5, 6, 1, 7, 8, 0, 9, 10, 11, 12, 13] rfl
                exact hj169 x2_146 x3_146 x4_146 (k1_146 + k0_146) x6_146 x7_146 x13_146 x9_146 x10_146 x12_146 x13_146 (0 : Int32) v_24 _ _ hwp hP hD hS ls hl
              · have hwp := hwp.1 hc
                refine lv_iconst (v := 1) hx hb dL_isThread_164 (by decide) ?_
                refine lv_goto (tgt := 169) hx hb dL_isThread_165 (by decide) ?_
                have hl : lv_has ls 16 [(0, .ref (xa 0)), (1, .int x1), (2, .int x2_146), (3, .int x3_146), (4, .int x4_146), (5, .int (k1_146 + k0_146)), (6, .int x6_146), (7, .int x7_146), (8, .int x13_146), (9, .int x9_146), (10, .int x10_146), (11, .int x11_30), (12, .int x12_146), (13, .int x13_146)] := lv_sub hl [2, 3, 4, 5, 6, 1, 7, 8, 0, 9, 10, 11, 12, 13] rfl
                exact hj169 x2_146 x3_146 x4_146 (k1_146 + k0_146) x6_146 x7_146 x13_146 x9_146 x10_146 x12_146 x13_146 (1 : Int32) v_24 _ _ hwp hP hD hS ls hl
            have hj145 : ∀ (x2_145 : Int32) (x3_145 : Int32) (x4_145 : Int32) (x6_145 : Int32) (x7_145 : Int32) (x9_145 : Int32) (x10_145 : Int32) (x12_145 : Int32) (x13_145 : Int32) (k0_145 : Int32) (v_145 : VT) (H : Heap) (locs : List Loc), wv_L_isThread_j145 x1 x2_145 x3_145 x4_145 x6_145 x7_145 x9_145 x10_145 x11_30 x12_145 x13_145 k0_145 v_145 (fun u0 u1 u2 u3 u4 u5 u6 u7 u8 u9 u10 => J30 u0 u1 u2 u3 u4 u5 u6 u7 u8 u9 u10 ∧ μ30 u0 u1 u2 u3 u4 u5 u6 u7 u8 u9 u10 < μ30 x2_30 x3_30 x4_30 x5_30 x6_30 x7_30 x8_30 x9_30 x10_30 x11_30 v_30) (fun u0 u1 u2 u3 u4 u5 u6 u7 u8 u9 u10 => J40 u0 u1 u2 u3 u4 u5 u6 u7 u8 u9 u10 ∧ μ40 u0 u1 u2 u3 u4 u5 u6 u7 u8 u9 u10 < μ40 x2_40 x3_40 x4_40 x5_40 x6_40 x7_40 x8_40 x9_40 x10_40 x12_40 v_40) post → va_P D vwCl (gW cI cC cF cO xa v_145) H → va_D A (gW cI cC cF cO xa v_145) → va_S A s.heap H locs → ∀ ls : Array Slot, lv_has ls 16 [(0, .ref (xa 0)), (1, .int x1), (2, .int x2_145), (3, .int x3_145), (4, .int x4_145), (6, .int x6_145), (7, .int x7_145), (9, .int x9_145), (10, .int x10_145), (11, .int x11_30), (12, .int x12_145), (13, .int x13_145)] → W p l e rm_L_isThread s m args below meth c H locs 0 0 Q (F0 m 145 ls [.int k0_145]) := by
              intro x2_145 x3_145 x4_145 x6_145 x7_145 x9_145 x10_145 x12_145 x13_145 k0_145 v_145 H locs hwp hP hD hS ls hl
              unfold wv_L_isThread_j145 at hwp
              refine lv_iconst (v := 0) hx hb dL_isThread_145 (by decide) ?_
              have hl : lv_has ls 16 [(0, .ref (xa 0)), (1, .int x1), (2, .int x2_145), (3, .int x3_145), (4, .int x4_145), (6, .int x6_145), (7, .int x7_145), (9, .int x9_145), (10, .int x10_145), (11, .int x11_30), (12, .int x12_145), (13, .int x13_145)] := lv_sub hl [0, 1, 2, 3, 4, 5, 6, 7, 8, 9, 10, 11] rfl
              exact hj146 x2_145 x3_145 x4_145 x6_145 x7_145 x9_145 x10_145 x12_145 x13_145 (0 : Int32) k0_145 v_145 _ _ hwp hP hD hS ls hl
            have hj111 : ∀ (x2_111 : Int32) (x3_111 : Int32) (x4_111 : Int32) (x5_111 : Int32) (x6_111 : Int32) (x7_111 : Int32) (x8_111 : Int32) (x9_111 : Int32) (x12_111 : Int32) (x13_111 : Int32) (k0_111 : Int32) (v_111 : VT) (H : Heap) (locs : List Loc), wv_L_isThread_j111 x1 x2_111 x3_111 x4_111 x5_111 x6_111 x7_111 x8_111 x9_111 x11_30 x12_111 x13_111 k0_111 v_111 (fun u0 u1 u2 u3 u4 u5 u6 u7 u8 u9 u10 => J30 u0 u1 u2 u3 u4 u5 u6 u7 u8 u9 u10 ∧ μ30 u0 u1 u2 u3 u4 u5 u6 u7 u8 u9 u10 < μ30 x2_30 x3_30 x4_30 x5_30 x6_30 x7_30 x8_30 x9_30 x10_30 x11_30 v_30) (fun u0 u1 u2 u3 u4 u5 u6 u7 u8 u9 u10 => J40 u0 u1 u2 u3 u4 u5 u6 u7 u8 u9 u10 ∧ μ40 u0 u1 u2 u3 u4 u5 u6 u7 u8 u9 u10 < μ40 x2_40 x3_40 x4_40 x5_40 x6_40 x7_40 x8_40 x9_40 x10_40 x12_40 v_40) post → va_P D vwCl (gW cI cC cF cO xa v_111) H → va_D A (gW cI cC cF cO xa v_111) → va_S A s.heap H locs → ∀ ls : Array Slot, lv_has ls 16 [(0, .ref (xa 0)), (1, .int x1), (2, .int x2_111), (3, .int x3_111), (4, .int x4_111), (5, .int x5_111), (6, .int x6_111), (7, .int x7_111), (8, .int x8_111), (9, .int x9_111), (11, .int x11_30), (12, .int x12_111), (13, .int x13_111)] → W p l e rm_L_isThread s m args below meth c H locs 0 0 Q (F0 m 111 ls [.int k0_111]) := by
              intro x2_111 x3_111 x4_111 x5_111 x6_111 x7_111 x8_111 x9_111 x12_111 x13_111 k0_111 v_111 H locs hwp hP hD hS ls hl
              unfold wv_L_isThread_j111 at hwp
              refine lv_istore (lv' := [(10, .int k0_111), (0, .ref (xa 0)), (1, .int x1), (2, .int x2_111), (3, .int x3_111), (4, .int x4_111), (5, .int x5_111), (6, .int x6_111), (7, .int x7_111), (8, .int x8_111), (9, .int x9_111), (11, .int x11_30), (12, .int x12_111), (13, .int x13_111)]) hx hb dL_isThread_111 hl (by decide) rfl (fun ls hl => ?_)
              refine lv_iload hx hb dL_isThread_113 (lv_at hl 6 rfl) ?_
              refine lv_iload hx hb dL_isThread_115 (lv_at hl 9 rfl) ?_
              refine lv_if_lt (tgt := 145) hx hb dL_isThread_117 (by decide) (fun hc => ?_) (fun hc => ?_)
              · have hwp := hwp.1 hc
                have hl : lv_has ls 16 [(0, .ref (xa 0)), (1, .int x1), (2, .int x2_111), (3, .int x3_111), (4, .int x4_111), (6, .int x6_111), (7, .int x7_111), (9, .int x9_111), (10, .int k0_111), (11, .int x11_30), (12, .int x12_111), (13, .int x13_111)] := lv_sub hl [1, 2, 3, 4, 5, 7, 8, 10, 0, 11, 12, 13] rfl
                exact hj145 x2_111 x3_111 x4_111 x6_111 x7_111 x9_111 k0_111 x12_111 x13_111 x5_111 v_111 _ _ hwp hP hD hS ls hl
              · have hwp := hwp.2 hc
                refine lv_iload hx hb dL_isThread_120 (lv_at hl 11 rfl) ?_
                refine lv_aload_n hx hb dL_isThread_122 rfl (lv_at hl 1 rfl) ?_
                refine lv_iload hx hb dL_isThread_123 (lv_at hl 9 rfl) ?_
                refine lv_iconst (v := 5) hx hb dL_isThread_125 (by decide) ?_
                refine gBacki (D := D) (tys := gT cI cC cF cO) (A := A) (wr := []) (w1 := gW cI cC cF cO xa) (va_runV (As := [.int x8_111, .int (5 : Int32)]) (rest := [.int x11_30, .int x5_111]) ⟨hx, hb, hml, hown, hts⟩ (d_X8_card l D cI cC cF cO xa v_111 _ (x8_111) ((5 : Int32)) _ hwp) (cwV 2 hts gL_isThread_X8_card rfl rfl rfl (by decide +kernel) ⟨Nat.le_of_ble_eq_true rfl, Nat.le_of_ble_eq_true rfl⟩) (gPreV (C := RX8) (T := TX8) (N := 9) (ci := 8) hK hX hT hP hD hS hA gI (gI_at cI cC cF cO xa v_111) gI_nd rfl (qb := 0) rfl) rfl rfl hl.1 rfl (lv_room (Nat.le_of_ble_eq_true rfl)) dL_isThread_126 ⟨Nat.le_of_ble_eq_true rfl, Nat.le_of_ble_eq_true rfl⟩) hP hD hS hA gI [] (gI_at cI cC cF cO xa v_111) rfl rfl (fun i h => absurd h List.not_mem_nil) (fun r_25 v_26 H locs hwp hP hD hS => ?_)
                have hP : va_P D vwCl (gW cI cC cF cO xa v_26) H := hP
                have hD : va_D A (gW cI cC cF cO xa v_26) := hD
                refine lv_isub hx hb dL_isThread_129 ?_
                refine lv_iconst (v := 1) hx hb dL_isThread_130 (by decide) ?_
                refine lv_isub hx hb dL_isThread_131 ?_
                refine lv_aload_n hx hb dL_isThread_132 rfl (lv_at hl 1 rfl) ?_
                refine lv_bipush (v := 10) hx hb dL_isThread_133 (by decide) ?_
                refine gBacki (D := D) (tys := gT cI cC cF cO) (A := A) (wr := []) (w1 := gW cI cC cF cO xa) (va_runV (As := [.int (10 : Int32)]) (rest := [.int ((x11_30 - r_25) - (1 : Int32)), .int x5_111]) ⟨hx, hb, hml, hown, hts⟩ (d_X8_count l D cI cC cF cO xa v_26 _ ((10 : Int32)) _ hwp) (cwV 1 hts gL_isThread_X8_count rfl rfl rfl (by decide +kernel) ⟨Nat.le_of_ble_eq_true rfl, Nat.le_of_ble_eq_true rfl⟩) (gPreV (C := RX8) (T := TX8) (N := 9) (ci := 8) hK hX hT hP hD hS hA gI (gI_at cI cC cF cO xa v_26) gI_nd rfl (qb := 0) rfl) rfl rfl hl.1 rfl (lv_room (Nat.le_of_ble_eq_true rfl)) dL_isThread_135 ⟨Nat.le_of_ble_eq_true rfl, Nat.le_of_ble_eq_true rfl⟩) hP hD hS hA gI [] (gI_at cI cC cF cO xa v_26) rfl rfl (fun i h => absurd h List.not_mem_nil) (fun r_27 v_28 H locs hwp hP hD hS => ?_)
                have hP : va_P D vwCl (gW cI cC cF cO xa v_28) H := hP
                have hD : va_D A (gW cI cC cF cO xa v_28) := hD
                refine lv_icmp_le (tgt := 145) hx hb dL_isThread_138 (by decide) (fun hc => ?_) (fun hc => ?_)
                · have hwp := hwp.1 hc
                  have hl : lv_has ls 16 [(0, .ref (xa 0)), (1, .int x1), (2, .int x2_111), (3, .int x3_111), (4, .int x4_111), (6, .int x6_111), (7, .int x7_111), (9, .int x9_111), (10, .int k0_111), (11, .int x11_30), (12, .int x12_111), (13, .int x13_111)] := lv_sub hl [1, 2, 3, 4, 5, 7, 8, 10, 0, 11, 12, 13] rfl
                  exact hj145 x2_111 x3_111 x4_111 x6_111 x7_111 x9_111 k0_111 x12_111 x13_111 x5_111 v_28 _ _ hwp hP hD hS ls hl
                · have hwp := hwp.2 hc
                  refine lv_iconst (v := 1) hx hb dL_isThread_141 (by decide) ?_
                  refine lv_goto (tgt := 146) hx hb dL_isThread_142 (by decide) ?_
                  have hl : lv_has ls 16 [(0, .ref (xa 0)), (1, .int x1), (2, .int x2_111), (3, .int x3_111), (4, .int x4_111), (6, .int x6_111), (7, .int x7_111), (9, .int x9_111), (10, .int k0_111), (11, .int x11_30), (12, .int x12_111), (13, .int x13_111)] := lv_sub hl [1, 2, 3, 4, 5, 7, 8, 10, 0, 11, 12, 13] rfl
                  exact hj146 x2_111 x3_111 x4_111 x6_111 x7_111 x9_111 k0_111 x12_111 x13_111 (1 : Int32) x5_111 v_28 _ _ hwp hP hD hS ls hl
            refine lv_iload hx hb dL_isThread_40 (lv_at hl 12 rfl) ?_
            refine lv_aload_n hx hb dL_isThread_42 rfl (lv_at hl 0 rfl) ?_
            refine lv_iload hx hb dL_isThread_43 (lv_at hl 11 rfl) ?_
            refine lv_iconst (v := 0) hx hb dL_isThread_45 (by decide) ?_
            refine gBacki (D := D) (tys := gT cI cC cF cO) (A := A) (wr := []) (w1 := gW cI cC cF cO xa) (va_runV (As := [.int x11_30, .int (0 : Int32)]) (rest := [.int x12_40]) ⟨hx, hb, hml, hown, hts⟩ (d_X8_scene l D cI cC cF cO xa v_40 _ (x11_30) ((0 : Int32)) _ hwp) (cwV 2 hts gL_isThread_X8_scene rfl rfl rfl (by decide +kernel) ⟨Nat.le_of_ble_eq_true rfl, Nat.le_of_ble_eq_true rfl⟩) (gPreV (C := RX8) (T := TX8) (N := 9) (ci := 8) hK hX hT hP hD hS hA gI (gI_at cI cC cF cO xa v_40) gI_nd rfl (qb := 0) rfl) rfl rfl hl.1 rfl (lv_room (Nat.le_of_ble_eq_true rfl)) dL_isThread_46 ⟨Nat.le_of_ble_eq_true rfl, Nat.le_of_ble_eq_true rfl⟩) hP hD hS hA gI [] (gI_at cI cC cF cO xa v_40) rfl rfl (fun i h => absurd h List.not_mem_nil) (fun r_29 v_30 H locs hwp hP hD hS => ?_)
            have hP : va_P D vwCl (gW cI cC cF cO xa v_30) H := hP
            have hD : va_D A (gW cI cC cF cO xa v_30) := hD
            refine lv_icmp_ge (tgt := 304) hx hb dL_isThread_49 (by decide) (fun hc => ?_) (fun hc => ?_)
            · have hwp := hwp.1 hc
              refine lv_iinc (v := (x11_30 + (1 : Int32))) (lv' := [(11, .int (x11_30 + (1 : Int32))), (0, .ref (xa 0)), (1, .int x1), (2, .int x2_40), (3, .int x3_40), (4, .int x4_40), (5, .int x5_40), (6, .int x6_40), (7, .int x7_40), (8, .int x8_40), (9, .int x9_40), (10, .int x10_40), (12, .int x12_40)]) hx hb dL_isThread_304 hl (k := 11) rfl rfl (by decide) rfl (fun ls hl => ?_)
              refine lv_goto (tgt := 30) hx hb dL_isThread_307 (by decide) ?_
              have hl : lv_has ls 16 [(0, .ref (xa 0)), (1, .int x1), (2, .int x2_40), (3, .int x3_40), (4, .int x4_40), (5, .int x5_40), (6, .int x6_40), (7, .int x7_40), (8, .int x8_40), (9, .int x9_40), (10, .int x10_40), (11, .int (x11_30 + (1 : Int32)))] := lv_sub hl [1, 2, 3, 4, 5, 6, 7, 8, 9, 10, 11, 0] rfl
              exact ih30 x2_40 x3_40 x4_40 x5_40 x6_40 x7_40 x8_40 x9_40 x10_40 (x11_30 + (1 : Int32)) v_30 (Nat.lt_of_lt_of_le hwp.2 (Nat.le_of_lt_succ hμ30)) hwp.1 _ _ hP hD hS ls hl
            · have hwp := hwp.2 hc
              refine lv_iload hx hb dL_isThread_52 (lv_at hl 10 rfl) ?_
              refine lv_if_eq (tgt := 304) hx hb dL_isThread_54 (by decide) (fun hc => ?_) (fun hc => ?_)
              · have hwp := hwp.1 hc
                refine lv_iinc (v := (x11_30 + (1 : Int32))) (lv' := [(11, .int (x11_30 + (1 : Int32))), (0, .ref (xa 0)), (1, .int x1), (2, .int x2_40), (3, .int x3_40), (4, .int x4_40), (5, .int x5_40), (6, .int x6_40), (7, .int x7_40), (8, .int x8_40), (9, .int x9_40), (10, .int x10_40), (12, .int x12_40)]) hx hb dL_isThread_304 hl (k := 11) rfl rfl (by decide) rfl (fun ls hl => ?_)
                refine lv_goto (tgt := 30) hx hb dL_isThread_307 (by decide) ?_
                have hl : lv_has ls 16 [(0, .ref (xa 0)), (1, .int x1), (2, .int x2_40), (3, .int x3_40), (4, .int x4_40), (5, .int x5_40), (6, .int x6_40), (7, .int x7_40), (8, .int x8_40), (9, .int x9_40), (10, .int x10_40), (11, .int (x11_30 + (1 : Int32)))] := lv_sub hl [1, 2, 3, 4, 5, 6, 7, 8, 9, 10, 11, 0] rfl
                exact ih30 x2_40 x3_40 x4_40 x5_40 x6_40 x7_40 x8_40 x9_40 x10_40 (x11_30 + (1 : Int32)) v_30 (Nat.lt_of_lt_of_le hwp.2 (Nat.le_of_lt_succ hμ30)) hwp.1 _ _ hP hD hS ls hl
              · have hwp := hwp.2 hc
                refine lv_aload_n hx hb dL_isThread_57 rfl (lv_at hl 0 rfl) ?_
                refine lv_iload hx hb dL_isThread_58 (lv_at hl 11 rfl) ?_
                refine lv_iload hx hb dL_isThread_60 (lv_at hl 12 rfl) ?_
                refine gBacki (D := D) (tys := gT cI cC cF cO) (A := A) (wr := []) (w1 := gW cI cC cF cO xa) (va_runV (As := [.int x11_30, .int x12_40]) (rest := []) ⟨hx, hb, hml, hown, hts⟩ (d_X8_at l D cI cC cF cO xa v_30 _ (x11_30) (x12_40) _ hwp) (cwV 2 hts gL_isThread_X8_at rfl rfl rfl (by decide +kernel) ⟨Nat.le_of_ble_eq_true rfl, Nat.le_of_ble_eq_true rfl⟩) (gPreV (C := RX8) (T := TX8) (N := 9) (ci := 8) hK hX hT hP hD hS hA gI (gI_at cI cC cF cO xa v_30) gI_nd rfl (qb := 0) rfl) rfl rfl hl.1 rfl (lv_room (Nat.le_of_ble_eq_true rfl)) dL_isThread_62 ⟨Nat.le_of_ble_eq_true rfl, Nat.le_of_ble_eq_true rfl⟩) hP hD hS hA gI [] (gI_at cI cC cF cO xa v_30) rfl rfl (fun i h => absurd h List.not_mem_nil) (fun r_31 v_32 H locs hwp hP hD hS => ?_)
                have hP : va_P D vwCl (gW cI cC cF cO xa v_32) H := hP
                have hD : va_D A (gW cI cC cF cO xa v_32) := hD
                refine lv_istore (lv' := [(13, .int r_31), (0, .ref (xa 0)), (1, .int x1), (2, .int x2_40), (3, .int x3_40), (4, .int x4_40), (5, .int x5_40), (6, .int x6_40), (7, .int x7_40), (8, .int x8_40), (9, .int x9_40), (10, .int x10_40), (11, .int x11_30), (12, .int x12_40)]) hx hb dL_isThread_65 hl (by decide) rfl (fun ls hl => ?_)
                refine lv_aload_n hx hb dL_isThread_67 rfl (lv_at hl 1 rfl) ?_
                refine lv_iload hx hb dL_isThread_68 (lv_at hl 0 rfl) ?_
                refine lv_iconst (v := 0) hx hb dL_isThread_70 (by decide) ?_
                refine gBacki (D := D) (tys := gT cI cC cF cO) (A := A) (wr := []) (w1 := gW cI cC cF cO xa) (va_runV (As := [.int r_31, .int (0 : Int32)]) (rest := []) ⟨hx, hb, hml, hown, hts⟩ (d_X8_card l D cI cC cF cO xa v_32 _ (r_31) ((0 : Int32)) _ hwp) (cwV 2 hts gL_isThread_X8_card rfl rfl rfl (by decide +kernel) ⟨Nat.le_of_ble_eq_true rfl, Nat.le_of_ble_eq_true rfl⟩) (gPreV (C := RX8) (T := TX8) (N := 9) (ci := 8) hK hX hT hP hD hS hA gI (gI_at cI cC cF cO xa v_32) gI_nd rfl (qb := 0) rfl) rfl rfl hl.1 rfl (lv_room (Nat.le_of_ble_eq_true rfl)) dL_isThread_71 ⟨Nat.le_of_ble_eq_true rfl, Nat.le_of_ble_eq_true rfl⟩) hP hD hS hA gI [] (gI_at cI cC cF cO xa v_32) rfl rfl (fun i h => absurd h List.not_mem_nil) (fun r_33 v_34 H locs hwp hP hD hS => ?_)
                have hP : va_P D vwCl (gW cI cC cF cO xa v_34) H := hP
                have hD : va_D A (gW cI cC cF cO xa v_34) := hD
                refine lv_iload_n hx hb dL_isThread_74 rfl (lv_at hl 2 rfl) ?_
                refine lv_icmp_ne (tgt := 298) hx hb dL_isThread_75 (by decide) (fun hc => ?_) (fun hc => ?_)
                · have hwp := hwp.2 hc
                  refine lv_iinc (v := (x12_40 + (1 : Int32))) (lv' := [(12, .int (x12_40 + (1 : Int32))), (13, .int r_31), (0, .ref (xa 0)), (1, .int x1), (2, .int x2_40), (3, .int x3_40), (4, .int x4_40), (5, .int x5_40), (6, .int x6_40), (7, .int x7_40), (8, .int x8_40), (9, .int x9_40), (10, .int x10_40), (11, .int x11_30)]) hx hb dL_isThread_298 hl (k := 13) rfl rfl (by decide) rfl (fun ls hl => ?_)
                  refine lv_goto (tgt := 40) hx hb dL_isThread_301 (by decide) ?_
                  have hl : lv_has ls 16 [(0, .ref (xa 0)), (1, .int x1), (2, .int x2_40), (3, .int x3_40), (4, .int x4_40), (5, .int x5_40), (6, .int x6_40), (7, .int x7_40), (8, .int x8_40), (9, .int x9_40), (10, .int x10_40), (11, .int x11_30), (12, .int (x12_40 + (1 : Int32)))] := lv_sub hl [2, 3, 4, 5, 6, 7, 8, 9, 10, 11, 12, 13, 0] rfl
                  exact ih40 x2_40 x3_40 x4_40 x5_40 x6_40 x7_40 x8_40 x9_40 x10_40 (x12_40 + (1 : Int32)) v_34 (Nat.lt_of_lt_of_le hwp.2 (Nat.le_of_lt_succ hμ40)) hwp.1 _ _ hP hD hS ls hl
                · have hwp := hwp.1 hc
                  refine lv_iinc (v := (x2_40 + (1 : Int32))) (lv' := [(2, .int (x2_40 + (1 : Int32))), (13, .int r_31), (0, .ref (xa 0)), (1, .int x1), (3, .int x3_40), (4, .int x4_40), (5, .int x5_40), (6, .int x6_40), (7, .int x7_40), (8, .int x8_40), (9, .int x9_40), (10, .int x10_40), (11, .int x11_30), (12, .int x12_40)]) hx hb dL_isThread_78 hl (k := 3) rfl rfl (by decide) rfl (fun ls hl => ?_)
                  refine lv_iload hx hb dL_isThread_81 (lv_at hl 8 rfl) ?_
                  refine lv_aload_n hx hb dL_isThread_83 rfl (lv_at hl 2 rfl) ?_
                  refine lv_iload hx hb dL_isThread_84 (lv_at hl 1 rfl) ?_
                  refine lv_iconst (v := 2) hx hb dL_isThread_86 (by decide) ?_
                  refine gBacki (D := D) (tys := gT cI cC cF cO) (A := A) (wr := []) (w1 := gW cI cC cF cO xa) (va_runV (As := [.int r_31, .int (2 : Int32)]) (rest := [.int x7_40]) ⟨hx, hb, hml, hown, hts⟩ (d_X8_card l D cI cC cF cO xa v_34 _ (r_31) ((2 : Int32)) _ hwp) (cwV 2 hts gL_isThread_X8_card rfl rfl rfl (by decide +kernel) ⟨Nat.le_of_ble_eq_true rfl, Nat.le_of_ble_eq_true rfl⟩) (gPreV (C := RX8) (T := TX8) (N := 9) (ci := 8) hK hX hT hP hD hS hA gI (gI_at cI cC cF cO xa v_34) gI_nd rfl (qb := 0) rfl) rfl rfl hl.1 rfl (lv_room (Nat.le_of_ble_eq_true rfl)) dL_isThread_87 ⟨Nat.le_of_ble_eq_true rfl, Nat.le_of_ble_eq_true rfl⟩) hP hD hS hA gI [] (gI_at cI cC cF cO xa v_34) rfl rfl (fun i h => absurd h List.not_mem_nil) (fun r_35 v_36 H locs hwp hP hD hS => ?_)
                  have hP : va_P D vwCl (gW cI cC cF cO xa v_36) H := hP
                  have hD : va_D A (gW cI cC cF cO xa v_36) := hD
                  refine lv_iadd hx hb dL_isThread_90 ?_
                  refine lv_istore (lv' := [(7, .int (x7_40 + r_35)), (2, .int (x2_40 + (1 : Int32))), (13, .int r_31), (0, .ref (xa 0)), (1, .int x1), (3, .int x3_40), (4, .int x4_40), (5, .int x5_40), (6, .int x6_40), (8, .int x8_40), (9, .int x9_40), (10, .int x10_40), (11, .int x11_30), (12, .int x12_40)]) hx hb dL_isThread_91 hl (by decide) rfl (fun ls hl => ?_)
                  refine lv_aload_n hx hb dL_isThread_93 rfl (lv_at hl 3 rfl) ?_
                  refine lv_iload hx hb dL_isThread_94 (lv_at hl 2 rfl) ?_
                  refine lv_bipush (v := 9) hx hb dL_isThread_96 (by decide) ?_
                  refine gBacki (D := D) (tys := gT cI cC cF cO) (A := A) (wr := []) (w1 := gW cI cC cF cO xa) (va_runV (As := [.int r_31, .int (9 : Int32)]) (rest := []) ⟨hx, hb, hml, hown, hts⟩ (d_X8_card l D cI cC cF cO xa v_36 _ (r_31) ((9 : Int32)) _ hwp) (cwV 2 hts gL_isThread_X8_card rfl rfl rfl (by decide +kernel) ⟨Nat.le_of_ble_eq_true rfl, Nat.le_of_ble_eq_true rfl⟩) (gPreV (C := RX8) (T := TX8) (N := 9) (ci := 8) hK hX hT hP hD hS hA gI (gI_at cI cC cF cO xa v_36) gI_nd rfl (qb := 0) rfl) rfl rfl hl.1 rfl (lv_room (Nat.le_of_ble_eq_true rfl)) dL_isThread_98 ⟨Nat.le_of_ble_eq_true rfl, Nat.le_of_ble_eq_true rfl⟩) hP hD hS hA gI [] (gI_at cI cC cF cO xa v_36) rfl rfl (fun i h => absurd h List.not_mem_nil) (fun r_37 v_38 H locs hwp hP hD hS => ?_)
                  have hP : va_P D vwCl (gW cI cC cF cO xa v_38) H := hP
                  have hD : va_D A (gW cI cC cF cO xa v_38) := hD
                  refine lv_iload hx hb dL_isThread_101 (lv_at hl 9 rfl) ?_
                  refine lv_icmp_ne (tgt := 110) hx hb dL_isThread_103 (by decide) (fun hc => ?_) (fun hc => ?_)
                  · have hwp := hwp.2 hc
                    refine lv_iconst (v := 0) hx hb dL_isThread_110 (by decide) ?_
                    have hl : lv_has ls 16 [(0, .ref (xa 0)), (1, .int x1), (2, .int (x2_40 + (1 : Int32))), (3, .int x3_40), (4, .int x4_40), (5, .int x5_40), (6, .int x6_40), (7, .int (x7_40 + r_35)), (8, .int x8_40), (9, .int x9_40), (11, .int x11_30), (12, .int x12_40), (13, .int r_31)] := lv_sub hl [3, 4, 1, 5, 6, 7, 8, 0, 9, 10, 12, 13, 2] rfl
                    exact hj111 (x2_40 + (1 : Int32)) x3_40 x4_40 x5_40 x6_40 (x7_40 + r_35) x8_40 x9_40 x12_40 r_31 (0 : Int32) v_38 _ _ hwp hP hD hS ls hl
                  · have hwp := hwp.1 hc
                    refine lv_iconst (v := 1) hx hb dL_isThread_106 (by decide) ?_
                    refine lv_goto (tgt := 111) hx hb dL_isThread_107 (by decide) ?_
                    have hl : lv_has ls 16 [(0, .ref (xa 0)), (1, .int x1), (2, .int (x2_40 + (1 : Int32))), (3, .int x3_40), (4, .int x4_40), (5, .int x5_40), (6, .int x6_40), (7, .int (x7_40 + r_35)), (8, .int x8_40), (9, .int x9_40), (11, .int x11_30), (12, .int x12_40), (13, .int r_31)] := lv_sub hl [3, 4, 1, 5, 6, 7, 8, 0, 9, 10, 12, 13, 2] rfl
                    exact hj111 (x2_40 + (1 : Int32)) x3_40 x4_40 x5_40 x6_40 (x7_40 + r_35) x8_40 x9_40 x12_40 r_31 (1 : Int32) v_38 _ _ hwp hP hD hS ls hl
        exact hL40 _ x2_30 x3_30 x4_30 x5_30 x6_30 x7_30 x8_30 x9_30 x10_30 (0 : Int32) v_30 (Nat.lt_succ_self _) hJ _ _ hP hD hS ls hl
  exact hL30 _ (0 : Int32) (0 : Int32) (0 : Int32) (0 : Int32) (0 : Int32) (0 : Int32) (-5 : Int32) (-5 : Int32) (1 : Int32) (0 : Int32) v (Nat.lt_succ_self _) hJ _ _ hP hD hS ls hl
