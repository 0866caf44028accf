/-! the law from its entry, out of what its body does (by program) -/
def gInitV (f0 : Nat → Int32) (f1 : Nat → Int32) (f2 : Nat → Int32) (f3 : Nat → Int32) (f4 : Nat → Int32) (f5 : Nat → Int32) (f6 : Nat → Int32) : VT := ((0 : Int32), (0 : Int32), (fun _ => 0), f0, (upd (upd (upd (fun _ => 0) ((0 : Int32)).toNatClampNeg (3 : Int32)) ((1 : Int32)).toNatClampNeg (100 : Int32)) ((2 : Int32)).toNatClampNeg (100 : Int32)), (0 : Int32), (fun _ => 0), f1, (upd (upd (upd (fun _ => 0) ((0 : Int32)).toNatClampNeg (3 : Int32)) ((1 : Int32)).toNatClampNeg (100 : Int32)) ((2 : Int32)).toNatClampNeg (100 : Int32)), (0 : Int32), (0 : Int32), (0 : Int32), (fun _ => 0), f2, (upd (upd (upd (fun _ => 0) ((0 : Int32)).toNatClampNeg (3 : Int32)) ((1 : Int32)).toNatClampNeg (100 : Int32)) ((2 : Int32)).toNatClampNeg (100 : Int32)), (0 : Int32), (fun _ => 0), f3, (upd (upd (upd (fun _ => 0) ((0 : Int32)).toNatClampNeg (3 : Int32)) ((1 : Int32)).toNatClampNeg (100 : Int32)) ((2 : Int32)).toNatClampNeg (100 : Int32)), (0 : Int32), (fun _ => 0), f4, (upd (upd (upd (fun _ => 0) ((0 : Int32)).toNatClampNeg (3 : Int32)) ((1 : Int32)).toNatClampNeg (100 : Int32)) ((2 : Int32)).toNatClampNeg (100 : Int32)), (0 : Int32), (fun _ => 0), f5, (upd (upd (upd (fun _ => 0) ((0 : Int32)).toNatClampNeg (3 : Int32)) ((1 : Int32)).toNatClampNeg (100 : Int32)) ((2 : Int32)).toNatClampNeg (100 : Int32)), (0 : Int32), (0 : Int32), (0 : Int32), (fun _ => 0), (0 : Int32), (fun _ => 0), f6, (0 : Int32), (0 : Int32), (0 : Int32), (0 : Int32), (fun _ => 0), (fun _ => 0), (fun _ => 0), (fun _ => 0), (fun _ => 0), (fun _ => 0), (fun _ => 0), (0 : Int32), (fun _ => 0), (fun _ => 0), (fun _ => 0), (fun _ => 0), (fun _ => 0), (fun _ => 0), (fun _ => 0), (fun _ => 0))
def gPure : Prop := ∀ (F : Int32 → Int32), (∀ k, (0 : Int32) ≤ F k) → ∀ (f0 : Nat → Int32) (f1 : Nat → Int32) (f2 : Nat → Int32) (f3 : Nat → Int32) (f4 : Nat → Int32) (f5 : Nat → Int32) (f6 : Nat → Int32), gW96 f0 → gW96 f1 → gW96 f2 → gW96 f3 → gW96 f4 → gW96 f5 → gW96 f6 → wv_L_law F (gInitV f0 f1 f2 f3 f4 f5 f6) (fun r _ => r = 1)
theorem inlX8 : ∀ w ∈ wsX80, w ∈ wsL_law := fun _ h => List.mem_append_left _ (List.mem_append_left _ (List.mem_append_left _ (List.mem_append_left _ (List.mem_append_left _ (List.mem_append_left _ (List.mem_append_left _ (List.mem_append_left _ (List.mem_append_left _ (List.mem_append_right _ h)))))))))
set_option maxHeartbeats 40000000 in
set_option maxRecDepth 100000 in
theorem law_body {p : Program} {e : Env} {s : State} {m : MethodId} {below : List Frame} {meth : Method} {c : Code} (l : Launch) {b L : Nat} {xs : Nat → Int32} (hL : L ≤ 260) (C0 : lw_At p s m meth c b L xs) (D : va_G) (cI cC cF cO : ClassId) (A : Nat → Prop) (hAf : ∀ q, A q → s.heap.size ≤ q) (hbA : ¬ A b) (hA : ∀ q, s.heap.size ≤ q → A q) (hK : va_K D vwCl (gT cI cC cF cO) s) (hX : gX s) (hT : gST A s s.heap) (xa : Nat → Nat) (v : VT) (hwp : wv_L_law (gcell L xs) v (fun r _ => r = 1)) (H : Heap) (locs : List Loc) (hP : va_P D vwCl (gW cI cC cF cO xa v) H) (hD : va_D A (gW cI cC cF cO xa v)) (hS : va_S A s.heap H locs) (ls : Array Slot) (hl : lv_has ls 6 [(0, .ref b), (1, .ref (xa 0))]) : W p l e room_1 s m #[Value.ref b] below meth c H locs 600000 7302250 (lw_Z below #[Value.ref b] s) (F0 m 8 ls []) := by
  have C1 := C0
  obtain ⟨hx, hb, hr, hml, hown, hts0, hXs, hbl, hlocks, hgv⟩ := C0
  have hts : ∀ w ∈ wsL_law, w.before #[Value.ref b] s = true := fun w h => hts0 w (wsL_law_in w h)
  unfold wv_L_law at hwp
  have hj277 : ∀ (k0_277 : Int32) (v_277 : VT) (H : Heap) (locs : List Loc), wv_L_law_j277 (gcell L xs) k0_277 v_277  (fun r _ => r = 1) → va_P D vwCl (gW cI cC cF cO xa v_277) H → va_D A (gW cI cC cF cO xa v_277) → va_S A s.heap H locs → ∀ ls : Array Slot, lv_has ls 6 [(1, .ref (xa 0))] → W p l e room_1 s m #[Value.ref b] below meth c H locs 600000 7302250 (lw_Z below #[Value.ref b] s) (F0 m 277 ls [.int k0_277]) := by
    intro k0_277 v_277 H locs hwp hP hD hS ls hl
    unfold wv_L_law_j277 at hwp
    refine lv_istore_n (lv' := [(2, .int k0_277), (1, .ref (xa 0))]) hx hb dL_law_277 rfl hl (by decide) rfl (fun ls hl => ?_)
    refine lv_iload_n hx hb dL_law_278 rfl (lv_at hl 0 rfl) ?_
    refine lv_if_eq (tgt := 293) hx hb dL_law_279 (by decide) (fun hc => ?_) (fun hc => ?_)
    · have hwp := hwp.1 hc
      refine lv_iconst (v := 0) hx hb dL_law_293 (by decide) ?_
      exact absurd (show (0 : Int32) = 1 from hwp) (by decide)
    · have hwp := hwp.2 hc
      refine lv_aload_n hx hb dL_law_282 rfl (lv_at hl 1 rfl) ?_
      refine gBacki (D := D) (tys := gT cI cC cF cO) (A := A) (wr := []) (w1 := gW cI cC cF cO xa) (va_runS (As := [.ref (xa 0)]) (rest := []) ⟨hx, hb, hml, hown, hts⟩ (c_L_isAll l D cI cC cF cO xa v_277 _  _ hwp) (va_cwS 1 hts gL_law_L_isAll rfl rfl rfl (by decide +kernel) ⟨Nat.le_of_ble_eq_true rfl, Nat.le_of_ble_eq_true rfl⟩) (gPreS hK hX hT hP hD hS hA gI (gI_at cI cC cF cO xa v_277) gI_nd) rfl rfl hl.1 rfl (lv_room (Nat.le_of_ble_eq_true rfl)) dL_law_283 ⟨Nat.le_of_ble_eq_true rfl, Nat.le_of_ble_eq_true rfl⟩) hP hD hS hA gI [] (gI_at cI cC cF cO xa v_277) rfl rfl (fun i h => absurd h List.not_mem_nil) (fun r_1 v_2 H locs hwp hP hD hS => ?_)
      have hP : va_P D vwCl (gW cI cC cF cO xa v_2) H := hP
      have hD : va_D A (gW cI cC cF cO xa v_2) := hD
      refine lv_if_eq (tgt := 293) hx hb dL_law_286 (by decide) (fun hc => ?_) (fun hc => ?_)
      · have hwp := hwp.1 hc
        refine lv_iconst (v := 0) hx hb dL_law_293 (by decide) ?_
        exact absurd (show (0 : Int32) = 1 from hwp) (by decide)
      · have hwp := hwp.2 hc
        refine lv_iconst (v := 1) hx hb dL_law_289 (by decide) ?_
        refine lv_goto (tgt := 294) hx hb dL_law_290 (by decide) ?_
        have hr1 : (1 : Int32) = 1 := hwp
        refine va_forget (fun q hq => hAf _ (hS.2.2 q hq)) ?_
        refine W.base ?_
        exact lw_ret (Drawn.sameBut.refl s.drawn lw_cs) hx hb hr hlocks dL_law_294
  have hj276 : ∀ (v_276 : VT) (H : Heap) (locs : List Loc), wv_L_law_j276 (gcell L xs) v_276  (fun r _ => r = 1) → va_P D vwCl (gW cI cC cF cO xa v_276) H → va_D A (gW cI cC cF cO xa v_276) → va_S A s.heap H locs → ∀ ls : Array Slot, lv_has ls 6 [(1, .ref (xa 0))] → W p l e room_1 s m #[Value.ref b] below meth c H locs 600000 7302250 (lw_Z below #[Value.ref b] s) (F0 m 276 ls []) := by
    intro v_276 H locs hwp hP hD hS ls hl
    unfold wv_L_law_j276 at hwp
    refine lv_iconst (v := 0) hx hb dL_law_276 (by decide) ?_
    have hl : lv_has ls 6 [(1, .ref (xa 0))] := lv_sub hl [0] rfl
    exact hj277 (0 : Int32) v_276 _ _ hwp hP hD hS ls hl
  have hj208 : ∀ (x2_208 : Int32) (v_208 : VT) (H : Heap) (locs : List Loc), wv_L_law_j208 (gcell L xs) x2_208 v_208  (fun r _ => r = 1) → va_P D vwCl (gW cI cC cF cO xa v_208) H → va_D A (gW cI cC cF cO xa v_208) → va_S A s.heap H locs → ∀ ls : Array Slot, lv_has ls 6 [(1, .ref (xa 0)), (2, .int x2_208)] → W p l e room_1 s m #[Value.ref b] below meth c H locs 600000 7302250 (lw_Z below #[Value.ref b] s) (F0 m 208 ls []) := by
    intro x2_208 v_208 H locs hwp hP hD hS ls hl
    unfold wv_L_law_j208 at hwp
    refine lv_aload_n hx hb dL_law_208 rfl (lv_at hl 0 rfl) ?_
    refine lv_iconst (v := 1) hx hb dL_law_209 (by decide) ?_
    refine gBacki (D := D) (tys := gT cI cC cF cO) (A := A) (wr := []) (w1 := gW cI cC cF cO xa) (va_runV (As := [.int (1 : Int32)]) (rest := []) ⟨hx, hb, hml, hown, hts⟩ (d_X8_count l D cI cC cF cO xa v_208 _ ((1 : Int32)) _ hwp) (cwV 1 hts gL_law_X8_count rfl rfl rfl (by decide +kernel) ⟨Nat.le_of_ble_eq_true rfl, Nat.le_of_ble_eq_true rfl⟩) (gPreV (C := RX8) (T := TX8) (N := 9) (ci := 8) hK hX hT hP hD hS hA gI (gI_at cI cC cF cO xa v_208) gI_nd rfl (qb := 0) rfl) rfl rfl hl.1 rfl (lv_room (Nat.le_of_ble_eq_true rfl)) dL_law_210 ⟨Nat.le_of_ble_eq_true rfl, Nat.le_of_ble_eq_true rfl⟩) hP hD hS hA gI [] (gI_at cI cC cF cO xa v_208) rfl rfl (fun i h => absurd h List.not_mem_nil) (fun r_3 v_4 H locs hwp hP hD hS => ?_)
    have hP : va_P D vwCl (gW cI cC cF cO xa v_4) H := hP
    have hD : va_D A (gW cI cC cF cO xa v_4) := hD
    refine lv_istore (lv' := [(4, .int r_3), (1, .ref (xa 0)), (2, .int x2_208)]) hx hb dL_law_213 hl (by decide) rfl (fun ls hl => ?_)
    refine lv_aload_n hx hb dL_law_215 rfl (lv_at hl 1 rfl) ?_
    refine lv_iconst (v := 3) hx hb dL_law_216 (by decide) ?_
    refine gBacki (D := D) (tys := gT cI cC cF cO) (A := A) (wr := []) (w1 := gW cI cC cF cO xa) (va_runV (As := [.int (3 : Int32)]) (rest := []) ⟨hx, hb, hml, hown, hts⟩ (d_X8_count l D cI cC cF cO xa v_4 _ ((3 : Int32)) _ hwp) (cwV 1 hts gL_law_X8_count rfl rfl rfl (by decide +kernel) ⟨Nat.le_of_ble_eq_true rfl, Nat.le_of_ble_eq_true rfl⟩) (gPreV (C := RX8) (T := TX8) (N := 9) (ci := 8) hK hX hT hP hD hS hA gI (gI_at cI cC cF cO xa v_4) gI_nd rfl (qb := 0) rfl) rfl rfl hl.1 rfl (lv_room (Nat.le_of_ble_eq_true rfl)) dL_law_217 ⟨Nat.le_of_ble_eq_true rfl, Nat.le_of_ble_eq_true rfl⟩) hP hD hS hA gI [] (gI_at cI cC cF cO xa v_4) rfl rfl (fun i h => absurd h List.not_mem_nil) (fun r_5 v_6 H locs hwp hP hD hS => ?_)
    have hP : va_P D vwCl (gW cI cC cF cO xa v_6) H := hP
    have hD : va_D A (gW cI cC cF cO xa v_6) := hD
    refine lv_istore (lv' := [(5, .int r_5), (4, .int r_3), (1, .ref (xa 0)), (2, .int x2_208)]) hx hb dL_law_220 hl (by decide) rfl (fun ls hl => ?_)
    refine lv_iload_n hx hb dL_law_222 rfl (lv_at hl 3 rfl) ?_
    refine lv_if_eq (tgt := 276) hx hb dL_law_223 (by decide) (fun hc => ?_) (fun hc => ?_)
    · have hwp := hwp.1 hc
      have hl : lv_has ls 6 [(1, .ref (xa 0))] := lv_sub hl [2] rfl
      exact hj276 v_6 _ _ hwp hP hD hS ls hl
    · have hwp := hwp.2 hc
      refine lv_aload_n hx hb dL_law_226 rfl (lv_at hl 2 rfl) ?_
      refine gBacki (D := D) (tys := gT cI cC cF cO) (A := A) (wr := []) (w1 := gW cI cC cF cO xa) (va_runS (As := [.ref (xa 0)]) (rest := []) ⟨hx, hb, hml, hown, hts⟩ (c_L_isAll l D cI cC cF cO xa v_6 _  _ hwp) (va_cwS 1 hts gL_law_L_isAll rfl rfl rfl (by decide +kernel) ⟨Nat.le_of_ble_eq_true rfl, Nat.le_of_ble_eq_true rfl⟩) (gPreS hK hX hT hP hD hS hA gI (gI_at cI cC cF cO xa v_6) gI_nd) rfl rfl hl.1 rfl (lv_room (Nat.le_of_ble_eq_true rfl)) dL_law_227 ⟨Nat.le_of_ble_eq_true rfl, Nat.le_of_ble_eq_true rfl⟩) hP hD hS hA gI [] (gI_at cI cC cF cO xa v_6) rfl rfl (fun i h => absurd h List.not_mem_nil) (fun r_7 v_8 H locs hwp hP hD hS => ?_)
      have hP : va_P D vwCl (gW cI cC cF cO xa v_8) H := hP
      have hD : va_D A (gW cI cC cF cO xa v_8) := hD
      refine lv_if_eq (tgt := 276) hx hb dL_law_230 (by decide) (fun hc => ?_) (fun hc => ?_)
      · have hwp := hwp.1 hc
        have hl : lv_has ls 6 [(1, .ref (xa 0))] := lv_sub hl [2] rfl
        exact hj276 v_8 _ _ hwp hP hD hS ls hl
      · have hwp := hwp.2 hc
        refine lv_aload_n hx hb dL_law_233 rfl (lv_at hl 2 rfl) ?_
        refine gBacki (D := D) (tys := gT cI cC cF cO) (A := A) (wr := []) (w1 := gW cI cC cF cO xa) (va_runV (As := []) (rest := []) ⟨hx, hb, hml, hown, hts⟩ (d_X8_keep l D cI cC cF cO xa v_8 _  _ hwp) (cwV 0 hts gL_law_X8_keep rfl rfl rfl (by decide +kernel) ⟨Nat.le_of_ble_eq_true rfl, Nat.le_of_ble_eq_true rfl⟩) (gPreV (C := RX8) (T := TX8) (N := 9) (ci := 8) hK hX hT hP hD hS hA gI (gI_at cI cC cF cO xa v_8) gI_nd rfl (qb := 0) rfl) rfl rfl hl.1 rfl (lv_room (Nat.le_of_ble_eq_true rfl)) dL_law_234 ⟨Nat.le_of_ble_eq_true rfl, Nat.le_of_ble_eq_true rfl⟩) hP hD hS hA gI [] (gI_at cI cC cF cO xa v_8) rfl rfl (fun i h => absurd h List.not_mem_nil) (fun r_9 v_10 H locs hwp hP hD hS => ?_)
        have hP : va_P D vwCl (gW cI cC cF cO xa v_10) H := hP
        have hD : va_D A (gW cI cC cF cO xa v_10) := hD
        refine lv_iload hx hb dL_law_237 (lv_at hl 1 rfl) ?_
        refine lv_icmp_ne (tgt := 276) hx hb dL_law_239 (by decide) (fun hc => ?_) (fun hc => ?_)
        · have hwp := hwp.2 hc
          have hl : lv_has ls 6 [(1, .ref (xa 0))] := lv_sub hl [2] rfl
          exact hj276 v_10 _ _ hwp hP hD hS ls hl
        · have hwp := hwp.1 hc
          refine lv_aload_n hx hb dL_law_242 rfl (lv_at hl 2 rfl) ?_
          refine lv_iconst (v := 0) hx hb dL_law_243 (by decide) ?_
          refine lv_iconst (v := 1) hx hb dL_law_244 (by decide) ?_
          refine gBacki (D := D) (tys := gT cI cC cF cO) (A := A) (wr := []) (w1 := gW cI cC cF cO xa) (va_runV (As := [.int (0 : Int32), .int (1 : Int32)]) (rest := []) ⟨hx, hb, hml, hown, hts⟩ (d_X8_swapScenes l D cI cC cF cO xa v_10 _ ((0 : Int32)) ((1 : Int32)) _ hwp) (cwV 2 hts gL_law_X8_swapScenes rfl rfl rfl (by decide +kernel) ⟨Nat.le_of_ble_eq_true rfl, Nat.le_of_ble_eq_true rfl⟩) (gPreV (C := RX8) (T := TX8) (N := 9) (ci := 8) hK hX hT hP hD hS hA gI (gI_at cI cC cF cO xa v_10) gI_nd rfl (qb := 0) rfl) rfl rfl hl.1 rfl (lv_room (Nat.le_of_ble_eq_true rfl)) dL_law_245 ⟨Nat.le_of_ble_eq_true rfl, Nat.le_of_ble_eq_true rfl⟩) hP hD hS hA gI [] (gI_at cI cC cF cO xa v_10) rfl rfl (fun i h => absurd h List.not_mem_nil) (fun r_11 v_12 H locs hwp hP hD hS => ?_)
          have hP : va_P D vwCl (gW cI cC cF cO xa v_12) H := hP
          have hD : va_D A (gW cI cC cF cO xa v_12) := hD
          refine lv_bipush (v := -5) hx hb dL_law_248 (by decide) ?_
          refine lv_icmp_lt (tgt := 276) hx hb dL_law_250 (by decide) (fun hc => ?_) (fun hc => ?_)
          · have hwp := hwp.1 hc
            have hl : lv_has ls 6 [(1, .ref (xa 0))] := lv_sub hl [2] rfl
            exact hj276 v_12 _ _ hwp hP hD hS ls hl
          · have hwp := hwp.2 hc
            refine lv_aload_n hx hb dL_law_253 rfl (lv_at hl 2 rfl) ?_
            refine gBacki (D := D) (tys := gT cI cC cF cO) (A := A) (wr := []) (w1 := gW cI cC cF cO xa) (va_runV (As := []) (rest := []) ⟨hx, hb, hml, hown, hts⟩ (d_X8_restore l D cI cC cF cO xa v_12 _  _ hwp) (cwV 0 hts gL_law_X8_restore rfl rfl rfl (by decide +kernel) ⟨Nat.le_of_ble_eq_true rfl, Nat.le_of_ble_eq_true rfl⟩) (gPreV (C := RX8) (T := TX8) (N := 9) (ci := 8) hK hX hT hP hD hS hA gI (gI_at cI cC cF cO xa v_12) gI_nd rfl (qb := 0) rfl) rfl rfl hl.1 rfl (lv_room (Nat.le_of_ble_eq_true rfl)) dL_law_254 ⟨Nat.le_of_ble_eq_true rfl, Nat.le_of_ble_eq_true rfl⟩) hP hD hS hA gI [] (gI_at cI cC cF cO xa v_12) rfl rfl (fun i h => absurd h List.not_mem_nil) (fun r_13 v_14 H locs hwp hP hD hS => ?_)
            have hP : va_P D vwCl (gW cI cC cF cO xa v_14) H := hP
            have hD : va_D A (gW cI cC cF cO xa v_14) := hD
            refine lv_iload hx hb dL_law_257 (lv_at hl 1 rfl) ?_
            refine lv_icmp_ne (tgt := 276) hx hb dL_law_259 (by decide) (fun hc => ?_) (fun hc => ?_)
            · have hwp := hwp.2 hc
              have hl : lv_has ls 6 [(1, .ref (xa 0))] := lv_sub hl [2] rfl
              exact hj276 v_14 _ _ hwp hP hD hS ls hl
            · have hwp := hwp.1 hc
              refine lv_aload_n hx hb dL_law_262 rfl (lv_at hl 2 rfl) ?_
              refine lv_iconst (v := 3) hx hb dL_law_263 (by decide) ?_
              refine gBacki (D := D) (tys := gT cI cC cF cO) (A := A) (wr := []) (w1 := gW cI cC cF cO xa) (va_runV (As := [.int (3 : Int32)]) (rest := []) ⟨hx, hb, hml, hown, hts⟩ (d_X8_count l D cI cC cF cO xa v_14 _ ((3 : Int32)) _ hwp) (cwV 1 hts gL_law_X8_count rfl rfl rfl (by decide +kernel) ⟨Nat.le_of_ble_eq_true rfl, Nat.le_of_ble_eq_true rfl⟩) (gPreV (C := RX8) (T := TX8) (N := 9) (ci := 8) hK hX hT hP hD hS hA gI (gI_at cI cC cF cO xa v_14) gI_nd rfl (qb := 0) rfl) rfl rfl hl.1 rfl (lv_room (Nat.le_of_ble_eq_true rfl)) dL_law_264 ⟨Nat.le_of_ble_eq_true rfl, Nat.le_of_ble_eq_true rfl⟩) hP hD hS hA gI [] (gI_at cI cC cF cO xa v_14) rfl rfl (fun i h => absurd h List.not_mem_nil) (fun r_15 v_16 H locs hwp hP hD hS => ?_)
              have hP : va_P D vwCl (gW cI cC cF cO xa v_16) H := hP
              have hD : va_D A (gW cI cC cF cO xa v_16) := hD
              refine lv_iload hx hb dL_law_267 (lv_at hl 0 rfl) ?_
              refine lv_icmp_ne (tgt := 276) hx hb dL_law_269 (by decide) (fun hc => ?_) (fun hc => ?_)
              · have hwp := hwp.2 hc
                have hl : lv_has ls 6 [(1, .ref (xa 0))] := lv_sub hl [2] rfl
                exact hj276 v_16 _ _ hwp hP hD hS ls hl
              · have hwp := hwp.1 hc
                refine lv_iconst (v := 1) hx hb dL_law_272 (by decide) ?_
                refine lv_goto (tgt := 277) hx hb dL_law_273 (by decide) ?_
                have hl : lv_has ls 6 [(1, .ref (xa 0))] := lv_sub hl [2] rfl
                exact hj277 (1 : Int32) v_16 _ _ hwp hP hD hS ls hl
  have hj38 : ∀ (k0_38 : Int32) (v_38 : VT) (H : Heap) (locs : List Loc), wv_L_law_j38 (gcell L xs) k0_38 v_38  (fun r _ => r = 1) → va_P D vwCl (gW cI cC cF cO xa v_38) H → va_D A (gW cI cC cF cO xa v_38) → va_S A s.heap H locs → ∀ ls : Array Slot, lv_has ls 6 [(0, .ref b), (1, .ref (xa 0))] → W p l e room_1 s m #[Value.ref b] below meth c H locs 600000 7302250 (lw_Z below #[Value.ref b] s) (F0 m 38 ls [.int k0_38]) := by
    intro k0_38 v_38 H locs hwp hP hD hS ls hl
    unfold wv_L_law_j38 at hwp
    refine lv_istore_n (lv' := [(2, .int k0_38), (0, .ref b), (1, .ref (xa 0))]) hx hb dL_law_38 rfl hl (by decide) rfl (fun ls hl => ?_)
    refine lv_iconst (v := 4) hx hb dL_law_39 (by decide) ?_
    refine lv_aload_n hx hb dL_law_40 rfl (lv_at hl 1 rfl) ?_
    refine lv_iconst (v := 0) hx hb dL_law_41 (by decide) ?_
    have hn_17 := hwp.1
    have hwp := hwp.2
    refine gCell (D := D) (A := A) (w := gW cI cC cF cO xa v_38) hL C1 hts hbA hn_17 gL_law_L_cell hl (rest := [.int (4 : Int32)]) dL_law_42 hP hD hS (Nat.le_of_ble_eq_true rfl) (fun H locs hP hD hS => ?_)
    refine lv_bipush (v := 10) hx hb dL_law_45 (by decide) ?_
    refine lv_irem hx hb dL_law_47 (by decide) ?_
    refine lv_iadd hx hb dL_law_48 ?_
    refine lv_istore_n (lv' := [(3, .int ((4 : Int32) + (((gcell L xs) (0 : Int32)) - ((gcell L xs) (0 : Int32)) / (10 : Int32) * (10 : Int32)))), (2, .int k0_38), (0, .ref b), (1, .ref (xa 0))]) hx hb dL_law_49 rfl hl (by decide) rfl (fun ls hl => ?_)
    refine lv_iconst (v := 0) hx hb dL_law_50 (by decide) ?_
    refine lv_istore (lv' := [(4, .int (0 : Int32)), (3, .int ((4 : Int32) + (((gcell L xs) (0 : Int32)) - ((gcell L xs) (0 : Int32)) / (10 : Int32) * (10 : Int32)))), (2, .int k0_38), (0, .ref b), (1, .ref (xa 0))]) hx hb dL_law_51 hl (by decide) rfl (fun ls hl => ?_)
    have hl : lv_has ls 6 [(0, .ref b), (1, .ref (xa 0)), (2, .int k0_38), (3, .int ((4 : Int32) + (((gcell L xs) (0 : Int32)) - ((gcell L xs) (0 : Int32)) / (10 : Int32) * (10 : Int32)))), (4, .int (0 : Int32))] := lv_sub hl [3, 4, 2, 1, 0] rfl
    unfold wv_L_law_l53 at hwp
    obtain ⟨J53, μ53, hJ, hst53⟩ := hwp
    have hL53 : ∀ (n : Nat) (x2_53 : Int32) (x4_53 : Int32) (v_53 : VT), μ53 x2_53 x4_53 v_53 < n → J53 x2_53 x4_53 v_53 → ∀ (H : Heap) (locs : List Loc), va_P D vwCl (gW cI cC cF cO xa v_53) H → va_D A (gW cI cC cF cO xa v_53) → va_S A s.heap H locs → ∀ ls : Array Slot, lv_has ls 6 [(0, .ref b), (1, .ref (xa 0)), (2, .int x2_53), (3, .int ((4 : Int32) + (((gcell L xs) (0 : Int32)) - ((gcell L xs) (0 : Int32)) / (10 : Int32) * (10 : Int32)))), (4, .int x4_53)] → W p l e room_1 s m #[Value.ref b] below meth c H locs 600000 7302250 (lw_Z below #[Value.ref b] s) (F0 m 53 ls []) := by
      intro n
      induction n with
      | zero => intro x2_53 x4_53 v_53 h; exact absurd h (Nat.not_lt_zero _)
      | succ n ih53 =>
        intro x2_53 x4_53 v_53 hμ53 hJ H locs hP hD hS ls hl
        have hwp := hst53 x2_53 x4_53 v_53 hJ
        refine lv_iload hx hb dL_law_53 (lv_at hl 4 rfl) ?_
        refine lv_iload_n hx hb dL_law_55 rfl (lv_at hl 3 rfl) ?_
        refine lv_icmp_ge (tgt := 152) hx hb dL_law_56 (by decide) (fun hc => ?_) (fun hc => ?_)
        · have hwp := hwp.1 hc
          refine lv_iconst (v := 0) hx hb dL_law_152 (by decide) ?_
          refine lv_istore (lv' := [(4, .int (0 : Int32)), (0, .ref b), (1, .ref (xa 0)), (2, .int x2_53), (3, .int ((4 : Int32) + (((gcell L xs) (0 : Int32)) - ((gcell L xs) (0 : Int32)) / (10 : Int32) * (10 : Int32))))]) hx hb dL_law_153 hl (by decide) rfl (fun ls hl => ?_)
          have hl : lv_has ls 6 [(0, .ref b), (1, .ref (xa 0)), (2, .int x2_53), (4, .int (0 : Int32))] := lv_sub hl [1, 2, 3, 0] rfl
          unfold wv_L_law_l155 at hwp
          obtain ⟨J155, μ155, hJ, hst155⟩ := hwp
          have hL155 : ∀ (n : Nat) (x2_155 : Int32) (x4_155 : Int32) (v_155 : VT), μ155 x2_155 x4_155 v_155 < n → J155 x2_155 x4_155 v_155 → ∀ (H : Heap) (locs : List Loc), va_P D vwCl (gW cI cC cF cO xa v_155) H → va_D A (gW cI cC cF cO xa v_155) → va_S A s.heap H locs → ∀ ls : Array Slot, lv_has ls 6 [(0, .ref b), (1, .ref (xa 0)), (2, .int x2_155), (4, .int x4_155)] → W p l e room_1 s m #[Value.ref b] below meth c H locs 600000 7302250 (lw_Z below #[Value.ref b] s) (F0 m 155 ls []) := by
            intro n
            induction n with
            | zero => intro x2_155 x4_155 v_155 h; exact absurd h (Nat.not_lt_zero _)
            | succ n ih155 =>
              intro x2_155 x4_155 v_155 hμ155 hJ H locs hP hD hS ls hl
              have hwp := hst155 x2_155 x4_155 v_155 hJ
              refine lv_iload hx hb dL_law_155 (lv_at hl 3 rfl) ?_
              refine lv_bipush (v := 14) hx hb dL_law_157 (by decide) ?_
              refine lv_icmp_ge (tgt := 208) hx hb dL_law_159 (by decide) (fun hc => ?_) (fun hc => ?_)
              · have hwp := hwp.1 hc
                have hl : lv_has ls 6 [(1, .ref (xa 0)), (2, .int x2_155)] := lv_sub hl [1, 2] rfl
                exact hj208 x2_155 v_155 _ _ hwp hP hD hS ls hl
              · have hwp := hwp.2 hc
                refine lv_iload_n hx hb dL_law_162 rfl (lv_at hl 2 rfl) ?_
                refine lv_if_eq (tgt := 208) hx hb dL_law_163 (by decide) (fun hc => ?_) (fun hc => ?_)
                · have hwp := hwp.1 hc
                  have hl : lv_has ls 6 [(1, .ref (xa 0)), (2, .int x2_155)] := lv_sub hl [1, 2] rfl
                  exact hj208 x2_155 v_155 _ _ hwp hP hD hS ls hl
                · have hwp := hwp.2 hc
                  refine lv_aload_n hx hb dL_law_166 rfl (lv_at hl 1 rfl) ?_
                  refine lv_aload_n hx hb dL_law_167 rfl (lv_at hl 0 rfl) ?_
                  refine lv_bipush (v := 16) hx hb dL_law_168 (by decide) ?_
                  refine lv_iload hx hb dL_law_170 (lv_at hl 3 rfl) ?_
                  refine lv_iadd hx hb dL_law_172 ?_
                  have hn_18 := hwp.1
                  have hwp := hwp.2
                  refine gCell (D := D) (A := A) (w := gW cI cC cF cO xa v_155) hL C1 hts hbA hn_18 gL_law_L_cell hl (rest := [.ref (xa 0)]) dL_law_173 hP hD hS (Nat.le_of_ble_eq_true rfl) (fun H locs hP hD hS => ?_)
                  refine gBacki (D := D) (tys := gT cI cC cF cO) (A := A) (wr := []) (w1 := gW cI cC cF cO xa) (va_runS (As := [.ref (xa 0), .int ((gcell L xs) ((16 : Int32) + x4_155))]) (rest := []) ⟨hx, hb, hml, hown, hts⟩ (c_L_acts l D cI cC cF cO xa v_155 _ (((gcell L xs) ((16 : Int32) + x4_155))) _ hwp) (va_cwS 2 hts gL_law_L_acts rfl rfl rfl (by decide +kernel) ⟨Nat.le_of_ble_eq_true rfl, Nat.le_of_ble_eq_true rfl⟩) (gPreS hK hX hT hP hD hS hA gI (gI_at cI cC cF cO xa v_155) gI_nd) rfl rfl hl.1 rfl (lv_room (Nat.le_of_ble_eq_true rfl)) dL_law_176 ⟨Nat.le_of_ble_eq_true rfl, Nat.le_of_ble_eq_true rfl⟩) hP hD hS hA gI [] (gI_at cI cC cF cO xa v_155) rfl rfl (fun i h => absurd h List.not_mem_nil) (fun r_19 v_20 H locs hwp hP hD hS => ?_)
                  have hP : va_P D vwCl (gW cI cC cF cO xa v_20) H := hP
                  have hD : va_D A (gW cI cC cF cO xa v_20) := hD
                  refine lv_if_eq (tgt := 200) hx hb dL_law_179 (by decide) (fun hc => ?_) (fun hc => ?_)
                  · have hwp := hwp.1 hc
                    refine lv_iconst (v := 0) hx hb dL_law_200 (by decide) ?_
                    refine lv_istore_n (lv' := [(2, .int (0 : Int32)), (0, .ref b), (1, .ref (xa 0)), (4, .int x4_155)]) hx hb dL_law_201 rfl hl (by decide) rfl (fun ls hl => ?_)
                    refine lv_iinc (v := (x4_155 + (1 : Int32))) (lv' := [(4, .int (x4_155 + (1 : Int32))), (2, .int (0 : Int32)), (0, .ref b), (1, .ref (xa 0))]) hx hb dL_law_202 hl (k := 3) rfl rfl (by decide) rfl (fun ls hl => ?_)
                    refine lv_goto (tgt := 155) hx hb dL_law_205 (by decide) ?_
                    have hl : lv_has ls 6 [(0, .ref b), (1, .ref (xa 0)), (2, .int (0 : Int32)), (4, .int (x4_155 + (1 : Int32)))] := lv_sub hl [2, 3, 1, 0] rfl
                    exact ih155 (0 : Int32) (x4_155 + (1 : Int32)) v_20 (Nat.lt_of_lt_of_le hwp.2 (Nat.le_of_lt_succ hμ155)) hwp.1 _ _ hP hD hS ls hl
                  · have hwp := hwp.2 hc
                    refine lv_iload hx hb dL_law_182 (lv_at hl 3 rfl) ?_
                    refine lv_iconst (v := 3) hx hb dL_law_184 (by decide) ?_
                    refine lv_irem hx hb dL_law_185 (by decide) ?_
                    refine lv_if_gt (tgt := 196) hx hb dL_law_186 (by decide) (fun hc => ?_) (fun hc => ?_)
                    · have hwp := hwp.1 hc
                      refine lv_iconst (v := 1) hx hb dL_law_196 (by decide) ?_
                      refine lv_goto (tgt := 201) hx hb dL_law_197 (by decide) ?_
                      refine lv_istore_n (lv' := [(2, .int (1 : Int32)), (0, .ref b), (1, .ref (xa 0)), (4, .int x4_155)]) hx hb dL_law_201 rfl hl (by decide) rfl (fun ls hl => ?_)
                      refine lv_iinc (v := (x4_155 + (1 : Int32))) (lv' := [(4, .int (x4_155 + (1 : Int32))), (2, .int (1 : Int32)), (0, .ref b), (1, .ref (xa 0))]) hx hb dL_law_202 hl (k := 3) rfl rfl (by decide) rfl (fun ls hl => ?_)
                      refine lv_goto (tgt := 155) hx hb dL_law_205 (by decide) ?_
                      have hl : lv_has ls 6 [(0, .ref b), (1, .ref (xa 0)), (2, .int (1 : Int32)), (4, .int (x4_155 + (1 : Int32)))] := lv_sub hl [2, 3, 1, 0] rfl
                      exact ih155 (1 : Int32) (x4_155 + (1 : Int32)) v_20 (Nat.lt_of_lt_of_le hwp.2 (Nat.le_of_lt_succ hμ155)) hwp.1 _ _ hP hD hS ls hl
                    · have hwp := hwp.2 hc
                      refine lv_aload_n hx hb dL_law_189 rfl (lv_at hl 1 rfl) ?_
                      refine gBacki (D := D) (tys := gT cI cC cF cO) (A := A) (wr := []) (w1 := gW cI cC cF cO xa) (va_runS (As := [.ref (xa 0)]) (rest := []) ⟨hx, hb, hml, hown, hts⟩ (c_L_isAll l D cI cC cF cO xa v_20 _  _ hwp) (va_cwS 1 hts gL_law_L_isAll rfl rfl rfl (by decide +kernel) ⟨Nat.le_of_ble_eq_true rfl, Nat.le_of_ble_eq_true rfl⟩) (gPreS hK hX hT hP hD hS hA gI (gI_at cI cC cF cO xa v_20) gI_nd) rfl rfl hl.1 rfl (lv_room (Nat.le_of_ble_eq_true rfl)) dL_law_190 ⟨Nat.le_of_ble_eq_true rfl, Nat.le_of_ble_eq_true rfl⟩) hP hD hS hA gI [] (gI_at cI cC cF cO xa v_20) rfl rfl (fun i h => absurd h List.not_mem_nil) (fun r_21 v_22 H locs hwp hP hD hS => ?_)
                      have hP : va_P D vwCl (gW cI cC cF cO xa v_22) H := hP
                      have hD : va_D A (gW cI cC cF cO xa v_22) := hD
                      refine lv_if_eq (tgt := 200) hx hb dL_law_193 (by decide) (fun hc => ?_) (fun hc => ?_)
                      · have hwp := hwp.1 hc
                        refine lv_iconst (v := 0) hx hb dL_law_200 (by decide) ?_
                        refine lv_istore_n (lv' := [(2, .int (0 : Int32)), (0, .ref b), (1, .ref (xa 0)), (4, .int x4_155)]) hx hb dL_law_201 rfl hl (by decide) rfl (fun ls hl => ?_)
                        refine lv_iinc (v := (x4_155 + (1 : Int32))) (lv' := [(4, .int (x4_155 + (1 : Int32))), (2, .int (0 : Int32)), (0, .ref b), (1, .ref (xa 0))]) hx hb dL_law_202 hl (k := 3) rfl rfl (by decide) rfl (fun ls hl => ?_)
                        refine lv_goto (tgt := 155) hx hb dL_law_205 (by decide) ?_
                        have hl : lv_has ls 6 [(0, .ref b), (1, .ref (xa 0)), (2, .int (0 : Int32)), (4, .int (x4_155 + (1 : Int32)))] := lv_sub hl [2, 3, 1, 0] rfl
                        exact ih155 (0 : Int32) (x4_155 + (1 : Int32)) v_22 (Nat.lt_of_lt_of_le hwp.2 (Nat.le_of_lt_succ hμ155)) hwp.1 _ _ hP hD hS ls hl
                      · have hwp := hwp.2 hc
                        refine lv_iconst (v := 1) hx hb dL_law_196 (by decide) ?_
                        refine lv_goto (tgt := 201) hx hb dL_law_197 (by decide) ?_
                        refine lv_istore_n (lv' := [(2, .int (1 : Int32)), (0, .ref b), (1, .ref (xa 0)), (4, .int x4_155)]) hx hb dL_law_201 rfl hl (by decide) rfl (fun ls hl => ?_)
                        refine lv_iinc (v := (x4_155 + (1 : Int32))) (lv' := [(4, .int (x4_155 + (1 : Int32))), (2, .int (1 : Int32)), (0, .ref b), (1, .ref (xa 0))]) hx hb dL_law_202 hl (k := 3) rfl rfl (by decide) rfl (fun ls hl => ?_)
                        refine lv_goto (tgt := 155) hx hb dL_law_205 (by decide) ?_
                        have hl : lv_has ls 6 [(0, .ref b), (1, .ref (xa 0)), (2, .int (1 : Int32)), (4, .int (x4_155 + (1 : Int32)))] := lv_sub hl [2, 3, 1, 0] rfl
                        exact ih155 (1 : Int32) (x4_155 + (1 : Int32)) v_22 (Nat.lt_of_lt_of_le hwp.2 (Nat.le_of_lt_succ hμ155)) hwp.1 _ _ hP hD hS ls hl
          exact hL155 _ x2_53 (0 : Int32) v_53 (Nat.lt_succ_self _) hJ _ _ hP hD hS ls hl
        · have hwp := hwp.2 hc
          refine lv_iload_n hx hb dL_law_59 rfl (lv_at hl 2 rfl) ?_
          refine lv_if_eq (tgt := 152) hx hb dL_law_60 (by decide) (fun hc => ?_) (fun hc => ?_)
          · have hwp := hwp.1 hc
            refine lv_iconst (v := 0) hx hb dL_law_152 (by decide) ?_
            refine lv_istore (lv' := [(4, .int (0 : Int32)), (0, .ref b), (1, .ref (xa 0)), (2, .int x2_53), (3, .int ((4 : Int32) + (((gcell L xs) (0 : Int32)) - ((gcell L xs) (0 : Int32)) / (10 : Int32) * (10 : Int32))))]) hx hb dL_law_153 hl (by decide) rfl (fun ls hl => ?_)
            have hl : lv_has ls 6 [(0, .ref b), (1, .ref (xa 0)), (2, .int x2_53), (4, .int (0 : Int32))] := lv_sub hl [1, 2, 3, 0] rfl
            unfold wv_L_law_l155 at hwp
            obtain ⟨J155, μ155, hJ, hst155⟩ := hwp
            have hL155 : ∀ (n : Nat) (x2_155 : Int32) (x4_155 : Int32) (v_155 : VT), μ155 x2_155 x4_155 v_155 < n → J155 x2_155 x4_155 v_155 → ∀ (H : Heap) (locs : List Loc), va_P D vwCl (gW cI cC cF cO xa v_155) H → va_D A (gW cI cC cF cO xa v_155) → va_S A s.heap H locs → ∀ ls : Array Slot, lv_has ls 6 [(0, .ref b), (1, .ref (xa 0)), (2, .int x2_155), (4, .int x4_155)] → W p l e room_1 s m #[Value.ref b] below meth c H locs 600000 7302250 (lw_Z below #[Value.ref b] s) (F0 m 155 ls []) := by
              intro n
              induction n with
              | zero => intro x2_155 x4_155 v_155 h; exact absurd h (Nat.not_lt_zero _)
              | succ n ih155 =>
                intro x2_155 x4_155 v_155 hμ155 hJ H locs hP hD hS ls hl
                have hwp := hst155 x2_155 x4_155 v_155 hJ
                refine lv_iload hx hb dL_law_155 (lv_at hl 3 rfl) ?_
                refine lv_bipush (v := 14) hx hb dL_law_157 (by decide) ?_
                refine lv_icmp_ge (tgt := 208) hx hb dL_law_159 (by decide) (fun hc => ?_) (fun hc => ?_)
                · have hwp := hwp.1 hc
                  have hl : lv_has ls 6 [(1, .ref (xa 0)), (2, .int x2_155)] := lv_sub hl [1, 2] rfl
                  exact hj208 x2_155 v_155 _ _ hwp hP hD hS ls hl
                · have hwp := hwp.2 hc
                  refine lv_iload_n hx hb dL_law_162 rfl (lv_at hl 2 rfl) ?_
                  refine lv_if_eq (tgt := 208) hx hb dL_law_163 (by decide) (fun hc => ?_) (fun hc => ?_)
                  · have hwp := hwp.1 hc
                    have hl : lv_has ls 6 [(1, .ref (xa 0)), (2, .int x2_155)] := lv_sub hl [1, 2] rfl
                    exact hj208 x2_155 v_155 _ _ hwp hP hD hS ls hl
                  · have hwp := hwp.2 hc
                    refine lv_aload_n hx hb dL_law_166 rfl (lv_at hl 1 rfl) ?_
                    refine lv_aload_n hx hb dL_law_167 rfl (lv_at hl 0 rfl) ?_
                    refine lv_bipush (v := 16) hx hb dL_law_168 (by decide) ?_
                    refine lv_iload hx hb dL_law_170 (lv_at hl 3 rfl) ?_
                    refine lv_iadd hx hb dL_law_172 ?_
                    have hn_23 := hwp.1
                    have hwp := hwp.2
                    refine gCell (D := D) (A := A) (w := gW cI cC cF cO xa v_155) hL C1 hts hbA hn_23 gL_law_L_cell hl (rest := [.ref (xa 0)]) dL_law_173 hP hD hS (Nat.le_of_ble_eq_true rfl) (fun H locs hP hD hS => ?_)
                    refine gBacki (D := D) (tys := gT cI cC cF cO) (A := A) (wr := []) (w1 := gW cI cC cF cO xa) (va_runS (As := [.ref (xa 0), .int ((gcell L xs) ((16 : Int32) + x4_155))]) (rest := []) ⟨hx, hb, hml, hown, hts⟩ (c_L_acts l D cI cC cF cO xa v_155 _ (((gcell L xs) ((16 : Int32) + x4_155))) _ hwp) (va_cwS 2 hts gL_law_L_acts rfl rfl rfl (by decide +kernel) ⟨Nat.le_of_ble_eq_true rfl, Nat.le_of_ble_eq_true rfl⟩) (gPreS hK hX hT hP hD hS hA gI (gI_at cI cC cF cO xa v_155) gI_nd) rfl rfl hl.1 rfl (lv_room (Nat.le_of_ble_eq_true rfl)) dL_law_176 ⟨Nat.le_of_ble_eq_true rfl, Nat.le_of_ble_eq_true rfl⟩) hP hD hS hA gI [] (gI_at cI cC cF cO xa v_155) rfl rfl (fun i h => absurd h List.not_mem_nil) (fun r_24 v_25 H locs hwp hP hD hS => ?_)
                    have hP : va_P D vwCl (gW cI cC cF cO xa v_25) H := hP
                    have hD : va_D A (gW cI cC cF cO xa v_25) := hD
                    refine lv_if_eq (tgt := 200) hx hb dL_law_179 (by decide) (fun hc => ?_) (fun hc => ?_)
                    · have hwp := hwp.1 hc
                      refine lv_iconst (v := 0) hx hb dL_law_200 (by decide) ?_
                      refine lv_istore_n (lv' := [(2, .int (0 : Int32)), (0, .ref b), (1, .ref (xa 0)), (4, .int x4_155)]) hx hb dL_law_201 rfl hl (by decide) rfl (fun ls hl => ?_)
                      refine lv_iinc (v := (x4_155 + (1 : Int32))) (lv' := [(4, .int (x4_155 + (1 : Int32))), (2, .int (0 : Int32)), (0, .ref b), (1, .ref (xa 0))]) hx hb dL_law_202 hl (k := 3) rfl rfl (by decide) rfl (fun ls hl => ?_)
                      refine lv_goto (tgt := 155) hx hb dL_law_205 (by decide) ?_
                      have hl : lv_has ls 6 [(0, .ref b), (1, .ref (xa 0)), (2, .int (0 : Int32)), (4, .int (x4_155 + (1 : Int32)))] := lv_sub hl [2, 3, 1, 0] rfl
                      exact ih155 (0 : Int32) (x4_155 + (1 : Int32)) v_25 (Nat.lt_of_lt_of_le hwp.2 (Nat.le_of_lt_succ hμ155)) hwp.1 _ _ hP hD hS ls hl
                    · have hwp := hwp.2 hc
                      refine lv_iload hx hb dL_law_182 (lv_at hl 3 rfl) ?_
                      refine lv_iconst (v := 3) hx hb dL_law_184 (by decide) ?_
                      refine lv_irem hx hb dL_law_185 (by decide) ?_
                      refine lv_if_gt (tgt := 196) hx hb dL_law_186 (by decide) (fun hc => ?_) (fun hc => ?_)
                      · have hwp := hwp.1 hc
                        refine lv_iconst (v := 1) hx hb dL_law_196 (by decide) ?_
                        refine lv_goto (tgt := 201) hx hb dL_law_197 (by decide) ?_
                        refine lv_istore_n (lv' := [(2, .int (1 : Int32)), (0, .ref b), (1, .ref (xa 0)), (4, .int x4_155)]) hx hb dL_law_201 rfl hl (by decide) rfl (fun ls hl => ?_)
                        refine lv_iinc (v := (x4_155 + (1 : Int32))) (lv' := [(4, .int (x4_155 + (1 : Int32))), (2, .int (1 : Int32)), (0, .ref b), (1, .ref (xa 0))]) hx hb dL_law_202 hl (k := 3) rfl rfl (by decide) rfl (fun ls hl => ?_)
                        refine lv_goto (tgt := 155) hx hb dL_law_205 (by decide) ?_
                        have hl : lv_has ls 6 [(0, .ref b), (1, .ref (xa 0)), (2, .int (1 : Int32)), (4, .int (x4_155 + (1 : Int32)))] := lv_sub hl [2, 3, 1, 0] rfl
                        exact ih155 (1 : Int32) (x4_155 + (1 : Int32)) v_25 (Nat.lt_of_lt_of_le hwp.2 (Nat.le_of_lt_succ hμ155)) hwp.1 _ _ hP hD hS ls hl
                      · have hwp := hwp.2 hc
                        refine lv_aload_n hx hb dL_law_189 rfl (lv_at hl 1 rfl) ?_
                        refine gBacki (D := D) (tys := gT cI cC cF cO) (A := A) (wr := []) (w1 := gW cI cC cF cO xa) (va_runS (As := [.ref (xa 0)]) (rest := []) ⟨hx, hb, hml, hown, hts⟩ (c_L_isAll l D cI cC cF cO xa v_25 _  _ hwp) (va_cwS 1 hts gL_law_L_isAll rfl rfl rfl (by decide +kernel) ⟨Nat.le_of_ble_eq_true rfl, Nat.le_of_ble_eq_true rfl⟩) (gPreS hK hX hT hP hD hS hA gI (gI_at cI cC cF cO xa v_25) gI_nd) rfl rfl hl.1 rfl (lv_room (Nat.le_of_ble_eq_true rfl)) dL_law_190 ⟨Nat.le_of_ble_eq_true rfl, Nat.le_of_ble_eq_true rfl⟩) hP hD hS hA gI [] (gI_at cI cC cF cO xa v_25) rfl rfl (fun i h => absurd h List.not_mem_nil) (fun r_26 v_27 H locs hwp hP hD hS => ?_)
                        have hP : va_P D vwCl (gW cI cC cF cO xa v_27) H := hP
                        have hD : va_D A (gW cI cC cF cO xa v_27) := hD
                        refine lv_if_eq (tgt := 200) hx hb dL_law_193 (by decide) (fun hc => ?_) (fun hc => ?_)
                        · have hwp := hwp.1 hc
                          refine lv_iconst (v := 0) hx hb dL_law_200 (by decide) ?_
                          refine lv_istore_n (lv' := [(2, .int (0 : Int32)), (0, .ref b), (1, .ref (xa 0)), (4, .int x4_155)]) hx hb dL_law_201 rfl hl (by decide) rfl (fun ls hl => ?_)
                          refine lv_iinc (v := (x4_155 + (1 : Int32))) (lv' := [(4, .int (x4_155 + (1 : Int32))), (2, .int (0 : Int32)), (0, .ref b), (1, .ref (xa 0))]) hx hb dL_law_202 hl (k := 3) rfl rfl (by decide) rfl (fun ls hl => ?_)
                          refine lv_goto (tgt := 155) hx hb dL_law_205 (by decide) ?_
                          have hl : lv_has ls 6 [(0, .ref b), (1, .ref (xa 0)), (2, .int (0 : Int32)), (4, .int (x4_155 + (1 : Int32)))] := lv_sub hl [2, 3, 1, 0] rfl
                          exact ih155 (0 : Int32) (x4_155 + (1 : Int32)) v_27 (Nat.lt_of_lt_of_le hwp.2 (Nat.le_of_lt_succ hμ155)) hwp.1 _ _ hP hD hS ls hl
                        · have hwp := hwp.2 hc
                          refine lv_iconst (v := 1) hx hb dL_law_196 (by decide) ?_
                          refine lv_goto (tgt := 201) hx hb dL_law_197 (by decide) ?_
                          refine lv_istore_n (lv' := [(2, .int (1 : Int32)), (0, .ref b), (1, .ref (xa 0)), (4, .int x4_155)]) hx hb dL_law_201 rfl hl (by decide) rfl (fun ls hl => ?_)
                          refine lv_iinc (v := (x4_155 + (1 : Int32))) (lv' := [(4, .int (x4_155 + (1 : Int32))), (2, .int (1 : Int32)), (0, .ref b), (1, .ref (xa 0))]) hx hb dL_law_202 hl (k := 3) rfl rfl (by decide) rfl (fun ls hl => ?_)
                          refine lv_goto (tgt := 155) hx hb dL_law_205 (by decide) ?_
                          have hl : lv_has ls 6 [(0, .ref b), (1, .ref (xa 0)), (2, .int (1 : Int32)), (4, .int (x4_155 + (1 : Int32)))] := lv_sub hl [2, 3, 1, 0] rfl
                          exact ih155 (1 : Int32) (x4_155 + (1 : Int32)) v_27 (Nat.lt_of_lt_of_le hwp.2 (Nat.le_of_lt_succ hμ155)) hwp.1 _ _ hP hD hS ls hl
            exact hL155 _ x2_53 (0 : Int32) v_53 (Nat.lt_succ_self _) hJ _ _ hP hD hS ls hl
          · have hwp := hwp.2 hc
            refine lv_aload_n hx hb dL_law_63 rfl (lv_at hl 0 rfl) ?_
            refine lv_iconst (v := 1) hx hb dL_law_64 (by decide) ?_
            refine lv_iload hx hb dL_law_65 (lv_at hl 4 rfl) ?_
            refine lv_iadd hx hb dL_law_67 ?_
            have hn_28 := hwp.1
            have hwp := hwp.2
            refine gCell (D := D) (A := A) (w := gW cI cC cF cO xa v_53) hL C1 hts hbA hn_28 gL_law_L_cell hl (rest := []) dL_law_68 hP hD hS (Nat.le_of_ble_eq_true rfl) (fun H locs hP hD hS => ?_)
            refine lv_istore (lv' := [(5, .int ((gcell L xs) ((1 : Int32) + x4_53))), (0, .ref b), (1, .ref (xa 0)), (2, .int x2_53), (3, .int ((4 : Int32) + (((gcell L xs) (0 : Int32)) - ((gcell L xs) (0 : Int32)) / (10 : Int32) * (10 : Int32)))), (4, .int x4_53)]) hx hb dL_law_71 hl (by decide) rfl (fun ls hl => ?_)
            refine lv_aload_n hx hb dL_law_73 rfl (lv_at hl 2 rfl) ?_
            refine lv_iload hx hb dL_law_74 (lv_at hl 0 rfl) ?_
            refine lv_iconst (v := 3) hx hb dL_law_76 (by decide) ?_
            refine lv_irem hx hb dL_law_77 (by decide) ?_
            refine lv_iload hx hb dL_law_78 (lv_at hl 0 rfl) ?_
            refine lv_iconst (v := 2) hx hb dL_law_80 (by decide) ?_
            refine lv_ishr hx hb dL_law_81 ?_
            refine lv_bipush (v := 40) hx hb dL_law_82 (by decide) ?_
            refine lv_irem hx hb dL_law_84 (by decide) ?_
            refine lv_iconst (v := 1) hx hb dL_law_85 (by decide) ?_
            refine lv_iload hx hb dL_law_86 (lv_at hl 0 rfl) ?_
            refine lv_bipush (v := 9) hx hb dL_law_88 (by decide) ?_
            refine lv_ishr hx hb dL_law_90 ?_
            refine lv_bipush (v := 99) hx hb dL_law_91 (by decide) ?_
            refine lv_irem hx hb dL_law_93 (by decide) ?_
            refine lv_iadd hx hb dL_law_94 ?_
            refine lv_iload hx hb dL_law_95 (lv_at hl 0 rfl) ?_
            refine lv_bipush (v := 16) hx hb dL_law_97 (by decide) ?_
            refine lv_ishr hx hb dL_law_99 ?_
            refine lv_bipush (v := 101) hx hb dL_law_100 (by decide) ?_
            refine lv_irem hx hb dL_law_102 (by decide) ?_
            refine gBacki (D := D) (tys := gT cI cC cF cO) (A := A) (wr := []) (w1 := gW cI cC cF cO xa) (va_runV (As := [.int (((gcell L xs) ((1 : Int32) + x4_53)) - ((gcell L xs) ((1 : Int32) + x4_53)) / (3 : Int32) * (3 : Int32)), .int ((((gcell L xs) ((1 : Int32) + x4_53)) >>> ((2 : Int32) &&& 31)) - (((gcell L xs) ((1 : Int32) + x4_53)) >>> ((2 : Int32) &&& 31)) / (40 : Int32) * (40 : Int32)), .int ((1 : Int32) + ((((gcell L xs) ((1 : Int32) + x4_53)) >>> ((9 : Int32) &&& 31)) - (((gcell L xs) ((1 : Int32) + x4_53)) >>> ((9 : Int32) &&& 31)) / (99 : Int32) * (99 : Int32))), .int ((((gcell L xs) ((1 : Int32) + x4_53)) >>> ((16 : Int32) &&& 31)) - (((gcell L xs) ((1 : Int32) + x4_53)) >>> ((16 : Int32) &&& 31)) / (101 : Int32) * (101 : Int32))]) (rest := []) ⟨hx, hb, hml, hown, hts⟩ (d_X8_add l D cI cC cF cO xa v_53 _ ((((gcell L xs) ((1 : Int32) + x4_53)) - ((gcell L xs) ((1 : Int32) + x4_53)) / (3 : Int32) * (3 : Int32))) (((((gcell L xs) ((1 : Int32) + x4_53)) >>> ((2 : Int32) &&& 31)) - (((gcell L xs) ((1 : Int32) + x4_53)) >>> ((2 : Int32) &&& 31)) / (40 : Int32) * (40 : Int32))) (((1 : Int32) + ((((gcell L xs) ((1 : Int32) + x4_53)) >>> ((9 : Int32) &&& 31)) - (((gcell L xs) ((1 : Int32) + x4_53)) >>> ((9 : Int32) &&& 31)) / (99 : Int32) * (99 : Int32)))) (((((gcell L xs) ((1 : Int32) + x4_53)) >>> ((16 : Int32) &&& 31)) - (((gcell L xs) ((1 : Int32) + x4_53)) >>> ((16 : Int32) &&& 31)) / (101 : Int32) * (101 : Int32))) _ hwp) (cwV 4 hts gL_law_X8_add rfl rfl rfl (by decide +kernel) ⟨Nat.le_of_ble_eq_true rfl, Nat.le_of_ble_eq_true rfl⟩) (gPreV (C := RX8) (T := TX8) (N := 9) (ci := 8) hK hX hT hP hD hS hA gI (gI_at cI cC cF cO xa v_53) gI_nd rfl (qb := 0) rfl) rfl rfl hl.1 rfl (lv_room (Nat.le_of_ble_eq_true rfl)) dL_law_103 ⟨Nat.le_of_ble_eq_true rfl, Nat.le_of_ble_eq_true rfl⟩) hP hD hS hA gI [] (gI_at cI cC cF cO xa v_53) rfl rfl (fun i h => absurd h List.not_mem_nil) (fun r_29 v_30 H locs hwp hP hD hS => ?_)
            have hP : va_P D vwCl (gW cI cC cF cO xa v_30) H := hP
            have hD : va_D A (gW cI cC cF cO xa v_30) := hD
            refine lv_iload hx hb dL_law_106 (lv_at hl 5 rfl) ?_
            refine lv_icmp_ne (tgt := 144) hx hb dL_law_108 (by decide) (fun hc => ?_) (fun hc => ?_)
            · have hwp := hwp.2 hc
              refine lv_iconst (v := 0) hx hb dL_law_144 (by decide) ?_
              refine lv_istore_n (lv' := [(2, .int (0 : Int32)), (5, .int ((gcell L xs) ((1 : Int32) + x4_53))), (0, .ref b), (1, .ref (xa 0)), (3, .int ((4 : Int32) + (((gcell L xs) (0 : Int32)) - ((gcell L xs) (0 : Int32)) / (10 : Int32) * (10 : Int32)))), (4, .int x4_53)]) hx hb dL_law_145 rfl hl (by decide) rfl (fun ls hl => ?_)
              refine lv_iinc (v := (x4_53 + (1 : Int32))) (lv' := [(4, .int (x4_53 + (1 : Int32))), (2, .int (0 : Int32)), (5, .int ((gcell L xs) ((1 : Int32) + x4_53))), (0, .ref b), (1, .ref (xa 0)), (3, .int ((4 : Int32) + (((gcell L xs) (0 : Int32)) - ((gcell L xs) (0 : Int32)) / (10 : Int32) * (10 : Int32))))]) hx hb dL_law_146 hl (k := 5) rfl rfl (by decide) rfl (fun ls hl => ?_)
              refine lv_goto (tgt := 53) hx hb dL_law_149 (by decide) ?_
              have hl : lv_has ls 6 [(0, .ref b), (1, .ref (xa 0)), (2, .int (0 : Int32)), (3, .int ((4 : Int32) + (((gcell L xs) (0 : Int32)) - ((gcell L xs) (0 : Int32)) / (10 : Int32) * (10 : Int32)))), (4, .int (x4_53 + (1 : Int32)))] := lv_sub hl [3, 4, 1, 5, 0] rfl
              exact ih53 (0 : Int32) (x4_53 + (1 : Int32)) v_30 (Nat.lt_of_lt_of_le hwp.2 (Nat.le_of_lt_succ hμ53)) hwp.1 _ _ hP hD hS ls hl
            · have hwp := hwp.1 hc
              refine lv_aload_n hx hb dL_law_111 rfl (lv_at hl 2 rfl) ?_
              refine lv_iload hx hb dL_law_112 (lv_at hl 5 rfl) ?_
              refine lv_iconst (v := 5) hx hb dL_law_114 (by decide) ?_
              refine gBacki (D := D) (tys := gT cI cC cF cO) (A := A) (wr := []) (w1 := gW cI cC cF cO xa) (va_runV (As := [.int x4_53, .int (5 : Int32)]) (rest := []) ⟨hx, hb, hml, hown, hts⟩ (d_X8_card l D cI cC cF cO xa v_30 _ (x4_53) ((5 : Int32)) _ hwp) (cwV 2 hts gL_law_X8_card rfl rfl rfl (by decide +kernel) ⟨Nat.le_of_ble_eq_true rfl, Nat.le_of_ble_eq_true rfl⟩) (gPreV (C := RX8) (T := TX8) (N := 9) (ci := 8) hK hX hT hP hD hS hA gI (gI_at cI cC cF cO xa v_30) gI_nd rfl (qb := 0) rfl) rfl rfl hl.1 rfl (lv_room (Nat.le_of_ble_eq_true rfl)) dL_law_115 ⟨Nat.le_of_ble_eq_true rfl, Nat.le_of_ble_eq_true rfl⟩) hP hD hS hA gI [] (gI_at cI cC cF cO xa v_30) rfl rfl (fun i h => absurd h List.not_mem_nil) (fun r_31 v_32 H locs hwp hP hD hS => ?_)
              have hP : va_P D vwCl (gW cI cC cF cO xa v_32) H := hP
              have hD : va_D A (gW cI cC cF cO xa v_32) := hD
              refine lv_bipush (v := -5) hx hb dL_law_118 (by decide) ?_
              refine lv_icmp_ne (tgt := 144) hx hb dL_law_120 (by decide) (fun hc => ?_) (fun hc => ?_)
              · have hwp := hwp.2 hc
                refine lv_iconst (v := 0) hx hb dL_law_144 (by decide) ?_
                refine lv_istore_n (lv' := [(2, .int (0 : Int32)), (5, .int ((gcell L xs) ((1 : Int32) + x4_53))), (0, .ref b), (1, .ref (xa 0)), (3, .int ((4 : Int32) + (((gcell L xs) (0 : Int32)) - ((gcell L xs) (0 : Int32)) / (10 : Int32) * (10 : Int32)))), (4, .int x4_53)]) hx hb dL_law_145 rfl hl (by decide) rfl (fun ls hl => ?_)
                refine lv_iinc (v := (x4_53 + (1 : Int32))) (lv' := [(4, .int (x4_53 + (1 : Int32))), (2, .int (0 : Int32)), (5, .int ((gcell L xs) ((1 : Int32) + x4_53))), (0, .ref b), (1, .ref (xa 0)), (3, .int ((4 : Int32) + (((gcell L xs) (0 : Int32)) - ((gcell L xs) (0 : Int32)) / (10 : Int32) * (10 : Int32))))]) hx hb dL_law_146 hl (k := 5) rfl rfl (by decide) rfl (fun ls hl => ?_)
                refine lv_goto (tgt := 53) hx hb dL_law_149 (by decide) ?_
                have hl : lv_has ls 6 [(0, .ref b), (1, .ref (xa 0)), (2, .int (0 : Int32)), (3, .int ((4 : Int32) + (((gcell L xs) (0 : Int32)) - ((gcell L xs) (0 : Int32)) / (10 : Int32) * (10 : Int32)))), (4, .int (x4_53 + (1 : Int32)))] := lv_sub hl [3, 4, 1, 5, 0] rfl
                exact ih53 (0 : Int32) (x4_53 + (1 : Int32)) v_32 (Nat.lt_of_lt_of_le hwp.2 (Nat.le_of_lt_succ hμ53)) hwp.1 _ _ hP hD hS ls hl
              · have hwp := hwp.1 hc
                refine lv_aload_n hx hb dL_law_123 rfl (lv_at hl 2 rfl) ?_
                refine lv_iload hx hb dL_law_124 (lv_at hl 5 rfl) ?_
                refine lv_iload hx hb dL_law_126 (lv_at hl 0 rfl) ?_
                refine lv_bipush (v := 23) hx hb dL_law_128 (by decide) ?_
                refine lv_ishr hx hb dL_law_130 ?_
                refine lv_iconst (v := 4) hx hb dL_law_131 (by decide) ?_
                refine lv_irem hx hb dL_law_132 (by decide) ?_
                refine lv_iconst (v := 0) hx hb dL_law_133 (by decide) ?_
                refine gBacki (D := D) (tys := gT cI cC cF cO) (A := A) (wr := []) (w1 := gW cI cC cF cO xa) (va_runS (As := [.ref (xa 0), .int x4_53, .int ((((gcell L xs) ((1 : Int32) + x4_53)) >>> ((23 : Int32) &&& 31)) - (((gcell L xs) ((1 : Int32) + x4_53)) >>> ((23 : Int32) &&& 31)) / (4 : Int32) * (4 : Int32)), .int (0 : Int32)]) (rest := []) ⟨hx, hb, hml, hown, hts⟩ (c_L_pins l D cI cC cF cO xa v_32 _ (x4_53) (((((gcell L xs) ((1 : Int32) + x4_53)) >>> ((23 : Int32) &&& 31)) - (((gcell L xs) ((1 : Int32) + x4_53)) >>> ((23 : Int32) &&& 31)) / (4 : Int32) * (4 : Int32))) ((0 : Int32)) _ hwp) (va_cwS 4 hts gL_law_L_pins rfl rfl rfl (by decide +kernel) ⟨Nat.le_of_ble_eq_true rfl, Nat.le_of_ble_eq_true rfl⟩) (gPreS hK hX hT hP hD hS hA gI (gI_at cI cC cF cO xa v_32) gI_nd) rfl rfl hl.1 rfl (lv_room (Nat.le_of_ble_eq_true rfl)) dL_law_134 ⟨Nat.le_of_ble_eq_true rfl, Nat.le_of_ble_eq_true rfl⟩) hP hD hS hA gI [] (gI_at cI cC cF cO xa v_32) rfl rfl (fun i h => absurd h List.not_mem_nil) (fun r_33 v_34 H locs hwp hP hD hS => ?_)
                have hP : va_P D vwCl (gW cI cC cF cO xa v_34) H := hP
                have hD : va_D A (gW cI cC cF cO xa v_34) := hD
                refine lv_if_eq (tgt := 144) hx hb dL_law_137 (by decide) (fun hc => ?_) (fun hc => ?_)
                · have hwp := hwp.1 hc
                  refine lv_iconst (v := 0) hx hb dL_law_144 (by decide) ?_
                  refine lv_istore_n (lv' := [(2, .int (0 : Int32)), (5, .int ((gcell L xs) ((1 : Int32) + x4_53))), (0, .ref b), (1, .ref (xa 0)), (3, .int ((4 : Int32) + (((gcell L xs) (0 : Int32)) - ((gcell L xs) (0 : Int32)) / (10 : Int32) * (10 : Int32)))), (4, .int x4_53)]) hx hb dL_law_145 rfl hl (by decide) rfl (fun ls hl => ?_)
                  refine lv_iinc (v := (x4_53 + (1 : Int32))) (lv' := [(4, .int (x4_53 + (1 : Int32))), (2, .int (0 : Int32)), (5, .int ((gcell L xs) ((1 : Int32) + x4_53))), (0, .ref b), (1, .ref (xa 0)), (3, .int ((4 : Int32) + (((gcell L xs) (0 : Int32)) - ((gcell L xs) (0 : Int32)) / (10 : Int32) * (10 : Int32))))]) hx hb dL_law_146 hl (k := 5) rfl rfl (by decide) rfl (fun ls hl => ?_)
                  refine lv_goto (tgt := 53) hx hb dL_law_149 (by decide) ?_
                  have hl : lv_has ls 6 [(0, .ref b), (1, .ref (xa 0)), (2, .int (0 : Int32)), (3, .int ((4 : Int32) + (((gcell L xs) (0 : Int32)) - ((gcell L xs) (0 : Int32)) / (10 : Int32) * (10 : Int32)))), (4, .int (x4_53 + (1 : Int32)))] := lv_sub hl [3, 4, 1, 5, 0] rfl
                  exact ih53 (0 : Int32) (x4_53 + (1 : Int32)) v_34 (Nat.lt_of_lt_of_le hwp.2 (Nat.le_of_lt_succ hμ53)) hwp.1 _ _ hP hD hS ls hl
                · have hwp := hwp.2 hc
                  refine lv_iconst (v := 1) hx hb dL_law_140 (by decide) ?_
                  refine lv_goto (tgt := 145) hx hb dL_law_141 (by decide) ?_
                  refine lv_istore_n (lv' := [(2, .int (1 : Int32)), (5, .int ((gcell L xs) ((1 : Int32) + x4_53))), (0, .ref b), (1, .ref (xa 0)), (3, .int ((4 : Int32) + (((gcell L xs) (0 : Int32)) - ((gcell L xs) (0 : Int32)) / (10 : Int32) * (10 : Int32)))), (4, .int x4_53)]) hx hb dL_law_145 rfl hl (by decide) rfl (fun ls hl => ?_)
                  refine lv_iinc (v := (x4_53 + (1 : Int32))) (lv' := [(4, .int (x4_53 + (1 : Int32))), (2, .int (1 : Int32)), (5, .int ((gcell L xs) ((1 : Int32) + x4_53))), (0, .ref b), (1, .ref (xa 0)), (3, .int ((4 : Int32) + (((gcell L xs) (0 : Int32)) - ((gcell L xs) (0 : Int32)) / (10 : Int32) * (10 : Int32))))]) hx hb dL_law_146 hl (k := 5) rfl rfl (by decide) rfl (fun ls hl => ?_)
                  refine lv_goto (tgt := 53) hx hb dL_law_149 (by decide) ?_
                  have hl : lv_has ls 6 [(0, .ref b), (1, .ref (xa 0)), (2, .int (1 : Int32)), (3, .int ((4 : Int32) + (((gcell L xs) (0 : Int32)) - ((gcell L xs) (0 : Int32)) / (10 : Int32) * (10 : Int32)))), (4, .int (x4_53 + (1 : Int32)))] := lv_sub hl [3, 4, 1, 5, 0] rfl
                  exact ih53 (1 : Int32) (x4_53 + (1 : Int32)) v_34 (Nat.lt_of_lt_of_le hwp.2 (Nat.le_of_lt_succ hμ53)) hwp.1 _ _ hP hD hS ls hl
    exact hL53 _ k0_38 (0 : Int32) v_38 (Nat.lt_succ_self _) hJ _ _ hP hD hS ls hl
  have hj37 : ∀ (v_37 : VT) (H : Heap) (locs : List Loc), wv_L_law_j37 (gcell L xs) v_37  (fun r _ => r = 1) → va_P D vwCl (gW cI cC cF cO xa v_37) H → va_D A (gW cI cC cF cO xa v_37) → va_S A s.heap H locs → ∀ ls : Array Slot, lv_has ls 6 [(0, .ref b), (1, .ref (xa 0))] → W p l e room_1 s m #[Value.ref b] below meth c H locs 600000 7302250 (lw_Z below #[Value.ref b] s) (F0 m 37 ls []) := by
    intro v_37 H locs hwp hP hD hS ls hl
    unfold wv_L_law_j37 at hwp
    refine lv_iconst (v := 0) hx hb dL_law_37 (by decide) ?_
    have hl : lv_has ls 6 [(0, .ref b), (1, .ref (xa 0))] := lv_sub hl [0, 1] rfl
    exact hj38 (0 : Int32) v_37 _ _ hwp hP hD hS ls hl
  refine lv_aload_n hx hb dL_law_8 rfl (lv_at hl 1 rfl) ?_
  refine gBacki (D := D) (tys := gT cI cC cF cO) (A := A) (wr := []) (w1 := gW cI cC cF cO xa) (va_runV (As := []) (rest := []) ⟨hx, hb, hml, hown, hts⟩ (d_X8_undo l D cI cC cF cO xa v _  _ hwp) (cwV 0 hts gL_law_X8_undo rfl rfl rfl (by decide +kernel) ⟨Nat.le_of_ble_eq_true rfl, Nat.le_of_ble_eq_true rfl⟩) (gPreV (C := RX8) (T := TX8) (N := 9) (ci := 8) hK hX hT hP hD hS hA gI (gI_at cI cC cF cO xa v) gI_nd rfl (qb := 0) rfl) rfl rfl hl.1 rfl (lv_room (Nat.le_of_ble_eq_true rfl)) dL_law_9 ⟨Nat.le_of_ble_eq_true rfl, Nat.le_of_ble_eq_true rfl⟩) hP hD hS hA gI [] (gI_at cI cC cF cO xa v) rfl rfl (fun i h => absurd h List.not_mem_nil) (fun r_35 v_36 H locs hwp hP hD hS => ?_)
  have hP : va_P D vwCl (gW cI cC cF cO xa v_36) H := hP
  have hD : va_D A (gW cI cC cF cO xa v_36) := hD
  refine lv_bipush (v := -5) hx hb dL_law_12 (by decide) ?_
  refine lv_icmp_ne (tgt := 37) hx hb dL_law_14 (by decide) (fun hc => ?_) (fun hc => ?_)
  · have hwp := hwp.2 hc
    have hl : lv_has ls 6 [(0, .ref b), (1, .ref (xa 0))] := lv_sub hl [0, 1] rfl
    exact hj37 v_36 _ _ hwp hP hD hS ls hl
  · have hwp := hwp.1 hc
    refine lv_aload_n hx hb dL_law_17 rfl (lv_at hl 1 rfl) ?_
    refine gBacki (D := D) (tys := gT cI cC cF cO) (A := A) (wr := []) (w1 := gW cI cC cF cO xa) (va_runV (As := []) (rest := []) ⟨hx, hb, hml, hown, hts⟩ (d_X8_restore l D cI cC cF cO xa v_36 _  _ hwp) (cwV 0 hts gL_law_X8_restore rfl rfl rfl (by decide +kernel) ⟨Nat.le_of_ble_eq_true rfl, Nat.le_of_ble_eq_true rfl⟩) (gPreV (C := RX8) (T := TX8) (N := 9) (ci := 8) hK hX hT hP hD hS hA gI (gI_at cI cC cF cO xa v_36) gI_nd rfl (qb := 0) rfl) rfl rfl hl.1 rfl (lv_room (Nat.le_of_ble_eq_true rfl)) dL_law_18 ⟨Nat.le_of_ble_eq_true rfl, Nat.le_of_ble_eq_true rfl⟩) hP hD hS hA gI [] (gI_at cI cC cF cO xa v_36) rfl rfl (fun i h => absurd h List.not_mem_nil) (fun r_37 v_38 H locs hwp hP hD hS => ?_)
    have hP : va_P D vwCl (gW cI cC cF cO xa v_38) H := hP
    have hD : va_D A (gW cI cC cF cO xa v_38) := hD
    refine lv_bipush (v := -5) hx hb dL_law_21 (by decide) ?_
    refine lv_icmp_ne (tgt := 37) hx hb dL_law_23 (by decide) (fun hc => ?_) (fun hc => ?_)
    · have hwp := hwp.2 hc
      have hl : lv_has ls 6 [(0, .ref b), (1, .ref (xa 0))] := lv_sub hl [0, 1] rfl
      exact hj37 v_38 _ _ hwp hP hD hS ls hl
    · have hwp := hwp.1 hc
      refine lv_aload_n hx hb dL_law_26 rfl (lv_at hl 1 rfl) ?_
      refine gBacki (D := D) (tys := gT cI cC cF cO) (A := A) (wr := []) (w1 := gW cI cC cF cO xa) (va_runV (As := []) (rest := []) ⟨hx, hb, hml, hown, hts⟩ (d_X8_spanBits l D cI cC cF cO xa v_38 _  _ hwp) (cwV 0 hts gL_law_X8_spanBits rfl rfl rfl (by decide +kernel) ⟨Nat.le_of_ble_eq_true rfl, Nat.le_of_ble_eq_true rfl⟩) (gPreV (C := RX8) (T := TX8) (N := 9) (ci := 8) hK hX hT hP hD hS hA gI (gI_at cI cC cF cO xa v_38) gI_nd rfl (qb := 0) rfl) rfl rfl hl.1 rfl (lv_room (Nat.le_of_ble_eq_true rfl)) dL_law_27 ⟨Nat.le_of_ble_eq_true rfl, Nat.le_of_ble_eq_true rfl⟩) hP hD hS hA gI [] (gI_at cI cC cF cO xa v_38) rfl rfl (fun i h => absurd h List.not_mem_nil) (fun r_39 v_40 H locs hwp hP hD hS => ?_)
      have hP : va_P D vwCl (gW cI cC cF cO xa v_40) H := hP
      have hD : va_D A (gW cI cC cF cO xa v_40) := hD
      refine lv_if_ne (tgt := 37) hx hb dL_law_30 (by decide) (fun hc => ?_) (fun hc => ?_)
      · have hwp := hwp.2 hc
        have hl : lv_has ls 6 [(0, .ref b), (1, .ref (xa 0))] := lv_sub hl [0, 1] rfl
        exact hj37 v_40 _ _ hwp hP hD hS ls hl
      · have hwp := hwp.1 hc
        refine lv_iconst (v := 1) hx hb dL_law_33 (by decide) ?_
        refine lv_goto (tgt := 38) hx hb dL_law_34 (by decide) ?_
        have hl : lv_has ls 6 [(0, .ref b), (1, .ref (xa 0))] := lv_sub hl [0, 1] rfl
        exact hj38 (1 : Int32) v_40 _ _ hwp hP hD hS ls hl
theorem ml_L_law_0 : (.instantiable RX0 5 : Cond) ∈ wsL_law := List.mem_of_getElem? (i := 19) rfl
theorem ml_L_law_1 : (.instantiable RX1 2 : Cond) ∈ wsL_law := List.mem_of_getElem? (i := 43) rfl
theorem ml_L_law_2 : (.instantiable RX2 3 : Cond) ∈ wsL_law := List.mem_of_getElem? (i := 15) rfl
theorem ml_L_law_3 : (.instantiable RX3 10 : Cond) ∈ wsL_law := List.mem_of_getElem? (i := 27) rfl
theorem ml_L_law_4 : (.instantiable RX4 3 : Cond) ∈ wsL_law := List.mem_of_getElem? (i := 10) rfl
theorem ml_L_law_5 : (.instantiable RX5 7 : Cond) ∈ wsL_law := List.mem_of_getElem? (i := 31) rfl
theorem ml_L_law_6 : (.instantiable RX6 2 : Cond) ∈ wsL_law := List.mem_of_getElem? (i := 35) rfl
theorem ml_L_law_7 : (.instantiable RX7 1 : Cond) ∈ wsL_law := List.mem_of_getElem? (i := 23) rfl
theorem ml_L_law_8 : (.instantiable RX8 9 : Cond) ∈ wsL_law := List.mem_of_getElem? (i := 1) rfl
theorem ml_L_law_9 : (.arrayClass .int : Cond) ∈ wsL_law := List.mem_of_getElem? (i := 48) rfl
theorem ml_L_law_10 : (.arrayClass .char : Cond) ∈ wsL_law := List.mem_of_getElem? (i := 68) rfl
theorem ml_L_law_11 : (.arrayClass .float : Cond) ∈ wsL_law := List.mem_of_getElem? (i := 96) rfl
theorem ml_L_law_12 : (.initialized RX8 : Cond) ∈ wsL_law := List.mem_of_getElem? (i := 2) rfl
theorem ml_L_law_13 : (.classLink RL 10 RX8 : Cond) ∈ wsL_law := List.mem_of_getElem? (i := 0) rfl
theorem ml_L_law_14 : (.methodLink RL 67 yX8_init : Cond) ∈ wsL_law := List.mem_of_getElem? (i := 3) rfl
theorem ml_L_law_15 : (.instanceMethod yX8_init : Cond) ∈ wsL_law := List.mem_of_getElem? (i := 4) rfl
theorem gNW_mem : ∀ w ∈ gNW, w ∈ lw_tbl := by decide +kernel
theorem gAO_mem : (Cond.arrayOver (.object "StoryWall$State")) ∈ lw_tbl := by decide +kernel
theorem gLS_LEAST : (Cond.laysStatic "StoryWall" "LEAST" "[I") ∈ lw_tbl := by decide +kernel
theorem gLS_MOST : (Cond.laysStatic "StoryWall" "MOST" "[I") ∈ lw_tbl := by decide +kernel
theorem g_arrK {s : State} {args : Array Value} {ty : FieldType} (hp : ∀ C, ty ≠ .object C) (h : (Cond.arrayClass ty).before args s = true) : ∃ cA : ClassId, ArrOfT s cA ty ∧ va_RA s cA ty := by
  obtain ⟨c, k, comp, h1, h2, h3⟩ := Cond.arrayClass_spec h
  refine ⟨c, fun n z => ⟨(fun k h => by cases h), k, h2, comp, h3⟩, ?_⟩
  cases ty with
  | object C => exact absurd rfl (hp C)
  | _ => exact h1
theorem g_arrO {s : State} {args : Array Value} {C : String} (h : (Cond.arrayOver (.object C)).before args s = true) : ∃ cA : ClassId, ArrOfT s cA (.object C) ∧ va_RA s cA (.object C) := by
  obtain ⟨comp, c, k, h1, -, h3, h4, h5⟩ := Cond.arrayOver_spec h
  exact ⟨c, fun n z => ⟨(fun k h => by cases h), k, h3, comp, h4⟩, k, comp, h3, h4, h1, h5⟩
theorem g_stat {s : State} {args : Array Value} {n : String} {N : Nat} {f : Nat → Int32} {A : Nat → Prop} (hN : N < 2 ^ 31) (hl : (Cond.laysStatic "StoryWall" n "[I").before args s = true) (hini : (Cond.initialized "StoryWall").before args s = true) (harr : (Cond.arrayOf (.static "StoryWall" n "[I") .int).before args s = true) (hlen : (Cond.eq (.length (.static "StoryWall" n "[I")) (.int (Int32.ofNat N))).before args s = true) (hel : ∀ j : Nat, j < N → (Cond.eq (.elem (.static "StoryWall" n "[I") (.int (Int32.ofNat j))) (.int (f j))).before args s = true) (hA : ∀ a : Nat, a < s.heap.size → ¬ A a) : gS1 n N f A s s.heap := by
  obtain ⟨t, h1, h2⟩ := va_Tof (f := fun j => .int (f j)) hN harr (va_eqt hlen) (fun j hj => va_eqt (hel j hj)) hA
  exact ⟨t, va_Zof hl hini h1 hA, h2⟩
set_option maxHeartbeats 4000000 in
set_option maxRecDepth 100000 in
theorem whole_open {p : Program} {e : Env} {s : State} {m : MethodId} {below : List Frame} {meth : Method} {c : Code} (l : Launch) {b L : Nat} {xs : Nat → Int32} (hL : L ≤ 260) (C0 : lw_At p s m meth c b L xs) (hpure : gPure) : W p l e room_1 s m #[Value.ref b] below meth c s.heap [] 0 0 (lw_Z below #[Value.ref b] s) (entryFrame m ([Value.ref b] : List Value).toArray 6) := by
  have C1 := C0
  obtain ⟨hx, hb, hr, hml, hown, hts0, hXs, hbl, hlocks, hgv⟩ := C0
  have hts : ∀ w ∈ wsL_law, w.before #[Value.ref b] s = true := fun w h => hts0 w (wsL_law_in w h)
  obtain ⟨c0, iS0, hKn0⟩ := u_known (C := RX0) (T := TX0) (N := 5) (n := 5) hts0 wl_s0 (hts _ ml_L_law_0)
  obtain ⟨c1, iS1, hKn1⟩ := u_known (C := RX1) (T := TX1) (N := 2) (n := 2) hts0 wl_s1 (hts _ ml_L_law_1)
  obtain ⟨c2, iS2, hKn2⟩ := u_known (C := RX2) (T := TX2) (N := 3) (n := 3) hts0 wl_s2 (hts _ ml_L_law_2)
  obtain ⟨c3, iS3, hKn3⟩ := u_known (C := RX3) (T := TX3) (N := 10) (n := 10) hts0 wl_s3 (hts _ ml_L_law_3)
  obtain ⟨c4, iS4, hKn4⟩ := u_known (C := RX4) (T := TX4) (N := 3) (n := 3) hts0 wl_s4 (hts _ ml_L_law_4)
  obtain ⟨c5, iS5, hKn5⟩ := u_known (C := RX5) (T := TX5) (N := 7) (n := 7) hts0 wl_s5 (hts _ ml_L_law_5)
  obtain ⟨c6, iS6, hKn6⟩ := u_known (C := RX6) (T := TX6) (N := 2) (n := 2) hts0 wl_s6 (hts _ ml_L_law_6)
  obtain ⟨c7, iS7, hKn7⟩ := u_known (C := RX7) (T := TX7) (N := 1) (n := 1) hts0 wl_s7 (hts _ ml_L_law_7)
  obtain ⟨c8, iS8, hKn8⟩ := u_known (C := RX8) (T := TX8) (N := 9) (n := 9) hts0 wl_s8 (hts _ ml_L_law_8)
  obtain ⟨D, hKc⟩ : ∃ D : va_G, ∀ (k : Nat) (q : vw_C), vwCl[k]? = some q → u_Kn s q.1 q.2.1 q.2.2 (D.1 k) (D.2 k) := by
    refine ⟨(fun k => if k = 0 then c0 else if k = 1 then c1 else if k = 2 then c2 else if k = 3 then c3 else if k = 4 then c4 else if k = 5 then c5 else if k = 6 then c6 else if k = 7 then c7 else c8, fun k => if k = 0 then iS0 else if k = 1 then iS1 else if k = 2 then iS2 else if k = 3 then iS3 else if k = 4 then iS4 else if k = 5 then iS5 else if k = 6 then iS6 else if k = 7 then iS7 else iS8), ?_⟩
    intro k q hq
    match k, hq with
    | 0, hq => cases hq; exact hKn0
    | 1, hq => cases hq; exact hKn1
    | 2, hq => cases hq; exact hKn2
    | 3, hq => cases hq; exact hKn3
    | 4, hq => cases hq; exact hKn4
    | 5, hq => cases hq; exact hKn5
    | 6, hq => cases hq; exact hKn6
    | 7, hq => cases hq; exact hKn7
    | 8, hq => cases hq; exact hKn8
    | k + 9, hq => simp [vwCl] at hq
  obtain ⟨cI, hI1, hI2⟩ := g_arrK (ty := .int) (fun C h => by cases h) (hts _ ml_L_law_9)
  obtain ⟨cC, hC1, hC2⟩ := g_arrK (ty := .char) (fun C h => by cases h) (hts _ ml_L_law_10)
  obtain ⟨cF, hF1, hF2⟩ := g_arrK (ty := .float) (fun C h => by cases h) (hts _ ml_L_law_11)
  have hao := hts0 (.arrayOver (.object "StoryWall$State")) gAO_mem
  obtain ⟨cO, hO1, hO2⟩ := g_arrO hao
  have hK : va_K D vwCl (gT cI cC cF cO) s := by
    refine ⟨hKc, fun k q h => ?_⟩
    match k, h with
    | 0, h => cases h; exact ⟨hI1, hI2⟩
    | 1, h => cases h; exact ⟨hC1, hC2⟩
    | 2, h => cases h; exact ⟨hF1, hF2⟩
    | 3, h => cases h; exact ⟨hO1, hO2⟩
    | k + 4, h => simp [gT] at h
  have hX : gX s := ⟨fun w hw => va_Nw.of (gNW_on w hw) (hts0 w (gNW_mem w hw)), va_AO.of hao⟩
  obtain ⟨A, hAe⟩ : ∃ A : Nat → Prop, A = fun q => s.heap.size ≤ q := ⟨_, rfl⟩
  have hA : ∀ q : Nat, s.heap.size ≤ q → A q := fun q h => by rw [hAe]; exact h
  have hAf : ∀ q : Nat, A q → s.heap.size ≤ q := fun q h => by rw [hAe] at h; exact h
  have hbA : ¬ A b := fun h => absurd (hAf b h) (Nat.not_le.mpr hbl)
  have hAl : ∀ a : Nat, a < s.heap.size → ¬ A a := fun a h h2 => absurd (hAf a h2) (Nat.not_le.mpr h)
  have hgs := flat_of_before _ hgv
  have hini : (Cond.initialized "StoryWall").before #[Value.ref b] s = true := hts _ ml_L_law_12
  have hT : gST A s s.heap := by
    refine ⟨?_, ?_⟩
    · refine g_stat (by decide) (hts0 (.laysStatic "StoryWall" "LEAST" "[I") gLS_LEAST) hini (hgs _ (by decide +kernel)) (hgs _ (by decide +kernel)) (fun j hj => ?_) hAl
      rcases (show j = 0 ∨ j = 1 ∨ j = 2 ∨ j = 3 ∨ j = 4 by omega) with rfl | rfl | rfl | rfl | rfl
      · exact hgs _ (by decide +kernel)
      · exact hgs _ (by decide +kernel)
      · exact hgs _ (by decide +kernel)
      · exact hgs _ (by decide +kernel)
      · exact hgs _ (by decide +kernel)
    · refine g_stat (by decide) (hts0 (.laysStatic "StoryWall" "MOST" "[I") gLS_MOST) hini (hgs _ (by decide +kernel)) (hgs _ (by decide +kernel)) (fun j hj => ?_) hAl
      rcases (show j = 0 ∨ j = 1 ∨ j = 2 ∨ j = 3 ∨ j = 4 by omega) with rfl | rfl | rfl | rfl | rfl
      · exact hgs _ (by decide +kernel)
      · exact hgs _ (by decide +kernel)
      · exact hgs _ (by decide +kernel)
      · exact hgs _ (by decide +kernel)
      · exact hgs _ (by decide +kernel)
  have hS : va_S A s.heap s.heap [] := va_S.rf
  have hP : va_P D vwCl [] s.heap := fun k q h => by simp at h
  have hD : va_D A [] := ⟨fun i j p q h => by simp at h, fun k q h => by simp at h⟩
  have hl := lv_entry ([.ref b]) (n := 6) (Nat.le_of_ble_eq_true rfl)
  rw [lg_entry_eq]
  generalize (lg_sl ([.ref b]) ++ List.replicate (6 - (lg_sl ([.ref b])).length) Slot.unset).toArray = ls at hl ⊢
  have hl : lv_has ls 6 [(0, .ref b)] := hl
  refine va_new (D := D) (ci := 8) (fs := [.null, .null, .null, .null, .null, .null, .null, .null, .int 0]) (C := RX8) (T := TX8) (N := 9) hx hb hts inlX8 tyX8 tyX8_ok hown (hts _ ml_L_law_13) (hts _ ml_L_law_8) (hts _ ml_L_law_12) hK hP hD hS hA rfl (fun j hj => by rcases (show j = 0 ∨ j = 1 ∨ j = 2 ∨ j = 3 ∨ j = 4 ∨ j = 5 ∨ j = 6 ∨ j = 7 ∨ j = 8 by omega) with rfl | rfl | rfl | rfl | rfl | rfl | rfl | rfl | rfl <;> rfl) (Nat.le_of_ble_eq_true rfl) (Nat.le_of_ble_eq_true rfl) dL_law_0 (fun q0 H hP hD hS => ?_)
  have hP : va_P D vwCl [(q0, .inr (8, [.null, .null, .null, .null, .null, .null, .null, .null, .int 0]))] H := hP
  have hD : va_D A [(q0, .inr (8, [.null, .null, .null, .null, .null, .null, .null, .null, .int 0]))] := hD
  refine lv_dup hx hb dL_law_3 rfl ?_
  refine gBackv (D := D) (tys := gT cI cC cF cO) (A := A) (wr := []) (w1 := fun w : va_W => w) (va_runI (As := []) (rest := [.ref q0]) ⟨hx, hb, hml, hown, hts⟩ (ci_X8_init l D cI cC cF cO q0 _) (cwI 0 hts gL_law_X8_init rfl rfl rfl (hts _ ml_L_law_12) (hts _ ml_L_law_14) (hts _ ml_L_law_15) rfl (by decide +kernel) ⟨Nat.le_of_ble_eq_true rfl, Nat.le_of_ble_eq_true rfl⟩) (gPreS hK hX hT hP hD hS hA [0] rfl rfl) rfl rfl hl.1 rfl (lv_room (Nat.le_of_ble_eq_true rfl)) dL_law_4 ⟨Nat.le_of_ble_eq_true rfl, Nat.le_of_ble_eq_true rfl⟩) hP hD hS hA [0] [] rfl rfl rfl (by decide) (fun w H locs hw hP hD hS => ?_)
  obtain ⟨q1, q2, q3, q4, q5, q6, q7, q8, q9, q10, q11, q12, q13, q14, q15, q16, q17, q18, q19, q20, q21, q22, q23, q24, q25, q26, q27, q28, q29, q30, q31, q32, q33, q34, q35, q36, q37, q38, q39, q40, q41, q42, q43, q44, q45, q46, q47, q48, q49, q50, q51, q52, q53, q54, q55, q56, q57, q58, q59, q60, q61, q62, q63, f0, f1, f2, f3, f4, f5, f6, hf0, hf1, hf2, hf3, hf4, hf5, hf6, rfl⟩ := hw
  obtain ⟨xa, hxa⟩ : ∃ xa : Nat → Nat, xa = fun k => ([q0, q1, q2, q3, q4, q5, q6, q7, q8, q9, q10, q11, q12, q13, q14, q15, q16, q17, q18, q19, q20, q21, q22, q23, q24, q25, q26, q27, q28, q29, q30, q31, q32, q33, q34, q35, q36, q37, q38, q39, q40, q41, q42, q43, q44, q45, q46, q47, q48, q49, q50, q51, q52, q53, q54, q55, q56, q57, q58, q59, q60, q61, q62, q63] : List Nat).getD k 0 := ⟨_, rfl⟩
  have ew : ([(q0, .inr (8, [.ref q1, .ref q7, .ref q13, .ref q39, .ref q43, .ref q45, .ref q54, .ref q61, .int (0 : Int32)])), (q1, .inr (4, [.ref q2, .ref q4, .ref q6])), (q2, .inr (1, [.ref q3, .int 0])), (q3, .inl (cI, 200, .inl (fun _ => 0))), (q4, .inr (7, [.ref q5])), (q5, .inl (cI, 96, .inl f0)), (q6, .inl (cI, 3, .inl (upd (upd (upd (fun _ => 0) ((0 : Int32)).toNatClampNeg (3 : Int32)) ((1 : Int32)).toNatClampNeg (100 : Int32)) ((2 : Int32)).toNatClampNeg (100 : Int32)))), (q7, .inr (4, [.ref q8, .ref q10, .ref q12])), (q8, .inr (1, [.ref q9, .int 0])), (q9, .inl (cI, 200, .inl (fun _ => 0))), (q10, .inr (7, [.ref q11])), (q11, .inl (cI, 96, .inl f1)), (q12, .inl (cI, 3, .inl (upd (upd (upd (fun _ => 0) ((0 : Int32)).toNatClampNeg (3 : Int32)) ((1 : Int32)).toNatClampNeg (100 : Int32)) ((2 : Int32)).toNatClampNeg (100 : Int32)))), (q13, .inr (2, [.ref q14, .int 0, .int 0])), (q14, .inl (cO, 4, .inr (.inr (.inr (.inr (gF4 q15 q21 q27 q33)))))), (q15, .inr (4, [.ref q16, .ref q18, .ref q20])), (q16, .inr (1, [.ref q17, .int 0])), (q17, .inl (cI, 200, .inl (fun _ => 0))), (q18, .inr (7, [.ref q19])), (q19, .inl (cI, 96, .inl f2)), (q20, .inl (cI, 3, .inl (upd (upd (upd (fun _ => 0) ((0 : Int32)).toNatClampNeg (3 : Int32)) ((1 : Int32)).toNatClampNeg (100 : Int32)) ((2 : Int32)).toNatClampNeg (100 : Int32)))), (q21, .inr (4, [.ref q22, .ref q24, .ref q26])), (q22, .inr (1, [.ref q23, .int 0])), (q23, .inl (cI, 200, .inl (fun _ => 0))), (q24, .inr (7, [.ref q25])), (q25, .inl (cI, 96, .inl f3)), (q26, .inl (cI, 3, .inl (upd (upd (upd (fun _ => 0) ((0 : Int32)).toNatClampNeg (3 : Int32)) ((1 : Int32)).toNatClampNeg (100 : Int32)) ((2 : Int32)).toNatClampNeg (100 : Int32)))), (q27, .inr (4, [.ref q28, .ref q30, .ref q32])), (q28, .inr (1, [.ref q29, .int 0])), (q29, .inl (cI, 200, .inl (fun _ => 0))), (q30, .inr (7, [.ref q31])), (q31, .inl (cI, 96, .inl f4)), (q32, .inl (cI, 3, .inl (upd (upd (upd (fun _ => 0) ((0 : Int32)).toNatClampNeg (3 : Int32)) ((1 : Int32)).toNatClampNeg (100 : Int32)) ((2 : Int32)).toNatClampNeg (100 : Int32)))), (q33, .inr (4, [.ref q34, .ref q36, .ref q38])), (q34, .inr (1, [.ref q35, .int 0])), (q35, .inl (cI, 200, .inl (fun _ => 0))), (q36, .inr (7, [.ref q37])), (q37, .inl (cI, 96, .inl f5)), (q38, .inl (cI, 3, .inl (upd (upd (upd (fun _ => 0) ((0 : Int32)).toNatClampNeg (3 : Int32)) ((1 : Int32)).toNatClampNeg (100 : Int32)) ((2 : Int32)).toNatClampNeg (100 : Int32)))), (q39, .inr (0, [.ref q40, .ref q41, .int 0, .int 0, .int 0])), (q40, .inl (cC, 60, .inl (fun _ => 0))), (q41, .inr (1, [.ref q42, .int 0])), (q42, .inl (cI, 200, .inl (fun _ => 0))), (q43, .inr (7, [.ref q44])), (q44, .inl (cI, 96, .inl f6)), (q45, .inr (3, [.ref q46, .ref q48, .ref q49, .ref q50, .ref q51, .ref q52, .ref q53, .int 0, .int 0, .int 0])), (q46, .inr (1, [.ref q47, .int 0])), (q47, .inl (cI, 200, .inl (fun _ => 0))), (q48, .inl (cI, 40, .inl (fun _ => 0))), (q49, .inl (cI, 40, .inl (fun _ => 0))), (q50, .inl (cI, 40, .inl (fun _ => 0))), (q51, .inl (cI, 40, .inl (fun _ => 0))), (q52, .inl (cI, 6, .inl (fun _ => 0))), (q53, .inl (cI, 6, .inl (fun _ => 0))), (q54, .inr (5, [.ref q55, .ref q56, .ref q57, .ref q58, .ref q59, .ref q60, .int 0])), (q55, .inl (cI, 40, .inl (fun _ => 0))), (q56, .inl (cI, 40, .inl (fun _ => 0))), (q57, .inl (cI, 40, .inl (fun _ => 0))), (q58, .inl (cI, 40, .inl (fun _ => 0))), (q59, .inl (cI, 40, .inl (fun _ => 0))), (q60, .inl (cI, 40, .inl (fun _ => 0))), (q61, .inr (6, [.ref q62, .ref q63])), (q62, .inl (cF, 16, .inr (.inr (.inl (fun _ => 0))))), (q63, .inl (cI, 16, .inl (fun _ => 0)))] : va_W) = gW cI cC cF cO xa (gInitV f0 f1 f2 f3 f4 f5 f6) := by rw [hxa]; rfl
  have hP : va_P D vwCl (gW cI cC cF cO xa (gInitV f0 f1 f2 f3 f4 f5 f6)) H := ew ▸ hP
  have hD : va_D A (gW cI cC cF cO xa (gInitV f0 f1 f2 f3 f4 f5 f6)) := ew ▸ hD
  have eq0 : q0 = xa 0 := by rw [hxa]; rfl
  refine lv_astore_n (lv' := [(1, .ref q0), (0, .ref b)]) hx hb dL_law_7 rfl hl (by decide) rfl (fun ls hl => ?_)
  rw [eq0] at hl
  refine W.widen (k := 600000) (n := 7302250) (Nat.le_of_ble_eq_true rfl) (Nat.le_of_ble_eq_true rfl) ?_
  exact law_body l hL C1 D cI cC cF cO A hAf hbA hA hK hX hT xa (gInitV f0 f1 f2 f3 f4 f5 f6) (hpure (gcell L xs) (gcell_nn L xs) f0 f1 f2 f3 f4 f5 f6 hf0 hf1 hf2 hf3 hf4 hf5 hf6) H locs hP hD hS ls (lv_sub hl [1, 0] rfl)
