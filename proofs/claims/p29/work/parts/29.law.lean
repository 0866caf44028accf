/-! the law's body -/
theorem sv_init (f0 : Nat → Int32) (f1 : Nat → Int32) (f2 : Nat → Int32) (f3 : Nat → Int32) (f4 : Nat → Int32) (f5 : Nat → Int32) (f6 : Nat → Int32) (h : gW96 f0) : SV aS none (gInitV f0 f1 f2 f3 f4 f5 f6) := by
  exact ⟨aS_ok, aS_RC h, rfl, fun _ => aS, 0, ⟨0, by omega, by omega, rfl, rfl, fun j hj => absurd hj (Nat.not_lt_zero _)⟩⟩
section
variable {b : Option AS} {v : VT} {post : Int32 → VT → Prop} {F : Int32 → Int32}
theorem w_all {a : AS} (hV : SV a b v) (hp : ∀ v, SV a b v → post 1 v) : wv_L_isAll v post := by
  obtain ⟨n, num, row, st⟩ := a
  exact w_isAll hV hp
theorem law_208 {a : AS} (hV : SV a none v) (hp : ∀ v, post 1 v) : wv_L_law_j208 F 1 v post := by
  obtain ⟨n, num, row, st⟩ := a
  unfold wv_L_law_j208
  refine q_count1 hV (fun v hV => ?_)
  refine q_count3 hV (fun v hV => ?_)
  refine ⟨fun d => absurd d (by decide), fun _ => ?_⟩
  refine w_all hV (fun v hV => ⟨fun d => absurd d (by decide), fun _ => ?_⟩)
  refine q_keep hV (fun v hV => ⟨fun _ => ?_, fun d => absurd rfl d⟩)
  have tail : ∀ (a2 : AS) v, SV a2 (some (n, num, row, st)) v → wv_restore v (fun (r_14 : Int32) (v_15 : VT) => ((r_14 = nI (pre row 96).length) → (wv_count ((3 : Int32)) v_15 (fun (r_16 : Int32) (v_17 : VT) => ((r_16 = nI (tallyF num st (pre row 96) 12 none none)) → (wv_L_law_j277 F (1 : Int32) v_17  post)) ∧ (¬ (r_16 = nI (tallyF num st (pre row 96) 12 none none)) → (wv_L_law_j276 F v_17  post))))) ∧ (¬ (r_14 = nI (pre row 96).length) → (wv_L_law_j276 F v_15  post))) := by
    intro a2 v hV
    refine q_restore hV (fun v hV => ⟨fun _ => ?_, fun d => absurd rfl d⟩)
    refine q_count3 hV (fun v hV => ⟨fun _ => ?_, fun d => absurd rfl d⟩)
    unfold wv_L_law_j277
    refine ⟨fun d => absurd d (by decide), fun _ => ?_⟩
    exact w_all hV (fun v hV => ⟨fun d => absurd d (by decide), fun _ => hp v⟩)
  have hO : rowOk n row := hV.1.2.1
  have hN : numOk n num := hV.1.1
  have hOx : rowOk n (xRow row 0 1) := x_ok hO (by omega) (by omega)
  have tl := tallyF_le2 (num := num) (st := st) (w := 12) (t := none) (sc := none) (RRd_pre hOx hN)
  refine q_swapScenes (i := 0) (j := 1) hV (by omega) (by omega) (by omega) (fun v hV => ?_) (fun v hV => ?_)
  · exact ⟨fun d => absurd d (by decide), fun _ => tail _ v hV⟩
  · have e5 : (-5 : Int32) = -nI 5 := rfl
    exact ⟨fun d => absurd d (by rw [e5, z_ltn (by omega) (by omega)]; exact id), fun _ => tail _ v hV⟩
theorem law_155 {a : AS} (hF : ∀ k, ∃ m : Nat, m < 2147483648 ∧ F k = nI m) (hV : SV a none v) (h0 : 0 < a.1) (hp : ∀ v, post 1 v) : wv_L_law_l155 F 1 0 v post := by
  unfold wv_L_law_l155
  refine lf3_i (fun x2 x4 v => ∃ j, j ≤ 14 ∧ x4 = nI j ∧ x2 = 1 ∧ ∃ a : AS, 0 < a.1 ∧ SV a none v) (fun _ x4 _ => 14 - x4.toNatClampNeg) ⟨0, by omega, rfl, rfl, a, h0, hV⟩ ?_
  clear hV h0 a
  rintro x2 x4 v ⟨j, hj, rfl, rfl, a, h0, hV⟩
  rw [l14, z_le (by omega) (by omega)]
  refine ⟨fun _ => law_208 hV hp, fun hx => ⟨fun d => absurd d (by decide), fun _ => ?_⟩⟩
  have hdec : 14 - (nI (j + 1)).toNatClampNeg < 14 - (nI j).toNatClampNeg := by simp (disch := omega) only [z_cl]; omega
  refine ⟨by rw [l16, z_add, l0, z_le (by omega) (by omega)]; omega, ?_⟩
  obtain ⟨m, hm, em⟩ := hF (16 + nI j)
  rw [em]
  have e1 : nI j + (1 : Int32) = nI (j + 1) := by rw [l1, z_add]
  rw [e1]
  obtain ⟨n, num, row, st⟩ := a
  refine w_acts hm hV h0 (fun a2 v ha hV => ⟨fun d => absurd d (by decide), fun _ => ?_⟩)
  have h2 : 0 < a2.1 := by rw [ha]; exact h0
  refine ⟨fun _ => ⟨⟨j + 1, by omega, rfl, rfl, a2, h2, hV⟩, hdec⟩, fun _ => ?_⟩
  exact w_all hV (fun v hV => ⟨fun d => absurd d (by decide), fun _ => ⟨⟨j + 1, by omega, rfl, rfl, a2, h2, hV⟩, hdec⟩⟩)
theorem law_53 {many : Nat} (hF : ∀ k, ∃ m : Nat, m < 2147483648 ∧ F k = nI m) (h4 : 0 < many) (h13 : many ≤ 40) (hV : SV aS none v) (hp : ∀ v, post 1 v) : wv_L_law_l53 F 1 (nI many) 0 v post := by
  unfold wv_L_law_l53
  refine lf3_i (fun x2 x4 v => ∃ k, k ≤ many ∧ x4 = nI k ∧ x2 = 1 ∧ ∃ a : AS, a.1 = k ∧ SV a none v) (fun _ x4 _ => many - x4.toNatClampNeg) ⟨0, by omega, rfl, rfl, aS, rfl, hV⟩ ?_
  clear hV
  rintro x2 x4 v ⟨k, hk, rfl, rfl, a, ha, hV⟩
  rw [z_le (by omega) (by omega)]
  refine ⟨fun hx => law_155 hF hV (by omega) hp, fun hx => ⟨fun d => absurd d (by decide), fun _ => ?_⟩⟩
  have hdec : many - (nI (k + 1)).toNatClampNeg < many - (nI k).toNatClampNeg := by simp (disch := omega) only [z_cl]; omega
  refine ⟨by rw [l1, z_add, l0, z_le (by omega) (by omega)]; omega, ?_⟩
  obtain ⟨m, hm, em⟩ := hF (1 + nI k)
  have e1 : nI k + (1 : Int32) = nI (k + 1) := by rw [l1, z_add]
  rw [em, e1]
  have s2 : nI m >>> ((2 : Int32) &&& 31) = nI (m / 4) := pk_shrN hm _ 2 rfl
  have s9 : nI m >>> ((9 : Int32) &&& 31) = nI (m / 512) := pk_shrN hm _ 9 rfl
  have s16 : nI m >>> ((16 : Int32) &&& 31) = nI (m / 65536) := pk_shrN hm _ 16 rfl
  have s23 : nI m >>> ((23 : Int32) &&& 31) = nI (m / 8388608) := pk_shrN hm _ 23 rfl
  have a3 : nI m - nI m / (3 : Int32) * (3 : Int32) = nI (m % 3) := z_md (d := 3) (by omega) (by omega) (by omega)
  have a2 : nI (m / 4) - nI (m / 4) / (40 : Int32) * (40 : Int32) = nI (m / 4 % 40) := z_md (d := 40) (by omega) (by omega) (by omega)
  have a9 : nI (m / 512) - nI (m / 512) / (99 : Int32) * (99 : Int32) = nI (m / 512 % 99) := z_md (d := 99) (by omega) (by omega) (by omega)
  have a16 : nI (m / 65536) - nI (m / 65536) / (101 : Int32) * (101 : Int32) = nI (m / 65536 % 101) := z_md (d := 101) (by omega) (by omega) (by omega)
  have a23 : nI (m / 8388608) - nI (m / 8388608) / (4 : Int32) * (4 : Int32) = nI (m / 8388608 % 4) := z_md (d := 4) (by omega) (by omega) (by omega)
  have ew : (1 : Int32) + nI (m / 512 % 99) = nI (1 + m / 512 % 99) := by rw [l1, z_add]
  rw [s2, s9, s16, s23, a3, a2, a9, a16, a23, ew]
  obtain ⟨n, num, row, st⟩ := a
  have hnk : n = k := ha
  subst hnk
  have h3 := Nat.mod_lt m (show 3 > 0 by omega)
  have h40 := Nat.mod_lt (m / 4) (show 40 > 0 by omega)
  have h99 := Nat.mod_lt (m / 512) (show 99 > 0 by omega)
  have h101 := Nat.mod_lt (m / 65536) (show 101 > 0 by omega)
  have hO : rowOk n row := hV.1.2.1
  refine q_add hV (by omega) (by omega) (by omega) (by omega) (by omega) (by omega) (fun v hV => ⟨fun _ => ?_, fun d => absurd rfl d⟩)
  have hno : ∀ j, j < (pre row 96).length → cd (pre row 96) j ≠ n := fun j hj => by
    have := cd_lt hO hj; omega
  refine q_cardOff5 hV (show n < n + 1 by omega) hno (fun v hV => ⟨fun _ => ?_, fun d => absurd rfl d⟩)
  refine w_pins (p := 0) hV (show n < n + 1 by omega) (show m / 8388608 % 4 < 16 by omega) (by omega) (fun a2 v ha2 hV => ⟨fun d => absurd d (by decide), fun _ => ?_⟩)
  exact ⟨⟨n + 1, by omega, rfl, rfl, a2, ha2, hV⟩, hdec⟩
end
theorem law_pure : gPure := by
  intro F hF0 f0 f1 f2 f3 f4 f5 f6 hf0 hf1 hf2 hf3 hf4 hf5 hf6
  have hF : ∀ k, ∃ m : Nat, m < 2147483648 ∧ F k = nI m := fun k => nn_ex (hF0 k)
  have hV := sv_init f0 f1 f2 f3 f4 f5 f6 hf0
  unfold wv_L_law
  refine q_undo0 hV rfl (fun v hV => ⟨fun _ => ?_, fun d => absurd rfl d⟩)
  refine q_restore0 hV (fun v hV => ⟨fun _ => ?_, fun d => absurd rfl d⟩)
  have hV0 : SV (0, fun _ _ => 0, fun _ => [], fun i => if i = 0 then 3 else 100) none v := hV
  refine q_span0 hV0 rfl (fun v hV => ⟨fun _ => ?_, fun d => absurd rfl d⟩)
  unfold wv_L_law_j38
  refine ⟨by decide, ?_⟩
  obtain ⟨m, hm, em⟩ := hF 0
  have a10 : nI m - nI m / (10 : Int32) * (10 : Int32) = nI (m % 10) := z_md (d := 10) (by omega) (by omega) (by omega)
  rw [em, a10, l4, z_add]
  exact law_53 hF (by omega) (by omega) hV (fun v => rfl)
