/-! floats: the bits of what is not negative -/
theorem n32_of {a : UInt32} (h : a.toNat % 2147483648 ≤ 2139095040) : vf_n32 a := by
  show a &&& 0x7fffffff ≤ 0x7f800000
  rw [UInt32.le_iff_toNat_le, UInt32.toNat_and]
  have e1 : a.toNat &&& (0x7fffffff : UInt32).toNat = a.toNat % 2147483648 := Nat.and_two_pow_sub_one_eq_mod a.toNat 31
  rw [e1]; exact h
theorem n32_lt {a : UInt32} (h : a.toNat ≤ 2139095040) : vf_n32 a := n32_of (by omega)
theorem nn_lt {a : UInt32} (h : a.toNat ≤ 2139095040) : FP.Core.val32 a ≠ .nan := (FP.Core.ne_nan32 a).mpr (by omega)
theorem fc_of {a b : UInt32} (ha : a.toNat ≤ 2139095040) (hb : b.toNat ≤ 2139095040) : (a.toNat < b.toNat ∧ FP.fcmp a b = some .lt) ∨ (a.toNat = b.toNat ∧ FP.fcmp a b = some .eq) ∨ (b.toNat < a.toNat ∧ FP.fcmp a b = some .gt) := by
  have h := FP.Core.mono_bits32 (nn_lt ha) (nn_lt hb) (by omega) (by omega)
  rcases Nat.lt_trichotomy a.toNat b.toNat with q | q | q
  · exact Or.inl ⟨q, h.1.mpr q⟩
  · exact Or.inr (Or.inl ⟨q, h.2.1.mpr q⟩)
  · exact Or.inr (Or.inr ⟨q, h.2.2.mpr q⟩)
theorem cv_lt (op : CmpOp) : Op.cmpValue (some .lt) op = -1 := rfl
theorem cv_eq (op : CmpOp) : Op.cmpValue (some .eq) op = 0 := rfl
theorem cv_gt (op : CmpOp) : Op.cmpValue (some .gt) op = 1 := rfl
theorem fc_lt {a b : UInt32} (op : CmpOp) (ha : a.toNat ≤ 2139095040) (hb : b.toNat ≤ 2139095040) : (Op.cmpValue (FP.fcmp a b) op < 0) ↔ a.toNat < b.toNat := by
  rcases fc_of ha hb with ⟨q, h⟩ | ⟨q, h⟩ | ⟨q, h⟩ <;> rw [h] <;> first | rw [cv_lt] | rw [cv_eq] | rw [cv_gt]
  · exact ⟨fun _ => q, fun _ => by decide⟩
  · exact ⟨fun c => absurd c (by decide), fun c => by omega⟩
  · exact ⟨fun c => absurd c (by decide), fun c => by omega⟩
theorem fc_le {a b : UInt32} (op : CmpOp) (ha : a.toNat ≤ 2139095040) (hb : b.toNat ≤ 2139095040) : (Op.cmpValue (FP.fcmp a b) op ≤ 0) ↔ a.toNat ≤ b.toNat := by
  rcases fc_of ha hb with ⟨q, h⟩ | ⟨q, h⟩ | ⟨q, h⟩ <;> rw [h] <;> first | rw [cv_lt] | rw [cv_eq] | rw [cv_gt]
  · exact ⟨fun _ => by omega, fun _ => by decide⟩
  · exact ⟨fun _ => by omega, fun _ => by decide⟩
  · exact ⟨fun c => absurd c (by decide), fun c => by omega⟩
theorem fc_ge {a b : UInt32} (op : CmpOp) (ha : a.toNat ≤ 2139095040) (hb : b.toNat ≤ 2139095040) : (0 ≤ Op.cmpValue (FP.fcmp a b) op) ↔ b.toNat ≤ a.toNat := by
  rcases fc_of ha hb with ⟨q, h⟩ | ⟨q, h⟩ | ⟨q, h⟩ <;> rw [h] <;> first | rw [cv_lt] | rw [cv_eq] | rw [cv_gt]
  · exact ⟨fun c => absurd c (by decide), fun c => by omega⟩
  · exact ⟨fun _ => by omega, fun _ => by decide⟩
  · exact ⟨fun _ => by omega, fun _ => by decide⟩
/-- it is greater than -1.0f -/
theorem fc_m1 {a : UInt32} (op : CmpOp) (ha : a.toNat ≤ 2139095040) : ¬ Op.cmpValue (FP.fcmp a 3212836864) op ≤ 0 := by
  have h : FP.fcmp a 3212836864 = some .gt := by
    refine (FP.Core.fcmp_gt_key (nn_lt ha) ?_).mpr ?_
    · exact (FP.Core.ne_nan32 _).mpr (by decide)
    · unfold FP.Core.fkey
      rw [if_pos (by decide), if_neg (by omega)]
      have e : (3212836864 : UInt32).toNat = 3212836864 := rfl
      rw [e]; omega
  rw [h, cv_gt]; decide
theorem v_bits {a : UInt32} (h : a.toNat < 2139095040) : FP.Core.val32 a = if a.toNat < 8388608 then .fin false a.toNat (-149) else .fin false (8388608 + a.toNat % 8388608) (-149 + (((a.toNat / 8388608 : Nat) : Int) - 1)) := by
  have e1 : FP.Core.val32 a = FP.Core.decode FP.Core.b32 a.toNat := rfl
  have e2 : FP.Core.fieldE FP.Core.b32 a.toNat = a.toNat / 8388608 % 256 := rfl
  have e3 : FP.Core.fieldT FP.Core.b32 a.toNat = a.toNat % 8388608 := rfl
  have e4 : FP.Core.b32.exps - 1 = 255 := rfl
  have e5 : FP.Core.fieldS FP.Core.b32 a.toNat = (a.toNat / 8388608 / 256 % 2 == 1) := rfl
  have e6 : (a.toNat / 8388608 / 256 % 2 == 1) = false := beq_eq_false_iff_ne.mpr (by omega)
  have e7 : FP.Core.b32.qmin = -149 := rfl
  have e8 : FP.Core.b32.tails = 8388608 := rfl
  rw [e1]
  unfold FP.Core.decode
  rw [e2, e3, e4, e5, e6, e7, e8, if_neg (by omega)]
  by_cases hs : a.toNat < 8388608
  · rw [if_pos hs, if_pos (by omega), Nat.mod_eq_of_lt hs]
  · rw [if_neg hs, if_neg (by omega), Nat.mod_eq_of_lt (show a.toNat / 8388608 < 256 by omega)]
theorem v_two : FP.Core.val32 FP.fconst2 = .fin false 8388608 (-22) := by decide +kernel
theorem v_23 : FP.Core.val32 1258291200 = .fin false 8388608 0 := by decide +kernel
theorem fits32 {c : Nat} {q : Int} (h1 : c < 16777216) (h2 : -149 ≤ q) (h3 : q ≤ 104) (h4 : q = -149 ∨ 8388608 ≤ c) : FP.Core.fits FP.Core.b32 (.fin false c q) := ⟨h1, h2, h3, h4⟩
theorem f_half {a : UInt32} (h1 : 1073741824 ≤ a.toNat) (h2 : a.toNat < 2139095040) : (FP.fdiv a FP.fconst2).toNat = a.toNat - 8388608 := by
  have eb : (UInt32.ofNat (a.toNat - 8388608)).toNat = a.toNat - 8388608 := UInt32.toNat_ofNat_of_lt' (by show _ < 4294967296; omega)
  have hv : FP.Core.val32 (UInt32.ofNat (a.toNat - 8388608)) = FP.Core.val32 (FP.fdiv a FP.fconst2) := by
    have hd : FP.Core.val32 (FP.fdiv a FP.fconst2) = FP.Core.quotient FP.Core.b32 (FP.Core.val32 a) (FP.Core.val32 FP.fconst2) := FP.Core.val32_fdiv a FP.fconst2
    rw [hd, v_bits h2, v_bits (by rw [eb]; omega), eb, if_neg (by omega), if_neg (by omega), v_two]
    simp only [FP.Core.quotient]
    rw [if_neg (show ¬ 8388608 = 0 by decide)]
    refine (FP.Core.roundRatio_exact FP.Core.good_b32 (by decide) (fits32 (by omega) (by omega) (by omega) (Or.inr (by omega))) ?_).symm
    have x1 : (a.toNat - 8388608) % 8388608 = a.toNat % 8388608 := by omega
    have x2 : (a.toNat - 8388608) / 8388608 = a.toNat / 8388608 - 1 := by omega
    rw [x1, x2]
    have x3 : ((-149 + (((a.toNat / 8388608 : Nat) : Int) - 1) - -22) - (-149 + (((a.toNat / 8388608 - 1 : Nat) : Int) - 1))).toNat = 23 := by omega
    have x4 : ((-149 + (((a.toNat / 8388608 - 1 : Nat) : Int) - 1)) - (-149 + (((a.toNat / 8388608 : Nat) : Int) - 1) - -22)).toNat = 0 := by omega
    rw [x3, x4]; omega
  have := FP.Core.val32_inj (nn_lt (by rw [eb]; omega)) hv
  rw [← this, eb]
def dblB (m : Nat) : Nat := if m < 8388608 then 2 * m else m + 8388608
theorem f_dbl {a : UInt32} (h1 : a.toNat < 1065353216) : (FP.fmul a FP.fconst2).toNat = dblB a.toNat := by
  have hb : dblB a.toNat < 2139095040 := by unfold dblB; split <;> omega
  have eb : (UInt32.ofNat (dblB a.toNat)).toNat = dblB a.toNat := UInt32.toNat_ofNat_of_lt' (by show _ < 4294967296; omega)
  have hv : FP.Core.val32 (UInt32.ofNat (dblB a.toNat)) = FP.Core.val32 (FP.fmul a FP.fconst2) := by
    have hd : FP.Core.val32 (FP.fmul a FP.fconst2) = FP.Core.round FP.Core.b32 (FP.Core.exactProduct (FP.Core.val32 a) (FP.Core.val32 FP.fconst2)) := FP.Core.val32_fmul a FP.fconst2
    rw [hd, v_bits (show a.toNat < 2139095040 by omega), v_bits (by rw [eb]; omega), eb, v_two]
    unfold dblB
    by_cases hs : a.toNat < 8388608
    · rw [if_pos hs, if_pos hs]
      show _ = FP.Core.roundRatio FP.Core.b32 (false != false) (a.toNat * 8388608) 1 (-149 + -22)
      have key : FP.Core.roundRatio FP.Core.b32 (false != false) (a.toNat * 8388608) 1 (-149 + -22) = .fin false (2 * a.toNat) (-149) := by
        refine FP.Core.roundRatio_exact FP.Core.good_b32 (by decide) (fits32 (by omega) (by omega) (by omega) (Or.inl rfl)) ?_
        have x3 : ((-149 + -22 : Int) - -149).toNat = 0 := by decide
        have x4 : ((-149 : Int) - (-149 + -22)).toNat = 22 := by decide
        rw [x3, x4]; omega
      rw [key]
      by_cases h2 : 2 * a.toNat < 8388608
      · rw [if_pos h2]
      · rw [if_neg h2]
        have y1 : 8388608 + 2 * a.toNat % 8388608 = 2 * a.toNat := by omega
        have y2 : 2 * a.toNat / 8388608 = 1 := by omega
        rw [y1, y2]; rfl
    · rw [if_neg hs, if_neg hs, if_neg (by omega)]
      show _ = FP.Core.roundRatio FP.Core.b32 (false != false) ((8388608 + a.toNat % 8388608) * 8388608) 1 (-149 + (((a.toNat / 8388608 : Nat) : Int) - 1) + -22)
      refine (FP.Core.roundRatio_exact FP.Core.good_b32 (by decide) (fits32 (by omega) (by omega) (by omega) (Or.inr (by omega))) ?_).symm
      have x1 : (a.toNat + 8388608) % 8388608 = a.toNat % 8388608 := by omega
      have x2 : (a.toNat + 8388608) / 8388608 = a.toNat / 8388608 + 1 := by omega
      rw [x1, x2]
      have x3 : ((-149 + (((a.toNat / 8388608 : Nat) : Int) - 1) + -22) - (-149 + (((a.toNat / 8388608 + 1 : Nat) : Int) - 1))).toNat = 0 := by omega
      have x4 : ((-149 + (((a.toNat / 8388608 + 1 : Nat) : Int) - 1)) - (-149 + (((a.toNat / 8388608 : Nat) : Int) - 1) + -22)).toNat = 23 := by omega
      rw [x3, x4]; omega
  have := FP.Core.val32_inj (nn_lt (by rw [eb]; omega)) hv
  rw [← this, eb]
/-- the value in units of 2^-149 -/
def uB (m : Nat) : Nat := if m < 8388608 then m else (8388608 + m % 8388608) * 2 ^ (m / 8388608 - 1)
theorem uB_dbl {m : Nat} (h : m < 2130706432) : uB (dblB m) = 2 * uB m := by
  unfold dblB uB
  by_cases h1 : m < 8388608
  · rw [if_pos h1, if_pos h1]
    by_cases h2 : 2 * m < 8388608
    · rw [if_pos h2]
    · rw [if_neg h2, show 2 * m / 8388608 - 1 = 0 by omega]; omega
  · rw [if_neg h1, if_neg h1, if_neg (by omega), show (m + 8388608) % 8388608 = m % 8388608 by omega, show (m + 8388608) / 8388608 - 1 = m / 8388608 - 1 + 1 by omega, Nat.pow_succ]
    rw [← Nat.mul_assoc, Nat.mul_comm 2]
theorem v_uB {a : UInt32} (h : a.toNat < 2139095040) : ∃ c q, FP.Core.val32 a = .fin false c q ∧ -149 ≤ q ∧ c * 2 ^ (q + 149).toNat = uB a.toNat := by
  rw [v_bits h]
  unfold uB
  by_cases hs : a.toNat < 8388608
  · rw [if_pos hs, if_pos hs]; exact ⟨_, _, rfl, by omega, by simp⟩
  · rw [if_neg hs, if_neg hs]
    refine ⟨_, _, rfl, by omega, ?_⟩
    rw [show (-149 + (((a.toNat / 8388608 : Nat) : Int) - 1) + 149).toNat = a.toNat / 8388608 - 1 by omega]
theorem f_int {a : UInt32} {N : Nat} (h : a.toNat < 1073741824) (hu : uB a.toNat = N * 2 ^ 126) (hN : N ≤ 16777216) : FP.f2i (FP.fmul a 1258291200) = nI N ∧ vf_n32 (FP.fmul a 1258291200) := by
  obtain ⟨c, q, hv, hq, hc⟩ := v_uB (show a.toNat < 2139095040 by omega)
  have hd : FP.Core.val32 (FP.fmul a 1258291200) = FP.Core.round FP.Core.b32 (FP.Core.exactProduct (FP.Core.val32 a) (FP.Core.val32 1258291200)) := FP.Core.val32_fmul a 1258291200
  have hw : FP.Core.Whole (N : Int) (FP.Core.val32 (FP.fmul a 1258291200)) := by
    rw [hd, hv, v_23]
    refine FP.Core.whole_round FP.Core.good_b32 FP.Core.wide_b32 (show ((N : Int)).natAbs ≤ 16777216 by omega) ?_
    show FP.Core.signed (false != false) (c * 8388608 * 2 ^ (q + 0).toNat) = (N : Int) * ((2 ^ (-(q + 0)).toNat : Nat) : Int)
    rw [Int.add_zero]
    show ((c * 8388608 * 2 ^ q.toNat : Nat) : Int) = (N : Int) * ((2 ^ (-q).toNat : Nat) : Int)
    rw [← Int.natCast_mul]
    congr 1
    rw [hu] at hc
    have hp : 0 < 2 ^ (q + 149).toNat * 2 ^ (-q).toNat := Nat.mul_pos (Nat.two_pow_pos _) (Nat.two_pow_pos _)
    have e1 : 2 ^ (q + 149).toNat * 2 ^ (-q).toNat = 2 ^ 149 * 2 ^ q.toNat := by
      rw [← Nat.pow_add, ← Nat.pow_add]; congr 1; omega
    refine Nat.eq_of_mul_eq_mul_right (show 0 < 2 ^ (q + 149).toNat from Nat.two_pow_pos _) ?_
    calc c * 8388608 * 2 ^ q.toNat * 2 ^ (q + 149).toNat = (c * 2 ^ (q + 149).toNat) * 8388608 * 2 ^ q.toNat := by ac_rfl
      _ = N * (2 ^ 126 * 8388608) * 2 ^ q.toNat := by rw [hc]; ac_rfl
      _ = N * (2 ^ 149 * 2 ^ q.toNat) := by rw [show 2 ^ 126 * 8388608 = 2 ^ 149 from by decide]; ac_rfl
      _ = N * 2 ^ (-q).toNat * 2 ^ (q + 149).toNat := by rw [← e1]; ac_rfl
  have ht : (nI N).toInt = (N : Int) := z_toInt (by omega)
  refine ⟨FP.Core.f2i_int (by unfold FP.Core.FInt; rw [ht]; exact hw), ?_⟩
  have hnn : FP.Core.val32 (FP.fmul a 1258291200) ≠ .nan := by
    intro e; rw [e] at hw; exact hw
  exact n32_of ((FP.Core.ne_nan32 _).mp hnn)
theorem t_two : FP.fconst2.toNat = 1073741824 := rfl
theorem t_one : FP.fconst1.toNat = 1065353216 := rfl
/-- the bits of what is not negative, and finite -/
theorem s_bitsOf {d : UInt32} {post : Int32 → Prop} (hd : d.toNat < 2139095040) (h : post (nI d.toNat)) : wp_X8_bitsOf d post := by
  unfold wp_X8_bitsOf wp_X8_bitsOf_l5
  have fin : ∀ (x : UInt32) (e N : Nat), x.toNat < 1073741824 → 1 ≤ e → e ≤ 254 → uB x.toNat = N * 2 ^ 126 → N ≤ 16777216 → (e - 1) * 8388608 + N = d.toNat → wp_X8_bitsOf_j49 x (nI e) post := by
    intro x e N h1 h2 h3 h4 h5 h6
    have hf := f_int h1 h4 h5
    unfold wp_X8_bitsOf_j49
    refine ⟨hf.2, ?_⟩
    rw [hf.1, l1, z_sub h2, pk_shlN (n := e - 1) ((23 : Int32) &&& 31) 23 (by decide) (by omega), z_add]
    rw [show (e - 1) * 2 ^ 23 + N = d.toNat by omega]; exact h
  have l28 : ∀ (x : UInt32) (e : Nat), x.toNat < 1073741824 → 1 ≤ e → e ≤ 254 → ((8388608 ≤ d.toNat ∧ 8388608 ≤ x.toNat ∧ x.toNat + 8388608 * e = d.toNat + 1065353216) ∨ (d.toNat < 8388608 ∧ e ≤ 127 ∧ uB x.toNat = d.toNat * 2 ^ (127 - e))) → wp_X8_bitsOf_l28 x (nI e) post := by
    intro x e h1 h2 h3 h4
    unfold wp_X8_bitsOf_l28
    refine lf2_i (fun x x2 => ∃ e, x2 = nI e ∧ x.toNat < 1073741824 ∧ 1 ≤ e ∧ e ≤ 254 ∧ ((8388608 ≤ d.toNat ∧ 8388608 ≤ x.toNat ∧ x.toNat + 8388608 * e = d.toNat + 1065353216) ∨ (d.toNat < 8388608 ∧ e ≤ 127 ∧ uB x.toNat = d.toNat * 2 ^ (127 - e)))) (fun _ x2 => x2.toNatClampNeg) ⟨e, rfl, h1, h2, h3, h4⟩ ?_
    clear h1 h2 h3 h4 x e
    rintro x x2 ⟨e, rfl, h1, h2, h3, h4⟩
    rw [fc_ge .g (by omega) (by rw [t_one]; decide), t_one]
    refine ⟨fun q => ?_, fun q => ⟨fun q2 => ?_, fun q2 => ?_⟩⟩
    · have hu : uB x.toNat = (x.toNat - 1056964608) * 2 ^ 126 := by
        unfold uB
        rw [if_neg (by omega), show x.toNat / 8388608 - 1 = 126 by omega, show 8388608 + x.toNat % 8388608 = x.toNat - 1056964608 by omega]
      rcases h4 with ⟨c1, c2, c3⟩ | ⟨c1, c2, c3⟩
      · exact fin x e _ h1 h2 h3 hu (by omega) (by omega)
      · exfalso
        rw [hu] at c3
        have h5 : 2 ^ (127 - e) ≤ 2 ^ 126 := Nat.pow_le_pow_right (by decide) (by omega)
        have h6 : d.toNat * 2 ^ (127 - e) ≤ d.toNat * 2 ^ 126 := Nat.mul_le_mul_left _ h5
        have h7 : (x.toNat - 1056964608) * 2 ^ 126 ≤ d.toNat * 2 ^ 126 := by omega
        have h8 := Nat.le_of_mul_le_mul_right h7 (Nat.two_pow_pos 126)
        omega
    · have e1 : e = 1 := by rw [l1, z_le (by omega) (by omega)] at q2; omega
      subst e1
      rcases h4 with ⟨c1, c2, c3⟩ | ⟨c1, c2, c3⟩
      · omega
      · exact fin x 1 d.toNat h1 h2 h3 c3 (by omega) (by omega)
    · have e1 : 1 < e := by rw [l1, z_le (by omega) (by omega)] at q2; omega
      have hx := f_dbl (show x.toNat < 1065353216 by omega)
      have hdb : dblB x.toNat < 1073741824 := by unfold dblB; split <;> omega
      refine ⟨n32_lt (by rw [hx]; omega), ?_⟩
      rw [l1, z_addn (by omega)]
      refine ⟨⟨e - 1, rfl, by rw [hx]; exact hdb, by omega, by omega, ?_⟩, by simp (disch := omega) only [z_cl]; omega⟩
      rw [hx]
      rcases h4 with ⟨c1, c2, c3⟩ | ⟨c1, c2, c3⟩
      · left
        unfold dblB
        rw [if_neg (by omega)]
        exact ⟨c1, by omega, by omega⟩
      · right
        refine ⟨c1, by omega, ?_⟩
        rw [uB_dbl (by omega), c3, show 127 - (e - 1) = 127 - e + 1 by omega, Nat.pow_succ]
        rw [Nat.mul_comm 2, Nat.mul_assoc]
  refine lf2_i (fun x x2 => ∃ e, x2 = nI e ∧ 127 ≤ e ∧ e ≤ 254 ∧ x.toNat + 8388608 * e = d.toNat + 1065353216 ∧ (e = 127 ∨ 1065353216 ≤ x.toNat)) (fun _ x2 => 254 - x2.toNatClampNeg) ⟨127, rfl, by omega, by omega, by omega, Or.inl rfl⟩ ?_
  rintro x x2 ⟨e, rfl, h1, h2, h3, h4⟩
  rw [fc_lt .l (by omega) (by rw [t_two]; decide), t_two]
  refine ⟨fun q => ?_, fun q => ⟨fun q2 => ?_, fun q2 => ?_⟩⟩
  · refine l28 x e q (by omega) h2 ?_
    by_cases c : 8388608 ≤ d.toNat
    · left; exact ⟨c, by omega, h3⟩
    · right
      have he : e = 127 := by omega
      subst he
      refine ⟨by omega, by omega, ?_⟩
      rw [show x.toNat = d.toNat by omega]
      unfold uB
      rw [if_pos (by omega)]; simp
  · exfalso
    rw [l254, z_le (by omega) (by omega)] at q2
    omega
  · rw [l254, z_le (by omega) (by omega)] at q2
    have hx := f_half (show 1073741824 ≤ x.toNat by omega) (by omega)
    refine ⟨n32_lt (by rw [hx]; omega), ?_⟩
    rw [l1, z_add]
    refine ⟨⟨e + 1, rfl, by omega, by omega, by rw [hx]; omega, Or.inr (by rw [hx]; omega)⟩, by simp (disch := omega) only [z_cl]; omega⟩
