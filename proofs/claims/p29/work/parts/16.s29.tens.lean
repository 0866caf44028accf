/-! tensions -/
def fN (n : Nat) : UInt32 := FP.i2f (nI n)
theorem fN_val {n : Nat} (h : n ≤ 16777216) : ∃ c q, FP.Core.val32 (fN n) = .fin false c q ∧ c * 2 ^ q.toNat = n * 2 ^ (-q).toNat := by
  have hi : (nI n).toInt = (n : Int) := z_toInt (by omega)
  have hw : FP.Core.Whole (n : Int) (FP.Core.val32 (fN n)) := by
    have := FP.Core.i2f_int (a := nI n) (by rw [hi]; show n ≤ 16777216; omega)
    rw [hi] at this; exact this
  have hv : FP.Core.val32 (fN n) = FP.Core.roundRatio FP.Core.b32 (decide ((n : Int) < 0)) ((n : Int)).natAbs 1 0 := by
    have := FP.Core.val32_i2f (nI n)
    rw [hi] at this; exact this
  have hs := FP.Core.sgn_roundRatio FP.Core.b32 (decide ((n : Int) < 0)) ((n : Int)).natAbs 1 0
  rw [← hv] at hs
  have hf : decide ((n : Int) < 0) = false := decide_eq_false (by omega)
  rw [hf] at hs
  cases hx : FP.Core.val32 (fN n) with
  | nan => rw [hx] at hw; exact hw.elim
  | inf s => rw [hx] at hw; exact hw.elim
  | fin s c q =>
    rw [hx] at hw hs
    have hs2 : s = false := hs
    subst hs2
    refine ⟨c, q, rfl, ?_⟩
    have hw2 : ((c * 2 ^ q.toNat : Nat) : Int) = (n : Int) * ((2 ^ (-q).toNat : Nat) : Int) := hw
    rw [← Int.natCast_mul] at hw2
    exact Int.ofNat_inj.mp hw2
theorem fN_whole {n : Nat} {c : Nat} {q : Int} (h : c * 2 ^ q.toNat = n * 2 ^ (-q).toNat) : FP.Core.Whole (n : Int) (.fin false c q) := by
  show ((c * 2 ^ q.toNat : Nat) : Int) = (n : Int) * ((2 ^ (-q).toNat : Nat) : Int)
  rw [h, Int.natCast_mul]
theorem fN_round {n : Nat} (h : n < 2147483648) : FP.Core.val32 (fN n) = FP.Core.round FP.Core.b32 (FP.Core.ofInt (n : Int)) := by
  have := FP.Core.val32_i2f (nI n)
  rw [z_toInt h] at this; exact this
theorem fN_nn {n : Nat} (h : n ≤ 16777216) : FP.Core.val32 (fN n) ≠ .nan := by
  obtain ⟨c, q, hv, _⟩ := fN_val h
  rw [hv]; exact FP.Core.Datum.noConfusion
theorem fN_n32 {n : Nat} (h : n ≤ 16777216) : vf_n32 (fN n) := n32_of ((FP.Core.ne_nan32 _).mp (fN_nn h))
theorem fN_add {a b : Nat} (h : a + b ≤ 16777216) : FP.fadd (fN a) (fN b) = fN (a + b) := by
  obtain ⟨c, q, hv, hw⟩ := fN_val (show a ≤ 16777216 by omega)
  obtain ⟨d, r, hv2, hw2⟩ := fN_val (show b ≤ 16777216 by omega)
  refine (FP.Core.val32_inj (fN_nn h) ?_).symm
  have e : FP.Core.val32 (FP.fadd (fN a) (fN b)) = FP.Core.round FP.Core.b32 (FP.Core.exactSum (FP.Core.val32 (fN a)) (FP.Core.val32 (fN b))) := FP.Core.val32_fadd _ _
  rw [e, hv, hv2, FP.Core.round_sum_whole (fN_whole hw) (fN_whole hw2) (fun _ => rfl), fN_round (by omega), Int.natCast_add]
theorem fN_zero : FP.Core.val32 (fN 0) = .fin false 0 (-149) := by decide +kernel
theorem fN_c0 : FP.fconst0 = fN 0 := by decide +kernel
theorem fN_mul {a b : Nat} (h : a * b ≤ 16777216) (hb : b ≤ 16777216) (ha : a ≤ 16777216) : FP.fmul (fN a) (fN b) = fN (a * b) := by
  obtain ⟨c, q, hv, hw⟩ := fN_val ha
  obtain ⟨d, r, hv2, hw2⟩ := fN_val hb
  refine (FP.Core.val32_inj (fN_nn h) ?_).symm
  have e : FP.Core.val32 (FP.fmul (fN a) (fN b)) = FP.Core.round FP.Core.b32 (FP.Core.exactProduct (FP.Core.val32 (fN a)) (FP.Core.val32 (fN b))) := FP.Core.val32_fmul _ _
  rw [e]
  by_cases hz : a * b = 0
  · rw [hv, hv2, hz, fN_zero]
    have hcd : c * d = 0 := by
      rcases Nat.mul_eq_zero.mp hz with h0 | h0
      · rw [h0, Nat.zero_mul] at hw
        rcases Nat.mul_eq_zero.mp hw with h1 | h1
        · rw [h1, Nat.zero_mul]
        · exact absurd h1 (Nat.ne_of_gt (Nat.two_pow_pos _))
      · rw [h0, Nat.zero_mul] at hw2
        rcases Nat.mul_eq_zero.mp hw2 with h1 | h1
        · rw [h1, Nat.mul_zero]
        · exact absurd h1 (Nat.ne_of_gt (Nat.two_pow_pos _))
    show _ = FP.Core.roundRatio FP.Core.b32 (false != false) (c * d) 1 (q + r)
    rw [hcd]; rfl
  · rw [hv, hv2, FP.Core.round_product_whole (fN_whole hw) (fN_whole hw2) (by
      rw [← Int.natCast_mul]; intro e; exact hz (Int.ofNat_inj.mp e)), fN_round (by omega), Int.natCast_mul]
theorem u100 : FP.Core.unitsOf FP.Core.b32 1120403456 = 100 * 2 ^ 149 := by decide +kernel
theorem fN_div {i w : Nat} (hw0 : 0 < w) (hi : i ≤ 100 * w) (hw : w ≤ 100000) : (FP.fdiv (fN i) (fN w)).toNat ≤ 1120403456 := by
  obtain ⟨c, q, hv, hc⟩ := fN_val (show i ≤ 16777216 by omega)
  obtain ⟨d, r, hv2, hd⟩ := fN_val (show w ≤ 16777216 by omega)
  have e : FP.Core.val32 (FP.fdiv (fN i) (fN w)) = FP.Core.quotient FP.Core.b32 (FP.Core.val32 (fN i)) (FP.Core.val32 (fN w)) := FP.Core.val32_fdiv _ _
  have hd0 : d ≠ 0 := by
    intro h0
    rw [h0, Nat.zero_mul] at hd
    rcases Nat.mul_eq_zero.mp hd.symm with h1 | h1
    · omega
    · exact absurd h1 (Nat.ne_of_gt (Nat.two_pow_pos _))
  rw [hv, hv2] at e
  simp only [FP.Core.quotient] at e
  rw [if_neg hd0] at e
  have hnn : FP.Core.val32 (FP.fdiv (fN i) (fN w)) ≠ .nan := by rw [e]; exact FP.Core.roundRatio_ne_nan _ _ _ _ _
  have hs := FP.Core.sgn_bits32 hnn
  rw [e, FP.Core.sgn_roundRatio] at hs
  have hs2 : ¬ 2 ^ 31 ≤ (FP.fdiv (fN i) (fN w)).toNat := of_decide_eq_false hs.symm
  have hm := FP.Core.mag_le FP.Core.good_b32 (n := (FP.fdiv (fN i) (fN w)).toNat) (m := 1120403456) (e0 := min (-149) (q - r)) e (Nat.pos_of_ne_zero hd0) (show min (-149) (q - r) ≤ -149 by omega) (by omega) (by
    rw [u100]
    show c * 2 ^ (q - r - min (-149) (q - r)).toNat ≤ 100 * 2 ^ 149 * 2 ^ (-149 - min (-149) (q - r)).toNat * d
    generalize hD : min (-149) (q - r) = e0
    refine Nat.le_of_mul_le_mul_right (c := 2 ^ ((-q).toNat + r.toNat)) ?_ (Nat.two_pow_pos _)
    have x1 : c * 2 ^ (q - r - e0).toNat * 2 ^ ((-q).toNat + r.toNat) = c * 2 ^ q.toNat * 2 ^ ((-r).toNat + (-e0).toNat) := by
      rw [Nat.mul_assoc, Nat.mul_assoc, ← Nat.pow_add, ← Nat.pow_add]
      rw [show (q - r - e0).toNat + ((-q).toNat + r.toNat) = q.toNat + ((-r).toNat + (-e0).toNat) by omega]
    have x2 : 100 * 2 ^ 149 * 2 ^ (-149 - e0).toNat * d * 2 ^ ((-q).toNat + r.toNat) = 100 * (d * 2 ^ r.toNat) * 2 ^ ((-q).toNat + (-e0).toNat) := by
      calc 100 * 2 ^ 149 * 2 ^ (-149 - e0).toNat * d * 2 ^ ((-q).toNat + r.toNat) = 100 * d * (2 ^ 149 * 2 ^ (-149 - e0).toNat * 2 ^ ((-q).toNat + r.toNat)) := by ac_rfl
        _ = 100 * d * (2 ^ r.toNat * 2 ^ ((-q).toNat + (-e0).toNat)) := by
          rw [← Nat.pow_add, ← Nat.pow_add, ← Nat.pow_add, show 149 + (-149 - e0).toNat + ((-q).toNat + r.toNat) = r.toNat + ((-q).toNat + (-e0).toNat) by omega]
        _ = _ := by ac_rfl
    rw [x1, x2, hc, hd]
    have x3 : i * 2 ^ (-q).toNat * 2 ^ ((-r).toNat + (-e0).toNat) = i * 2 ^ ((-q).toNat + (-r).toNat + (-e0).toNat) := by
      rw [Nat.mul_assoc, ← Nat.pow_add, Nat.add_assoc]
    have x4 : 100 * (w * 2 ^ (-r).toNat) * 2 ^ ((-q).toNat + (-e0).toNat) = 100 * w * 2 ^ ((-q).toNat + (-r).toNat + (-e0).toNat) := by
      rw [← Nat.mul_assoc, Nat.mul_assoc (100 * w), ← Nat.pow_add, show (-r).toNat + ((-q).toNat + (-e0).toNat) = (-q).toNat + (-r).toNat + (-e0).toNat by omega]
    rw [x3, x4]
    exact Nat.mul_le_mul_right _ hi)
  rw [FP.Core.mag_toNat32] at hm
  omega
/-- the less from the more -/
theorem f_sub {a b : UInt32} (ha : a.toNat ≤ 1120403456) (hb : b.toNat ≤ 1120403456) : vf_n32 (FP.fsub a b) ∧ (b.toNat ≤ a.toNat → (FP.fsub a b).toNat < 2139095040) := by
  have hm : (FP.fsub a b).toNat % 2 ^ 31 < (134 + 2) * 2 ^ 23 := FP.Core.fsub_mag (a := a) (b := b) (K := 134) (by omega) (by omega) (by decide)
  refine ⟨n32_of (by omega), fun hle => ?_⟩
  have hnn : FP.Core.val32 (FP.fsub a b) ≠ .nan := (FP.Core.ne_nan32 _).mpr (by omega)
  have hs := FP.Core.sgn_bits32 hnn
  have e : FP.Core.val32 (FP.fsub a b) = FP.Core.round FP.Core.b32 (FP.Core.exactSum (FP.Core.val32 a) (FP.Core.negate (FP.Core.val32 b))) := FP.Core.val32_fsub _ _
  obtain ⟨c, q, hv, _, _⟩ := v_uB (show a.toNat < 2139095040 by omega)
  obtain ⟨d, r, hv2, _, _⟩ := v_uB (show b.toNat < 2139095040 by omega)
  have hord : FP.Core.inUnits d r (min q r) ≤ FP.Core.inUnits c q (min q r) := by
    have hcmp : FP.fcmp a b = some (compare (FP.Core.signed false (FP.Core.inUnits c q (min q r))) (FP.Core.signed false (FP.Core.inUnits d r (min q r)))) := by
      show FP.Core.order (FP.Core.val32 a) (FP.Core.val32 b) = _
      rw [hv, hv2]; rfl
    refine Nat.le_of_not_lt fun hlt => ?_
    have h1 : compare (FP.Core.signed false (FP.Core.inUnits c q (min q r))) (FP.Core.signed false (FP.Core.inUnits d r (min q r))) = .lt := by
      rw [FP.Core.compare_lt_iff]
      show ((FP.Core.inUnits c q (min q r) : Nat) : Int) < ((FP.Core.inUnits d r (min q r) : Nat) : Int)
      omega
    rw [h1] at hcmp
    rcases fc_of (show a.toNat ≤ 2139095040 by omega) (show b.toNat ≤ 2139095040 by omega) with ⟨q1, h⟩ | ⟨q1, h⟩ | ⟨q1, h⟩
    · omega
    · rw [hcmp] at h; cases h
    · rw [hcmp] at h; cases h
  rw [hv, hv2] at e
  have e2 : FP.Core.sgn (FP.Core.val32 (FP.fsub a b)) = FP.Core.sumSign false true (FP.Core.sumUnits false c q true d r (min q r)) := by
    rw [e]
    exact FP.Core.sgn_roundRatio _ _ _ _ _
  have e3 : FP.Core.sumSign false true (FP.Core.sumUnits false c q true d r (min q r)) = false := by
    have hu : FP.Core.sumUnits false c q true d r (min q r) = ((FP.Core.inUnits c q (min q r) : Nat) : Int) + -((FP.Core.inUnits d r (min q r) : Nat) : Int) := rfl
    unfold FP.Core.sumSign
    rw [hu]
    split
    · rfl
    · exact decide_eq_false (by omega)
  rw [e2, e3] at hs
  have hs2 : ¬ 2 ^ 31 ≤ (FP.fsub a b).toNat := of_decide_eq_false hs.symm
  omega
theorem f_rise {s : Nat} : vf_n32 (FP.fdiv (fN s) 1120403456) := by
  have h : (FP.fdiv (fN s) 1120403456).toNat % 2 ^ 31 < (160 + (149 - 23 - 1) - 133 + 3) * 2 ^ 23 := FP.Core.fdiv_mag (a := fN s) (b := 1120403456) (K := 160) (L := 133) (FP.Core.i2f_mag (nI s)) (by decide) (by decide) (by decide) (by decide)
  exact n32_of (by omega)
theorem f_same : FP.fsub FP.fconst0 FP.fconst0 = FP.fconst0 := FP.Core.fsub_self (by exact FP.Core.val32_fconst0)
