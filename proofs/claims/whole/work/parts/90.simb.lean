theorem inlX8 : ∀ w ∈ wsX80, w ∈ wsL_law := fun _ h => List.mem_append_left _ (List.mem_append_left _ (List.mem_append_left _ (List.mem_append_left _ (List.mem_append_left _ (List.mem_append_left _ (List.mem_append_left _ (List.mem_append_left _ (List.mem_append_left _ (List.mem_append_left _ (List.mem_append_right _ h))))))))))
theorem inlX9 : ∀ w ∈ wsX90, w ∈ wsL_law := fun _ h => List.mem_append_left _ (List.mem_append_left _ (List.mem_append_left _ (List.mem_append_left _ (List.mem_append_left _ (List.mem_append_left _ (List.mem_append_left _ (List.mem_append_left _ (List.mem_append_left _ (List.mem_append_right _ h)))))))))
theorem vf_d {r : UInt32} (h : vf_n32 r) : vf_n64 (FP.f2d r) ∧ ∀ op : CmpOp, Op.cmpValue (FP.dcmp (FP.f2d r) (FP.f2d r)) op = 0 := by
  have h1 : FP.fIsNaN r = false := by
    show decide (FP.Core.decode FP.Core.b32 r.toNat = .nan) = false
    exact decide_eq_false (vf_notNaN h)
  have h2 : FP.dIsNaN (FP.f2d r) = false := by rw [FP.f2d_nan]; exact h1
  have h3 : FP.Core.decode FP.Core.b64 (FP.f2d r).toNat ≠ .nan := of_decide_eq_false h2
  refine ⟨?_, fun op => ?_⟩
  · generalize FP.f2d r = x at h3
    show x &&& 0x7fffffffffffffff ≤ 0x7ff0000000000000
    rw [UInt64.le_iff_toNat_le, UInt64.toNat_and]
    have e1 : x.toNat &&& (0x7fffffffffffffff : UInt64).toNat = x.toNat % 9223372036854775808 := Nat.and_two_pow_sub_one_eq_mod x.toNat 63
    rw [e1]
    have e2 : FP.Core.fieldE FP.Core.b64 x.toNat = x.toNat / 4503599627370496 % 2048 := rfl
    have e3 : FP.Core.fieldT FP.Core.b64 x.toNat = x.toNat % 4503599627370496 := rfl
    have e4 : FP.Core.b64.exps - 1 = 2047 := rfl
    unfold FP.Core.decode at h3
    rw [e2, e3, e4] at h3
    show x.toNat % 9223372036854775808 ≤ 9218868437227405312
    by_cases c1 : x.toNat / 4503599627370496 % 2048 = 2047
    · rw [if_pos c1] at h3
      by_cases c2 : x.toNat % 4503599627370496 = 0
      · omega
      · rw [if_neg c2] at h3; exact absurd rfl h3
    · omega
  · have h4 : FP.dcmp (FP.f2d r) (FP.f2d r) = some .eq := FP.Core.dcmp_refl h2
    rw [h4]
    cases op <;> rfl
