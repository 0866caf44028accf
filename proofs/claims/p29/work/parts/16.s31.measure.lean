/-! the measuring of the scenes -/
theorem lsS_s {row : Nat → List Nat} {k : Nat} : lsS row (k + 1) = if full row k then some k else lsS row k := rfl
theorem s_measure {n : Nat} {num : Nat → Nat → Nat} {row : Nat → List Nat} {st : Nat → Nat} {va : Nat → UInt32} {cl : Nat → Int32} {size : Int32} {f g t : Nat → Int32} {post : (Nat → UInt32) → (Nat → Int32) → Prop} (hR : RCd n num size f) (hN : numOk n num) (hW : RW row g) (hO : rowOk n row) (hS : RS st t) (h2 : st 2 ≤ 1000) (h : ∀ va cl, RTm num row (st 2) 16 va cl → post va cl) : wp_X6_measure va cl size f g t post := by
  have hn := hO.2.2.2
  unfold wp_X6_measure
  refine s_setting (i := 2) hS (by omega) ?_
  refine ⟨f_rise, ?_⟩
  unfold wp_X6_measure_l16
  refine lf4_i (fun x3 x4 va cl => ∃ k, k ≤ 16 ∧ x4 = nI k ∧ x3 = optI (lsS row k) ∧ RTm num row (st 2) k va cl) (fun _ x4 _ _ => 16 - x4.toNatClampNeg) ⟨0, by omega, rfl, rfl, fun sc hs => absurd hs (Nat.not_lt_zero _)⟩ ?_
  clear va cl
  rintro x3 x4 va cl ⟨k, hk, rfl, rfl, hT⟩
  refine ⟨fun hx => ?_, fun hx => ?_⟩
  · have hk6 : k = 16 := by simp (disch := omega) only [l16, z_le] at hx; omega
    subst hk6; exact h _ _ hT
  · have hk6 : k < 16 := by simp (disch := omega) only [l16, z_le] at hx; omega
    have e1 : nI k + (1 : Int32) = nI (k + 1) := by rw [l1, z_add]
    have ec : (nI k).toNatClampNeg = k := z_cl (by omega)
    have hin : vp_in (nI k) 16 := (z_in (by omega)).mpr hk6
    have hdec : 16 - (nI (k + 1)).toNatClampNeg < 16 - k := by simp (disch := omega) only [z_cl]; omega
    rw [e1, ec]
    refine ⟨hin, hin, s_sizeOf hW hO hk6 ?_⟩
    have h6 := hO.1 k
    refine ⟨fun q => ?_, fun q => ?_⟩
    · have hf : full row k = false := decide_eq_false (by rw [show (0 : Int32) = nI 0 from rfl, z_le (by omega) (by omega)] at q; omega)
      refine ⟨⟨k + 1, by omega, rfl, by rw [lsS_s, hf]; rfl, fun sc hs => ?_⟩, hdec⟩
      rw [z_fup, z_up]
      by_cases he : sc = k
      · subst he
        rw [if_pos rfl, if_pos rfl]
        unfold tV
        rw [clb_eq, hf]; exact ⟨rfl, rfl⟩
      · rw [if_neg he, if_neg he]; exact hT sc (by omega)
    · have h0 : 0 < (row k).length := by rw [show (0 : Int32) = nI 0 from rfl, z_le (by omega) (by omega)] at q; omega
      have hf : full row k = true := decide_eq_true h0
      refine s_mScene hR hN hW hO hk6 h0 ?_
      refine ⟨hin, ?_⟩
      have hval : ∀ (x : Int32), x = nI (clb num row (st 2) k) → wp_X6_measure_j118 (FP.fdiv (FP.i2f (nI (st 2))) 1120403456) (nI k) x (nI k) (vf_upd (vf_upd va k 3212836864) k (tens num (row k))) (upd cl k 0) size f g t (fun u0 u1 u2 u3 => (∃ k, k ≤ 16 ∧ u1 = nI k ∧ u0 = optI (lsS row k) ∧ RTm num row (st 2) k u2 u3) ∧ 16 - u1.toNatClampNeg < 16 - k) post := by
        rintro x rfl
        unfold wp_X6_measure_j118
        rw [e1, ec]
        refine ⟨hin, ⟨k + 1, by omega, rfl, by rw [lsS_s, hf]; rfl, fun sc hs => ?_⟩, hdec⟩
        rw [z_fup, z_fup, z_up, z_up]
        by_cases he : sc = k
        · subst he
          rw [if_pos rfl, if_pos rfl]
          unfold tV
          rw [hf]; exact ⟨rfl, rfl⟩
        · rw [if_neg he, if_neg he, if_neg he, if_neg he]; exact hT sc (by omega)
      have hone : ris num row (st 2) k = false → wp_X6_measure_j93 (FP.fdiv (FP.i2f (nI (st 2))) 1120403456) (optI (lsS row k)) (nI k) (vf_upd (vf_upd va k 3212836864) k (tens num (row k))) (upd cl k 0) size f g t (fun u0 u1 u2 u3 => (∃ k, k ≤ 16 ∧ u1 = nI k ∧ u0 = optI (lsS row k) ∧ RTm num row (st 2) k u2 u3) ∧ 16 - u1.toNatClampNeg < 16 - k) post := by
        intro hr
        unfold wp_X6_measure_j93 wp_X6_measure_j94
        refine ⟨fun _ => hval _ ?_, fun q => absurd rfl q⟩
        rw [clb_eq, hf, hr]; rfl
      have e5 : (-5 : Int32) = -nI 5 := rfl
      rw [e5]
      cases hl : lsS row k with
      | none =>
        rw [hl] at hone
        refine ⟨fun _ => hone (by unfold ris; rw [hl]), fun q => absurd rfl q⟩
      | some l =>
        rw [hl] at hone
        have hll := lsS_lt hl
        have hT2 := hT l hll.1
        refine ⟨fun q => absurd q (by show ¬ nI l = -nI 5; rw [z_en (by omega) (by omega) (by omega)]; exact id), fun _ => ⟨hin, ?_⟩⟩
        refine s_tensionOf (sc := l) (by omega) ?_
        have hv1 : vf_upd (vf_upd va k 3212836864) k (tens num (row k)) k = tens num (row k) := by rw [z_fup, if_pos rfl]
        have hv2 : vf_upd (vf_upd va k 3212836864) k (tens num (row k)) l = tens num (row l) := by
          rw [z_fup, z_fup, if_neg (by omega), if_neg (by omega), hT2.1]
          unfold tV
          rw [if_pos (show full row l = true from decide_eq_true hll.2)]
        rw [hv1, hv2]
        have t1 := tens_le hN (rowS_of hO k) h0
        have t2 := tens_le hN (rowS_of hO l) hll.2
        refine ⟨(f_sub t1 t2).1, fun q => hone ?_, fun q => ?_⟩
        · unfold ris
          rw [hl]
          show (full row k && !risC num row (st 2) k l) = false
          have : risC num row (st 2) k l = true := decide_eq_true q
          rw [this]; simp
        · have hr : ris num row (st 2) k = true := by
            unfold ris
            rw [hl]
            show (full row k && !risC num row (st 2) k l) = true
            have : risC num row (st 2) k l = false := decide_eq_false q
            rw [this, hf]; rfl
          unfold wp_X6_measure_j94
          refine ⟨fun q => absurd q (by decide), fun _ => ?_⟩
          have hcl : RTm num row (st 2) k (vf_upd (vf_upd va k 3212836864) k (tens num (row k))) (upd cl k 0) := by
            intro sc hs
            rw [z_fup, z_fup, z_up, if_neg (by omega), if_neg (by omega), if_neg (by omega)]
            exact hT sc hs
          refine s_climbTo hcl hll.1 (by omega) (hval _ ?_)
          rw [l1, z_add, clb_eq (sc := k), hf, hr, hl]; rfl
theorem s_rises {num : Nat → Nat → Nat} {row : Nat → List Nat} {s2 : Nat} {va : Nat → UInt32} {cl : Nat → Int32} {post : Int32 → Prop} {sc : Nat} (hT : RTm num row s2 16 va cl) (hs : sc < 16) (h : post (bI (ris num row s2 sc))) : wp_X6_rises (nI sc) cl post := by
  have hb := clb_le (num := num) (row := row) (s2 := s2) (sc + 1) sc (by omega)
  unfold wp_X6_rises
  refine s_climbTo hT hs (by omega) ?_
  rw [l1, z_le (by omega) (by omega)]
  have hr := clb_ris (num := num) (row := row) (s2 := s2) (sc := sc)
  refine ⟨fun q => ?_, fun q => ?_⟩
  · rw [show ris num row s2 sc = false from eq_false_of_ne_true (fun e => by have := hr.mpr e; omega)] at h; exact h
  · rw [hr.mp (by omega)] at h; exact h
/-- the longest climb -/
def mxN (f : Nat → Nat) : Nat → Nat
  | 0 => 0
  | m + 1 => if mxN f m < f m then f m else mxN f m
theorem mxN_le {f : Nat → Nat} {b : Nat} : ∀ m, (∀ k, k < m → f k ≤ b) → mxN f m ≤ b
  | 0, _ => Nat.zero_le _
  | m + 1, h => by
    have ih := mxN_le m (fun k hk => h k (by omega))
    have := h m (by omega)
    unfold mxN
    split <;> omega
theorem s_longest {num : Nat → Nat → Nat} {row : Nat → List Nat} {s2 : Nat} {va : Nat → UInt32} {cl : Nat → Int32} {post : Int32 → Prop} (hT : RTm num row s2 16 va cl) (h : post (nI (mxN (clb num row s2) 16))) : wp_X6_longestClimb cl post := by
  unfold wp_X6_longestClimb wp_X6_longestClimb_l4
  refine lf2_i (fun x1 x2 => ∃ k, k ≤ 16 ∧ x2 = nI k ∧ x1 = nI (mxN (clb num row s2) k)) (fun _ x2 => 16 - x2.toNatClampNeg) ⟨0, by omega, rfl, rfl⟩ ?_
  rintro x1 x2 ⟨k, hk, rfl, rfl⟩
  have hm := mxN_le (f := clb num row s2) (b := 17) k (fun j hj => by have := clb_le (num := num) (row := row) (s2 := s2) (j + 1) j (by omega); omega)
  refine ⟨fun hx => ?_, fun hx => ?_⟩
  · have hk6 : k = 16 := by simp (disch := omega) only [l16, z_le] at hx; omega
    subst hk6; exact h
  · have hk6 : k < 16 := by simp (disch := omega) only [l16, z_le] at hx; omega
    have hb := clb_le (num := num) (row := row) (s2 := s2) (k + 1) k (by omega)
    refine s_climbTo hT hk6 (by omega) ?_
    simp (disch := omega) only [z_lt, l1, z_add]
    refine ⟨⟨k + 1, by omega, rfl, ?_⟩, by simp (disch := omega) only [z_cl]; omega⟩
    rw [mxN]
    by_cases hq : mxN (clb num row s2) k < clb num row s2 k
    · rw [if_pos hq, if_pos hq]
    · rw [if_neg hq, if_neg hq]
/-- the least and the greatest tension so far -/
def spS (num : Nat → Nat → Nat) (row : Nat → List Nat) : Nat → Option (UInt32 × UInt32)
  | 0 => none
  | k + 1 => if full row k then (match spS num row k with
    | none => some (tens num (row k), tens num (row k))
    | some (a, b) => some (if (tens num (row k)).toNat < a.toNat then tens num (row k) else a, if b.toNat < (tens num (row k)).toNat then tens num (row k) else b)) else spS num row k
theorem spS_ok {n : Nat} {num : Nat → Nat → Nat} {row : Nat → List Nat} (hN : numOk n num) (hO : rowOk n row) : ∀ k a b, spS num row k = some (a, b) → a.toNat ≤ b.toNat ∧ b.toNat ≤ 1120403456
  | 0, _, _, h => by cases h
  | k + 1, a, b, h => by
    have ih := spS_ok hN hO k
    unfold spS at h
    by_cases hf : full row k = true
    · have ht := tens_le hN (rowS_of hO k) (of_decide_eq_true hf)
      rw [if_pos hf] at h
      cases hs : spS num row k with
      | none =>
        rw [hs] at h
        cases h
        exact ⟨Nat.le_refl _, ht⟩
      | some p =>
        obtain ⟨a0, b0⟩ := p
        have hab := ih a0 b0 hs
        rw [hs] at h
        cases h
        split <;> split <;> omega
    · rw [if_neg hf] at h
      exact ih a b h
theorem s_span {n : Nat} {num : Nat → Nat → Nat} {row : Nat → List Nat} {s2 : Nat} {va : Nat → UInt32} {cl : Nat → Int32} {post : UInt32 → Prop} (hN : numOk n num) (hO : rowOk n row) (hT : RTm num row s2 16 va cl) (h : post (match spS num row 16 with
    | none => FP.fconst0
    | some (a, b) => FP.fsub b a)) : wp_X6_span va cl post := by
  unfold wp_X6_span wp_X6_span_l9
  refine lf4_i (fun x1 x2 x3 x4 => ∃ k, k ≤ 16 ∧ x4 = nI k ∧ ((spS num row k = none ∧ x1 = nI 0 ∧ x2 = FP.fconst0 ∧ x3 = FP.fconst0) ∨ (spS num row k = some (x2, x3) ∧ x1 = nI 1))) (fun _ _ _ x4 => 16 - x4.toNatClampNeg) ⟨0, by omega, rfl, Or.inl ⟨rfl, rfl, rfl, rfl⟩⟩ ?_
  rintro x1 x2 x3 x4 ⟨k, hk, rfl, hc⟩
  refine ⟨fun hx => ?_, fun hx => ?_⟩
  · have hk6 : k = 16 := by simp (disch := omega) only [l16, z_le] at hx; omega
    subst hk6
    rcases hc with ⟨h1, rfl, rfl, rfl⟩ | ⟨h1, rfl⟩
    · rw [h1] at h
      rw [f_same]
      exact ⟨n32_lt (by decide), h⟩
    · rw [h1] at h
      have ho := spS_ok hN hO 16 _ _ h1
      exact ⟨(f_sub ho.2 (by omega)).1, h⟩
  · have hk6 : k < 16 := by simp (disch := omega) only [l16, z_le] at hx; omega
    have hb := clb_le (num := num) (row := row) (s2 := s2) (k + 1) k (by omega)
    have e1 : nI k + (1 : Int32) = nI (k + 1) := by rw [l1, z_add]
    have hdec : 16 - (nI (k + 1)).toNatClampNeg < 16 - (nI k).toNatClampNeg := by simp (disch := omega) only [z_cl]; omega
    refine s_climbTo hT hk6 (by omega) ?_
    rw [e1]
    refine ⟨fun q => ?_, fun q => ?_⟩
    · have hf : ¬ full row k = true := fun e => by
        have := (clb_pos (num := num) (s2 := s2)).mpr e
        rw [show (0 : Int32) = nI 0 from rfl, z_le (by omega) (by omega)] at q; omega
      refine ⟨⟨k + 1, by omega, rfl, ?_⟩, hdec⟩
      unfold spS
      rw [if_neg hf]; exact hc
    · have hf : full row k = true := (clb_pos (num := num) (s2 := s2)).mp (by rw [show (0 : Int32) = nI 0 from rfl, z_le (by omega) (by omega)] at q; omega)
      have ht := tens_le hN (rowS_of hO k) (of_decide_eq_true hf)
      refine s_tensionOf hk6 ?_
      have hv : va k = tens num (row k) := by rw [(hT k hk6).1]; unfold tV; rw [if_pos hf]
      rw [hv]
      unfold wp_X6_span_j44 wp_X6_span_j50 wp_X6_span_j62
      rw [e1]
      rcases hc with ⟨h1, rfl, rfl, rfl⟩ | ⟨h1, rfl⟩
      · refine ⟨fun _ => ⟨fun _ => ⟨⟨k + 1, by omega, rfl, Or.inr ⟨?_, rfl⟩⟩, hdec⟩, fun q => absurd rfl q⟩, fun q => absurd rfl q⟩
        unfold spS; rw [if_pos hf, h1]
      · have ho := spS_ok hN hO k _ _ h1
        have es : spS num row (k + 1) = some (if (tens num (row k)).toNat < x2.toNat then tens num (row k) else x2, if x3.toNat < (tens num (row k)).toNat then tens num (row k) else x3) := by
          show (if full row k then _ else _) = _
          rw [if_pos hf, h1]
        have h10 : ¬ nI 1 = 0 := by decide
        rw [fc_ge .g (by omega) (by omega), fc_le .l (by omega) (by omega)]
        refine ⟨fun q => absurd q h10, fun _ => ⟨fun q1 => ⟨fun q => absurd q h10, fun _ => ⟨fun q2 => ?_, fun q2 => ?_⟩⟩, fun q1 => ⟨fun q => absurd q h10, fun _ => ⟨fun q2 => ?_, fun q2 => ?_⟩⟩⟩⟩
        · exact ⟨⟨k + 1, by omega, rfl, Or.inr ⟨by rw [es, if_neg (by omega), if_neg (by omega)], rfl⟩⟩, hdec⟩
        · exact ⟨⟨k + 1, by omega, rfl, Or.inr ⟨by rw [es, if_neg (by omega), if_pos (by omega)], rfl⟩⟩, hdec⟩
        · exact ⟨⟨k + 1, by omega, rfl, Or.inr ⟨by rw [es, if_pos (by omega), if_neg (by omega)], rfl⟩⟩, hdec⟩
        · exact ⟨⟨k + 1, by omega, rfl, Or.inr ⟨by rw [es, if_pos (by omega), if_pos (by omega)], rfl⟩⟩, hdec⟩
