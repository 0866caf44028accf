/-! the scenes: their tension, and how it rises -/
def gd (L : List Nat) (j : Nat) : Nat := L.getD j 0
def wSum (num : Nat → Nat → Nat) (L : List Nat) : Nat → Nat := sumN (fun j => num (gd L j) 2)
def tSum (num : Nat → Nat → Nat) (L : List Nat) : Nat → Nat := sumN (fun j => num (gd L j) 3 * num (gd L j) 2)
def tens (num : Nat → Nat → Nat) (L : List Nat) : UInt32 := FP.fdiv (fN (tSum num L L.length)) (fN (wSum num L L.length))
def rowS (n : Nat) (L : List Nat) : Prop := L.length ≤ 6 ∧ ∀ c ∈ L, c < n
theorem rowS_of {n : Nat} {row : Nat → List Nat} (hO : rowOk n row) (sc : Nat) : rowS n (row sc) := ⟨hO.1 sc, hO.2.1 sc⟩
theorem gd_lt {n : Nat} {L : List Nat} (hL : rowS n L) {j : Nat} (h : j < L.length) : gd L j < n := hL.2 _ (getD_mem h)
theorem wt_le {n : Nat} {num : Nat → Nat → Nat} {L : List Nat} (hN : numOk n num) (hL : rowS n L) : ∀ j, j ≤ L.length → tSum num L j ≤ 100 * wSum num L j ∧ wSum num L j ≤ 999 * j ∧ j ≤ wSum num L j
  | 0, _ => ⟨Nat.le_refl _, Nat.le_refl _, Nat.le_refl _⟩
  | j + 1, h => by
    obtain ⟨h1, h2, h3⟩ := wt_le hN hL j (by omega)
    have hc := hN _ (gd_lt hL (show j < L.length by omega))
    have e1 : tSum num L (j + 1) = tSum num L j + num (gd L j) 3 * num (gd L j) 2 := rfl
    have e2 : wSum num L (j + 1) = wSum num L j + num (gd L j) 2 := rfl
    have h4 : num (gd L j) 3 * num (gd L j) 2 ≤ 100 * num (gd L j) 2 := Nat.mul_le_mul_right _ hc.2.2.2.2.1
    rw [e1, e2]
    exact ⟨by omega, by omega, by omega⟩
theorem tens_le {n : Nat} {num : Nat → Nat → Nat} {L : List Nat} (hN : numOk n num) (hL : rowS n L) (h0 : 0 < L.length) : (tens num L).toNat ≤ 1120403456 := by
  obtain ⟨h1, h2, h3⟩ := wt_le hN hL L.length (Nat.le_refl _)
  have := hL.1
  exact fN_div (by omega) h1 (by omega)
theorem slotv_gd {L : List Nat} {p : Nat} (h : p < L.length) : slotv L p = nI (gd L p) := slotv_lt h
theorem s_mScene {n : Nat} {num : Nat → Nat → Nat} {row : Nat → List Nat} {size : Int32} {f g : Nat → Int32} {post : UInt32 → Prop} {sc : Nat} (hR : RCd n num size f) (hN : numOk n num) (hW : RW row g) (hO : rowOk n row) (hs : sc < 16) (h0 : 0 < (row sc).length) (h : post (tens num (row sc))) : wp_X6_measureScene (nI sc) size f g post := by
  have hL := rowS_of hO sc
  have hn := hO.2.2.2
  have h6 := hL.1
  unfold wp_X6_measureScene wp_X6_measureScene_l7
  refine lf3_i (fun x2 x3 x4 => ∃ j, j ≤ (row sc).length ∧ x4 = nI j ∧ x2 = fN (tSum num (row sc) j) ∧ x3 = nI (wSum num (row sc) j)) (fun _ _ x4 => (row sc).length - x4.toNatClampNeg) ⟨0, by omega, rfl, fN_c0, rfl⟩ ?_
  rintro x2 x3 x4 ⟨j, hj, rfl, rfl, rfl⟩
  refine s_sizeOf hW hO hs ?_
  obtain ⟨h1, h2, h3⟩ := wt_le hN hL j hj
  refine ⟨fun hx => ?_, fun hx => ?_⟩
  · have hjn : j = (row sc).length := by simp (disch := omega) only [z_le] at hx; omega
    subst hjn
    have ht := tens_le hN hL h0
    refine ⟨fun q => absurd q (by rw [show (0 : Int32) = nI 0 from rfl, z_le (by omega) (by omega)]; omega), fun _ => ⟨?_, h⟩⟩
    exact n32_lt (show (tens num (row sc)).toNat ≤ _ by omega)
  · have hjn : j < (row sc).length := by simp (disch := omega) only [z_le] at hx; omega
    refine s_cardIn hW hs (by omega) ?_
    rw [slotv_gd hjn]
    have hg := gd_lt hL hjn
    refine s_number (k := 2) hR hn hg (by omega) ?_
    refine s_number (k := 3) hR hn hg (by omega) ?_
    have hc := hN _ hg
    have h4 : num (gd (row sc) j) 3 * num (gd (row sc) j) 2 ≤ 100 * num (gd (row sc) j) 2 := Nat.mul_le_mul_right _ hc.2.2.2.2.1
    have em : FP.fmul (FP.i2f (nI (num (gd (row sc) j) 3))) (FP.i2f (nI (num (gd (row sc) j) 2))) = fN (num (gd (row sc) j) 3 * num (gd (row sc) j) 2) := fN_mul (by omega) (by omega) (by omega)
    have ea : FP.fadd (fN (tSum num (row sc) j)) (fN (num (gd (row sc) j) 3 * num (gd (row sc) j) 2)) = fN (tSum num (row sc) (j + 1)) := fN_add (by omega)
    rw [em, ea]
    refine ⟨fN_n32 (by omega), ?_, ?_⟩
    · have := wt_le hN hL (j + 1) (by omega)
      exact fN_n32 (by omega)
    · rw [l1, z_add, z_add]
      exact ⟨⟨j + 1, by omega, rfl, rfl, rfl⟩, by simp (disch := omega) only [z_cl]; omega⟩
/-- the last scene with cards below one -/
def lsS (row : Nat → List Nat) (sc : Nat) : Option Nat := lst (full row) sc
theorem lsS_lt {row : Nat → List Nat} {sc l : Nat} (h : lsS row sc = some l) : l < sc ∧ 0 < (row l).length := by
  have := lst_lt _ h
  exact ⟨this.1, of_decide_eq_true this.2⟩
def risC (num : Nat → Nat → Nat) (row : Nat → List Nat) (s2 sc l : Nat) : Bool := decide (Op.cmpValue (FP.fcmp (FP.fsub (tens num (row sc)) (tens num (row l))) (FP.fdiv (fN s2) 1120403456)) .l < 0)
/-- it rises -/
def ris (num : Nat → Nat → Nat) (row : Nat → List Nat) (s2 sc : Nat) : Bool := match lsS row sc with
  | none => false
  | some l => full row sc && !risC num row s2 sc l
def clT (F : Nat → Bool) (L : Nat → Option Nat) (R : Nat → Bool) : Nat → Nat → Nat
  | 0 => fun _ => 0
  | k + 1 => fun j => if j = k then (if F k then (if R k then (match L k with
    | none => 0
    | some l => clT F L R k l) + 1 else 1) else 0) else clT F L R k j
theorem clT_s {F : Nat → Bool} {L : Nat → Option Nat} {R : Nat → Bool} {k j : Nat} : clT F L R (k + 1) j = if j = k then (if F k then (if R k then (match L k with
    | none => 0
    | some l => clT F L R k l) + 1 else 1) else 0) else clT F L R k j := rfl
theorem clT_st {F : Nat → Bool} {L : Nat → Option Nat} {R : Nat → Bool} {j : Nat} : ∀ m k, j < k → clT F L R (k + m) j = clT F L R k j
  | 0, k, _ => rfl
  | m + 1, k, h => by
    rw [Nat.add_succ, clT_s, if_neg (by omega)]
    exact clT_st m k h
/-- the climb that ends with a scene -/
def clb (num : Nat → Nat → Nat) (row : Nat → List Nat) (s2 sc : Nat) : Nat := clT (full row) (lsS row) (ris num row s2) (sc + 1) sc
theorem clb_eq {num : Nat → Nat → Nat} {row : Nat → List Nat} {s2 sc : Nat} : clb num row s2 sc = if full row sc then (if ris num row s2 sc then (match lsS row sc with
    | none => 0
    | some l => clb num row s2 l) + 1 else 1) else 0 := by
  unfold clb
  rw [clT_s, if_pos rfl]
  cases hl : lsS row sc with
  | none => rfl
  | some l =>
    have hlt := (lsS_lt hl).1
    have := clT_st (F := full row) (L := lsS row) (R := ris num row s2) (j := l) (sc - (l + 1)) (l + 1) (by omega)
    rw [show l + 1 + (sc - (l + 1)) = sc by omega] at this
    simp only [this]
theorem clb_le {num : Nat → Nat → Nat} {row : Nat → List Nat} {s2 : Nat} : ∀ m sc, sc < m → clb num row s2 sc ≤ sc + 1
  | 0, _, h => absurd h (Nat.not_lt_zero _)
  | m + 1, sc, h => by
    rw [clb_eq]
    split
    · split
      · cases hl : lsS row sc with
        | none => simp
        | some l =>
          have hlt := (lsS_lt hl).1
          have := clb_le (num := num) (row := row) (s2 := s2) m l (by omega)
          show clb num row s2 l + 1 ≤ sc + 1
          omega
      · omega
    · omega
theorem clb_pos {num : Nat → Nat → Nat} {row : Nat → List Nat} {s2 sc : Nat} : 0 < clb num row s2 sc ↔ full row sc = true := by
  rw [clb_eq]
  by_cases hf : full row sc = true
  · rw [if_pos hf]
    refine ⟨fun _ => hf, fun _ => ?_⟩
    split <;> omega
  · rw [if_neg hf]
    exact ⟨fun h => absurd h (Nat.lt_irrefl _), fun h => absurd h hf⟩
theorem clb_ris {num : Nat → Nat → Nat} {row : Nat → List Nat} {s2 sc : Nat} : 1 < clb num row s2 sc ↔ ris num row s2 sc = true := by
  rw [clb_eq]
  by_cases hf : full row sc = true
  · rw [if_pos hf]
    by_cases hr : ris num row s2 sc = true
    · rw [if_pos hr]
      refine ⟨fun _ => hr, fun _ => ?_⟩
      cases hl : lsS row sc with
      | none => unfold ris at hr; rw [hl] at hr; cases hr
      | some l =>
        have h2 := (lsS_lt hl).2
        have : 0 < clb num row s2 l := clb_pos.mpr (decide_eq_true h2)
        show 1 < clb num row s2 l + 1
        omega
    · rw [if_neg hr]
      exact ⟨fun h => absurd h (Nat.lt_irrefl _), fun h => absurd h hr⟩
  · rw [if_neg hf]
    refine ⟨fun h => absurd h (by omega), fun hr => ?_⟩
    unfold ris at hr
    cases hl : lsS row sc with
    | none => rw [hl] at hr; cases hr
    | some l => rw [hl] at hr; simp [hf] at hr
/-- what the tensions hold -/
def tV (num : Nat → Nat → Nat) (row : Nat → List Nat) (sc : Nat) : UInt32 := if full row sc then tens num (row sc) else 3212836864
def RTm (num : Nat → Nat → Nat) (row : Nat → List Nat) (s2 : Nat) (m : Nat) (va : Nat → UInt32) (cl : Nat → Int32) : Prop := ∀ sc, sc < m → va sc = tV num row sc ∧ cl sc = nI (clb num row s2 sc)
theorem s_climbTo {num : Nat → Nat → Nat} {row : Nat → List Nat} {s2 m : Nat} {va : Nat → UInt32} {cl : Nat → Int32} {post : Int32 → Prop} {sc : Nat} (hT : RTm num row s2 m va cl) (hs : sc < m) (hm : m ≤ 16) (h : post (nI (clb num row s2 sc))) : wp_X6_climbTo (nI sc) cl post := by
  unfold wp_X6_climbTo
  simp (disch := omega) only [l0, l1, l2, l3, l4, l5, l6, l7, l8, l9, l10, l11, l12, l13, l14, l15, l16, l23, l31, l40, l42, l44, l48, l49, l57, l59, l60, l65, l70, l96, l100, l101, l127, l200, l204, l254, l316, l948, l999, l1000, l9999, z_le, z_lt, z_eq, z_en, z_ne, z_nn, z_ltn, z_nlt, z_len, z_nle, z_add, z_mul, z_sub, z_div, z_cl, z_in, z_addn, z_no, z_yes, not_true_eq_false, not_false_eq_true, false_implies, true_implies, true_and, and_true, forall_const]
  rw [(hT sc hs).2]
  exact ⟨by omega, h⟩
theorem s_tensionOf {va : Nat → UInt32} {post : UInt32 → Prop} {sc : Nat} (hs : sc < 16) (h : post (va sc)) : wp_X6_tensionOf (nI sc) va post := by
  unfold wp_X6_tensionOf
  simp (disch := omega) only [l0, l1, l2, l3, l4, l5, l6, l7, l8, l9, l10, l11, l12, l13, l14, l15, l16, l23, l31, l40, l42, l44, l48, l49, l57, l59, l60, l65, l70, l96, l100, l101, l127, l200, l204, l254, l316, l948, l999, l1000, l9999, z_le, z_lt, z_eq, z_en, z_ne, z_nn, z_ltn, z_nlt, z_len, z_nle, z_add, z_mul, z_sub, z_div, z_cl, z_in, z_addn, z_no, z_yes, not_true_eq_false, not_false_eq_true, false_implies, true_implies, true_and, and_true, forall_const]
  exact ⟨by omega, h⟩
theorem s_tensionNo {va : Nat → UInt32} {post : UInt32 → Prop} {x : Int32} (hs : x < nI 0 ∨ nI 16 ≤ x) (h : post 3212836864) : wp_X6_tensionOf x va post := by
  unfold wp_X6_tensionOf
  refine ⟨fun _ => h, fun h1 => ⟨fun _ => h, fun h2 => ?_⟩⟩
  rcases hs with q | q
  · exact absurd q h1
  · exact absurd q h2
theorem z_fup (f : Nat → UInt32) (k j : Nat) (x : UInt32) : vf_upd f k x j = if j = k then x else f j := rfl
