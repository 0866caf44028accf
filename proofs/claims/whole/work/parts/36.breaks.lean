/-! breaks, on both sides -/
section
variable {n : Nat} {num : Nat → Nat → Nat} {row : Nat → List Nat} {st : Nat → Nat} {s : Nat → Int32}
theorem RRd_pre (hO : rowOk n row) (hN : numOk n num) : RRd n num (pre row 96) := ⟨LOk_pre hO (by omega), hN, hO.2.2.2⟩
/-- the straight row of a thread, as ranks -/
def sRow (num : Nat → Nat → Nat) (row : Nat → List Nat) (t : Nat) : List Nat := flt (pS num (pre row 96) t) (pre row 96).length
theorem m_layStraight {w sm : Int32} {order rank straight : Nat → Int32} {t : Nat} {post : Int32 → Int32 → (Nat → Int32) → (Nat → Int32) → (Nat → Int32) → Prop} (hM : RM n num row st s) (hO : rowOk n row) (hN : numOk n num) (ht : t < 6) (h : ∀ order rank straight, ROr (pre row 96) order rank → (∀ i, i < (sRow num row t).length → straight i = nI (CR (pre row 96) (sRow num row t) i)) → post (nI (pre row 96).length) (nI (sRow num row t).length) order rank straight) : wp_X9_layStraight (nI t) w sm s order rank straight post := by
  have hn := hO.2.2.2
  have hD := RRd_pre hO hN
  have hl := hD.1.1
  unfold wp_X9_layStraight
  refine m_layOrder hM hO (fun order rank hR => ?_)
  unfold sRow at h
  generalize pre row 96 = L at h hD hl hR ⊢
  unfold wp_X9_layStraight_l11
  refine lf3_i (fun x2 sm straight => ∃ j, j ≤ L.length ∧ x2 = nI j ∧ sm = nI (flt (pS num L t) j).length ∧ ∀ i, i < (flt (pS num L t) j).length → straight i = nI (CR L (flt (pS num L t) j) i)) (fun x2 _ _ => L.length - x2.toNatClampNeg) ⟨0, by omega, rfl, rfl, fun i hi => absurd hi (Nat.not_lt_zero _)⟩ ?_
  clear straight
  rintro x2 sm straight ⟨j, hj, rfl, rfl, hs⟩
  have hfl := flt_len (pS num L t) j
  rw [z_le (by omega) (by omega)]
  refine ⟨fun hx => ?_, fun hx => ?_⟩
  · have hjn : j = L.length := by omega
    subst hjn
    exact h _ _ _ hR hs
  · have hjn : j < L.length := by omega
    have hdec : L.length - (nI (j + 1)).toNatClampNeg < L.length - (nI j).toNatClampNeg := by simp (disch := omega) only [z_cl]; omega
    have hcn := (hD.1.2.1 j hjn).1
    have hnk := hN _ hcn
    have ec : (nI j).toNatClampNeg = j := z_cl (by omega)
    refine ⟨(z_in (by omega)).mpr (by omega), ?_⟩
    rw [ec, (hR.1 j hjn).1]
    refine m_of (k := 0) hM hn hcn (by omega) ?_
    rw [z_eq (by omega) (by omega), l1, z_add]
    rw [ec] at hdec
    refine ⟨fun q => ⟨(z_in (by omega)).mpr (by omega), ?_⟩, fun q => ⟨⟨j + 1, by omega, rfl, ?_, ?_⟩, hdec⟩⟩
    · refine m_of (k := 4) hM hn hcn (by omega) ?_
      rw [l0, z_eq (by omega) (by omega)]
      refine ⟨fun q2 => ?_, fun q2 => ⟨⟨j + 1, by omega, rfl, ?_, ?_⟩, hdec⟩⟩
      · have hp : pS num L t j = true := by unfold pS; rw [q, q2]; simp
        refine ⟨(z_in (by omega)).mpr (by omega), (z_in (by omega)).mpr (by omega), ⟨j + 1, by omega, rfl, ?_, ?_⟩, hdec⟩
        · rw [flt_y hp, List.length_append, List.length_singleton, z_add]
        · rw [flt_y hp, z_cl (by omega)]
          intro i hi
          rw [List.length_append, List.length_singleton] at hi
          unfold CR
          rcases Nat.lt_or_ge i (flt (pS num L t) j).length with r | r
          · rw [z_up_n (by omega), getD_l r]; exact hs i r
          · rw [show i = (flt (pS num L t) j).length by omega, z_up_s, getD_e]
      · have hp : pS num L t j = false := by unfold pS; rw [beq_eq_false_iff_ne.mpr q2]; simp
        rw [flt_n hp]
      · have hp : pS num L t j = false := by unfold pS; rw [beq_eq_false_iff_ne.mpr q2]; simp
        rw [flt_n hp]; exact hs
    · have hp : pS num L t j = false := by unfold pS; rw [beq_eq_false_iff_ne.mpr q]; simp
      rw [flt_n hp]
    · have hp : pS num L t j = false := by unfold pS; rw [beq_eq_false_iff_ne.mpr q]; simp
      rw [flt_n hp]; exact hs
/-- whether the latter of two ranks is a break that is asked for -/
def isQ (num : Nat → Nat → Nat) (L : List (Nat × Nat)) (sc c : Option Nat) (a b : Nat) : Bool := decide (num (cd L b) 1 < num (cd L a) 1) && (fits sc (sl L b / 6) && fits c (cd L b))
def brM (num : Nat → Nat → Nat) (L : List (Nat × Nat)) (R : List Nat) (sc c : Option Nat) : Nat → Nat := cnt (fun i => decide (0 < i) && isQ num L sc c (R.getD (i - 1) 0) (R.getD i 0))
theorem m_breaks {w sm : Int32} {order rank straight : Nat → Int32} {t : Nat} {sc c : Option Nat} {post : Int32 → Int32 → Int32 → (Nat → Int32) → (Nat → Int32) → (Nat → Int32) → Prop} (hM : RM n num row st s) (hO : rowOk n row) (hN : numOk n num) (ht : t < 6) (hsc : ∀ u, sc = some u → u < 16) (hc : ∀ u, c = some u → u < 40) (h : ∀ w sm order rank straight, post (nI (brM num (pre row 96) (sRow num row t) sc c (sRow num row t).length)) w sm order rank straight) : wp_X9_breaks (nI t) (optI sc) (optI c) w sm s order rank straight post := by
  have hn := hO.2.2.2
  have hD := RRd_pre hO hN
  have hl := hD.1.1
  have hG : RGo num (pre row 96) (sRow num row t) := RGo_flt (t := t) hD
  have hat : ∀ k, k < (pre row 96).length → slotO row (cd (pre row 96) k) = some (sl (pre row 96) k) := fun k hk => slotO_at hO.2.2.1 (hD.1.2.1 k hk).2 (pre_at (row := row) (t := 96) hk).2
  unfold wp_X9_breaks
  refine m_layStraight hM hO hN ht (fun order rank straight hR hs => ?_)
  have hRl : (sRow num row t).length ≤ 40 := hG.2.1
  generalize sRow num row t = R at h hs hRl hG ⊢
  generalize pre row 96 = L at h hs hD hl hG hat hR ⊢
  unfold wp_X9_breaks_l11
  by_cases h0 : R.length = 0
  · refine lf2_i (fun x4 x5 => x4 = nI 0 ∧ x5 = nI 1) (fun _ _ => 0) ⟨rfl, rfl⟩ ?_
    rintro x4 x5 ⟨rfl, rfl⟩
    refine ⟨fun _ => ?_, fun q => absurd (by rw [h0]; decide) q⟩
    have := h (nI L.length) (nI R.length) order rank straight
    rw [h0] at this ⊢; exact this
  · refine lf2_i (fun x4 x5 => ∃ j, 1 ≤ j ∧ j ≤ R.length ∧ x5 = nI j ∧ x4 = nI (brM num L R sc c j)) (fun _ x5 => R.length - x5.toNatClampNeg) ⟨1, by omega, by omega, rfl, rfl⟩ ?_
    rintro x4 x5 ⟨j, hj1, hj, rfl, rfl⟩
    have hcl := cnt_le (fun i => decide (0 < i) && isQ num L sc c (R.getD (i - 1) 0) (R.getD i 0)) j
    rw [z_le (by omega) (by omega)]
    refine ⟨fun hx => ?_, fun hx => ?_⟩
    · have hjn : j = R.length := by omega
      subst hjn; exact h _ _ _ _ _
    · have hjn : j < R.length := by omega
      have e1 : nI j + (1 : Int32) = nI (j + 1) := by rw [l1, z_add]
      have ec : (nI j).toNatClampNeg = j := z_cl (by omega)
      have hdec : R.length - (nI (j + 1)).toNatClampNeg < R.length - j := by simp (disch := omega) only [z_cl]; omega
      have g1 := hG.2.2.1 j hjn
      have g2 := hG.2.2.1 (j - 1) (by omega)
      have c1 := hD.1.2.1 _ g1.1
      have c2 := hD.1.2.1 _ g2.1
      have hin : vp_in (nI j) 40 := (z_in (by omega)).mpr (by omega)
      have hsj := hs j hjn
      rw [ec]
      refine ⟨hin, ?_⟩
      rw [hsj]
      refine m_of (k := 1) hM hn c1.1 (by omega) ?_
      have es : nI j - (1 : Int32) = nI (j - 1) := by rw [l1, z_sub hj1]
      rw [es, z_cl (show j - 1 < 2147483648 by omega), hs (j - 1) (by omega)]
      refine ⟨(z_in (by omega)).mpr (by omega), ?_⟩
      refine m_of (k := 1) hM hn c2.1 (by omega) ?_
      have d1 : num (CR L R j) 1 = num (cd L (R.getD j 0)) 1 := rfl
      have d2 : num (CR L R (j - 1)) 1 = num (cd L (R.getD (j - 1) 0)) 1 := rfl
      have b1 := numB hN c1.1 1 (by omega)
      have b2 := numB hN c2.1 1 (by omega)
      rw [d1, d2, z_le (by omega) (by omega)]
      have hstep : brM num L R sc c (j + 1) = brM num L R sc c j + (if isQ num L sc c (R.getD (j - 1) 0) (R.getD j 0) then 1 else 0) := by
        show cnt _ (j + 1) = _
        rw [cnt]
        have : decide (0 < j) = true := decide_eq_true (by omega)
        rw [this, Bool.true_and]; rfl
      have goNo : ∀ x : Int32, x = nI (brM num L R sc c j) → isQ num L sc c (R.getD (j - 1) 0) (R.getD j 0) = false → (∃ i, 1 ≤ i ∧ i ≤ R.length ∧ nI (j + 1) = nI i ∧ x = nI (brM num L R sc c i)) ∧ R.length - (nI (j + 1)).toNatClampNeg < R.length - j := by
        rintro x rfl hq
        refine ⟨⟨j + 1, by omega, by omega, rfl, ?_⟩, hdec⟩
        rw [hstep, hq]; rfl
      have goYes : ∀ x : Int32, x = nI (brM num L R sc c j + 1) → isQ num L sc c (R.getD (j - 1) 0) (R.getD j 0) = true → (∃ i, 1 ≤ i ∧ i ≤ R.length ∧ nI (j + 1) = nI i ∧ x = nI (brM num L R sc c i)) ∧ R.length - (nI (j + 1)).toNatClampNeg < R.length - j := by
        rintro x rfl hq
        refine ⟨⟨j + 1, by omega, by omega, rfl, ?_⟩, hdec⟩
        rw [hstep, hq]; rfl
      have z0 : ∀ a, nI a + (0 : Int32) = nI a := fun a => by rw [l0, z_add]; rfl
      have z1 : ∀ a, nI a + (1 : Int32) = nI (a + 1) := fun a => by rw [l1, z_add]
      have e5 : (-5 : Int32) = -nI 5 := rfl
      unfold wp_X9_breaks_j54
      rw [e1, z0, ec]
      refine ⟨fun q => ⟨fun _ => goNo _ rfl ?_, fun q2 => absurd rfl q2⟩, fun q => ⟨fun q2 => absurd q2 (by decide), fun _ => ?_⟩⟩
      · unfold isQ; rw [decide_eq_false (by omega)]; rfl
      · have hlt : decide (num (cd L (R.getD j 0)) 1 < num (cd L (R.getD (j - 1) 0)) 1) = true := decide_eq_true (by omega)
        have card : ∀ hf : fits sc (sl L (R.getD j 0) / 6) = true, wp_X9_breaks_j84 (optI sc) (optI c) (nI j) (nI (brM num L R sc c j)) (nI L.length) (nI R.length) s order rank straight (fun u0 u1 => (∃ i, 1 ≤ i ∧ i ≤ R.length ∧ u1 = nI i ∧ u0 = nI (brM num L R sc c i)) ∧ R.length - u1.toNatClampNeg < R.length - j) post := by
          intro hf
          unfold wp_X9_breaks_j84
          rw [e1, ec, z0, z1, hsj, e5]
          cases c with
          | none =>
            refine ⟨fun _ => goYes _ rfl ?_, fun q2 => absurd rfl q2⟩
            unfold isQ; rw [hlt, hf]; rfl
          | some u =>
            have hu := hc u rfl
            refine ⟨fun q2 => absurd q2 (by show ¬ nI u = -nI 5; rw [z_en (by omega) (by omega) (by omega)]; exact id), fun _ => ⟨hin, ?_⟩⟩
            have hc40 := g1.2.2.1
            have e : (nI (CR L R j) = optI (some u)) ↔ cd L (R.getD j 0) = u := z_eq (by omega) (by omega)
            rw [e]
            refine ⟨fun q2 => goYes _ rfl ?_, fun q2 => goNo _ rfl ?_⟩
            · unfold isQ; rw [hlt, hf]
              show (true && (true && (cd L (R.getD j 0) == u))) = true
              rw [beq_iff_eq.mpr q2]; rfl
            · unfold isQ; rw [hlt, hf]
              show (true && (true && (cd L (R.getD j 0) == u))) = false
              rw [beq_eq_false_iff_ne.mpr q2]; rfl
        rw [e5]
        cases sc with
        | none => exact ⟨fun _ => card rfl, fun q2 => absurd rfl q2⟩
        | some u =>
          have hu := hsc u rfl
          refine ⟨fun q2 => absurd q2 (by show ¬ nI u = -nI 5; rw [z_en (by omega) (by omega) (by omega)]; exact id), fun _ => ⟨hin, ?_⟩⟩
          rw [hsj]
          refine m_sceneOf hM hO c1.1 ?_
          have hso : slotO row (CR L R j) = some (sl L (R.getD j 0)) := hat _ g1.1
          rw [hso]
          have hs96 := c1.2
          have e : (optI ((some (sl L (R.getD j 0))).map (· / 6)) = optI (some u)) ↔ sl L (R.getD j 0) / 6 = u := by
            show (nI (sl L (R.getD j 0) / 6) = nI u) ↔ _
            exact z_eq (by omega) (by omega)
          rw [e]
          refine ⟨fun q2 => card (beq_iff_eq.mpr q2), fun q2 => goNo _ rfl ?_⟩
          unfold isQ
          rw [show fits (some u) (sl L (R.getD j 0) / 6) = false from beq_eq_false_iff_ne.mpr q2]
          simp
end
/-- pairs that follow one another -/
theorem flt_last {p : Nat → Bool} : ∀ m, lst p m = if (flt p m).length = 0 then none else some ((flt p m).getD ((flt p m).length - 1) 0)
  | 0 => rfl
  | m + 1 => by
    rw [lst_s]
    cases h : p m with
    | true =>
      rw [flt_y h, if_pos rfl, List.length_append, List.length_singleton, if_neg (by omega), Nat.add_sub_cancel, getD_e]
    | false =>
      rw [flt_n h, if_neg (by decide)]; exact flt_last m
def onL (Q : Nat → Nat → Bool) (k : Nat) : Option Nat → Bool
  | none => false
  | some b => Q b k
theorem tie {p : Nat → Bool} {Q : Nat → Nat → Bool} : ∀ m, cnt (fun i => decide (0 < i) && Q ((flt p m).getD (i - 1) 0) ((flt p m).getD i 0)) (flt p m).length = cnt (fun k => p k && onL Q k (lst p k)) m
  | 0 => rfl
  | m + 1 => by
    have ih := tie (p := p) (Q := Q) m
    rw [cnt]
    cases h : p m with
    | false => rw [flt_n h, ih]; simp
    | true =>
      rw [flt_y h, List.length_append, List.length_singleton, cnt, getD_e]
      have e1 : cnt (fun i => decide (0 < i) && Q ((flt p m ++ [m]).getD (i - 1) 0) ((flt p m ++ [m]).getD i 0)) (flt p m).length = cnt (fun i => decide (0 < i) && Q ((flt p m).getD (i - 1) 0) ((flt p m).getD i 0)) (flt p m).length := cnt_congr _ (fun i hi => by rw [getD_l (by omega), getD_l hi])
      rw [e1, ih, flt_last m]
      congr 1
      by_cases h0 : (flt p m).length = 0
      · rw [if_pos h0, h0]; rfl
      · rw [if_neg h0, getD_l (by omega)]
        have : decide (0 < (flt p m).length) = true := decide_eq_true (by omega)
        rw [this]; rfl
theorem cnt_sumN {p : Nat → Bool} : ∀ m, cnt p m = sumN (fun k => b2n (p k)) m
  | 0 => rfl
  | m + 1 => by
    rw [cnt, sumN, cnt_sumN m]
    cases p m <;> rfl
theorem sum_swap {x : Nat → Nat} {c : Nat → Bool} {w : Nat → Nat} : ∀ m, (∀ k, k < m → x k < 6) → sumN (fun t => sumN (fun k => if (x k == t) && c k then w k else 0) m) 6 = sumN (fun k => if c k then w k else 0) m
  | 0, _ => rfl
  | m + 1, h => by
    have ih := sum_swap (x := x) (c := c) (w := w) m (fun k hk => h k (by omega))
    have hx := h m (by omega)
    simp only [sumN] at ih ⊢
    rw [← ih]
    rcases (show x m = 0 ∨ x m = 1 ∨ x m = 2 ∨ x m = 3 ∨ x m = 4 ∨ x m = 5 by omega) with e | e | e | e | e | e <;> rw [e] <;> simp <;> omega
