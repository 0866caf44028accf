/-! plain facts of rows, ranks and sums -/
section
variable {n : Nat} {num : Nat → Nat → Nat} {row : Nat → List Nat} {st : Nat → Nat}
theorem pre_sl {sc p : Nat} (hO : rowOk n row) (hsc : sc < 16) (hp : p < (row sc).length) : sl (pre row 96) (pre row (6 * sc + p)).length = 6 * sc + p := by
  have h6 := hO.1 sc
  have hst := pre_step hO hp
  obtain ⟨X, hX⟩ := pre_pref (row := row) (t := 6 * sc + p + 1) (96 - (6 * sc + p + 1))
  rw [show 6 * sc + p + 1 + (96 - (6 * sc + p + 1)) = 96 by omega, hst] at hX
  rw [hX, sl_l (by rw [List.length_append, List.length_singleton]; omega), sl_e]
/-- the rank of a place -/
def ix (row : Nat → List Nat) (u : Nat) : Nat := (pre row u).length
theorem ix_0 : ix row 0 = 0 := rfl
theorem ix_s {sc p : Nat} (hO : rowOk n row) (hp : p < (row sc).length) : ix row (6 * sc + (p + 1)) = ix row (6 * sc + p) + 1 := by
  unfold ix
  rw [← Nat.add_assoc, pre_step hO hp, List.length_append, List.length_singleton]
theorem ix_n {sc : Nat} (hO : rowOk n row) : ix row (6 * (sc + 1)) = ix row (6 * sc + (row sc).length) := congrArg List.length (pre_next hO)
theorem ix_at {sc p : Nat} (hO : rowOk n row) (hsc : sc < 16) (hp : p < (row sc).length) : ix row (6 * sc + p) < (pre row 96).length ∧ cd (pre row 96) (ix row (6 * sc + p)) = gd (row sc) p ∧ sl (pre row 96) (ix row (6 * sc + p)) = 6 * sc + p := ⟨(pre_idx hO hsc hp).1, (pre_idx hO hsc hp).2, pre_sl hO hsc hp⟩
theorem ix_up {u d : Nat} : ix row u ≤ ix row (u + d) := by
  obtain ⟨X, hX⟩ := pre_pref (row := row) (t := u) d
  unfold ix
  rw [hX, List.length_append]; omega
theorem ix_le {u : Nat} (hu : u ≤ 96) : ix row u ≤ (pre row 96).length := by
  have h := ix_up (row := row) (u := u) (d := 96 - u)
  rw [show u + (96 - u) = 96 by omega] at h
  exact h
theorem ix_iff {u k : Nat} (hO : rowOk n row) (hu : u ≤ 96) (hk : k < (pre row 96).length) : k < ix row u ↔ sl (pre row 96) k < u := by
  obtain ⟨X, hX⟩ := pre_pref (row := row) (t := u) (96 - u)
  rw [show u + (96 - u) = 96 by omega] at hX
  refine ⟨fun h => ?_, fun h => ?_⟩
  · have a := (pre_at (row := row) (t := u) (k := k) h).1
    rw [hX, sl_l h]; exact a
  · have a := pre_at hk
    have hm : (cd (pre row 96) k, sl (pre row 96) k) ∈ pre row u := (pre_mem row u).mpr ⟨h, a.2⟩
    obtain ⟨j, hj, he⟩ := List.mem_iff_getElem.mp hm
    have e2 : sl (pre row u) j = sl (pre row 96) k := by
      have e0 : (pre row u)[j]? = some (cd (pre row 96) k, sl (pre row 96) k) := by rw [List.getElem?_eq_getElem hj, he]
      rw [show sl (pre row u) j = ((pre row u).getD j (0, 0)).2 from rfl, List.getD_eq_getElem?_getD, e0, Option.getD_some]
    have e3 : sl (pre row 96) j = sl (pre row u) j := by rw [hX, sl_l hj]
    have hj96 : j < (pre row 96).length := by
      have := ix_le (row := row) hu
      unfold ix at this; omega
    have hjk : j = k := by
      rcases Nat.lt_trichotomy j k with q | q | q
      · have := pre_up (row := row) 96 j k q hk; omega
      · exact q
      · have := pre_up (row := row) 96 k j q hj96; omega
    rw [← hjk]; exact hj
/-! sums over a stretch -/
theorem sum_add {f : Nat → Nat} {a : Nat} : ∀ d, sumN f (a + d) = sumN f a + sumN (fun i => f (a + i)) d
  | 0 => rfl
  | d + 1 => by
    rw [← Nat.add_assoc, sumN, sumN, sum_add d]; omega
theorem sum_mono {f : Nat → Nat} {a : Nat} (d : Nat) : sumN f a ≤ sumN f (a + d) := by rw [sum_add]; omega
theorem sum_z {m : Nat} {f : Nat → Nat} (h : ∀ k, k < m → f k = 0) : sumN f m = 0 := by
  rw [sumN_congr (g := fun _ => 0) m h, sumN_zero]
theorem sum_cut {w : Nat → Nat} {a b m : Nat} (hab : a ≤ b) (hbm : b ≤ m) : sumN (fun k => if a ≤ k ∧ k < b then w k else 0) m + sumN w a = sumN w b := by
  have h1 := sum_add (f := fun k => if a ≤ k ∧ k < b then w k else 0) (a := a) (m - a)
  have h2 := sum_add (f := fun i => if a ≤ a + i ∧ a + i < b then w (a + i) else 0) (a := b - a) (m - b)
  have h3 := sum_add (f := w) (a := a) (b - a)
  rw [show a + (m - a) = m by omega] at h1
  rw [show b - a + (m - b) = m - a by omega] at h2
  rw [show a + (b - a) = b by omega] at h3
  have e1 : sumN (fun k => if a ≤ k ∧ k < b then w k else 0) a = 0 := sum_z (fun k hk => by rw [if_neg (by omega)])
  have e2 : sumN (fun i => if a ≤ a + (b - a + i) ∧ a + (b - a + i) < b then w (a + (b - a + i)) else 0) (m - b) = 0 := sum_z (fun k hk => by rw [if_neg (by omega)])
  have e3 : sumN (fun i => if a ≤ a + i ∧ a + i < b then w (a + i) else 0) (b - a) = sumN (fun i => w (a + i)) (b - a) := sumN_congr _ (fun k hk => by rw [if_pos (by omega)])
  rw [e2, e3] at h2
  omega
/-- the tally of a scene, as what lies between two ranks -/
theorem tally_cut {w sc : Nat} (hO : rowOk n row) (hsc : sc < 16) : tallyF num st (pre row 96) w none (some sc) + sumN (worthF num st (pre row 96) w) (ix row (6 * sc)) = sumN (worthF num st (pre row 96) w) (ix row (6 * (sc + 1))) := by
  have hab : ix row (6 * sc) ≤ ix row (6 * (sc + 1)) := by
    have h := ix_up (row := row) (u := 6 * sc) (d := 6)
    rw [show 6 * sc + 6 = 6 * (sc + 1) by omega] at h; exact h
  have hb := ix_le (row := row) (u := 6 * (sc + 1)) (by omega)
  rw [← sum_cut (m := (pre row 96).length) hab hb]
  unfold tallyF
  rw [sumN_congr (g := fun k => if ix row (6 * sc) ≤ k ∧ k < ix row (6 * (sc + 1)) then worthF num st (pre row 96) w k else 0) _ (fun k hk => ?_)]
  have i1 := ix_iff (u := 6 * sc) hO (by omega) hk
  have i2 := ix_iff (u := 6 * (sc + 1)) hO (by omega) hk
  show (if (true && (sl (pre row 96) k / 6 == sc)) = true then _ else 0) = _
  by_cases he : sl (pre row 96) k / 6 = sc
  · rw [if_pos (by rw [Bool.true_and]; exact beq_iff_eq.mpr he), if_pos (by omega)]
  · rw [if_neg (by rw [Bool.true_and]; exact fun q => he (beq_iff_eq.mp q)), if_neg (by omega)]
theorem tally_none {w : Nat} {L : List (Nat × Nat)} : tallyF num st L w none none = sumN (worthF num st L w) L.length := rfl
theorem sum_scenes {w : Nat} (hO : rowOk n row) : ∀ sc, sc ≤ 16 → sumN (fun s => tallyF num st (pre row 96) w none (some s)) sc = sumN (worthF num st (pre row 96) w) (ix row (6 * sc))
  | 0, _ => by rw [Nat.mul_zero, ix_0, sumN, sumN]
  | sc + 1, h => by
    have ih := sum_scenes (w := w) hO sc (by omega)
    have hc := tally_cut (num := num) (st := st) (w := w) hO (show sc < 16 by omega)
    rw [sumN, ih]; omega
theorem w12 {L : List (Nat × Nat)} {m : Nat} : sumN (worthF num st L 12) m = cnt (isBrk num L) m := (cnt_sumN (p := isBrk num L) m).symm
theorem w10 {L : List (Nat × Nat)} : ∀ m, sumN (worthF num st L 10) m = m
  | 0 => rfl
  | m + 1 => by rw [sumN, w10 m]; rfl
theorem cnt_split {p : Nat → Bool} : ∀ m, cnt p m + cnt (fun i => !p i) m = m
  | 0 => rfl
  | m + 1 => by
    have ih := cnt_split (p := p) m
    rw [cnt, cnt]
    cases p m <;> simp <;> omega
theorem cnt_ex {p : Nat → Bool} : ∀ m, 0 < cnt p m → ∃ i, i < m ∧ p i = true
  | 0, h => absurd h (Nat.lt_irrefl _)
  | m + 1, h => by
    by_cases hp : p m = true
    · exact ⟨m, by omega, hp⟩
    · rw [cnt, if_neg hp] at h
      obtain ⟨i, hi, hpi⟩ := cnt_ex m h
      exact ⟨i, by omega, hpi⟩
theorem cnt_at {p : Nat → Bool} {i m : Nat} (hi : i < m) (hp : p i = true) : cnt p i + 1 ≤ cnt p m := by
  have h1 : cnt p (i + 1) = cnt p i + 1 := by rw [cnt, if_pos hp]
  have h2 := cnt_up (p := p) (k := i + 1) (m - (i + 1))
  rw [show i + 1 + (m - (i + 1)) = m by omega] at h2
  omega
theorem cnt_two {p : Nat → Bool} {i j m : Nat} (hij : i ≠ j) (hi : i < m) (hj : j < m) (h1 : p i = true) (h2 : p j = true) : 2 ≤ cnt p m := by
  rcases Nat.lt_or_gt_of_ne hij with q | q
  · have a := cnt_at q h1
    have b := cnt_at hj h2
    omega
  · have a := cnt_at q h2
    have b := cnt_at hi h1
    omega
/-! the longest row -/
def cE (H : Nat → Nat) (k : Nat) : Nat := mxB H (lonT H k) k k + 1
theorem lon_cE {H : Nat → Nat} : ∀ k j, j < k → lonT H k j = cE H j
  | 0, j, h => absurd h (Nat.not_lt_zero _)
  | k + 1, j, h => by
    rw [lonT_s]
    by_cases he : j = k
    · rw [if_pos he, he]; rfl
    · rw [if_neg he]; exact lon_cE k j (by omega)
theorem mxB_ge {H T : Nat → Nat} {k j : Nat} : ∀ m, j < m → H j ≤ H k → T j ≤ mxB H T k m
  | 0, h, _ => absurd h (Nat.not_lt_zero _)
  | m + 1, h, hle => by
    unfold mxB
    by_cases he : j = m
    · subst he
      rw [if_pos hle]; split <;> omega
    · have ih := mxB_ge (T := T) m (by omega) hle
      split
      · split <;> omega
      · exact ih
theorem bst_ge {H : Nat → Nat} {k : Nat} : ∀ m, k < m → cE H k ≤ bst H m
  | 0, h => absurd h (Nat.not_lt_zero _)
  | m + 1, h => by
    rw [bst_s]
    have hc : mxB H (lonT H m) m m + 1 = cE H m := rfl
    rw [hc]
    by_cases he : k = m
    · subst he; split <;> omega
    · have ih := bst_ge (H := H) (k := k) m (by omega)
      split <;> omega
theorem cE_chain {H : Nat → Nat} {f : Nat → Bool} (hf : ∀ i j, i < j → f i = true → f j = true → H i ≤ H j) : ∀ k, f k = true → cnt f k + 1 ≤ cE H k := by
  intro k
  induction k using Nat.strongRecOn with
  | ind k ih =>
    intro hk
    by_cases h0 : cnt f k = 0
    · unfold cE; omega
    · cases hl : lst f k with
      | none =>
        have hz := cnt_zero (p := f) k (fun j hj => lst_none k hl j hj)
        omega
      | some j =>
        have hj := lst_lt k hl
        have a := ih j hj.1 hj.2
        have b := mxB_ge (H := H) (T := lonT H k) k hj.1 (hf j k hj.1 hj.2 hk)
        rw [lon_cE k j hj.1] at b
        have hc : cnt f k = cnt f j + 1 := by
          have e : cnt f (j + 1) = cnt f j + 1 := by rw [cnt, if_pos hj.2]
          have g : ∀ d, j + 1 + d ≤ k → cnt f (j + 1 + d) = cnt f (j + 1) := by
            intro d
            induction d with
            | zero => intro _; rfl
            | succ d ihd =>
              intro hd
              rw [← Nat.add_assoc, cnt, ihd (by omega)]
              have hn : f (j + 1 + d) = false := by
                cases hq : f (j + 1 + d) with
                | false => rfl
                | true =>
                  exfalso
                  have : ∀ m, j + 1 + d < m → ∃ b, lst f m = some b ∧ j + 1 + d ≤ b := by
                    intro m hm
                    induction m with
                    | zero => omega
                    | succ m ihm =>
                      rw [lst_s]
                      by_cases hfm : f m = true
                      · rw [if_pos hfm]; exact ⟨m, rfl, by omega⟩
                      · rw [if_neg hfm]
                        have : j + 1 + d ≠ m := fun e => hfm (e ▸ hq)
                        exact ihm (by omega)
                  obtain ⟨b, hb, hb2⟩ := this k (by omega)
                  rw [hl] at hb; cases hb; omega
              rw [hn]; rfl
          have := g (k - (j + 1)) (by omega)
          rw [show j + 1 + (k - (j + 1)) = k by omega] at this
          omega
        unfold cE; omega
theorem bst_chain {H : Nat → Nat} {f : Nat → Bool} (hf : ∀ i j, i < j → f i = true → f j = true → H i ≤ H j) (m : Nat) : cnt f m ≤ bst H m := by
  by_cases h0 : cnt f m = 0
  · omega
  · cases hl : lst f m with
    | none =>
      have hz := cnt_zero (p := f) m (fun j hj => lst_none m hl j hj)
      omega
    | some j =>
      have hj := lst_lt m hl
      have a := cE_chain hf j hj.2
      have b := bst_ge (H := H) m hj.1
      have hc : cnt f m ≤ cnt f j + 1 := by
        have e : cnt f (j + 1) = cnt f j + 1 := by rw [cnt, if_pos hj.2]
        have g : ∀ d, j + 1 + d ≤ m → cnt f (j + 1 + d) = cnt f (j + 1) := by
          intro d
          induction d with
          | zero => intro _; rfl
          | succ d ihd =>
            intro hd
            rw [← Nat.add_assoc, cnt, ihd (by omega)]
            have hn : f (j + 1 + d) = false := by
              cases hq : f (j + 1 + d) with
              | false => rfl
              | true =>
                exfalso
                have : ∀ x, j + 1 + d < x → ∃ b, lst f x = some b ∧ j + 1 + d ≤ b := by
                  intro x hx
                  induction x with
                  | zero => omega
                  | succ x ihx =>
                    rw [lst_s]
                    by_cases hfm : f x = true
                    · rw [if_pos hfm]; exact ⟨x, rfl, by omega⟩
                    · rw [if_neg hfm]
                      have : j + 1 + d ≠ x := fun e => hfm (e ▸ hq)
                      exact ihx (by omega)
                obtain ⟨b, hb, hb2⟩ := this m (by omega)
                rw [hl] at hb; cases hb; omega
            rw [hn]; rfl
        have := g (m - (j + 1)) (by omega)
        rw [show j + 1 + (m - (j + 1)) = m by omega] at this
        omega
      omega
theorem cE_le {H : Nat → Nat} (k : Nat) : cE H k ≤ k + 1 := by
  have := mxB_le (H := H) (T := lonT H k) (k := k) (b := k) k (fun j _ => lonT_le H k j)
  unfold cE; omega
theorem mxB_le2 {H T : Nat → Nat} {k : Nat} : ∀ m, (∀ j, j < m → T j ≤ j + 1) → mxB H T k m ≤ m
  | 0, _ => Nat.zero_le _
  | m + 1, h => by
    have ih := mxB_le2 (H := H) (k := k) m (fun j hj => h j (by omega))
    have := h m (by omega)
    unfold mxB
    split
    · split <;> omega
    · omega
/-- the row is as long as it can be just without a break -/
theorem cE_full {H : Nat → Nat} : ∀ k, cE H k = k + 1 → dsc H (k + 1) = 0
  | 0, _ => by rw [dsc_s, if_neg (by omega)]; rfl
  | k + 1, h => by
    have hT : ∀ j, j < k + 1 → lonT H (k + 1) j ≤ j + 1 := fun j hj => by rw [lon_cE _ j hj]; exact cE_le j
    have h1 : mxB H (lonT H (k + 1)) (k + 1) (k + 1) = k + 1 := by unfold cE at h; omega
    have h2 := mxB_le2 (H := H) (T := lonT H (k + 1)) (k := k + 1) k (fun j hj => hT j (by omega))
    have h3 : H k ≤ H (k + 1) ∧ lonT H (k + 1) k = k + 1 := by
      have hk := hT k (by omega)
      unfold mxB at h1
      by_cases hle : H k ≤ H (k + 1)
      · rw [if_pos hle] at h1
        refine ⟨hle, ?_⟩
        split at h1 <;> omega
      · rw [if_neg hle] at h1; omega
    rw [lon_cE _ k (by omega)] at h3
    have ih := cE_full k h3.2
    rw [dsc_s, ih, if_neg (by rw [Nat.add_sub_cancel]; omega)]
theorem bst_full {H : Nat → Nat} : ∀ m, bst H m = m → dsc H m = 0
  | 0, _ => rfl
  | m + 1, h => by
    have hb := bst_le H m
    have hc := cE_le (H := H) m
    rw [bst_s] at h
    have he : mxB H (lonT H m) m m + 1 = cE H m := rfl
    rw [he] at h
    refine cE_full m ?_
    split at h <;> omega
theorem dsc_mono {H : Nat → Nat} : ∀ m, dsc H m = 0 → ∀ i j, i < j → j < m → H i ≤ H j
  | 0, _, i, j, _, hj => absurd hj (Nat.not_lt_zero _)
  | m + 1, h, i, j, hij, hj => by
    rw [dsc_s] at h
    have ih := dsc_mono (H := H) m (by omega)
    by_cases he : j = m
    · subst he
      have h2 : H (j - 1) ≤ H j := by
        rcases Nat.lt_or_ge (H j) (H (j - 1)) with q | q
        · rw [if_pos ⟨by omega, q⟩] at h; omega
        · exact q
      by_cases hi : i = j - 1
      · rw [hi]; exact h2
      · have := ih i (j - 1) (by omega) (by omega); omega
    · exact ih i j hij (by omega)
theorem dsc_zero {H : Nat → Nat} {m : Nat} (h : ∀ i j, i < j → j < m → H i ≤ H j) : dsc H m = 0 := cnt_zero m (fun i hi => by
  by_cases h0 : 0 < i
  · have := h (i - 1) i (by omega) hi
    rw [decide_eq_false (show ¬ H i < H (i - 1) by omega), Bool.and_false]
  · rw [decide_eq_false h0, Bool.false_and])
theorem full_bst {H : Nat → Nat} {m : Nat} (h : dsc H m = 0) : bst H m = m := by
  have hm := dsc_mono m h
  have hb := bst_le H m
  have hc := bst_chain (H := H) (f := fun i => decide (i < m)) (fun i j hij hi hj => hm i j hij (of_decide_eq_true hj)) m
  rw [cnt_all (p := fun i => decide (i < m)) m (fun k hk => decide_eq_true hk)] at hc
  omega
theorem bst_pos {H : Nat → Nat} {m : Nat} (h : 0 < m) : 0 < bst H m := by
  have := bst_ge (H := H) (k := 0) m h
  unfold cE at this; omega
/-- the breaks of a thread are the descents of its straight row -/
theorem tally_HR {L : List (Nat × Nat)} {t : Nat} (h6 : T6 num L) : tallyF num st L 12 (some t) none = dsc (HR num L (flt (pS num L t) L.length)) (flt (pS num L t) L.length).length := by
  rw [tally_dsc h6, FL_len]
  exact dsc_congr (fun i hi => (HF_HR hi).symm)
end
