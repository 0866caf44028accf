/-! the scenes of the model -/
theorem sum_scene {row : Nat → List Nat} {n : Nat} {f : Nat → Nat} {sc : Nat} (hO : rowOk n row) : ∀ t, sumN (fun k => if sl (pre row t) k / 6 = sc then f (cd (pre row t) k) else 0) (pre row t).length = sumN (fun p => f (gd (row sc) p)) (min (row sc).length (t - 6 * sc))
  | 0 => by rw [show min (row sc).length (0 - 6 * sc) = 0 by omega]; rfl
  | t + 1 => by
    have ih := sum_scene (f := f) (sc := sc) hO t
    have h6 := hO.1 sc
    cases h : (row (t / 6))[t % 6]? with
    | none =>
      rw [pre_none h, ih]
      have hl := List.getElem?_eq_none_iff.mp h
      have : min (row sc).length (t - 6 * sc) = min (row sc).length (t + 1 - 6 * sc) := by
        by_cases he : t / 6 = sc
        · rw [he] at hl; omega
        · omega
      rw [this]
    | some c =>
      have hlt : t % 6 < (row (t / 6)).length := by
        have := List.getElem?_eq_some_iff.mp h
        exact this.1
      have hcd : sumN (fun k => if sl (pre row t ++ [(c, t)]) k / 6 = sc then f (cd (pre row t ++ [(c, t)]) k) else 0) (pre row t).length = sumN (fun k => if sl (pre row t) k / 6 = sc then f (cd (pre row t) k) else 0) (pre row t).length := sumN_congr _ (fun k hk => by rw [sl_l hk, cd_l hk])
      rw [pre_some h, List.length_append, List.length_singleton, sumN, hcd, ih, sl_e, cd_e]
      show _ + (if t / 6 = sc then f c else 0) = _
      by_cases he : t / 6 = sc
      · rw [if_pos he]
        rw [he] at hlt h
        rw [show min (row sc).length (t - 6 * sc) = t % 6 by omega, show min (row sc).length (t + 1 - 6 * sc) = t % 6 + 1 by omega, sumN]
        have : gd (row sc) (t % 6) = c := by
          have h2 := getD_some (d := 0) hlt
          rw [h] at h2
          exact (Option.some.inj h2).symm
        rw [this]
      · rw [if_neg he, Nat.add_zero, show min (row sc).length (t - 6 * sc) = min (row sc).length (t + 1 - 6 * sc) by omega]
theorem tally_words {n : Nat} {num : Nat → Nat → Nat} {st : Nat → Nat} {row : Nat → List Nat} {sc : Nat} (hO : rowOk n row) (hsc : sc < 16) : tallyF num st (pre row 96) 2 none (some sc) = wSum num (row sc) (row sc).length := by
  have h6 := hO.1 sc
  have := sum_scene (f := fun c => num c 2) (sc := sc) hO 96
  rw [show min (row sc).length (96 - 6 * sc) = (row sc).length by omega] at this
  unfold wSum
  rw [← this]
  unfold tallyF
  refine sumN_congr _ (fun k _ => ?_)
  show (if true && (sl (pre row 96) k / 6 == sc) then num (cd (pre row 96) k) 2 else 0) = _
  rw [Bool.true_and]
  by_cases h : sl (pre row 96) k / 6 = sc
  · rw [if_pos h, if_pos (beq_iff_eq.mpr h)]
  · rw [if_neg h, if_neg (by rw [beq_iff_eq]; exact h)]
theorem sum_swapN {x : Nat → Nat} {w : Nat → Nat} {N : Nat} : ∀ m, (∀ k, k < m → x k < N) → sumN (fun t => sumN (fun k => if x k = t then w k else 0) m) N = sumN w m
  | 0, _ => sumN_zero N
  | m + 1, h => by
    have ih := sum_swapN (x := x) (w := w) (N := N) m (fun k hk => h k (by omega))
    have e : sumN (fun t => sumN (fun k => if x k = t then w k else 0) (m + 1)) N = sumN (fun t => sumN (fun k => if x k = t then w k else 0) m + (if t = x m then w m else 0)) N := sumN_congr _ (fun t _ => by
      rw [sumN]; congr 1
      by_cases hx : x m = t
      · rw [if_pos hx, if_pos hx.symm]
      · rw [if_neg hx, if_neg (fun e => hx e.symm)])
    rw [e, sumN_add, ih, sumN_pt, if_pos (h m (by omega))]; rfl
theorem words_all {n : Nat} {num : Nat → Nat → Nat} {st : Nat → Nat} {row : Nat → List Nat} (hO : rowOk n row) : sumN (fun sc => wSum num (row sc) (row sc).length) 16 = tallyF num st (pre row 96) 2 none none := by
  have h1 : sumN (fun sc => wSum num (row sc) (row sc).length) 16 = sumN (fun sc => tallyF num st (pre row 96) 2 none (some sc)) 16 := sumN_congr _ (fun sc hsc => (tally_words hO hsc).symm)
  rw [h1]
  have hL := LOk_pre (t := 96) hO (by omega)
  have h2 := sum_swapN (x := fun k => sl (pre row 96) k / 6) (w := fun k => num (cd (pre row 96) k) 2) (N := 16) (pre row 96).length (fun k hk => by have := (hL.2.1 k hk).2; show sl (pre row 96) k / 6 < 16; omega)
  have h3 : tallyF num st (pre row 96) 2 none none = sumN (fun k => num (cd (pre row 96) k) 2) (pre row 96).length := rfl
  rw [h3, ← h2]
  refine sumN_congr _ (fun sc _ => sumN_congr _ (fun k _ => ?_))
  show (if true && (sl (pre row 96) k / 6 == sc) then num (cd (pre row 96) k) 2 else 0) = _
  rw [Bool.true_and]
  by_cases h : sl (pre row 96) k / 6 = sc
  · rw [if_pos h, if_pos (beq_iff_eq.mpr h)]
  · rw [if_neg h, if_neg (by rw [beq_iff_eq]; exact h)]
def thrM (num : Nat → Nat → Nat) (L : List Nat) : Nat → Int32
  | 0 => 0
  | m + 1 => thrM num L m ||| ((1 : Int32) <<< (nI (num (gd L m) 0) &&& 31))
theorem thrB_l {num : Nat → Nat → Nat} {L M : List (Nat × Nat)} {sc : Nat} : ∀ m, m ≤ L.length → thrB num (L ++ M) sc m = thrB num L sc m
  | 0, _ => rfl
  | m + 1, h => by
    rw [thrB, thrB, thrB_l m (by omega), sl_l (by omega), cd_l (by omega)]
theorem thr_scene {row : Nat → List Nat} {n : Nat} {num : Nat → Nat → Nat} {sc : Nat} (hO : rowOk n row) : ∀ t, thrB num (pre row t) sc (pre row t).length = thrM num (row sc) (min (row sc).length (t - 6 * sc))
  | 0 => by rw [show min (row sc).length (0 - 6 * sc) = 0 by omega]; rfl
  | t + 1 => by
    have ih := thr_scene (num := num) (sc := sc) hO t
    have h6 := hO.1 sc
    cases h : (row (t / 6))[t % 6]? with
    | none =>
      rw [pre_none h, ih]
      have hl := List.getElem?_eq_none_iff.mp h
      have : min (row sc).length (t - 6 * sc) = min (row sc).length (t + 1 - 6 * sc) := by
        by_cases he : t / 6 = sc
        · rw [he] at hl; omega
        · omega
      rw [this]
    | some c =>
      have hlt : t % 6 < (row (t / 6)).length := (List.getElem?_eq_some_iff.mp h).1
      rw [pre_some h, List.length_append, List.length_singleton, thrB, thrB_l _ (Nat.le_refl _), ih, sl_e, cd_e]
      show (if t / 6 = sc then _ else _) = _
      by_cases he : t / 6 = sc
      · rw [if_pos he]
        rw [he] at hlt h
        rw [show min (row sc).length (t - 6 * sc) = t % 6 by omega, show min (row sc).length (t + 1 - 6 * sc) = t % 6 + 1 by omega, thrM]
        have : gd (row sc) (t % 6) = c := by
          have h2 := getD_some (d := 0) hlt
          rw [h] at h2
          exact (Option.some.inj h2).symm
        rw [this]
      · rw [if_neg he, show min (row sc).length (t - 6 * sc) = min (row sc).length (t + 1 - 6 * sc) by omega]
theorem thr_all {row : Nat → List Nat} {n : Nat} {num : Nat → Nat → Nat} {sc : Nat} (hO : rowOk n row) (hsc : sc < 16) : thrB num (pre row 96) sc (pre row 96).length = thrM num (row sc) (row sc).length := by
  have h6 := hO.1 sc
  rw [thr_scene hO, show min (row sc).length (96 - 6 * sc) = (row sc).length by omega]
section
variable {n : Nat} {num : Nat → Nat → Nat} {row : Nat → List Nat} {st : Nat → Nat} {s : Nat → Int32}
theorem in_row {sc : Nat} (hsc : sc < 16) : vp_in (nI (204 + 7 * sc)) 316 := (z_in (by omega)).mpr (by omega)
theorem anyS_ls {sc : Nat} : anyS row 0 sc = (lsS row sc).isSome := by
  cases hl : lsS row sc with
  | some l =>
    have := lsS_lt hl
    exact anyS_iff.mpr ⟨l, this.1, Nat.zero_le _, this.2⟩
  | none =>
    refine eq_false_of_ne_true (fun e => ?_)
    obtain ⟨k, h1, _, h3⟩ := anyS_iff.mp e
    have := lst_none _ hl k h1
    rw [show full row k = true from decide_eq_true h3] at this; cases this
theorem t_101 : (1120534528 : UInt32).toNat = 1120534528 := rfl
theorem cnt_none : ∀ k, spS num row k = none → cnt (full row) k = 0
  | 0, _ => rfl
  | k + 1, h => by
    unfold spS at h
    by_cases hf : full row k = true
    · rw [if_pos hf] at h
      cases hs : spS num row k with
      | none => rw [hs] at h; cases h
      | some p => rw [hs] at h; cases h
    · rw [if_neg hf] at h
      rw [cnt, cnt_none k h, if_neg hf]
theorem cnt_some {p : UInt32 × UInt32} : ∀ k, spS num row k = some p → 0 < cnt (full row) k := by
  intro k
  induction k generalizing p with
  | zero => intro h; cases h
  | succ k ih =>
    intro h
    by_cases hf : full row k = true
    · rw [cnt, if_pos hf]; omega
    · unfold spS at h
      rw [if_neg hf] at h
      have := ih h
      rw [cnt, if_neg hf]; omega
end
