/-! the cards of a thread, on the wall and in the box; the fewest moves; the card ahead -/
theorem sumN_add {f g : Nat → Nat} : ∀ m, sumN (fun k => f k + g k) m = sumN f m + sumN g m
  | 0 => rfl
  | m + 1 => by rw [sumN, sumN, sumN, sumN_add m]; omega
theorem sumN_zero : ∀ m, sumN (fun _ => 0) m = 0
  | 0 => rfl
  | m + 1 => by rw [sumN, sumN_zero m]
theorem sumN_pt {c0 v : Nat} : ∀ m, sumN (fun c => if c = c0 then v else 0) m = if c0 < m then v else 0
  | 0 => by rw [if_neg (by omega)]; rfl
  | m + 1 => by
    rw [sumN, sumN_pt m]
    by_cases h : m = c0
    · rw [if_pos h, if_neg (by omega), if_pos (by omega)]; omega
    · rw [if_neg h]
      by_cases h2 : c0 < m
      · rw [if_pos h2, if_pos (by omega)]; rfl
      · rw [if_neg h2, if_neg (by omega)]
def onW (L : List (Nat × Nat)) (m c : Nat) : Bool := (lst (fun k => cd L k == c) m).isSome
theorem onW_s {L : List (Nat × Nat)} {m c : Nat} : onW L (m + 1) c = ((cd L m == c) || onW L m c) := by
  unfold onW
  rw [lst_s]
  cases (cd L m == c) <;> rfl
theorem onW_f {L : List (Nat × Nat)} {m c : Nat} (h : ∀ k, k < m → cd L k ≠ c) : onW L m c = false := by
  unfold onW
  cases hl : lst (fun k => cd L k == c) m with
  | none => rfl
  | some b =>
    have hb := lst_lt _ hl
    exact absurd (beq_iff_eq.mp hb.2) (h b hb.1)
theorem onW_t {L : List (Nat × Nat)} {m c : Nat} (h : onW L m c = true) : ∃ k, k < m ∧ cd L k = c := by
  unfold onW at h
  cases hl : lst (fun k => cd L k == c) m with
  | none => rw [hl] at h; cases h
  | some b =>
    have hb := lst_lt _ hl
    exact ⟨b, hb.1, beq_iff_eq.mp hb.2⟩
theorem onW_y {L : List (Nat × Nat)} {m k : Nat} (h : k < m) : onW L m (cd L k) = true := by
  cases hc : onW L m (cd L k) with
  | true => rfl
  | false =>
    unfold onW at hc
    cases hl : lst (fun j => cd L j == cd L k) m with
    | some b => rw [hl] at hc; cases hc
    | none =>
      have := lst_none _ hl k h
      simp at this
theorem sum_on {n : Nat} {L : List (Nat × Nat)} {f : Nat → Nat} (hL : LOk n L) : ∀ m, m ≤ L.length → sumN (fun c => if onW L m c then f c else 0) n = sumN (fun k => f (cd L k)) m
  | 0, _ => by
    show sumN _ n = 0
    exact (sumN_congr (g := fun _ => 0) n (fun c _ => (rfl : (if onW L 0 c = true then f c else 0) = 0))).trans (sumN_zero n)
  | m + 1, h => by
    have ih := sum_on (f := f) hL m (by omega)
    rw [sumN, ← ih]
    have hc := (hL.2.1 m (by omega)).1
    have hno : onW L m (cd L m) = false := onW_f (fun k hk e => by have := hL.2.2.2 k m (by omega) (by omega) e; omega)
    rw [sumN_congr (g := fun c => (if onW L m c then f c else 0) + (if c = cd L m then f (cd L m) else 0)) n (fun c _ => ?_), sumN_add, sumN_pt, if_pos hc]
    rw [onW_s]
    by_cases he : c = cd L m
    · subst he
      rw [hno]; simp
    · rw [beq_eq_false_iff_ne.mpr (fun e => he e.symm), if_neg he]; rfl
section
variable {n : Nat} {num : Nat → Nat → Nat} {row : Nat → List Nat} {st : Nat → Nat} {s : Nat → Int32}
theorem rank_on {L : List (Nat × Nat)} {order rank : Nat → Int32} {c : Nat} (hR : ROr L order rank) (hl : L.length ≤ 40) (hc : c < 40) : (rank c = -5) ↔ onW L L.length c = false := by
  cases ho : onW L L.length c with
  | false =>
    refine ⟨fun _ => rfl, fun _ => hR.2 c hc (fun k hk e => ?_)⟩
    rw [← e, onW_y hk] at ho; cases ho
  | true =>
    obtain ⟨k, hk, e⟩ := onW_t ho
    refine ⟨fun h => ?_, fun h => by cases h⟩
    rw [← e, (hR.1 k hk).2] at h
    have e5 : (-5 : Int32) = -nI 5 := rfl
    rw [e5, z_en (by omega) (by omega) (by omega)] at h
    exact h.elim
def coF (num : Nat → Nat → Nat) (L : List (Nat × Nat)) (t w c : Nat) : Nat := if (num c 0 == t) && (onW L L.length c != (w == 1)) then (if w = 7 then num c 2 else 1) else 0
theorem coF_le {L : List (Nat × Nat)} {t w c : Nat} (hN : numOk n num) (hc : c < n) : coF num L t w c ≤ 999 := by
  have := (hN c hc).2.2.2.1
  unfold coF
  split
  · split <;> omega
  · omega
theorem coF_10 {L : List (Nat × Nat)} {t : Nat} (hL : LOk n L) : sumN (coF num L t 0) n = tallyF num st L 10 (some t) none := by
  have h := sum_on (f := fun c => if num c 0 == t then 1 else 0) hL L.length (Nat.le_refl _)
  unfold tallyF
  have e : sumN (fun k => if fits (some t) (num (cd L k) 0) && fits none (sl L k / 6) then worthF num st L 10 k else 0) L.length = sumN (fun k => if num (cd L k) 0 == t then 1 else 0) L.length := sumN_congr _ (fun k _ => by
    show (if (num (cd L k) 0 == t) && true then 1 else 0) = _
    rw [Bool.and_true])
  rw [e, ← h]
  refine sumN_congr _ (fun c _ => ?_)
  unfold coF
  cases onW L L.length c <;> cases (num c 0 == t) <;> rfl
theorem coF_7 {L : List (Nat × Nat)} {t : Nat} (hL : LOk n L) : sumN (coF num L t 7) n = tallyF num st L 2 (some t) none := by
  have h := sum_on (f := fun c => if num c 0 == t then num c 2 else 0) hL L.length (Nat.le_refl _)
  unfold tallyF
  have e : sumN (fun k => if fits (some t) (num (cd L k) 0) && fits none (sl L k / 6) then worthF num st L 2 k else 0) L.length = sumN (fun k => if num (cd L k) 0 == t then num (cd L k) 2 else 0) L.length := sumN_congr _ (fun k _ => by
    show (if (num (cd L k) 0 == t) && true then num (cd L k) 2 else 0) = _
    rw [Bool.and_true])
  rw [e, ← h]
  refine sumN_congr _ (fun c _ => ?_)
  unfold coF
  cases onW L L.length c <;> cases (num c 0 == t) <;> rfl
theorem cntT_sum {t : Nat} : ∀ m, cntT num t m = sumN (fun c => if num c 0 == t then 1 else 0) m
  | 0 => rfl
  | m + 1 => by
    rw [cntT, sumN, cntT_sum m]
    congr 1
    by_cases h : num m 0 = t
    · rw [if_pos h, if_pos (beq_iff_eq.mpr h)]
    · rw [if_neg h, if_neg (by rw [beq_iff_eq]; exact h)]
theorem coF_1 {L : List (Nat × Nat)} {t : Nat} (hL : LOk n L) : sumN (coF num L t 1) n + tallyF num st L 10 (some t) none = cntT num t n := by
  rw [← coF_10 hL, ← sumN_add, cntT_sum]
  refine sumN_congr _ (fun c _ => ?_)
  unfold coF
  cases onW L L.length c <;> cases (num c 0 == t) <;> rfl
end
