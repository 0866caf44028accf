/-! breaks, on both sides -/
section
variable {n : Nat} {num : Nat → Nat → Nat} {row : Nat → List Nat} {st : Nat → Nat} {s : Nat → Int32}
theorem RRd_pre (hO : rowOk n row) (hN : numOk n num) : RRd n num (pre row 96) := ⟨LOk_pre hO (by omega), hN, hO.2.2.2⟩
/-- the straight row of a thread, as ranks -/
def sRow (num : Nat → Nat → Nat) (row : Nat → List Nat) (t : Nat) : List Nat := flt (pS num (pre row 96) t) (pre row 96).length
/-- whether the latter of two ranks is a break that is asked for -/
def isQ (num : Nat → Nat → Nat) (L : List (Nat × Nat)) (sc c : Option Nat) (a b : Nat) : Bool := decide (num (cd L b) 1 < num (cd L a) 1) && (fits sc (sl L b / 6) && fits c (cd L b))
def brM (num : Nat → Nat → Nat) (L : List (Nat × Nat)) (R : List Nat) (sc c : Option Nat) : Nat → Nat := cnt (fun i => decide (0 < i) && isQ num L sc c (R.getD (i - 1) 0) (R.getD i 0))
end
/-- pairs that follow one another -/
theorem flt_last {p : Nat → Bool} : ∀ m, lst p m = if (flt p m).length = 0 then none else some ((flt p m).getD ((flt p m).length - 1) 0)
  | 0 => rfl
  | m + 1 => by
    rw [lst_s]
    cases h : p m with
    | true =>
      rw [flt_y h, if_pos rfl, List.length_append, List.length_singleton, if_neg (by omega), Nat.add_sub_cancel, getD_e]
    | false =>
      rw [flt_n h, if_neg (by decide)]; exact flt_last m
def onL (Q : Nat → Nat → Bool) (k : Nat) : Option Nat → Bool
  | none => false
  | some b => Q b k
theorem tie {p : Nat → Bool} {Q : Nat → Nat → Bool} : ∀ m, cnt (fun i => decide (0 < i) && Q ((flt p m).getD (i - 1) 0) ((flt p m).getD i 0)) (flt p m).length = cnt (fun k => p k && onL Q k (lst p k)) m
  | 0 => rfl
  | m + 1 => by
    have ih := tie (p := p) (Q := Q) m
    rw [cnt]
    cases h : p m with
    | false => rw [flt_n h, ih]; simp
    | true =>
      rw [flt_y h, List.length_append, List.length_singleton, cnt, getD_e]
      have e1 : cnt (fun i => decide (0 < i) && Q ((flt p m ++ [m]).getD (i - 1) 0) ((flt p m ++ [m]).getD i 0)) (flt p m).length = cnt (fun i => decide (0 < i) && Q ((flt p m).getD (i - 1) 0) ((flt p m).getD i 0)) (flt p m).length := cnt_congr _ (fun i hi => by rw [getD_l (by omega), getD_l hi])
      rw [e1, ih, flt_last m]
      congr 1
      by_cases h0 : (flt p m).length = 0
      · rw [if_pos h0, h0]; rfl
      · rw [if_neg h0, getD_l (by omega)]
        have : decide (0 < (flt p m).length) = true := decide_eq_true (by omega)
        rw [this]; rfl
theorem cnt_sumN {p : Nat → Bool} : ∀ m, cnt p m = sumN (fun k => b2n (p k)) m
  | 0 => rfl
  | m + 1 => by
    rw [cnt, sumN, cnt_sumN m]
    cases p m <;> rfl
theorem sum_swap {x : Nat → Nat} {c : Nat → Bool} {w : Nat → Nat} : ∀ m, (∀ k, k < m → x k < 6) → sumN (fun t => sumN (fun k => if (x k == t) && c k then w k else 0) m) 6 = sumN (fun k => if c k then w k else 0) m
  | 0, _ => rfl
  | m + 1, h => by
    have ih := sum_swap (x := x) (c := c) (w := w) m (fun k hk => h k (by omega))
    have hx := h m (by omega)
    simp only [sumN] at ih ⊢
    rw [← ih]
    rcases (show x m = 0 ∨ x m = 1 ∨ x m = 2 ∨ x m = 3 ∨ x m = 4 ∨ x m = 5 by omega) with e | e | e | e | e | e <;> rw [e] <;> simp <;> omega
