/-! what a thread tells -/
theorem flt_cnt {p : Nat → Bool} : ∀ m, (flt p m).length = cnt p m
  | 0 => rfl
  | m + 1 => by
    rw [cnt, ← flt_cnt m]
    cases h : p m with
    | true => rw [flt_y h, List.length_append, List.length_singleton]; rfl
    | false => rw [flt_n h]; rfl
theorem sRow_len {num : Nat → Nat → Nat} {st : Nat → Nat} {L : List (Nat × Nat)} {t : Nat} : (flt (pS num L t) L.length).length = tallyF num st L 11 (some t) none := by
  rw [flt_cnt, cnt_sumN]
  unfold tallyF
  refine sumN_congr _ (fun k _ => ?_)
  show b2n ((num (cd L k) 0 == t) && (num (cd L k) 4 == 0)) = if (num (cd L k) 0 == t) && true then b2n (num (cd L k) 4 == 0) else 0
  cases (num (cd L k) 0 == t) <;> cases (num (cd L k) 4 == 0) <;> rfl
