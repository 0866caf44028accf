/-! the numbers of a card, in a row -/
def mkC (a b c d e : Nat) : Nat → Nat
  | 0 => a
  | 1 => b
  | 2 => c
  | 3 => d
  | _ => e
theorem mkC_num5 {num : Nat → Nat → Nat} {n a b c d e k : Nat} : num5 num n a b c d e n k = mkC a b c d e k := by
  unfold num5
  rw [if_pos rfl]
  rcases k with _ | _ | _ | _ | k <;> rfl
