/-! the text, read -/
def isD (T : Nat → Nat) (len lo p : Nat) : Bool := decide (p < len ∧ 48 + lo ≤ T p ∧ T p ≤ 57)
theorem isD_iff {T : Nat → Nat} {len lo p : Nat} : isD T len lo p = true ↔ (p < len ∧ 48 + lo ≤ T p ∧ T p ≤ 57) := decide_eq_true_iff
/-- the rest of a number -/
def numG (T : Nat → Nat) (len most : Nat) : Nat → Nat → Nat → Nat × Nat
  | 0, v, p => (v, p)
  | f + 1, v, p => if isD T len 0 p = true ∧ v ≠ 0 ∧ v * 10 + (T p - 48) ≤ most then numG T len most f (v * 10 + (T p - 48)) (p + 1) else (v, p)
theorem numG_s {T : Nat → Nat} {len most f v p : Nat} : numG T len most (f + 1) v p = if isD T len 0 p = true ∧ v ≠ 0 ∧ v * 10 + (T p - 48) ≤ most then numG T len most f (v * 10 + (T p - 48)) (p + 1) else (v, p) := rfl
theorem numG_ok {T : Nat → Nat} {len most : Nat} : ∀ f v p, v ≤ most → p ≤ len → (numG T len most f v p).1 ≤ most ∧ p ≤ (numG T len most f v p).2 ∧ (numG T len most f v p).2 ≤ len ∧ (0 < v → 0 < (numG T len most f v p).1)
  | 0, v, p, hv, hp => ⟨hv, Nat.le_refl _, hp, id⟩
  | f + 1, v, p, hv, hp => by
    rw [numG_s]
    by_cases h : isD T len 0 p = true ∧ v ≠ 0 ∧ v * 10 + (T p - 48) ≤ most
    · rw [if_pos h]
      have hd := isD_iff.mp h.1
      have ih := numG_ok (T := T) (len := len) (most := most) f (v * 10 + (T p - 48)) (p + 1) h.2.2 (by omega)
      exact ⟨ih.1, by omega, ih.2.2.1, fun hp => ih.2.2.2 (by omega)⟩
    · rw [if_neg h]; exact ⟨hv, Nat.le_refl _, hp, id⟩
/-- a number, and where it ends -/
def numP (T : Nat → Nat) (len lo most p : Nat) : Option (Nat × Nat) := if isD T len lo p = true then some (numG T len most (len - (p + 1)) (T p - 48) (p + 1)) else none
theorem numP_ok {T : Nat → Nat} {len lo most p v q : Nat} (hm : 9 ≤ most) (h : numP T len lo most p = some (v, q)) : v ≤ most ∧ p < q ∧ q ≤ len ∧ (lo = 1 → 1 ≤ v) := by
  unfold numP at h
  by_cases hd : isD T len lo p = true
  · rw [if_pos hd] at h
    have h2 := isD_iff.mp hd
    have hg := numG_ok (T := T) (len := len) (most := most) (len - (p + 1)) (T p - 48) (p + 1) (by omega) (by omega)
    have he : numG T len most (len - (p + 1)) (T p - 48) (p + 1) = (v, q) := Option.some.inj h
    rw [he] at hg
    exact ⟨hg.1, by have := hg.2.1; simp at this; omega, hg.2.2.1, fun hl => hg.2.2.2 (by omega)⟩
  · rw [if_neg hd] at h; cases h
def isAt (T : Nat → Nat) (len c p : Nat) : Bool := decide (p < len ∧ T p = c)
theorem isAt_iff {T : Nat → Nat} {len c p : Nat} : isAt T len c p = true ↔ (p < len ∧ T p = c) := decide_eq_true_iff
def mkC (a b c d e : Nat) : Nat → Nat
  | 0 => a
  | 1 => b
  | 2 => c
  | 3 => d
  | _ => e
/-- a card, and where it ends, or where its fault is -/
def rdCard (T : Nat → Nat) (len p : Nat) : Option (Nat → Nat) × Nat :=
  if p < len ∧ 65 ≤ T p ∧ T p ≤ 70 then
    match numP T len 0 9999 (p + 1) with
    | none => (none, p + 1)
    | some (h, p1) => if isAt T len 44 p1 then
        match numP T len 1 999 (p1 + 1) with
        | none => (none, p1 + 1)
        | some (w, p2) => if isAt T len 44 p2 then
            match numP T len 0 100 (p2 + 1) with
            | none => (none, p2 + 1)
            | some (te, p3) => if isAt T len 42 p3 then (some (mkC (T p - 65) h w te 1), p3 + 1) else (some (mkC (T p - 65) h w te 0), p3)
          else (none, p2)
      else (none, p1)
  else (none, p)
/-- the text's signs -/
def RT (T : Nat → Nat) (len : Nat) (g : Nat → Int32) : Prop := len ≤ 60 ∧ (∀ k, T k < 65536) ∧ ∀ k, k < len → g k = nI (T k)
section
variable {T : Nat → Nat} {len : Nat} {g : Nat → Int32}
theorem s_hasAhead {post : Int32 → Prop} {p : Nat} (hT : RT T len g) (hp : p ≤ len) (h : post (bI (decide (p < len)))) : wp_X0_hasAhead (nI len) (nI p) post := by
  have hl := hT.1
  unfold wp_X0_hasAhead
  refine ⟨fun q => absurd q (by rw [show (0 : Int32) = nI 0 from rfl, z_lt (by omega) (by omega)]; omega), fun _ => ?_⟩
  rw [z_le (by omega) (by omega)]
  refine ⟨fun q => ?_, fun q => ⟨fun q2 => absurd q2 (by rw [l60, z_le (by omega) (by omega)]; omega), fun _ => ?_⟩⟩
  · rw [decide_eq_false (by omega)] at h; exact h
  · rw [decide_eq_true (by omega)] at h; exact h
theorem s_isAhead {post : Int32 → Prop} {p c : Nat} (hT : RT T len g) (hp : p ≤ len) (hc : c < 65536) (h : post (bI (isAt T len c p))) : wp_X0_isAhead (nI c) (nI len) (nI p) g post := by
  have hl := hT.1
  unfold wp_X0_isAhead
  refine s_hasAhead hT hp ?_
  rw [bI_0]
  refine ⟨fun q => ?_, fun q => ?_⟩
  · have : ¬ p < len := of_decide_eq_false q
    rw [show isAt T len c p = false from decide_eq_false (by omega)] at h; exact h
  · have hpl : p < len := of_decide_eq_true (eq_true_of_ne_false q)
    refine ⟨(z_in (by omega)).mpr (by omega), ?_⟩
    have h2 := hT.2.1 p
    rw [z_cl (by omega), hT.2.2 p hpl, z_eq (by omega) (by omega)]
    refine ⟨fun q => ?_, fun q => ?_⟩
    · rw [isAt_iff.mpr ⟨hpl, q⟩] at h; exact h
    · rw [show isAt T len c p = false from decide_eq_false (by omega)] at h; exact h
theorem s_digitAhead {post : Int32 → Prop} {p : Nat} (hT : RT T len g) (hp : p ≤ len) (h : post (if isD T len 0 p = true then nI (T p - 48) else -nI 5)) : wp_X0_digitAhead (nI len) (nI p) g post := by
  have hl := hT.1
  unfold wp_X0_digitAhead
  refine s_hasAhead hT hp ?_
  rw [bI_0]
  refine ⟨fun q => ?_, fun q => ?_⟩
  · have : ¬ p < len := of_decide_eq_false q
    rw [if_neg (by rw [isD_iff]; omega)] at h
    exact ⟨fun _ => h, fun q => absurd (by decide) q⟩
  · have hpl : p < len := of_decide_eq_true (eq_true_of_ne_false q)
    refine ⟨(z_in (by omega)).mpr (by omega), ?_⟩
    have h2 := hT.2.1 p
    rw [z_cl (by omega), hT.2.2 p hpl]
    unfold wp_X0_digitAhead_j24
    by_cases hx : T p < 48
    · rw [if_neg (by rw [isD_iff]; omega)] at h
      refine ⟨fun _ => h, fun q => absurd ?_ q⟩
      rw [Int32.lt_iff_toInt_lt, l48, z_toIntSub (by omega) (by omega)]
      show (T p : Int) - 48 < 0
      omega
    · rw [l48, z_sub (by omega), show (0 : Int32) = nI 0 from rfl, z_lt (by omega) (by omega), l9, z_lt (by omega) (by omega)]
      refine ⟨fun q => absurd q (by omega), fun _ => ⟨fun q => ?_, fun q => ?_⟩⟩
      · rw [if_neg (by rw [isD_iff]; omega)] at h; exact h
      · rw [if_pos (by rw [isD_iff]; omega)] at h; exact h
theorem s_readSign {post : Int32 → Int32 → Prop} {p c : Nat} (hT : RT T len g) (hp : p ≤ len) (hc : c < 65536) (h1 : isAt T len c p = true → post (nI (p + 1)) 0) (h2 : isAt T len c p = false → post (nI p) 1) : wp_X0_readSign (nI c) (nI len) (nI p) 0 g post := by
  unfold wp_X0_readSign
  refine ⟨fun _ => s_isAhead hT hp hc ?_, fun q => absurd rfl q⟩
  rw [bI_0, l1, z_add]
  exact ⟨fun q => h2 q, fun q => h1 (eq_true_of_ne_false q)⟩
theorem s_readSignF {post : Int32 → Int32 → Prop} {x y z : Int32} (h : post y 1) : wp_X0_readSign x z y 1 g post := by
  unfold wp_X0_readSign
  exact ⟨fun q => absurd q (by decide), fun _ => h⟩
theorem s_readNumberF {post : Int32 → Int32 → Int32 → Prop} {x y z : Int32} (h : post (-nI 5) y 1) : wp_X0_readNumber x z y 1 g post := by
  unfold wp_X0_readNumber
  exact ⟨fun q => absurd q (by decide), fun _ => h⟩
theorem s_readNumber {post : Int32 → Int32 → Int32 → Prop} {p kind lo most : Nat} (hT : RT T len g) (hp : p ≤ len) (hk : kind < 5) (hlo : gLEAST kind = nI lo) (hmo : gMOST kind = nI most) (hlo1 : lo ≤ 1) (hm1 : 9 ≤ most) (hm2 : most ≤ 9999) (h1 : ∀ v q, numP T len lo most p = some (v, q) → post (nI v) (nI q) 0) (h2 : numP T len lo most p = none → post (-nI 5) (nI p) 1) : wp_X0_readNumber (nI kind) (nI len) (nI p) 0 g post := by
  have hl := hT.1
  unfold wp_X0_readNumber
  refine ⟨fun _ => ⟨fun q => absurd q (by rw [show (0 : Int32) = nI 0 from rfl, z_lt (by omega) (by omega)]; omega), fun _ => ⟨fun _ => ?_, fun q => absurd ((by rw [l5, z_lt (by omega) (by omega)]; omega)) q⟩⟩, fun q => absurd rfl q⟩
  refine s_digitAhead hT hp ?_
  rw [z_cl (by omega), hlo]
  refine ⟨(z_in (by omega)).mpr (by omega), ?_⟩
  by_cases hd : isD T len lo p = true
  · have hd2 := isD_iff.mp hd
    rw [if_pos (isD_iff.mpr ⟨hd2.1, by omega, hd2.2.2⟩), z_le (by omega) (by omega)]
    refine ⟨fun _ => ?_, fun q => absurd (by omega) q⟩
    have hP : numP T len lo most p = some (numG T len most (len - (p + 1)) (T p - 48) (p + 1)) := by unfold numP; rw [if_pos hd]
    unfold wp_X0_readNumber_l51
    rw [l1, z_add]
    refine lf2_i (fun x2 pos => ∃ v q, x2 = nI v ∧ pos = nI q ∧ v ≤ most ∧ q ≤ len ∧ numG T len most (len - q) v q = numG T len most (len - (p + 1)) (T p - 48) (p + 1)) (fun _ pos => len - pos.toNatClampNeg) ⟨T p - 48, p + 1, rfl, rfl, by omega, by omega, rfl⟩ ?_
    rintro x2 pos ⟨v, q, rfl, rfl, hv, hq, hG⟩
    have stop : numG T len most (len - q) v q = (v, q) → post (nI v) (nI q) 0 := by
      intro hs
      rw [hs] at hG
      exact h1 v q (by rw [hP, ← hG])
    rw [z_le (by omega) (by omega)]
    refine ⟨fun c => stop (by rw [show len - q = 0 by omega]; rfl), fun c => ?_⟩
    refine s_digitAhead hT hq ?_
    have e5 : (-5 : Int32) = -nI 5 := rfl
    have hf : len - q = len - (q + 1) + 1 := by omega
    rw [e5]
    by_cases hdq : isD T len 0 q = true
    · have hdq2 := isD_iff.mp hdq
      rw [if_pos hdq]
      refine ⟨fun c => absurd c (by rw [z_en (by omega) (by omega) (by omega)]; exact id), fun _ => ?_⟩
      rw [show (0 : Int32) = nI 0 from rfl, z_eq (by omega) (by omega)]
      refine ⟨fun c => stop (by rw [hf, numG_s, if_neg (by omega)]), fun c2 => ⟨(z_in (by omega)).mpr (by omega), ?_⟩⟩
      rw [z_cl (by omega), hmo, l10, z_mul, z_add, z_le (by omega) (by omega), z_add]
      refine ⟨fun c3 => ⟨⟨v * 10 + (T q - 48), q + 1, rfl, rfl, c3, by omega, ?_⟩, by simp (disch := omega) only [z_cl]; omega⟩, fun c3 => stop (by rw [hf, numG_s, if_neg (by omega)])⟩
      rw [← hG, hf, numG_s, if_pos ⟨hdq, c2, c3⟩]
    · rw [if_neg hdq]
      exact ⟨fun _ => stop (by rw [hf, numG_s, if_neg (fun c => hdq c.1)]), fun c => absurd rfl c⟩
  · have hP : numP T len lo most p = none := by unfold numP; rw [if_neg hd]
    refine ⟨fun q => ?_, fun _ => h2 hP⟩
    exfalso
    by_cases hd0 : isD T len 0 p = true
    · have hd2 := isD_iff.mp hd0
      rw [if_pos hd0, z_le (by omega) (by omega)] at q
      exact hd (isD_iff.mpr ⟨hd2.1, by omega, hd2.2.2⟩)
    · rw [if_neg hd0, z_len (by omega) (by omega) (by omega)] at q; exact q
theorem s_readThread {post : Int32 → Int32 → Int32 → Prop} {p : Nat} (hT : RT T len g) (hp : p ≤ len) (h1 : (p < len ∧ 65 ≤ T p ∧ T p ≤ 70) → post (nI (T p - 65)) (nI (p + 1)) 0) (h2 : ¬ (p < len ∧ 65 ≤ T p ∧ T p ≤ 70) → ∀ x, post x (nI p) 1) : wp_X0_readThread (nI len) (nI p) 0 g post := by
  have hl := hT.1
  unfold wp_X0_readThread
  refine ⟨fun _ => s_hasAhead hT hp ?_, fun q => absurd rfl q⟩
  have hno : ∀ x : Int32, (x < nI 0 ∨ nI 6 ≤ x) → ¬ (p < len ∧ 65 ≤ T p ∧ T p ≤ 70) → wp_X0_readThread_j34 x (nI len) (nI p) 0 g post := by
    intro x hx hc
    unfold wp_X0_readThread_j34 wp_X8_isThread
    have hh := h2 hc x
    refine ⟨fun _ => ⟨fun _ => hh, fun c => absurd rfl c⟩, fun c1 => ⟨fun _ => ⟨fun _ => hh, fun c => absurd rfl c⟩, fun c2 => ?_⟩⟩
    rcases hx with q | q
    · exact absurd q c1
    · exact absurd q c2
  rw [bI_0]
  refine ⟨fun q => ?_, fun q => ?_⟩
  · have : ¬ p < len := of_decide_eq_false q
    exact hno _ (Or.inl (by decide)) (by omega)
  · have hpl : p < len := of_decide_eq_true (eq_true_of_ne_false q)
    refine ⟨(z_in (by omega)).mpr (by omega), ?_⟩
    have h3 := hT.2.1 p
    rw [z_cl (by omega), hT.2.2 p hpl]
    by_cases hx : T p < 65
    · refine hno _ (Or.inl ?_) (by omega)
      rw [Int32.lt_iff_toInt_lt, l65, z_toIntSub (by omega) (by omega)]
      show (T p : Int) - 65 < 0
      omega
    · rw [l65, z_sub (by omega)]
      by_cases hy : T p ≤ 70
      · unfold wp_X0_readThread_j34
        refine s_isThread ?_ (by omega)
        rw [l1, z_add]
        exact ⟨fun c => absurd c (by decide), fun _ => h1 ⟨hpl, by omega, hy⟩⟩
      · exact hno _ (Or.inr (by rw [z_le (by omega) (by omega)]; omega)) (by omega)
theorem s_readThreadF {post : Int32 → Int32 → Int32 → Prop} {y z : Int32} (h : post (-nI 5) y 1) : wp_X0_readThread z y 1 g post := by
  unfold wp_X0_readThread
  exact ⟨fun q => absurd q (by decide), fun _ => h⟩
end
