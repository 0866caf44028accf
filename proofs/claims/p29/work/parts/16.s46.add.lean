/-! writing a card -/
theorem rng {x : Int32} {lo hi : Nat} (hhi : hi < 2147483647) (hlo : lo ≤ hi) : (∃ k, x = nI k ∧ lo ≤ k ∧ k ≤ hi) ∨ (x < nI lo ∨ (¬ x < nI lo ∧ nI hi < x)) := by
  rcases z_cases x (hi + 1) (by omega) with c | c | ⟨k, hk, rfl⟩
  · rw [Int32.lt_iff_toInt_lt, z_toInt (by omega)] at c
    refine Or.inr (Or.inl ?_)
    rw [Int32.lt_iff_toInt_lt, z_toInt (by omega)]; omega
  · have c2 := c.2
    rw [Int32.le_iff_toInt_le, z_toInt (by omega)] at c2
    refine Or.inr (Or.inr ⟨?_, ?_⟩)
    · rw [Int32.lt_iff_toInt_lt, z_toInt (by omega)]; omega
    · rw [Int32.lt_iff_toInt_lt, z_toInt (by omega)]; omega
  · by_cases hl : lo ≤ k
    · exact Or.inl ⟨k, rfl, hl, by omega⟩
    · refine Or.inr (Or.inl ?_)
      rw [z_lt (by omega) (by omega)]; omega
theorem s_mayBeY {post : Int32 → Prop} {kind k lo hi : Nat} (hk : kind < 5) (hhi : hi < 2147483647) (hlo : gLEAST kind = nI lo) (hmo : gMOST kind = nI hi) (h1 : lo ≤ k) (h2 : k ≤ hi) (h : post 1) : wp_X8_mayBe (nI kind) (nI k) post := by
  unfold wp_X8_mayBe
  refine ⟨fun q => absurd q (by rw [show (0 : Int32) = nI 0 from rfl, z_lt (by omega) (by omega)]; omega), fun _ => ⟨fun q => absurd q (by rw [l5, z_le (by omega) (by omega)]; omega), fun _ => ⟨(z_in (by omega)).mpr hk, ?_⟩⟩⟩
  rw [z_cl (by omega), hlo, hmo, z_lt (by omega) (by omega), z_lt (by omega) (by omega)]
  exact ⟨fun q => absurd q (by omega), fun _ => ⟨(z_in (by omega)).mpr hk, fun q => absurd q (by omega), fun _ => h⟩⟩
theorem s_mayBeN {post : Int32 → Prop} {x : Int32} {kind lo hi : Nat} (hk : kind < 5) (hlo : gLEAST kind = nI lo) (hmo : gMOST kind = nI hi) (hx : x < nI lo ∨ (¬ x < nI lo ∧ nI hi < x)) (h : post 0) : wp_X8_mayBe (nI kind) x post := by
  unfold wp_X8_mayBe
  refine ⟨fun _ => h, fun _ => ⟨fun _ => h, fun _ => ⟨(z_in (by omega)).mpr hk, ?_⟩⟩⟩
  rw [z_cl (by omega), hlo, hmo]
  refine ⟨fun _ => h, fun q => ⟨(z_in (by omega)).mpr hk, fun _ => h, fun q2 => ?_⟩⟩
  rcases hx with c | c
  · exact absurd c q
  · exact absurd c.2 q2
theorem s_isThreadN {post : Int32 → Prop} {x : Int32} (hx : x < nI 0 ∨ (¬ x < nI 0 ∧ nI 5 < x)) (h : post 0) : wp_X8_isThread x post := by
  unfold wp_X8_isThread
  refine ⟨fun _ => h, fun q => ⟨fun _ => h, fun q2 => ?_⟩⟩
  rcases hx with c | c
  · exact absurd c q
  · refine absurd ?_ q2
    have c2 := c.2
    rw [Int32.lt_iff_toInt_lt, z_toInt (by omega)] at c2
    rw [l6, Int32.le_iff_toInt_le, z_toInt (by omega)]; omega
theorem num5_ok {n : Nat} {num : Nat → Nat → Nat} {a b c d e : Nat} (hN : numOk n num) (h : a ≤ 5 ∧ b ≤ 9999 ∧ 1 ≤ c ∧ c ≤ 999 ∧ d ≤ 100 ∧ e ≤ 1) : numOk (n + 1) (num5 num n a b c d e) := by
  intro i hi
  by_cases he : i = n
  · subst he
    simp only [mkC_num5]
    exact h
  · have := hN i (by omega)
    unfold num5
    simp only [if_neg he]
    exact this
theorem rowOk_up {n m : Nat} {row : Nat → List Nat} (hO : rowOk n row) (hnm : n ≤ m) (hm : m ≤ 40) : rowOk m row := ⟨hO.1, fun sc c hc => Nat.lt_of_lt_of_le (hO.2.1 sc c hc) hnm, hO.2.2.1, hm⟩
