/-! what stands at a place -/
theorem s_isSceneY {post : Int32 → Prop} {k : Nat} (hk : k < 16) (h : post 1) : wp_X8_isScene (nI k) post := by
  unfold wp_X8_isScene
  exact ⟨fun q => absurd q (by rw [show (0 : Int32) = nI 0 from rfl, z_lt (by omega) (by omega)]; omega), fun _ => ⟨fun q => absurd q (by rw [l16, z_le (by omega) (by omega)]; omega), fun _ => h⟩⟩
theorem s_isSceneN {post : Int32 → Prop} {x : Int32} (hx : x < nI 0 ∨ (¬ x < nI 0 ∧ nI 15 < x)) (h : post 0) : wp_X8_isScene x post := by
  unfold wp_X8_isScene
  refine ⟨fun _ => h, fun q => ⟨fun _ => h, fun q2 => ?_⟩⟩
  rcases hx with c | c
  · exact absurd c q
  · refine absurd ?_ q2
    have c2 := c.2
    rw [Int32.lt_iff_toInt_lt, z_toInt (by omega)] at c2
    rw [l16, Int32.le_iff_toInt_le, z_toInt (by omega)]; omega
theorem s_cardInBig {post : Int32 → Prop} {g : Nat → Int32} {k : Nat} {x : Int32} (hk : k < 16) (hx : ¬ x < nI 0 ∧ nI 6 ≤ x) (h : post (-nI 5)) : wp_X7_cardIn (nI k) x g post := by
  unfold wp_X7_cardIn
  exact s_isSceneY hk ⟨fun c => absurd c (by decide), fun _ => ⟨fun c => absurd c hx.1, fun _ => ⟨fun _ => h, fun c => absurd hx.2 c⟩⟩⟩
