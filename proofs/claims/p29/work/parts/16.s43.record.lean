/-! recording, and taking back, in the class -/
theorem s_record {hist : Nat → AS} {h : Nat} {a : AS} {old sz : Int32} {n0 : Int32} {f0 g0 t0 : Nat → Int32} {n1 : Int32} {f1 g1 t1 : Nat → Int32} {n2 : Int32} {f2 g2 t2 : Nat → Int32} {n3 : Int32} {f3 g3 t3 : Nat → Int32} {psize : Int32} {pf pg pt : Nat → Int32} {post : Int32 → Int32 → Int32 → (Nat → Int32) → (Nat → Int32) → (Nat → Int32) → Int32 → (Nat → Int32) → (Nat → Int32) → (Nat → Int32) → Int32 → (Nat → Int32) → (Nat → Int32) → (Nat → Int32) → Int32 → (Nat → Int32) → (Nat → Int32) → (Nat → Int32) → Prop} (hH : RHc hist h old sz n0 f0 g0 t0 n1 f1 g1 t1 n2 f2 g2 t2 n3 f3 g3 t3) (hA : OkS a) (hP : RC a psize pf pg pt) (hp : ∀ old sz n0 f0 g0 t0 n1 f1 g1 t1 n2 f2 g2 t2 n3 f3 g3 t3, RHc (recH hist h a) (recN h) old sz n0 f0 g0 t0 n1 f1 g1 t1 n2 f2 g2 t2 n3 f3 g3 t3 → post old sz n0 f0 g0 t0 n1 f1 g1 t1 n2 f2 g2 t2 n3 f3 g3 t3) : wp_X2_record old sz n0 f0 g0 t0 n1 f1 g1 t1 n2 f2 g2 t2 n3 f3 g3 t3 psize pf pg pt post := by
  obtain ⟨o, ho, h4, rfl, rfl, hh⟩ := hH
  have hn : a.1 ≤ 40 := hA.2.1.2.2.2
  have fin : ∀ (x y : Int32) (q : Nat), q = (o + h) % 4 → True := fun _ _ _ _ => trivial
  unfold wp_X2_record
  refine s_stateAfter ho h4 ?_
  have em : (-1 : Int32) = -nI 1 := rfl
  have hlt := Nat.mod_lt (o + h) (show 4 > 0 by decide)
  rw [em, z_en (by omega) (by omega) (by omega)]
  refine ⟨fun c => c.elim, ?_⟩
  generalize hq : (o + h) % 4 = q at hlt ⊢
  rw [l0, l1, l2, l3, z_eq (by omega) (by omega), z_eq (by omega) (by omega), z_eq (by omega) (by omega), z_eq (by omega) (by omega)]
  refine ⟨fun c => ?_, fun c => ?_, fun c => ?_, fun c => ?_⟩
  · subst c
    refine s_copyState hP hn (fun n f g t hR => ?_)
    have hr := ring_new (hist := hist) (h := h) (o := o) (q := 0) (a := a) (m0 := n) (m1 := n1) (m2 := n2) (m3 := n3) (k0 := f) (k1 := f1) (k2 := f2) (k3 := f3) (w0 := g) (w1 := g1) (w2 := g2) (w3 := g3) (y0 := t) (y1 := t1) (y2 := t2) (y3 := t3) ho h4 hq.symm hh hA hR (fun r hr hne => by
      rcases (show r = 0 ∨ r = 1 ∨ r = 2 ∨ r = 3 by omega) with rfl | rfl | rfl | rfl <;> first | exact absurd rfl hne | exact ⟨rfl, rfl, rfl, rfl⟩)
    rw [l4, z_le (by omega) (by omega)]
    refine ⟨fun c4 => ?_, fun c4 => ?_⟩
    · have e4 : h = 4 := by omega
      have eo : (nI o + nI 1) - (nI o + nI 1) / nI 4 * nI 4 = nI ((o + 1) % 4) := by
        rw [z_add, z_div (by omega) (by omega) (by omega), z_mul, z_sub (by omega)]
        congr 1; omega
      rw [eo]
      have hx := hp _ _ _ _ _ _ _ _ _ _ _ _ _ _ _ _ _ _ (hr.2 e4)
      rw [e4]; exact hx
    · rw [z_add]
      exact hp _ _ _ _ _ _ _ _ _ _ _ _ _ _ _ _ _ _ (hr.1 (by omega))
  · subst c
    refine s_copyState hP hn (fun n f g t hR => ?_)
    have hr := ring_new (hist := hist) (h := h) (o := o) (q := 1) (a := a) (m0 := n0) (m1 := n) (m2 := n2) (m3 := n3) (k0 := f0) (k1 := f) (k2 := f2) (k3 := f3) (w0 := g0) (w1 := g) (w2 := g2) (w3 := g3) (y0 := t0) (y1 := t) (y2 := t2) (y3 := t3) ho h4 hq.symm hh hA hR (fun r hr hne => by
      rcases (show r = 0 ∨ r = 1 ∨ r = 2 ∨ r = 3 by omega) with rfl | rfl | rfl | rfl <;> first | exact absurd rfl hne | exact ⟨rfl, rfl, rfl, rfl⟩)
    rw [l4, z_le (by omega) (by omega)]
    refine ⟨fun c4 => ?_, fun c4 => ?_⟩
    · have e4 : h = 4 := by omega
      have eo : (nI o + nI 1) - (nI o + nI 1) / nI 4 * nI 4 = nI ((o + 1) % 4) := by
        rw [z_add, z_div (by omega) (by omega) (by omega), z_mul, z_sub (by omega)]
        congr 1; omega
      rw [eo]
      have hx := hp _ _ _ _ _ _ _ _ _ _ _ _ _ _ _ _ _ _ (hr.2 e4)
      rw [e4]; exact hx
    · rw [z_add]
      exact hp _ _ _ _ _ _ _ _ _ _ _ _ _ _ _ _ _ _ (hr.1 (by omega))
  · subst c
    refine s_copyState hP hn (fun n f g t hR => ?_)
    have hr := ring_new (hist := hist) (h := h) (o := o) (q := 2) (a := a) (m0 := n0) (m1 := n1) (m2 := n) (m3 := n3) (k0 := f0) (k1 := f1) (k2 := f) (k3 := f3) (w0 := g0) (w1 := g1) (w2 := g) (w3 := g3) (y0 := t0) (y1 := t1) (y2 := t) (y3 := t3) ho h4 hq.symm hh hA hR (fun r hr hne => by
      rcases (show r = 0 ∨ r = 1 ∨ r = 2 ∨ r = 3 by omega) with rfl | rfl | rfl | rfl <;> first | exact absurd rfl hne | exact ⟨rfl, rfl, rfl, rfl⟩)
    rw [l4, z_le (by omega) (by omega)]
    refine ⟨fun c4 => ?_, fun c4 => ?_⟩
    · have e4 : h = 4 := by omega
      have eo : (nI o + nI 1) - (nI o + nI 1) / nI 4 * nI 4 = nI ((o + 1) % 4) := by
        rw [z_add, z_div (by omega) (by omega) (by omega), z_mul, z_sub (by omega)]
        congr 1; omega
      rw [eo]
      have hx := hp _ _ _ _ _ _ _ _ _ _ _ _ _ _ _ _ _ _ (hr.2 e4)
      rw [e4]; exact hx
    · rw [z_add]
      exact hp _ _ _ _ _ _ _ _ _ _ _ _ _ _ _ _ _ _ (hr.1 (by omega))
  · subst c
    refine s_copyState hP hn (fun n f g t hR => ?_)
    have hr := ring_new (hist := hist) (h := h) (o := o) (q := 3) (a := a) (m0 := n0) (m1 := n1) (m2 := n2) (m3 := n) (k0 := f0) (k1 := f1) (k2 := f2) (k3 := f) (w0 := g0) (w1 := g1) (w2 := g2) (w3 := g) (y0 := t0) (y1 := t1) (y2 := t2) (y3 := t) ho h4 hq.symm hh hA hR (fun r hr hne => by
      rcases (show r = 0 ∨ r = 1 ∨ r = 2 ∨ r = 3 by omega) with rfl | rfl | rfl | rfl <;> first | exact absurd rfl hne | exact ⟨rfl, rfl, rfl, rfl⟩)
    rw [l4, z_le (by omega) (by omega)]
    refine ⟨fun c4 => ?_, fun c4 => ?_⟩
    · have e4 : h = 4 := by omega
      have eo : (nI o + nI 1) - (nI o + nI 1) / nI 4 * nI 4 = nI ((o + 1) % 4) := by
        rw [z_add, z_div (by omega) (by omega) (by omega), z_mul, z_sub (by omega)]
        congr 1; omega
      rw [eo]
      have hx := hp _ _ _ _ _ _ _ _ _ _ _ _ _ _ _ _ _ _ (hr.2 e4)
      rw [e4]; exact hx
    · rw [z_add]
      exact hp _ _ _ _ _ _ _ _ _ _ _ _ _ _ _ _ _ _ (hr.1 (by omega))
theorem s_takeBack {hist : Nat → AS} {h : Nat} {old sz : Int32} {n0 : Int32} {f0 g0 t0 : Nat → Int32} {n1 : Int32} {f1 g1 t1 : Nat → Int32} {n2 : Int32} {f2 g2 t2 : Nat → Int32} {n3 : Int32} {f3 g3 t3 : Nat → Int32} {psize : Int32} {pf pg pt : Nat → Int32} {post : Int32 → Int32 → Int32 → (Nat → Int32) → (Nat → Int32) → (Nat → Int32) → Prop} (hH : RHc hist h old sz n0 f0 g0 t0 n1 f1 g1 t1 n2 f2 g2 t2 n3 f3 g3 t3) (h0 : h = 0 → post 0 (nI 0) psize pf pg pt) (hp : 0 < h → ∀ n f g t, RC (hist (h - 1)) n f g t → post 1 (nI (h - 1)) n f g t) : wp_X2_takeBack old sz n0 f0 g0 t0 n1 f1 g1 t1 n2 f2 g2 t2 n3 f3 g3 t3 psize pf pg pt post := by
  obtain ⟨o, ho, h4, rfl, rfl, hh⟩ := hH
  unfold wp_X2_takeBack
  have z : (nI h = (0 : Int32)) ↔ h = 0 := by rw [l0]; exact z_eq (by omega) (by omega)
  rw [z]
  refine ⟨fun q => ?_, fun q => ?_⟩
  · have := h0 q; rw [q]; exact this
  · have hpos : 0 < h := by omega
    have es : nI h - (1 : Int32) = nI (h - 1) := by rw [l1, z_sub (by omega)]
    rw [es]
    refine s_stateAfter ho (by omega) ?_
    have hl := hh (h - 1) (by omega)
    have hp2 := hp hpos
    have hn : (hist (h - 1)).1 ≤ 40 := hl.1.2.1.2.2.2
    have hlt := Nat.mod_lt (o + (h - 1)) (show 4 > 0 by decide)
    have em : (-1 : Int32) = -nI 1 := rfl
    have hl2 := hl.2
    clear hl hh
    rw [em, z_en (by omega) (by omega) (by omega)]
    refine ⟨fun c => c.elim, ?_⟩
    generalize hq : (o + (h - 1)) % 4 = q at hlt hl2 ⊢
    have i0 : (nI q = (0 : Int32)) ↔ q = 0 := by rw [l0]; exact z_eq (by omega) (by omega)
    have i1 : (nI q = (1 : Int32)) ↔ q = 1 := by rw [l1]; exact z_eq (by omega) (by omega)
    have i2 : (nI q = (2 : Int32)) ↔ q = 2 := by rw [l2]; exact z_eq (by omega) (by omega)
    have i3 : (nI q = (3 : Int32)) ↔ q = 3 := by rw [l3]; exact z_eq (by omega) (by omega)
    rw [i0, i1, i2, i3]
    refine ⟨fun c => ?_, fun c => ?_, fun c => ?_, fun c => ?_⟩
    · subst c; exact s_copyState hl2 hn (fun n f g t hR => hp2 n f g t hR)
    · subst c; exact s_copyState hl2 hn (fun n f g t hR => hp2 n f g t hR)
    · subst c; exact s_copyState hl2 hn (fun n f g t hR => hp2 n f g t hR)
    · subst c; exact s_copyState hl2 hn (fun n f g t hR => hp2 n f g t hR)
