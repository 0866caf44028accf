/-! a state, and the history -/
/-- how many cards, their numbers, the rows, the settings -/
abbrev AS : Type := Nat × (Nat → Nat → Nat) × (Nat → List Nat) × (Nat → Nat)
def OkS (a : AS) : Prop := numOk a.1 a.2.1 ∧ rowOk a.1 a.2.2.1 ∧ setOk a.2.2.2
def RC (a : AS) (size : Int32) (f g t : Nat → Int32) : Prop := RCd a.1 a.2.1 size f ∧ RW a.2.2.1 g ∧ RS a.2.2.2 t
theorem s_copyState {b : AS} {size psize : Int32} {f g t pf pg pt : Nat → Int32} {post : Int32 → (Nat → Int32) → (Nat → Int32) → (Nat → Int32) → Prop} (hP : RC b psize pf pg pt) (hn : b.1 ≤ 40) (h : ∀ size f g t, RC b size f g t → post size f g t) : wp_X4_copyFrom size f g t psize pf pg pt post := by
  unfold wp_X4_copyFrom
  refine s_copyCards hP.1 hn (fun f' hf' => s_copyWall hP.2.1 (fun g' hg' => h _ _ _ _ ⟨hf', hg', fun i hi => ?_⟩))
  have e0 : (0 : Int32).toNatClampNeg = 0 := rfl
  have e3 : (3 : Int32).toNatClampNeg = 3 := rfl
  rw [e0, e3, z_cpy, if_pos hi]
  exact hP.2.2 i hi
/-- the ring of the class -/
def ring {α : Type} (q : Nat) (x0 x1 x2 x3 : α) : α := match q with
  | 0 => x0
  | 1 => x1
  | 2 => x2
  | _ => x3
def RHc (hist : Nat → AS) (h : Nat) (old sz : Int32) (n0 : Int32) (f0 g0 t0 : Nat → Int32) (n1 : Int32) (f1 g1 t1 : Nat → Int32) (n2 : Int32) (f2 g2 t2 : Nat → Int32) (n3 : Int32) (f3 g3 t3 : Nat → Int32) : Prop :=
  ∃ o, o < 4 ∧ h ≤ 4 ∧ old = nI o ∧ sz = nI h ∧ ∀ j, j < h → OkS (hist j) ∧ RC (hist j) (ring ((o + j) % 4) n0 n1 n2 n3) (ring ((o + j) % 4) f0 f1 f2 f3) (ring ((o + j) % 4) g0 g1 g2 g3) (ring ((o + j) % 4) t0 t1 t2 t3)
def recH (hist : Nat → AS) (h : Nat) (a : AS) : Nat → AS := fun j => if h < 4 then (if j = h then a else hist j) else (if j = 3 then a else hist (j + 1))
def recN (h : Nat) : Nat := if h < 4 then h + 1 else 4
theorem s_stateAfter {o d : Nat} {post : Int32 → Prop} (ho : o < 4) (hd : d ≤ 4) (h : post (nI ((o + d) % 4))) : wp_X2_stateAfter (nI d) (nI o) post := by
  have e : (nI o + nI d) - (nI o + nI d) / 4 * 4 = nI ((o + d) % 4) := by
    rw [l4, z_add, z_div (by omega) (by omega) (by omega), z_mul, z_sub (by omega)]
    congr 1; omega
  unfold wp_X2_stateAfter
  rw [e]
  refine ⟨fun _ _ => h, fun q => absurd ⟨?_, ?_⟩ q⟩
  · rw [l0, z_le (by omega) (by omega)]; omega
  · rw [l4, z_le (by omega) (by omega)]; omega
theorem ring_new {hist : Nat → AS} {h o q : Nat} {a : AS} {n0 n1 n2 n3 : Int32} {f0 f1 f2 f3 g0 g1 g2 g3 t0 t1 t2 t3 : Nat → Int32} {m0 m1 m2 m3 : Int32} {k0 k1 k2 k3 w0 w1 w2 w3 y0 y1 y2 y3 : Nat → Int32}
    (ho : o < 4) (h4 : h ≤ 4) (hq : q = (o + h) % 4)
    (hh : ∀ j, j < h → OkS (hist j) ∧ RC (hist j) (ring ((o + j) % 4) n0 n1 n2 n3) (ring ((o + j) % 4) f0 f1 f2 f3) (ring ((o + j) % 4) g0 g1 g2 g3) (ring ((o + j) % 4) t0 t1 t2 t3))
    (hA : OkS a) (hnew : RC a (ring q m0 m1 m2 m3) (ring q k0 k1 k2 k3) (ring q w0 w1 w2 w3) (ring q y0 y1 y2 y3))
    (hold : ∀ r, r < 4 → r ≠ q → ring r m0 m1 m2 m3 = ring r n0 n1 n2 n3 ∧ ring r k0 k1 k2 k3 = ring r f0 f1 f2 f3 ∧ ring r w0 w1 w2 w3 = ring r g0 g1 g2 g3 ∧ ring r y0 y1 y2 y3 = ring r t0 t1 t2 t3) :
    (h < 4 → RHc (recH hist h a) (recN h) (nI o) (nI (h + 1)) m0 k0 w0 y0 m1 k1 w1 y1 m2 k2 w2 y2 m3 k3 w3 y3) ∧ (h = 4 → RHc (recH hist h a) (recN h) (nI ((o + 1) % 4)) (nI 4) m0 k0 w0 y0 m1 k1 w1 y1 m2 k2 w2 y2 m3 k3 w3 y3) := by
  constructor
  · intro hlt
    refine ⟨o, ho, by unfold recN; rw [if_pos hlt]; omega, rfl, by unfold recN; rw [if_pos hlt], fun j hj => ?_⟩
    unfold recN at hj
    rw [if_pos hlt] at hj
    unfold recH
    rw [if_pos hlt]
    by_cases he : j = h
    · subst he
      rw [if_pos rfl, ← hq]; exact ⟨hA, hnew⟩
    · rw [if_neg he]
      obtain ⟨e1, e2, e3, e4⟩ := hold ((o + j) % 4) (by omega) (by omega)
      rw [e1, e2, e3, e4]
      exact hh j (by omega)
  · intro he4
    subst he4
    refine ⟨(o + 1) % 4, by omega, by unfold recN; rw [if_neg (by omega)]; omega, rfl, by unfold recN; rw [if_neg (by omega)], fun j hj => ?_⟩
    unfold recN at hj
    rw [if_neg (by omega)] at hj
    unfold recH
    rw [if_neg (by omega)]
    by_cases he : j = 3
    · subst he
      rw [if_pos rfl, show ((o + 1) % 4 + 3) % 4 = q by omega]; exact ⟨hA, hnew⟩
    · rw [if_neg he]
      obtain ⟨e1, e2, e3, e4⟩ := hold (((o + 1) % 4 + j) % 4) (by omega) (by omega)
      rw [e1, e2, e3, e4, show ((o + 1) % 4 + j) % 4 = (o + (j + 1)) % 4 by omega]
      exact hh (j + 1) (by omega)
