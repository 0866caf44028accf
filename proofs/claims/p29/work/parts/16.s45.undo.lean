/-! history and snapshot: the calls tied; the start -/
theorem RHc_less {hist : Nat → AS} {h k : Nat} {old sz : Int32} {n0 : Int32} {f0 g0 t0 : Nat → Int32} {n1 : Int32} {f1 g1 t1 : Nat → Int32} {n2 : Int32} {f2 g2 t2 : Nat → Int32} {n3 : Int32} {f3 g3 t3 : Nat → Int32} (hH : RHc hist h old sz n0 f0 g0 t0 n1 f1 g1 t1 n2 f2 g2 t2 n3 f3 g3 t3) (hk : k ≤ h) : RHc hist k old (nI k) n0 f0 g0 t0 n1 f1 g1 t1 n2 f2 g2 t2 n3 f3 g3 t3 := by
  obtain ⟨o, ho, h4, e1, e2, hh⟩ := hH
  exact ⟨o, ho, by omega, e1, rfl, fun j hj => hh j (by omega)⟩
/-- the new object -/
def aS : AS := (0, fun _ _ => 0, fun _ => [], fun i => if i = 0 then 3 else 100)
theorem once_nil : once (fun _ => ([] : List Nat)) := fun c s t _ _ h _ => by simp at h
theorem aS_ok : OkS aS := ⟨fun c hc => absurd hc (Nat.not_lt_zero _), ⟨fun _ => Nat.zero_le _, fun _ c hc => (List.not_mem_nil hc).elim, once_nil, Nat.zero_le _⟩, by unfold setOk aS; decide⟩
theorem aS_RC {g : Nat → Int32} (hg : gW96 g) : RC aS (0 : Int32) (fun _ => 0) g (upd (upd (upd (fun _ => 0) ((0 : Int32)).toNatClampNeg (3 : Int32)) ((1 : Int32)).toNatClampNeg (100 : Int32)) ((2 : Int32)).toNatClampNeg (100 : Int32)) := by
  refine ⟨⟨rfl, fun c hc => absurd hc (Nat.not_lt_zero _)⟩, fun sc hsc p hp => ?_, fun i hi => ?_⟩
  · rw [hg _ (by omega)]; rfl
  · have e0 : ((0 : Int32)).toNatClampNeg = 0 := rfl
    have e1 : ((1 : Int32)).toNatClampNeg = 1 := rfl
    have e2 : ((2 : Int32)).toNatClampNeg = 2 := rfl
    rw [e0, e1, e2]
    rcases (show i = 0 ∨ i = 1 ∨ i = 2 by omega) with rfl | rfl | rfl
    · rw [z_up_n (by omega), z_up_n (by omega), z_up_s]; rfl
    · rw [z_up_n (by omega), z_up_s]; rfl
    · rw [z_up_s]; rfl
