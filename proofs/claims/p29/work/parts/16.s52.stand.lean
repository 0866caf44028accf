/-! threads that stand, in the class; holes of all threads, in the model -/
theorem s_standing {n : Nat} {num : Nat → Nat → Nat} {st : Nat → Nat} {L : List (Nat × Nat)} {size csize : Int32} {cnum names slots ahead sAhead : Nat → Int32} {post : Int32 → Prop} (hD : RRd n num L) (hR : RR num L size csize cnum names slots ahead sAhead) (hS : setOk st) (h : post (nI (stnd num st L 6))) : wp_X8_threadsThatStand (nI (st 0)) (nI (st 1)) size csize cnum slots ahead sAhead post := by
  unfold wp_X8_threadsThatStand wp_X8_threadsThatStand_l4
  refine lf2_i (fun x1 x2 => ∃ t, t ≤ 6 ∧ x2 = nI t ∧ x1 = nI (stnd num st L t)) (fun _ x2 => 6 - x2.toNatClampNeg) ⟨0, by omega, rfl, rfl⟩ ?_
  rintro x1 x2 ⟨t, ht, rfl, rfl⟩
  refine ⟨fun hx => ?_, fun hx => ?_⟩
  · have h6 : t = 6 := by simp (disch := omega) only [l6, z_le] at hx; omega
    subst h6; exact h
  · have h6 : t < 6 := by simp (disch := omega) only [l6, z_le] at hx; omega
    have hle := tallyF_le2 (st := st) (w := 12) (t := some t) (sc := none) hD
    refine s_tally (w := 12) (t := some t) (sc := none) hD hR hS (by omega) (fun u hu => by cases hu; exact h6) (fun u hu => by cases hu) ?_
    rw [l0, z_eq (by omega) (by omega), l1, z_add, z_add]
    have hst : stnd num st L (t + 1) = stnd num st L t + (if (tallyF num st L 12 (some t) none == 0) = true then 1 else 0) := rfl
    refine ⟨fun q => ⟨⟨t + 1, by omega, rfl, ?_⟩, by simp (disch := omega) only [z_cl]; omega⟩, fun q => ⟨⟨t + 1, by omega, rfl, ?_⟩, by simp (disch := omega) only [z_cl]; omega⟩⟩
    · rw [hst, if_pos (beq_iff_eq.mpr q)]
    · rw [hst, if_neg (by rw [beq_iff_eq]; exact q)]; rfl
theorem s_breaksNow {n : Nat} {num : Nat → Nat → Nat} {row : Nat → List Nat} {st : Nat → Nat} {t : Option Nat} {x y size csize : Int32} {cnum names slots ahead sAhead last lastS : Nat → Int32} {psize : Int32} {pnum pset g : Nat → Int32} {post : Int32 → Int32 → Int32 → Int32 → Int32 → (Nat → Int32) → (Nat → Int32) → (Nat → Int32) → (Nat → Int32) → (Nat → Int32) → (Nat → Int32) → (Nat → Int32) → Prop}
    (hP : RCd n num psize pnum) (hN : numOk n num) (hSt : RS st pset) (hS : setOk st) (hW : RW row g) (hO : rowOk n row) (ht : ∀ u, t = some u → u < 6)
    (h : ∀ x y size csize cnum names slots ahead sAhead last lastS, post (nI (tallyF num st (pre row 96) 12 t none)) x y size csize cnum names slots ahead sAhead last lastS) :
    wp_X8_breaksNow (argI t) psize pnum g pset x y size csize cnum names slots ahead sAhead last lastS post := by
  unfold wp_X8_breaksNow
  refine s_read3 hP hN hSt hW hO (fun size csize cnum names slots ahead sAhead last lastS hRR => ?_)
  have hD : RRd n num (pre row 96) := RRd_pre hO hN
  generalize pre row 96 = L at h hRR hD
  exact s_tally (w := 12) (t := t) (sc := none) hD hRR hS (by omega) ht (fun u hu => by cases hu) (h _ _ _ _ _ _ _ _ _ _ _)
