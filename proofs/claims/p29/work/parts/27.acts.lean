/-! the fourteen acts -/
section
variable {n : Nat} {num : Nat → Nat → Nat} {row : Nat → List Nat} {st : Nat → Nat} {b : Option AS} {v : VT} {post : Int32 → VT → Prop} {c sc p : Nat}
theorem w_act151 {t : Nat} (hV : SV (n, num, row, st) b v) (ht : t < 6) (h0 : mvd num (pre row 96) (sRow num row t) (sRow num row t).length = 0) (hp : ∀ v, SV (n, num, row, st) b v → post 1 v) : wv_L_acts_j151 (nI t) v post := by
  unfold wv_L_acts_j151
  exact q_straighten hV ht (fun _ v hV => ⟨fun _ => hp v hV, fun d => absurd rfl d⟩) (fun d => absurd h0 d)
theorem w_swap {i j : Nat} {k0 : Int32} (hV : SV (n, num, row, st) b v) (hi : i < n) (hj : j < n) (hk : (k0 = 0 ∧ (slotO row i = none ∨ slotO row j = none)) ∨ (k0 = 1 ∧ slotO row i ≠ none ∧ slotO row j ≠ none)) (hp : ∀ a v, a.1 = n → SV a b v → post 1 v) : wv_L_acts_j204 (nI i) (nI j) k0 v post := by
  have hO : rowOk n row := hV.1.2.1
  have hN : numOk n num := hV.1.1
  have hn : n ≤ 40 := hO.2.2.2
  have eij : (nI i = nI j) ↔ i = j := z_eq (by omega) (by omega)
  unfold wv_L_acts_j204
  cases hs : slotO row i with
  | none =>
    refine q_cardOff8 hV hi (slot_off hO hs) (fun v hV => ?_)
    rw [eij]
    have hk0 : k0 = 0 := by
      rcases hk with ⟨h, _⟩ | ⟨_, h, _⟩
      · exact h
      · exact absurd hs h
    subst hk0
    refine q_swap hV hi hj (fun e v hV => ?_) (fun e _ v hV => ?_) (fun _ d => absurd hs d)
    · exact ⟨fun _ => ⟨fun _ => hp _ v rfl hV, fun d => absurd rfl d⟩, fun d => absurd e d⟩
    · exact ⟨fun d => absurd d e, fun _ => ⟨fun _ => ⟨fun _ => hp _ v rfl hV, fun d => absurd rfl d⟩, fun d => absurd rfl d⟩⟩
  | some t =>
    obtain ⟨k, hkl, he, hsl⟩ := slot_on hO hs
    refine q_cardAt8 hV hkl he (fun v hV => ?_)
    rw [eij]
    refine q_swap hV hi hj (fun e v hV => ?_) (fun e h2 v hV => ?_) (fun e h2 h3 v hV => ?_)
    · exact ⟨fun _ => ⟨fun _ => hp _ v rfl hV, fun d => absurd rfl d⟩, fun d => absurd e d⟩
    · have hk0 : k0 = 0 := by
        rcases hk with ⟨h, _⟩ | ⟨_, h3, h4⟩
        · exact h
        · rcases h2 with q | q
          · exact absurd q h3
          · exact absurd q h4
      subst hk0
      exact ⟨fun d => absurd d e, fun _ => ⟨fun _ => ⟨fun _ => hp _ v rfl hV, fun d => absurd rfl d⟩, fun d => absurd rfl d⟩⟩
    · have hk0 : k0 = 1 := by
        rcases hk with ⟨_, h⟩ | ⟨h, _⟩
        · rcases h with q | q
          · exact absurd q h2
          · exact absurd q h3
        · exact h
      subst hk0
      cases hs2 : slotO row j with
      | none => exact absurd hs2 h3
      | some u =>
        rw [hs, hs2] at hV
        rw [hs]
        have huj := occ_of (slotO_some hs2).2
        have eg : ∀ x : Nat, (some x).getD 0 = x := fun _ => rfl
        rw [eg, eg] at hV
        rw [eg, eg]
        have h4 := cd_re (f := fun v => crd row (tr2 t u v)) hkl
        have h5 := len_re (row := row) (f := fun v => crd row (tr2 t u v))
        have h6 : crd row (tr2 t u (sl (pre row 96) k)) = j := by
          rw [hsl]
          unfold tr2
          rw [if_pos rfl]; exact huj.2
        refine ⟨fun d => absurd d e, fun _ => ⟨fun d => absurd d (by decide), fun _ => ?_⟩⟩
        generalize reRow row (fun v => crd row (tr2 t u v)) = row2 at hV h4 h5 ⊢
        refine q_count3 hV (fun v hV => ⟨fun _ => ?_, fun d => absurd rfl d⟩)
        refine q_cardAt8 hV (k := k) (by rw [h5]; exact hkl) (by rw [h4.1]; exact h6) (fun v hV => ⟨fun _ => hp _ v rfl hV, fun d => absurd rfl d⟩)
/-- the best place is no worse than the end of a scene -/
theorem w_best389 {m pl : Nat} (hV : SV (n, num, row, st) b v) (hc : c < n) (hsc : sc < 16) (hpl : (rowW row c sc).length ≤ 5 → pl = (rowW row c sc).length) (hp100 : pl ≤ 100) (hm : m ≤ 40) (hle : (rowW row c sc).length ≤ 5 → m ≤ tB num st (onRow (rowW row c) sc (rowW row c sc).length c)) (hp : ∀ v, SV (n, num, row, st) b v → post 1 v) : wv_L_acts_j389 (nI sc) (nI pl) (nI sc) (nI c) (nI m) v post := by
  have hO : rowOk n row := hV.1.2.1
  have hN : numOk n num := hV.1.1
  have hn : n ≤ 40 := hO.2.2.2
  have hOW : rowOk n (rowW row c) := rowW_ok hO
  have h6 := hO.1 sc
  unfold wv_L_acts_j389 wv_L_acts_j409
  refine q_would hV hc hsc hp100 (fun w6 v hV => ?_) (fun w5 wl v hV => absurd (hpl w5) (by omega)) (fun w5 wl v hV => ?_)
  · have hlen : (row sc).length = 6 := by
      cases hs : slotO row c with
      | none => rw [rowW_none hs] at w6; omega
      | some t =>
        have := rowW_len (sc := sc) hs
        split at this <;> omega
    refine q_scene0 hV hsc (fun v hV => ?_)
    rw [hlen]
    refine ⟨fun _ => ?_, fun d => absurd rfl d⟩
    have e : (-3 : Int32) + 100 = nI 97 := by decide
    rw [e, z_lt (by omega) (by omega)]
    exact ⟨fun d => absurd d (by omega), fun _ => hp v hV⟩
  · have hO2 : rowOk n (onRow (rowW row c) sc pl c) := on_ok hOW hsc wl w5 hc (rowW_no hO)
    have hb := tB_le (st := st) hO2 hN
    have hl := hle w5
    rw [← hpl w5] at hl
    refine q_scene0 hV hsc (fun v hV => ?_)
    have l100 : (100 : Int32) = nI 100 := rfl
    rw [l100, l0, z_add, z_add, z_lt (by omega) (by omega), z_lt (by omega) (by omega)]
    exact ⟨fun _ => ⟨fun d => absurd d (by omega), fun _ => hp v hV⟩, fun _ => ⟨fun d => absurd d (by omega), fun _ => hp v hV⟩⟩
theorem w_best340 {m : Nat} {k0 : Int32} (hV : SV (n, num, row, st) b v) (hc : c < n) (hsc : sc < 16) (hm : m ≤ 40) (hk : (k0 = 0 ∧ m ≤ tB num st row) ∨ k0 = 40) (hle : (rowW row c sc).length ≤ 5 → m ≤ tB num st (onRow (rowW row c) sc (rowW row c sc).length c)) (hp : ∀ v, SV (n, num, row, st) b v → post 1 v) : wv_L_acts_j340 (nI c) (nI sc) (nI m) k0 (nI (tB num st row)) (nI m) v post := by
  have hO : rowOk n row := hV.1.2.1
  have hN : numOk n num := hV.1.1
  have hn : n ≤ 40 := hO.2.2.2
  have h6 := hO.1 sc
  have hb := tB_le (st := st) hO hN
  have hlt : ¬ (nI (tB num st row) + k0 < nI m) := by
    rcases hk with ⟨rfl, h⟩ | rfl
    · rw [l0, z_add, z_lt (by omega) (by omega)]; omega
    · rw [l40, z_add, z_lt (by omega) (by omega)]; omega
  unfold wv_L_acts_j340
  refine ⟨fun d => absurd d hlt, fun _ => ?_⟩
  refine q_scene0 hV hsc (fun v hV => ?_)
  rw [z_eq0 (by omega)]
  refine ⟨fun q => ?_, fun q => ?_⟩
  · refine w_best389 (pl := 0) hV hc hsc (fun _ => ?_) (by omega) hm hle hp
    cases hs : slotO row c with
    | none => rw [rowW_none hs]; omega
    | some t =>
      have := rowW_len (sc := sc) hs
      split at this <;> omega
  · refine q_card5s hV hc (fun v hV => ?_)
    cases hs : slotO row c with
    | none =>
      refine ⟨fun d => absurd d (by show ¬ -nI 5 = nI sc; rw [z_ne (by omega) (by omega) (by omega)]; exact id), fun _ => ?_⟩
      refine q_scene0 hV hsc (fun v hV => ?_)
      exact w_best389 hV hc hsc (fun _ => by rw [rowW_none hs]) (by omega) hm hle hp
    | some t =>
      have ht := (slotO_some hs).1
      have hl := rowW_len (sc := sc) hs
      have e1 : (optI (Option.map (· / 6) (some t)) = nI sc) ↔ t / 6 = sc := by
        show (nI (t / 6) = nI sc) ↔ _
        exact z_eq (by omega) (by omega)
      rw [e1]
      refine ⟨fun q2 => ?_, fun q2 => ?_⟩
      · refine q_scene0 hV hsc (fun v hV => ?_)
        rw [l1, z_sub (by omega)]
        rw [if_pos q2] at hl
        exact w_best389 hV hc hsc (fun _ => hl.symm) (by omega) hm hle hp
      · refine q_scene0 hV hsc (fun v hV => ?_)
        rw [if_neg q2] at hl
        exact w_best389 hV hc hsc (fun _ => hl.symm) (by omega) hm hle hp
theorem w_unpin518 {x13 q : Int32} {m : Nat} (hV : SV (n, num, row, st) b v) (hc : c < n) (hs : slotO row c = none) (hx : (x13 = 0 ∧ m = (pre row 96).length) ∨ (x13 = 1 ∧ m = (pre row 96).length + 1)) (hp : ∀ v, SV (n, num, row, st) b v → post 1 v) : wv_L_acts_j518 (nI c) x13 (nI m) q q v post := by
  have fin : ∀ v, SV (n, num, row, st) b v → wv_card (nI c) (5 : Int32) v (fun (r_42 : Int32) (v_43 : VT) => ((r_42 = (-5 : Int32)) → (post (1 : Int32) v_43)) ∧ (¬ (r_42 = (-5 : Int32)) → (post (0 : Int32) v_43))) := by
    intro v hV
    refine q_card5s hV hc (fun v hV => ?_)
    rw [hs]
    exact ⟨fun _ => hp v hV, fun d => absurd rfl d⟩
  have h1 := @q_count1 n num row st b v
  generalize (pre row 96).length = l at hx h1
  unfold wv_L_acts_j518 wv_L_acts_j538
  refine ⟨fun _ => ?_, fun d => absurd rfl d⟩
  refine h1 hV (fun v hV => ?_)
  rcases hx with ⟨rfl, rfl⟩ | ⟨rfl, rfl⟩
  · have e : nI m = nI m - 0 := by rw [l0, z_sub (Nat.zero_le m), Nat.sub_zero]
    exact ⟨fun _ => ⟨fun _ => fin v hV, fun d => absurd e d⟩, fun d => absurd rfl d⟩
  · have e : nI l = nI (l + 1) - 1 := by rw [l1, z_sub (by omega), Nat.add_sub_cancel]
    exact ⟨fun d => absurd d (by decide), fun _ => ⟨fun _ => fin v hV, fun d => absurd e d⟩⟩
end
