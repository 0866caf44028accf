/-! a card pinned as would() tells -/
theorem z_md {a d : Nat} (ha : a < 2147483648) (h0 : 0 < d) (hd : d < 2147483648) : nI a - nI a / nI d * nI d = nI (a % d) := by
  have h1 := Nat.div_mul_le_self a d
  have h2 := Nat.div_add_mod a d
  rw [z_div ha h0 hd, z_mul, z_sub h1]
  congr 1
  rw [Nat.mul_comm] at h2; omega
section
variable {n : Nat} {num : Nat → Nat → Nat} {row : Nat → List Nat} {st : Nat → Nat} {b : Option AS} {v : VT} {post : Int32 → VT → Prop} {c sc p : Nat}
theorem q_card5s (hV : SV (n, num, row, st) b v) (hc : c < n) (h : ∀ v, SV (n, num, row, st) b v → post (optI ((slotO row c).map (· / 6))) v) : wv_card (nI c) (5 : Int32) v post := by
  have hO : rowOk n row := hV.1.2.1
  cases hs : slotO row c with
  | none =>
    rw [hs] at h
    exact q_cardOff5 hV hc (slot_off hO hs) h
  | some t =>
    rw [hs] at h
    obtain ⟨k, hk, he, hsl⟩ := slot_on hO hs
    refine q_cardAt5 hV hk he (fun v hV => ?_)
    rw [hsl]; exact h v hV
theorem q_card6s (hV : SV (n, num, row, st) b v) (hc : c < n) (h : ∀ v, SV (n, num, row, st) b v → post (optI ((slotO row c).map (· % 6))) v) : wv_card (nI c) (6 : Int32) v post := by
  have hO : rowOk n row := hV.1.2.1
  cases hs : slotO row c with
  | none =>
    rw [hs] at h
    exact q_cardOff6 hV hc (slot_off hO hs) h
  | some t =>
    rw [hs] at h
    obtain ⟨k, hk, he, hsl⟩ := slot_on hO hs
    refine q_cardAt6 hV hk he (fun v hV => ?_)
    rw [hsl]; exact h v hV
theorem w_pins115 {x5 q : Int32} (hV : SV (n, num, row, st) b v) (hc : c < n) (hsc : sc < 16) (hs : slotO row c = some (6 * sc + p)) (hp5 : p ≤ 5) (hx : x5 = nI (tB num st row)) (hp : ∀ v, SV (n, num, row, st) b v → post 1 v) : wv_L_pins_j115 (nI c) (nI sc) (nI p) x5 q q v post := by
  unfold wv_L_pins_j115
  refine ⟨fun _ => ?_, fun d => absurd rfl d⟩
  refine q_count3 hV (fun v hV => ⟨fun _ => ?_, fun d => absurd hx.symm d⟩)
  refine q_card5s hV hc (fun v hV => ?_)
  rw [hs]
  have e1 : optI (Option.map (· / 6) (some (6 * sc + p))) = nI sc := by
    show nI ((6 * sc + p) / 6) = nI sc
    exact congrArg nI (by omega)
  rw [e1]
  refine ⟨fun _ => ?_, fun d => absurd rfl d⟩
  refine q_card6s hV hc (fun v hV => ?_)
  rw [hs]
  have e2 : optI (Option.map (· % 6) (some (6 * sc + p))) = nI p := by
    show nI ((6 * sc + p) % 6) = nI p
    exact congrArg nI (by omega)
  rw [e2]
  exact ⟨fun _ => hp v hV, fun d => absurd rfl d⟩
theorem w_pins26 {k0 : Int32} (hV : SV (n, num, row, st) b v) (hc : c < n) (hsc : sc < 16) (hp7 : p < 7) (hk : (k0 = 1 ∧ slotO row c = some (6 * sc + p)) ∨ (k0 = 0 ∧ (p ≤ 5 → ¬ slotO row c = some (6 * sc + p)))) (hp : ∀ a v, a.1 = n → SV a b v → post 1 v) : wv_L_pins_j26 (nI c) (nI sc) (nI p) k0 v post := by
  have hO : rowOk n row := hV.1.2.1
  have hN : numOk n num := hV.1.1
  have hn : n ≤ 40 := hO.2.2.2
  have hOW : rowOk n (rowW row c) := rowW_ok hO
  have hcc := hN c hc
  have h6 := hO.1 sc
  unfold wv_L_pins_j26
  refine q_would hV hc hsc (show p ≤ 100 by omega) (fun w6 v hV => ?_) (fun w5 wl v hV => ?_) (fun w5 wl v hV => ?_)
  · have hlen : (row sc).length = 6 := by
      cases hs : slotO row c with
      | none => rw [rowW_none hs] at w6; omega
      | some t =>
        have := rowW_len (sc := sc) hs
        split at this <;> omega
    refine q_pin hV hc hsc (show p ≤ 100 by omega) (fun _ v hV => ?_) (fun d _ => absurd d (by omega)) (fun d _ _ => absurd d (by omega)) (fun d _ _ => absurd d (by omega))
    refine ⟨fun d => absurd d (by decide), fun _ => ⟨fun _ => ⟨fun _ => ?_, fun d => absurd rfl d⟩, fun d => absurd rfl d⟩⟩
    refine q_scene0 hV hsc (fun v hV => ?_)
    rw [hlen]
    exact ⟨fun _ => hp _ v rfl hV, fun d => absurd rfl d⟩
  · refine q_pin hV hc hsc (show p ≤ 100 by omega) (fun d => absurd d (by omega)) (fun _ _ v hV => ?_) (fun _ d => absurd d (by omega)) (fun _ d => absurd d (by omega))
    exact ⟨fun d => absurd d (by decide), fun _ => ⟨fun _ => ⟨fun d => absurd d (by decide), fun _ => ⟨fun _ => hp _ v rfl hV, fun d => absurd rfl d⟩⟩, fun d => absurd rfl d⟩⟩
  · have hO2 : rowOk n (onRow (rowW row c) sc p c) := on_ok hOW hsc wl w5 hc (rowW_no hO)
    have hb := tB_le (st := st) hO2 hN
    have hge : (0 : Int32) ≤ nI (tB num st (onRow (rowW row c) sc p c)) := by rw [l0, z_le (by omega) (by omega)]; omega
    refine q_pin hV hc hsc (show p ≤ 100 by omega) (fun d => absurd d (by omega)) (fun _ d => absurd d (by omega)) (fun _ _ hs v hV => ?_) (fun _ _ hs v hV => ?_)
    · refine ⟨fun _ => ?_, fun d => absurd hge d⟩
      rcases hk with ⟨rfl, _⟩ | ⟨_, h2⟩
      · refine ⟨fun d => absurd d (by decide), fun _ => ?_⟩
        refine w_pins115 hV hc hsc hs (by omega) ?_ (fun v hV => hp _ v rfl hV)
        have e := on_back hs
        rw [show (6 * sc + p) / 6 = sc by omega, show (6 * sc + p) % 6 = p by omega] at e
        rw [e]
      · exact absurd hs (h2 (by omega))
    · refine ⟨fun _ => ?_, fun d => absurd hge d⟩
      rcases hk with ⟨_, h2⟩ | ⟨rfl, _⟩
      · exact absurd h2 hs
      · refine ⟨fun _ => ?_, fun d => absurd rfl d⟩
        refine q_card0 hV hc (fun v hV => ?_)
        refine q_thread3 hV (show num c 0 < 6 by omega) (fun v hV => ?_)
        exact w_pins115 hV hc hsc (on_slot hO2 hsc wl w5) (by omega) rfl (fun v hV => hp _ v rfl hV)
theorem w_pins (hV : SV (n, num, row, st) b v) (hc : c < n) (hsc : sc < 16) (hp7 : p < 7) (hp : ∀ a v, a.1 = n → SV a b v → post 1 v) : wv_L_pins (nI c) (nI sc) (nI p) v post := by
  have hO : rowOk n row := hV.1.2.1
  unfold wv_L_pins wv_L_pins_j25
  refine q_card5s hV hc (fun v hV => ?_)
  cases hs : slotO row c with
  | none =>
    refine ⟨fun q => absurd q (by show ¬ -nI 5 = nI sc; rw [z_ne (by omega) (by omega) (by omega)]; exact id), fun _ => ?_⟩
    exact w_pins26 hV hc hsc hp7 (Or.inr ⟨rfl, by rw [hs]; exact fun _ q => by cases q⟩) hp
  | some t =>
    have ht := (slotO_some hs).1
    have e1 : (optI (Option.map (· / 6) (some t)) = nI sc) ↔ t / 6 = sc := by
      show (nI (t / 6) = nI sc) ↔ _
      exact z_eq (by omega) (by omega)
    rw [e1]
    refine ⟨fun q => ?_, fun q => ?_⟩
    · refine q_card6s hV hc (fun v hV => ?_)
      rw [hs]
      have e2 : (optI (Option.map (· % 6) (some t)) = nI p) ↔ t % 6 = p := by
        show (nI (t % 6) = nI p) ↔ _
        exact z_eq (by omega) (by omega)
      rw [e2]
      refine ⟨fun q2 => ?_, fun q2 => ?_⟩
      · exact w_pins26 hV hc hsc hp7 (Or.inl ⟨rfl, by rw [hs]; congr 1; omega⟩) hp
      · exact w_pins26 hV hc hsc hp7 (Or.inr ⟨rfl, by rw [hs]; intro p5 e; have := Option.some.inj e; omega⟩) hp
    · exact w_pins26 hV hc hsc hp7 (Or.inr ⟨rfl, by rw [hs]; intro p5 e; have := Option.some.inj e; omega⟩) hp
end
