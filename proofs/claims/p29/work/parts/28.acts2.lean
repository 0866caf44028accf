/-! an act by its cell -/
section
variable {n : Nat} {num : Nat → Nat → Nat} {row : Nat → List Nat} {st : Nat → Nat} {b : Option AS} {v : VT} {post : Int32 → VT → Prop}
theorem w_acts {m : Nat} (hm : m < 2147483648) (hV : SV (n, num, row, st) b v) (h0 : 0 < n) (hp : ∀ a v, a.1 = n → SV a b v → post 1 v) : wv_L_acts (nI m) v post := by
  have hO : rowOk n row := hV.1.2.1
  have hN : numOk n num := hV.1.1
  have hn : n ≤ 40 := hO.2.2.2
  have hD := RRd_pre hO hN
  have s4 : nI m >>> ((4 : Int32) &&& 31) = nI (m / 16) := pk_shrN hm _ 4 rfl
  have s9 : nI m >>> ((9 : Int32) &&& 31) = nI (m / 512) := pk_shrN hm _ 9 rfl
  have s13 : nI m >>> ((13 : Int32) &&& 31) = nI (m / 8192) := pk_shrN hm _ 13 rfl
  have l10000 : (10000 : Int32) = nI 10000 := rfl
  have l2' : (2 : Int32) = nI 2 := rfl
  have a4 : nI (m / 16) - nI (m / 16) / nI n * nI n = nI (m / 16 % n) := z_md (by omega) h0 (by omega)
  have b4 : nI (m / 16) - nI (m / 16) / (6 : Int32) * (6 : Int32) = nI (m / 16 % 6) := z_md (d := 6) (by omega) (by omega) (by omega)
  have a9 : nI (m / 512) - nI (m / 512) / (16 : Int32) * (16 : Int32) = nI (m / 512 % 16) := z_md (d := 16) (by omega) (by omega) (by omega)
  have b9 : nI (m / 512) - nI (m / 512) / nI n * nI n = nI (m / 512 % n) := z_md (by omega) h0 (by omega)
  have c9 : nI (m / 512) - nI (m / 512) / (10000 : Int32) * (10000 : Int32) = nI (m / 512 % 10000) := z_md (d := 10000) (by omega) (by omega) (by omega)
  have a13 : nI (m / 8192) - nI (m / 8192) / (7 : Int32) * (7 : Int32) = nI (m / 8192 % 7) := z_md (d := 7) (by omega) (by omega) (by omega)
  have hi : m / 16 % n < n := Nat.mod_lt _ h0
  have hj : m / 512 % n < n := Nat.mod_lt _ h0
  have hsc : m / 512 % 16 < 16 := Nat.mod_lt _ (by omega)
  have ht : m / 16 % 6 < 6 := Nat.mod_lt _ (by omega)
  have hx : m / 512 % 10000 < 10000 := Nat.mod_lt _ (by omega)
  unfold wv_L_acts
  refine q_count0 hV (fun v hV => ?_)
  rw [s4, s9, s13, a4, b4, a9, c9, a13]
  clear s4 s9 a4 b4 a9 c9 a13
  refine ⟨by rw [z_eq0 (by omega)]; omega, ?_⟩
  generalize m / 16 % n = i at hi ⊢
  generalize m / 16 % 6 = t at ht ⊢
  generalize m / 512 % 16 = sc at hsc ⊢
  refine ⟨fun _ => ?_, fun _ => ?_, fun _ => ?_, fun _ => ?_, fun _ => ?_, fun _ => ?_, fun _ => ?_, fun _ _ _ _ _ _ _ => ?_⟩
  · exact w_pins hV hi hsc (Nat.mod_lt _ (by omega)) (fun a v ha hV => ⟨Or.inr rfl, hp a v ha hV⟩)
  · exact w_pins hV hi hsc (Nat.mod_lt _ (by omega)) (fun a v ha hV => ⟨Or.inr rfl, hp a v ha hV⟩)
  · exact w_pins hV hi hsc (Nat.mod_lt _ (by omega)) (fun a v ha hV => ⟨Or.inr rfl, hp a v ha hV⟩)
  · -- a thread put straight
    have hbd := st_bound (row := row) (t := t) hN hO
    have hsd := st_done (st := st) (row := row) (t := t) hN hO _ rfl
    have hB : tallyF num st (pre row 96) 12 (some t) none = dsc (HR num (pre row 96) (sRow num row t)) (sRow num row t).length := tally_HR (T6_of hD)
    have hRl : (sRow num row t).length ≤ 40 := by
      have h1 := flt_len (pS num (pre row 96) t) (pre row 96).length
      have h2 := hD.1.1
      unfold sRow; omega
    have hmv : mvd num (pre row 96) (sRow num row t) (sRow num row t).length ≤ (sRow num row t).length := cnt_le _ _
    have hb1 := bst_le (HR num (pre row 96) (sRow num row t)) (sRow num row t).length
    have hb2 := bst_full (H := HR num (pre row 96) (sRow num row t)) (sRow num row t).length
    have h151 := fun v hV h0 => @w_act151 n num row st b v post t hV ht h0 (fun v hV => hp _ v rfl hV)
    refine q_thread4 hV ht (fun v hV => ?_)
    refine q_straighten hV ht (fun q v hV => ?_) (fun q v hV => ?_)
    · have hz : (sRow num row t).length - bst (HR num (pre row 96) (sRow num row t)) (sRow num row t).length = 0 := by omega
      have hd : tallyF num st (pre row 96) 12 (some t) none = 0 := by rw [hB]; exact hb2 (by omega)
      refine q_thread3 hV ht (fun v hV => ?_)
      rw [hd]
      refine ⟨fun _ => ?_, fun d => absurd rfl d⟩
      refine q_thread4 hV ht (fun v hV => ?_)
      rw [hz]
      exact ⟨fun _ => ⟨fun _ => ⟨fun _ => h151 v hV q, fun d => absurd rfl d⟩, fun d => absurd rfl d⟩, fun d => absurd rfl d⟩
    · have hO2 := hV.1.2.1
      have h3 := hsd hO2
      have hm2 := hbd.2 q
      generalize mvd num (pre row 96) (sRow num row t) (sRow num row t).length = mv at hbd hm2 hmv ⊢
      generalize (sRow num row t).length - bst (HR num (pre row 96) (sRow num row t)) (sRow num row t).length = fm at hbd ⊢
      generalize reRow row (stF row (HR num (pre row 96) (sRow num row t)) (CR (pre row 96) (sRow num row t)) (fun i => sl (pre row 96) ((sRow num row t).getD i 0)) (sRow num row t).length) = row2 at hV h3
      have h151' := fun v hV h0 => @w_act151 n num row2 st b v post t hV ht h0 (fun v hV => hp _ v rfl hV)
      refine q_thread3 hV ht (fun v hV => ?_)
      rw [h3.1]
      refine ⟨fun _ => ?_, fun d => absurd rfl d⟩
      refine q_thread4 hV ht (fun v hV => ?_)
      rw [h3.2.1]
      refine ⟨fun _ => ⟨fun d => absurd d (by show ¬ nI mv = -nI 5; rw [z_en (by omega) (by omega) (by omega)]; exact id), fun _ => ?_⟩, fun d => absurd rfl d⟩
      rw [z_lt (by omega) (by omega), l1, z_le (by omega) (by omega)]
      exact ⟨fun d => absurd d (by omega), fun _ => ⟨fun d => absurd d (by omega), fun _ => h151' v hV h3.2.2⟩⟩
  · -- two cards exchanged
    have neg : ∀ x : Option Nat, (∀ y, x = some y → y < 1000) → ((optI x < (0 : Int32)) ↔ x = none) := by
      intro x hx
      cases x with
      | none => exact ⟨fun _ => rfl, fun _ => by decide⟩
      | some y =>
        have := hx y rfl
        refine ⟨fun d => absurd d (by show ¬ nI y < 0; rw [l0, z_lt (by omega) (by omega)]; omega), fun d => by cases d⟩
    have neg2 : ∀ c, (optI ((slotO row c).map (· / 6)) < (0 : Int32)) ↔ slotO row c = none := by
      intro c
      rw [neg _ (fun y hy => ?_)]
      · cases slotO row c with
        | none => exact ⟨fun _ => rfl, fun _ => rfl⟩
        | some u => exact ⟨fun d => (by cases d), fun d => (by cases d)⟩
      · cases hs : slotO row c with
        | none => rw [hs] at hy; cases hy
        | some u =>
          have := (slotO_some hs).1
          rw [hs] at hy
          have e : u / 6 = y := Option.some.inj hy
          omega
    refine q_count0 hV (fun v hV => ?_)
    rw [b9]
    refine ⟨by rw [z_eq0 (by omega)]; omega, ?_⟩
    generalize m / 512 % n = j at hj ⊢
    refine q_card5s hV hi (fun v hV => ?_)
    rw [neg2]
    unfold wv_L_acts_j203
    refine ⟨fun q => ?_, fun q => ?_⟩
    · exact w_swap hV hi hj (Or.inl ⟨rfl, Or.inl q⟩) hp
    · refine q_card5s hV hj (fun v hV => ?_)
      rw [neg2]
      refine ⟨fun q2 => ?_, fun q2 => ?_⟩
      · exact w_swap hV hi hj (Or.inl ⟨rfl, Or.inr q2⟩) hp
      · exact w_swap hV hi hj (Or.inr ⟨rfl, q, q2⟩) hp
  · -- the best place
    obtain ⟨u, hu, hok, hbs, hmin⟩ := best_ex (c := i) (v := fun u => tB num st (onRow (rowW row i) (u / 6) (u % 6) i)) hO
    have hk := okU_at hok
    have hOW : rowOk n (rowW row i) := rowW_ok hO
    have hO2 : rowOk n (onRow (rowW row i) (u / 6) (u % 6) i) := on_ok hOW (by omega) hk.2 hk.1 hi (rowW_no hO)
    have hb := tB_le (st := st) hO2 hN
    have hbR := tB_le (st := st) hO hN
    refine q_best hV hi (fun v hV => ?_)
    rw [hbs]
    have eb : bsI (some (10 * (u / 6) + u % 6, tB num st (onRow (rowW row i) (u / 6) (u % 6) i))) = nI (10 * (u / 6) + u % 6) := rfl
    rw [eb]
    have d1 : nI (10 * (u / 6) + u % 6) / (10 : Int32) = nI (u / 6) := by
      rw [l10, z_div (by omega) (by omega) (by omega)]
      exact congrArg nI (by omega)
    have d2 : nI (10 * (u / 6) + u % 6) - nI (10 * (u / 6) + u % 6) / (10 : Int32) * (10 : Int32) = nI (u % 6) := by
      rw [l10, z_md (by omega) (by omega) (by omega)]
      exact congrArg nI (by omega)
    rw [d2, d1]
    refine q_would hV hi (show u / 6 < 16 by omega) (show u % 6 ≤ 100 by omega) (fun d => absurd hk.1 (by omega)) (fun _ d => absurd hk.2 (by omega)) (fun _ _ v hV => ?_)
    refine q_count3 hV (fun v hV => ?_)
    have et : tallyF num st (pre row 96) 12 none none = tB num st row := rfl
    rw [et]
    have hle : (rowW row i sc).length ≤ 5 → tB num st (onRow (rowW row i) (u / 6) (u % 6) i) ≤ tB num st (onRow (rowW row i) sc (rowW row i sc).length i) := by
      intro h5
      have h := hmin (6 * sc + (rowW row i sc).length) (by omega) (okU_y (by omega) ⟨h5, Nat.le_refl _⟩)
      rw [show (6 * sc + (rowW row i sc).length) / 6 = sc by omega, show (6 * sc + (rowW row i sc).length) % 6 = (rowW row i sc).length by omega] at h
      exact h
    refine q_card5s hV hi (fun v hV => ?_)
    cases hs : slotO row i with
    | none =>
      refine ⟨fun d => absurd d (by decide), fun _ => ?_⟩
      exact w_best340 hV hi hsc hb (Or.inr rfl) hle (fun v hV => hp _ v rfl hV)
    | some w =>
      have hw := slotO_some hs
      refine ⟨fun _ => ?_, fun d => absurd (by show (0 : Int32) ≤ nI (w / 6); rw [l0, z_le (by omega) (by omega)]; omega) d⟩
      refine w_best340 hV hi hsc hb (Or.inl ⟨rfl, ?_⟩) hle (fun v hV => hp _ v rfl hV)
      have hl := rowW_len (sc := w / 6) hs
      rw [if_pos rfl] at hl
      have hlw := (List.getElem?_eq_some_iff.mp hw.2).1
      have h6 := hO.1 (w / 6)
      have h := hmin w hw.1 (by
        have := okU_y (row := rowW row i) (sc := w / 6) (p := w % 6) (by omega) ⟨by omega, by omega⟩
        rw [show 6 * (w / 6) + w % 6 = w by omega] at this
        exact this)
      rw [on_back hs] at h
      exact h
  · -- unpinning, flashbacks
    have flash : ∀ v, SV (n, num, row, st) b v → ∀ x13 x14 : Int32, wv_L_acts_j461 (nI i) x13 x14 (-9 : Int32) v post := by
      intro v hV x13 x14
      have h4 := (hN i hi).2.2.2.2.2
      unfold wv_L_acts_j461
      refine ⟨fun _ => ?_, fun d => absurd rfl d⟩
      refine q_card4 hV hi (fun v hV => ?_)
      have e1 : (1 : Int32) - nI (num i 4) = nI (1 - num i 4) := by rw [l1, z_sub h4]
      rw [e1]
      refine q_change (k := 3) (lo := 0) (hi := 1) hV hi (by omega) (Or.inr (Or.inr (Or.inr ⟨rfl, rfl, rfl⟩))) (by omega) (by omega) (fun d => ?_) (fun _ v hV => ?_)
      · exfalso
        have d' : num i 4 = 1 - num i 4 := d
        omega
      · have e2 : num i (3 + 1) = num i 4 := rfl
        rw [e2]
        exact ⟨fun d => absurd d (by rw [l0, z_lt (by omega) (by omega)]; omega), fun _ => hp _ v rfl hV⟩
    refine q_card5s hV hi (fun v hV => ?_)
    have hcc := hN i hi
    unfold wv_L_acts_j433
    have hl := hD.1.1
    cases hs : slotO row i with
    | none =>
      refine ⟨fun _ => ?_, fun d => absurd (by decide) d⟩
      refine q_count1 hV (fun v hV => ?_)
      rw [s13]
      refine ⟨fun _ => ?_, fun _ => flash v hV _ _⟩
      refine q_unpin hV hi (fun _ v hV => ?_) (fun d => absurd hs d)
      unfold wv_L_acts_j461
      refine ⟨fun d => absurd d (by decide), fun _ => ⟨fun _ => ?_, fun d => absurd rfl d⟩⟩
      exact w_unpin518 hV hi hs (Or.inl ⟨rfl, rfl⟩) (fun v hV => hp _ v rfl hV)
    | some w =>
      have hw := (slotO_some hs).1
      have hlo := len_off hO hs
      refine ⟨fun d => absurd d (by show ¬ nI (w / 6) < 0; rw [l0, z_lt (by omega) (by omega)]; omega), fun _ => ?_⟩
      refine q_count1 hV (fun v hV => ?_)
      rw [s13]
      refine ⟨fun _ => ?_, fun _ => flash v hV _ _⟩
      refine q_unpin hV hi (fun d => absurd d (by rw [hs]; exact fun q => by cases q)) (fun _ v hV => ?_)
      have hOW : rowOk n (rowW row i) := rowW_ok hO
      have hDW := RRd_pre hOW hN
      have tl := tallyF_le2 (num := num) (st := st) (w := 12) (t := some (num i 0)) (sc := none) hDW
      unfold wv_L_acts_j461
      have e9 : (-9 : Int32) = -nI 9 := rfl
      refine ⟨fun d => absurd d (by rw [e9, z_en (by omega) (by omega) (by omega)]; exact id), fun _ => ⟨fun d => absurd d (by decide), fun _ => ?_⟩⟩
      refine q_card0 hV hi (fun v hV => ?_)
      refine q_thread3 hV (show num i 0 < 6 by omega) (fun v hV => ?_)
      exact w_unpin518 hV hi (rowW_off hO) (Or.inr ⟨rfl, hlo.symm⟩) (fun v hV => hp _ v rfl hV)
  · -- hours
    generalize m / 512 % 10000 = x at hx ⊢
    refine q_card1 hV hi (fun v hV => ?_)
    have h1 := (hN i hi).2.1
    rw [z_eq (by omega) (by omega)]
    refine q_change (k := 0) (lo := 0) (hi := 9999) hV hi (by omega) (Or.inl ⟨rfl, rfl, rfl⟩) (by omega) (by omega) (fun d v hV => ?_) (fun d v hV => ?_)
    · have d' : num i 1 = x := d
      refine ⟨fun _ => ?_, fun q => absurd d' q⟩
      unfold wv_L_acts_j599
      refine ⟨fun _ => ?_, fun q => absurd rfl q⟩
      refine q_card1 hV hi (fun v hV => ?_)
      rw [d']
      exact ⟨fun _ => hp _ v rfl hV, fun q => absurd rfl q⟩
    · have d' : ¬ num i 1 = x := d
      refine ⟨fun q => absurd q d', fun _ => ?_⟩
      unfold wv_L_acts_j599
      refine ⟨fun _ => ?_, fun q => absurd rfl q⟩
      refine q_card1 hV hi (fun v hV => ?_)
      have e : chg num i (0 + 1) x i 1 = x := by unfold chg; rw [if_pos ⟨rfl, rfl⟩]
      rw [e]
      exact ⟨fun _ => hp _ v rfl hV, fun q => absurd rfl q⟩
end
