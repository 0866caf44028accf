/-! the best place -/
def bs (ok : Nat → Bool) (v : Nat → Nat) : Nat → Option (Nat × Nat)
  | 0 => none
  | u + 1 => if ok u then (match bs ok v u with
    | none => some (10 * (u / 6) + u % 6, v u)
    | some (b, m) => if v u < m then some (10 * (u / 6) + u % 6, v u) else some (b, m)) else bs ok v u
def bsI : Option (Nat × Nat) → Int32
  | none => -nI 5
  | some (b, _) => nI b
def bsM : Option (Nat × Nat) → Int32
  | none => nI 1000
  | some (_, m) => nI m
section
variable {ok : Nat → Bool} {v : Nat → Nat}
theorem bs_n {u : Nat} (h : ok u = false) : bs ok v (u + 1) = bs ok v u := by
  show (if ok u then _ else bs ok v u) = _
  rw [h]; rfl
theorem bs_y0 {u : Nat} (h : ok u = true) (h0 : bs ok v u = none) : bs ok v (u + 1) = some (10 * (u / 6) + u % 6, v u) := by
  show (if ok u then (match bs ok v u with
    | none => some (10 * (u / 6) + u % 6, v u)
    | some (b, m) => if v u < m then some (10 * (u / 6) + u % 6, v u) else some (b, m)) else bs ok v u) = _
  rw [h, h0]; rfl
theorem bs_y1 {u b m : Nat} (h : ok u = true) (h0 : bs ok v u = some (b, m)) : bs ok v (u + 1) = if v u < m then some (10 * (u / 6) + u % 6, v u) else some (b, m) := by
  show (if ok u then (match bs ok v u with
    | none => some (10 * (u / 6) + u % 6, v u)
    | some (b, m) => if v u < m then some (10 * (u / 6) + u % 6, v u) else some (b, m)) else bs ok v u) = _
  rw [h, h0]; rfl
theorem bs_skip {a : Nat} : ∀ d, (∀ j, a ≤ j → j < a + d → ok j = false) → bs ok v (a + d) = bs ok v a
  | 0, _ => rfl
  | d + 1, h => by
    rw [← Nat.add_assoc, bs_n (h (a + d) (by omega) (by omega))]
    exact bs_skip d (fun j h1 h2 => h j h1 (by omega))
theorem bs_ok {Q : Nat → Prop} : ∀ u, (∀ j, j < u → ok j = true → Q (v j)) → ∀ b m, bs ok v u = some (b, m) → Q m ∧ b ≤ 10 * u
  | 0, _, b, m, h => by cases h
  | u + 1, hq, b, m, h => by
    have ih := bs_ok (Q := Q) u (fun j hj => hq j (by omega))
    cases hok : ok u with
    | false =>
      rw [bs_n hok] at h
      have := ih b m h
      exact ⟨this.1, by omega⟩
    | true =>
      have hv := hq u (by omega) hok
      cases hb : bs ok v u with
      | none =>
        rw [bs_y0 hok hb] at h
        cases h
        exact ⟨hv, by omega⟩
      | some bm =>
        obtain ⟨b2, m2⟩ := bm
        rw [bs_y1 hok hb] at h
        have h2 := ih b2 m2 hb
        by_cases hlt : v u < m2
        · rw [if_pos hlt] at h; cases h; exact ⟨hv, by omega⟩
        · rw [if_neg hlt] at h; cases h; exact ⟨h2.1, by omega⟩
end
def okU (row : Nat → List Nat) (u : Nat) : Bool := decide ((row (u / 6)).length ≤ 5 ∧ u % 6 ≤ (row (u / 6)).length)
theorem okU_y {row : Nat → List Nat} {sc p : Nat} (hp : p < 6) (h : (row sc).length ≤ 5 ∧ p ≤ (row sc).length) : okU row (6 * sc + p) = true := by
  unfold okU
  rw [show (6 * sc + p) / 6 = sc by omega, show (6 * sc + p) % 6 = p by omega]
  exact decide_eq_true h
theorem okU_n {row : Nat → List Nat} {sc p : Nat} (hp : p < 6) (h : ¬ ((row sc).length ≤ 5 ∧ p ≤ (row sc).length)) : okU row (6 * sc + p) = false := by
  unfold okU
  rw [show (6 * sc + p) / 6 = sc by omega, show (6 * sc + p) % 6 = p by omega]
  exact decide_eq_false h
theorem okU_at {row : Nat → List Nat} {u : Nat} (h : okU row u = true) : (row (u / 6)).length ≤ 5 ∧ u % 6 ≤ (row (u / 6)).length := of_decide_eq_true h
theorem pre_lenp {n : Nat} {row : Nat → List Nat} {sc : Nat} (hO : rowOk n row) : ∀ p, p ≤ (row sc).length → (pre row (6 * sc + p)).length = (pre row (6 * sc)).length + p
  | 0, _ => rfl
  | p + 1, h => by
    rw [← Nat.add_assoc, pre_step hO (by omega), List.length_append, List.length_singleton, pre_lenp hO p (by omega)]; omega
section
variable {n : Nat} {num : Nat → Nat → Nat} {row : Nat → List Nat} {st : Nat → Nat} {s : Nat → Int32} {c : Nat}
theorem s_best29 {f g t tr : Nat → Int32} {x y size csize gz : Int32} {cnum names slots ahead sAhead last lastS ra ca ho so : Nat → Int32} {base : Nat} {v : Nat → Nat} {post : Int32 → (Nat → Int32) → Int32 → Int32 → Int32 → Int32 → (Nat → Int32) → (Nat → Int32) → (Nat → Int32) → (Nat → Int32) → (Nat → Int32) → (Nat → Int32) → (Nat → Int32) → Int32 → (Nat → Int32) → (Nat → Int32) → (Nat → Int32) → (Nat → Int32) → Prop}
    (htr : RW row tr) (hO : rowOk n row)
    (mk : ∀ sc p, sc < 16 → p ≤ (row sc).length → (row sc).length ≤ 5 → ∀ po : Int32 → Prop, po (nI (v (6 * sc + p) - base)) → wp_X8_breaksMadeBy (nI c) (nI (pre row (6 * sc + p)).length) (nI n) f gz ra ho po)
    (hv : ∀ u, u < 96 → okU row u = true → base ≤ v u ∧ v u ≤ 40)
    (h : post (bsI (bs (okU row) v 96)) tr x y size csize cnum names slots ahead sAhead last lastS gz ra ca ho so) : wp_X8_best_l29 (nI c) (-5) 0 0 (nI n) f g t tr x y size csize cnum names slots ahead sAhead last lastS gz ra ca ho so post := by
  have hn := hO.2.2.2
  unfold wp_X8_best_l29
  refine lf3_i (fun x2 x3 x4 => ∃ sc, sc ≤ 16 ∧ x4 = nI sc ∧ x2 = bsI (bs (okU row) v (6 * sc)) ∧ ∀ b m, bs (okU row) v (6 * sc) = some (b, m) → x3 = nI (m - base)) (fun _ _ x4 => 16 - x4.toNatClampNeg) ⟨0, by omega, rfl, rfl, fun b m q => by cases q⟩ ?_
  rintro x2 x3 x4 ⟨sc, hsc, rfl, rfl, hx3⟩
  rw [l16, z_le (by omega) (by omega)]
  refine ⟨fun hx => ?_, fun hx => ?_⟩
  · have hse : sc = 16 := by omega
    subst hse; exact h
  · have hsc16 : sc < 16 := by omega
    have h6 := hO.1 sc
    refine s_sizeOf htr hO hsc16 ?_
    refine s_slot (p := 0) ?_
    rw [Nat.add_zero, Nat.mul_comm sc 6]
    have hlen := pre_le (t := 6 * sc) hO (by omega)
    refine s_ahead (t := 6 * sc) htr hO (by omega) ?_
    unfold wp_X8_best_l65
    refine lf3_i (fun x2 x3 x7 => ∃ p, p ≤ 6 ∧ x7 = nI p ∧ x2 = bsI (bs (okU row) v (6 * sc + p)) ∧ ∀ b m, bs (okU row) v (6 * sc + p) = some (b, m) → x3 = nI (m - base)) (fun _ _ x7 => 6 - x7.toNatClampNeg) ⟨0, by omega, rfl, rfl, hx3⟩ ?_
    clear hx3 x3
    rintro x2 x3 x7 ⟨p, hp, rfl, rfl, hx3⟩
    have e1 : nI sc + (1 : Int32) = nI (sc + 1) := by rw [l1, z_add]
    have e2 : nI p + (1 : Int32) = nI (p + 1) := by rw [l1, z_add]
    have hdec : 6 - (nI (p + 1)).toNatClampNeg < 6 - (nI p).toNatClampNeg ∨ 6 ≤ p := by
      rcases Nat.lt_or_ge p 6 with q | q
      · left; simp (disch := omega) only [z_cl]; omega
      · exact Or.inr q
    have out : (p = 6 ∨ ¬ ((row sc).length ≤ 5 ∧ p ≤ (row sc).length)) → (∃ sc', sc' ≤ 16 ∧ nI sc + (1 : Int32) = nI sc' ∧ bsI (bs (okU row) v (6 * sc + p)) = bsI (bs (okU row) v (6 * sc')) ∧ ∀ b m, bs (okU row) v (6 * sc') = some (b, m) → x3 = nI (m - base)) ∧ 16 - (nI sc + (1 : Int32)).toNatClampNeg < 16 - (nI sc).toNatClampNeg := by
      intro q
      have hs := bs_skip (ok := okU row) (v := v) (a := 6 * sc + p) (6 - p) (fun j h1 h2 => by
        have hj := okU_n (row := row) (sc := sc) (p := j - 6 * sc) (by omega) (by omega)
        rw [show 6 * sc + (j - 6 * sc) = j by omega] at hj
        exact hj)
      rw [show 6 * sc + p + (6 - p) = 6 * (sc + 1) by omega] at hs
      rw [e1]
      refine ⟨⟨sc + 1, by omega, rfl, by rw [hs], fun b m e => hx3 b m (by rw [← hs]; exact e)⟩, by simp (disch := omega) only [z_cl]; omega⟩
    rw [l6, z_lt (by omega) (by omega), z_le (by omega) (by omega), z_le (by omega) (by omega)]
    refine ⟨fun q => out (by omega), fun q => ⟨fun q2 => out (by omega), fun q2 => ⟨fun q3 => out (by omega), fun q3 => ?_⟩⟩⟩
    have hok : okU row (6 * sc + p) = true := okU_y (by omega) (by omega)
    have hvv := hv (6 * sc + p) (by omega) hok
    have hq := bs_ok (ok := okU row) (v := v) (Q := fun m => base ≤ m ∧ m ≤ 40) (6 * sc + p) (fun j hj hjo => hv j (by omega) hjo)
    have hd2 : 6 - (nI (p + 1)).toNatClampNeg < 6 - (nI p).toNatClampNeg := by
      rcases hdec with a | a
      · exact a
      · omega
    have edv : (6 * sc + p) / 6 = sc := by omega
    have emd : (6 * sc + p) % 6 = p := by omega
    rw [z_add, ← pre_lenp hO p (by omega)]
    refine mk sc p hsc16 (by omega) (by omega) _ ?_
    unfold wp_X8_best_j110
    rw [e2]
    have e10 : (10 : Int32) * nI sc + nI p = nI (10 * sc + p) := by rw [l10, z_mul, z_add]
    rw [e10]
    cases hb : bs (okU row) v (6 * sc + p) with
    | none =>
      have hnx := bs_y0 (v := v) hok hb
      rw [edv, emd] at hnx
      refine ⟨fun _ => ⟨⟨p + 1, by omega, rfl, ?_, fun b m e => ?_⟩, hd2⟩, fun q => absurd rfl q⟩
      · rw [← Nat.add_assoc, hnx]; rfl
      · rw [← Nat.add_assoc, hnx] at e; cases e; rfl
    | some bm =>
      obtain ⟨b, m⟩ := bm
      have hbm := hq b m hb
      have hx3' := hx3 b m hb
      have hnx := bs_y1 (v := v) hok hb
      rw [edv, emd] at hnx
      refine ⟨fun q => absurd q (by show ¬ nI b = -nI 5; rw [z_en (by omega) (by omega) (by omega)]; exact id), fun _ => ?_⟩
      rw [hx3', z_le (by omega) (by omega)]
      refine ⟨fun q => ⟨⟨p + 1, by omega, rfl, ?_, fun b2 m2 e => ?_⟩, hd2⟩, fun q => ⟨⟨p + 1, by omega, rfl, ?_, fun b2 m2 e => ?_⟩, hd2⟩⟩
      · rw [← Nat.add_assoc, hnx, if_neg (by omega)]
      · rw [← Nat.add_assoc, hnx, if_neg (by omega)] at e; cases e; rfl
      · rw [← Nat.add_assoc, hnx, if_pos (by omega)]; rfl
      · rw [← Nat.add_assoc, hnx, if_pos (by omega)] at e; cases e; rfl
theorem m_best20 {w sm : Int32} {aside order rank straight : Nat → Int32} {v : Nat → Nat} {post : Int32 → Int32 → Int32 → (Nat → Int32) → (Nat → Int32) → (Nat → Int32) → (Nat → Int32) → (Nat → Int32) → Prop} (hM : RM n num row st s) (hO : rowOk n row) (hN : numOk n num) (hc : c < n)
    (hve : ∀ sc p, p < 6 → v (6 * sc + p) = tB num st (onRow (rowW row c) sc p c))
    (hv : ∀ u, u < 96 → okU (rowW row c) u = true → v u ≤ 40)
    (h : ∀ w sm s2 aside order rank straight, RM n num row st s2 → post (bsI (bs (okU (rowW row c)) v 96)) w sm s2 aside order rank straight) : wp_X9_best_l20 (nI c) (-5) 1000 0 w sm s aside order rank straight post := by
  have hn := hO.2.2.2
  have hOW : rowOk n (rowW row c) := rowW_ok hO
  unfold wp_X9_best_l20
  refine lf10_i (fun x2 x3 x4 _ _ s2 _ _ _ _ => ∃ sc, sc ≤ 16 ∧ x4 = nI sc ∧ x2 = bsI (bs (okU (rowW row c)) v (6 * sc)) ∧ x3 = bsM (bs (okU (rowW row c)) v (6 * sc)) ∧ RM n num row st s2) (fun _ _ x4 _ _ _ _ _ _ _ => 16 - x4.toNatClampNeg) ⟨0, by omega, rfl, rfl, rfl, hM⟩ ?_
  clear hM
  rintro x2 x3 x4 w sm s aside order rank straight ⟨sc, hsc, rfl, rfl, rfl, hM⟩
  rw [l16, z_le (by omega) (by omega)]
  refine ⟨fun hx => ?_, fun hx => ?_⟩
  · have hse : sc = 16 := by omega
    subst hse; exact h _ _ _ _ _ _ _ hM
  · have hsc16 : sc < 16 := by omega
    have h6 := hOW.1 sc
    unfold wp_X9_best_l30
    refine lf10_i (fun x2 x3 x5 _ _ s2 _ _ _ _ => ∃ p, p ≤ 6 ∧ x5 = nI p ∧ x2 = bsI (bs (okU (rowW row c)) v (6 * sc + p)) ∧ x3 = bsM (bs (okU (rowW row c)) v (6 * sc + p)) ∧ RM n num row st s2) (fun _ _ x5 _ _ _ _ _ _ _ => 6 - x5.toNatClampNeg) ⟨0, by omega, rfl, rfl, rfl, hM⟩ ?_
    clear hM
    rintro x2 x3 x5 w sm s aside order rank straight ⟨p, hp, rfl, rfl, rfl, hM⟩
    rw [l6, z_le (by omega) (by omega)]
    refine ⟨fun hx2 => ?_, fun hx2 => ?_⟩
    · have hp6 : p = 6 := by omega
      subst hp6
      rw [l1, z_add]
      exact ⟨⟨sc + 1, by omega, rfl, rfl, rfl, hM⟩, by simp (disch := omega) only [z_cl]; omega⟩
    · have e2 : nI p + (1 : Int32) = nI (p + 1) := by rw [l1, z_add]
      have hd2 : 6 - (nI (p + 1)).toNatClampNeg < 6 - (nI p).toNatClampNeg := by simp (disch := omega) only [z_cl]; omega
      have edv : (6 * sc + p) / 6 = sc := by omega
      have emd : (6 * sc + p) % 6 = p := by omega
      have hq := bs_ok (ok := okU (rowW row c)) (v := v) (Q := fun m => m ≤ 40) (6 * sc + p) (fun j hj hjo => hv j (by omega) hjo)
      have e10 : (10 : Int32) * nI sc + nI p = nI (10 * sc + p) := by rw [l10, z_mul, z_add]
      have l1000' : (1000 : Int32) = nI 1000 := rfl
      have bad : ¬ ((rowW row c sc).length ≤ 5 ∧ p ≤ (rowW row c sc).length) → ∀ I20 : Int32 → Int32 → Int32 → Int32 → Int32 → (Nat → Int32) → (Nat → Int32) → (Nat → Int32) → (Nat → Int32) → (Nat → Int32) → Prop, wp_X9_best_j64 (nI c) (bsI (bs (okU (rowW row c)) v (6 * sc + p))) (bsM (bs (okU (rowW row c)) v (6 * sc + p))) (nI sc) (nI p) 1000 w sm s aside order rank straight I20 (fun u0 u1 u2 _ _ s2 _ _ _ _ => (∃ p, p ≤ 6 ∧ u2 = nI p ∧ u0 = bsI (bs (okU (rowW row c)) v (6 * sc + p)) ∧ u1 = bsM (bs (okU (rowW row c)) v (6 * sc + p)) ∧ RM n num row st s2) ∧ 6 - u2.toNatClampNeg < 6 - (nI p).toNatClampNeg) post := by
        intro hb I20
        have hok := okU_n (row := rowW row c) (sc := sc) (p := p) (by omega) hb
        have hle : bsM (bs (okU (rowW row c)) v (6 * sc + p)) ≤ 1000 := by
          cases hbs : bs (okU (rowW row c)) v (6 * sc + p) with
          | none => exact Int32.le_refl _
          | some bm =>
            obtain ⟨b, m⟩ := bm
            have hbm := hq b m hbs
            show nI m ≤ 1000
            rw [l1000', z_le (by omega) (by omega)]; omega
        unfold wp_X9_best_j64 wp_X9_best_j84
        rw [e2]
        refine ⟨fun _ => ⟨fun _ => ⟨⟨p + 1, by omega, rfl, ?_, ?_, hM⟩, hd2⟩, fun q => absurd hle q⟩, fun q => absurd hle q⟩
        · rw [← Nat.add_assoc, bs_n hok]
        · rw [← Nat.add_assoc, bs_n hok]
      refine m_errorOf hM hO hc hsc16 (fun q3 => ⟨fun c => absurd c (by decide), fun _ => bad (by omega) _⟩) (fun q5 qx => ⟨fun c => absurd c (by decide), fun _ => bad (fun q => absurd qx (rng_no q.2 (by omega))) _⟩) (fun q5 p2 hp2 e => ?_)
      rw [z_eq (by omega) (by omega)] at e
      subst e
      refine ⟨fun _ => ?_, fun q => absurd rfl q⟩
      have hok := okU_y (row := rowW row c) (sc := sc) (p := p) (by omega) ⟨q5, hp2⟩
      have hvv := hv (6 * sc + p) (by omega) hok
      refine m_tried hM hO hN hc hsc16 hp2 q5 (fun w sm s2 aside order rank straight hM2 => ?_)
      rw [← hve sc p (by omega)]
      unfold wp_X9_best_j64 wp_X9_best_j84
      rw [e2, e10]
      cases hb : bs (okU (rowW row c)) v (6 * sc + p) with
      | none =>
        have hnx := bs_y0 (v := v) hok hb
        rw [edv, emd] at hnx
        have hn1 : ¬ bsM none ≤ nI (v (6 * sc + p)) := by
          show ¬ nI 1000 ≤ nI (v (6 * sc + p))
          rw [z_le (by omega) (by omega)]; omega
        refine ⟨fun q => absurd q hn1, fun _ => ⟨fun q => absurd q hn1, fun _ => ⟨⟨p + 1, by omega, rfl, ?_, ?_, hM2⟩, hd2⟩⟩⟩
        · rw [← Nat.add_assoc, hnx]; rfl
        · rw [← Nat.add_assoc, hnx]; rfl
      | some bm =>
        obtain ⟨b, m⟩ := bm
        have hbm := hq b m hb
        have hnx := bs_y1 (v := v) hok hb
        rw [edv, emd] at hnx
        have hle : (bsM (some (b, m)) ≤ nI (v (6 * sc + p))) ↔ m ≤ v (6 * sc + p) := by
          show (nI m ≤ nI (v (6 * sc + p))) ↔ _
          exact z_le (by omega) (by omega)
        rw [hle]
        refine ⟨fun q => ⟨fun _ => ⟨⟨p + 1, by omega, rfl, ?_, ?_, hM2⟩, hd2⟩, fun q2 => absurd q q2⟩, fun q => ⟨fun q2 => absurd q2 q, fun _ => ⟨⟨p + 1, by omega, rfl, ?_, ?_, hM2⟩, hd2⟩⟩⟩
        · rw [← Nat.add_assoc, hnx, if_neg (by omega)]
        · rw [← Nat.add_assoc, hnx, if_neg (by omega)]
        · rw [← Nat.add_assoc, hnx, if_pos (by omega)]; rfl
        · rw [← Nat.add_assoc, hnx, if_pos (by omega)]; rfl
end
theorem sim_best : gSim_best simR := by
  intro y1 xv_kept xv_now_cards_size xv_now_cards_numbers xv_now_wall_slots xv_now_settings xv_snapshot_cards_size xv_snapshot_cards_numbers xv_snapshot_wall_slots xv_snapshot_settings xv_history_oldest xv_history_size xv_history_states_0_cards_size xv_history_states_0_cards_numbers xv_history_states_0_wall_slots xv_history_states_0_settings xv_history_states_1_cards_size xv_history_states_1_cards_numbers xv_history_states_1_wall_slots xv_history_states_1_settings xv_history_states_2_cards_size xv_history_states_2_cards_numbers xv_history_states_2_wall_slots xv_history_states_2_settings xv_history_states_3_cards_size xv_history_states_3_cards_numbers xv_history_states_3_wall_slots xv_history_states_3_settings xv_text_length xv_text_position xv_text_faulty xv_text_signs xv_text_cards_size xv_text_cards_numbers xv_trial_slots xv_reading_mostScenesWithout xv_reading_mostHoursWithout xv_reading_size xv_reading_cards_size xv_reading_cards_numbers xv_reading_names xv_reading_slots xv_reading_ahead xv_reading_straightAhead xv_reading_last xv_reading_lastStraight xv_straightRow_size xv_straightRow_ranks xv_straightRow_cards xv_straightRow_hours xv_straightRow_slots xv_straightRow_sorted xv_straightRow_longest xv_tensions_values xv_tensions_climbs mv_onWall mv_straightMany mv_length mv_states mv_isKept mv_at mv_cards mv_s mv_before mv_kept mv_aside mv_order mv_rank mv_straight mv_sorted mv_longest mv_read mv_text hsim
  obtain ⟨a, b, hist, h, len, T, hA, hC, hM, hK, hHc, hHm, hT1, hT2, hl1, hl2⟩ := hsim
  have same : simR xv_kept xv_now_cards_size xv_now_cards_numbers xv_now_wall_slots xv_now_settings xv_snapshot_cards_size xv_snapshot_cards_numbers xv_snapshot_wall_slots xv_snapshot_settings xv_history_oldest xv_history_size xv_history_states_0_cards_size xv_history_states_0_cards_numbers xv_history_states_0_wall_slots xv_history_states_0_settings xv_history_states_1_cards_size xv_history_states_1_cards_numbers xv_history_states_1_wall_slots xv_history_states_1_settings xv_history_states_2_cards_size xv_history_states_2_cards_numbers xv_history_states_2_wall_slots xv_history_states_2_settings xv_history_states_3_cards_size xv_history_states_3_cards_numbers xv_history_states_3_wall_slots xv_history_states_3_settings xv_text_length xv_text_position xv_text_faulty xv_text_signs xv_text_cards_size xv_text_cards_numbers xv_trial_slots xv_reading_mostScenesWithout xv_reading_mostHoursWithout xv_reading_size xv_reading_cards_size xv_reading_cards_numbers xv_reading_names xv_reading_slots xv_reading_ahead xv_reading_straightAhead xv_reading_last xv_reading_lastStraight xv_straightRow_size xv_straightRow_ranks xv_straightRow_cards xv_straightRow_hours xv_straightRow_slots xv_straightRow_sorted xv_straightRow_longest xv_tensions_values xv_tensions_climbs mv_onWall mv_straightMany mv_length mv_states mv_isKept mv_at mv_cards mv_s mv_before mv_kept mv_aside mv_order mv_rank mv_straight mv_sorted mv_longest mv_read mv_text := ⟨a, b, hist, h, len, T, hA, hC, hM, hK, hHc, hHm, hT1, hT2, hl1, hl2⟩
  obtain ⟨n, num, row, st⟩ := a
  have hN : numOk n num := hA.1
  have hO : rowOk n row := hA.2.1
  have hn : n ≤ 40 := hO.2.2.2
  have hS : setOk st := hA.2.2
  replace hM : RM n num row st mv_s := hM
  replace hC : RCd n num xv_now_cards_size xv_now_cards_numbers ∧ RW row xv_now_wall_slots ∧ RS st xv_now_settings := hC
  have hsz : xv_now_cards_size = nI n := hC.1.1
  unfold wp_X8_best
  rw [hsz] at hC same ⊢
  rcases z_cases y1 n (by omega) with c | c | ⟨i, hi, rfl⟩
  · refine s_has_no hn (Or.inl c) ⟨fun _ => ?_, fun c => absurd rfl c⟩
    unfold wp_X9_best
    exact m_isCardN hM hn (Or.inl c) ⟨fun _ => ⟨rfl, same⟩, fun c => absurd rfl c⟩
  · refine s_has_no hn (Or.inr c.2) ⟨fun _ => ?_, fun c => absurd rfl c⟩
    unfold wp_X9_best
    exact m_isCardN hM hn (Or.inr c) ⟨fun _ => ⟨rfl, same⟩, fun c => absurd rfl c⟩
  · refine s_has hn hi ⟨fun c => absurd c (by decide), fun _ => ?_⟩
    have hOW : rowOk n (rowW row i) := rowW_ok hO
    have hO2 : ∀ k p, k < 16 → p ≤ (rowW row i k).length → (rowW row i k).length ≤ 5 → rowOk n (onRow (rowW row i) k p i) := fun k p hk hp h5 => on_ok hOW hk hp h5 hi (rowW_no hO)
    refine s_readW (n := n) (num := num) (row := row) (st := st) hC.1 hN hC.2.2 hC.2.1 hO hi (fun tr size csize cnum names slots ahead sAhead last lastS gz ra ca ho so htr hRR hG => ?_)
    obtain ⟨v, hve⟩ : ∃ v : Nat → Nat, v = fun u => tB num st (onRow (rowW row i) (u / 6) (u % 6) i) := ⟨_, rfl⟩
    have hvp : ∀ k p, p < 6 → v (6 * k + p) = tB num st (onRow (rowW row i) k p i) := fun k p hp => by
      rw [hve]
      show tB num st (onRow (rowW row i) ((6 * k + p) / 6) ((6 * k + p) % 6) i) = _
      rw [show (6 * k + p) / 6 = k by omega, show (6 * k + p) % 6 = p by omega]
    have mk0 : ∀ k p, k < 16 → p ≤ (rowW row i k).length → (rowW row i k).length ≤ 5 → ∀ po : Int32 → Prop, (tB num st (rowW row i) ≤ v (6 * k + p) → po (nI (v (6 * k + p) - tB num st (rowW row i)))) → wp_X8_breaksMadeBy (nI i) (nI (pre (rowW row i) (6 * k + p)).length) (nI n) xv_now_cards_numbers gz ra ho po := fun k p hk hp h5 po hpo => by
      rw [hvp k p (by omega)] at hpo
      exact s_made8 hC.1 hN hOW (hO2 k p hk hp h5) hi hk hp hG hpo
    have hge : ∀ u, u < 96 → okU (rowW row i) u = true → tB num st (rowW row i) ≤ v u ∧ v u ≤ 40 := fun u hu hok => by
      have hk := okU_at hok
      refine ⟨?_, ?_⟩
      · have q := s_made_ge (c := i) (st := st) hN hOW (hO2 (u / 6) (u % 6) (by omega) hk.2 hk.1) hi (by omega) hk.2
        rw [hve]; exact q
      · rw [hve]; exact tB_le (hO2 (u / 6) (u % 6) (by omega) hk.2 hk.1) hN
    clear hve
    refine s_best29 (v := v) (base := tB num st (rowW row i)) htr hOW (fun k p hk hp h5 po hpo => mk0 k p hk hp h5 po (fun _ => hpo)) hge ?_
    unfold wp_X9_best
    refine m_isCardY hM hn hi ⟨fun c => absurd c (by decide), fun _ => ?_⟩
    refine m_best20 (v := v) hM hO hN hi hvp (fun u hu hok => (hge u hu hok).2) (fun w sm s2 aside order rank straight hM2 => ?_)
    exact ⟨rfl, (n, num, row, st), b, hist, h, len, T, hA, hC, hM2, hK, hHc, hHm, hT1, hT2, hl1, hl2⟩
