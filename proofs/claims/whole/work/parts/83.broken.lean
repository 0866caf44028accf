/-! the breaks one by one; what a card tells -/
theorem brM_card {num : Nat → Nat → Nat} {L : List (Nat × Nat)} {t c k0 : Nat} (h6 : T6 num L) (hk0 : k0 < L.length) (hc : cd L k0 = c) (ht : num c 0 = t) (hinj : ∀ k, k < L.length → cd L k = c → k = k0) : brM num L (flt (pS num L t) L.length) none (some c) (flt (pS num L t) L.length).length = b2n (isBrk num L k0) := by
  unfold brM
  rw [tie (p := pS num L t) (Q := fun a b => isQ num L none (some c) a b), cnt_sumN, sumN_congr (g := fun k => if k = k0 then b2n (isBrk num L k0) else 0) L.length (fun k hk => ?_), sumN_pt, if_pos hk0]
  show b2n (pS num L t k && onL (fun a b => isQ num L none (some c) a b) k (lst (pS num L t) k)) = if k = k0 then b2n (isBrk num L k0) else 0
  by_cases he : k = k0
  · subst he
    rw [if_pos rfl]
    rcases pS_cases (t := t) h6 hk with hp | ⟨hp, hq⟩
    · have hs := sA_pS hp
      rw [hp, Bool.true_and]
      unfold isBrk
      rw [hs]
      cases lst (pS num L t) k with
      | none => rfl
      | some b =>
        show b2n (decide (num (cd L k) 1 < num (cd L b) 1) && (true && (cd L k == c))) = b2n (decide (num (cd L k) 1 < num (cd L b) 1))
        rw [beq_iff_eq.mpr hc, Bool.and_true, Bool.and_true]
    · rw [hp]
      rcases hq with hq | hq
      · rw [hc] at hq; exact absurd ht hq
      · unfold isBrk
        rw [hq]; rfl
  · rw [if_neg he]
    have hne : cd L k ≠ c := fun e => he (hinj k hk e)
    have hz : ∀ q, onL (fun a b => isQ num L none (some c) a b) k q = false := by
      intro q
      cases q with
      | none => rfl
      | some b =>
        show (decide (num (cd L k) 1 < num (cd L b) 1) && (true && (cd L k == c))) = false
        rw [beq_eq_false_iff_ne.mpr hne, Bool.and_false, Bool.and_false]
    rw [hz, Bool.and_false]; rfl
theorem brM_off {num : Nat → Nat → Nat} {L : List (Nat × Nat)} {t c : Nat} (hno : ∀ k, k < L.length → cd L k ≠ c) : brM num L (flt (pS num L t) L.length) none (some c) (flt (pS num L t) L.length).length = 0 := by
  unfold brM
  rw [tie (p := pS num L t) (Q := fun a b => isQ num L none (some c) a b), cnt_sumN, sumN_congr (g := fun _ => 0) L.length (fun k hk => ?_), sumN_zero]
  show b2n (pS num L t k && onL (fun a b => isQ num L none (some c) a b) k (lst (pS num L t) k)) = 0
  have hne := hno k hk
  have hz : ∀ q, onL (fun a b => isQ num L none (some c) a b) k q = false := by
    intro q
    cases q with
    | none => rfl
    | some b =>
      show (decide (num (cd L k) 1 < num (cd L b) 1) && (true && (cd L k == c))) = false
      rw [beq_eq_false_iff_ne.mpr hne, Bool.and_false, Bool.and_false]
  rw [hz, Bool.and_false]; rfl
theorem cnt_up {p : Nat → Bool} {k : Nat} : ∀ d, cnt p k ≤ cnt p (k + d)
  | 0 => Nat.le_refl _
  | d + 1 => by
    have := cnt_up (p := p) (k := k) d
    rw [← Nat.add_assoc, cnt]; omega
theorem cnt_uni {p : Nat → Bool} {i j : Nat} (hi : p i = true) (hj : p j = true) (h : cnt p i = cnt p j) : i = j := by
  rcases Nat.lt_trichotomy i j with q | q | q
  · have h1 := cnt_up (p := p) (k := i + 1) (j - (i + 1))
    rw [show i + 1 + (j - (i + 1)) = j by omega, cnt, if_pos hi] at h1; omega
  · exact q
  · have h1 := cnt_up (p := p) (k := j + 1) (i - (j + 1))
    rw [show j + 1 + (i - (j + 1)) = i by omega, cnt, if_pos hj] at h1; omega
theorem pre_pref {row : Nat → List Nat} {t : Nat} : ∀ d, ∃ X, pre row (t + d) = pre row t ++ X
  | 0 => ⟨[], (List.append_nil _).symm⟩
  | d + 1 => by
    obtain ⟨X, hX⟩ := pre_pref (row := row) (t := t) d
    refine ⟨X ++ (match (row ((t + d) / 6))[(t + d) % 6]? with
      | some c => [(c, t + d)]
      | none => []), ?_⟩
    rw [← List.append_assoc, ← hX]; rfl
section
variable {n : Nat} {num : Nat → Nat → Nat} {row : Nat → List Nat} {st : Nat → Nat} {s : Nat → Int32}
theorem pre_idx {sc p : Nat} (hO : rowOk n row) (hsc : sc < 16) (hp : p < (row sc).length) : (pre row (6 * sc + p)).length < (pre row 96).length ∧ cd (pre row 96) (pre row (6 * sc + p)).length = gd (row sc) p := by
  have h6 := hO.1 sc
  have hst := pre_step hO hp
  obtain ⟨X, hX⟩ := pre_pref (row := row) (t := 6 * sc + p + 1) (96 - (6 * sc + p + 1))
  rw [show 6 * sc + p + 1 + (96 - (6 * sc + p + 1)) = 96 by omega, hst] at hX
  rw [hX]
  refine ⟨by rw [List.length_append, List.length_append, List.length_singleton]; omega, ?_⟩
  rw [cd_l (by rw [List.length_append, List.length_singleton]; omega), cd_e]
theorem m_breaksC {w sm : Int32} {order rank straight : Nat → Int32} {c : Nat} {post : Int32 → Int32 → Int32 → (Nat → Int32) → (Nat → Int32) → (Nat → Int32) → Prop} (hM : RM n num row st s) (hO : rowOk n row) (hN : numOk n num) (hc : c < n) (h : ∀ k, k < (pre row 96).length → cd (pre row 96) k = c → ∀ w sm order rank straight, post (nI (b2n (isBrk num (pre row 96) k))) w sm order rank straight) (hno : (∀ k, k < (pre row 96).length → cd (pre row 96) k ≠ c) → ∀ w sm order rank straight, post (nI 0) w sm order rank straight) : wp_X9_breaks (nI (num c 0)) (-5) (nI c) w sm s order rank straight post := by
  have hD := RRd_pre hO hN
  have hn := hO.2.2.2
  have ht : num c 0 < 6 := by have := (hN c hc).1; omega
  refine m_breaks (sc := none) (c := some c) hM hO hN ht (fun u hu => by cases hu) (fun u hu => by cases hu; omega) (fun w sm order rank straight => ?_)
  unfold sRow
  by_cases hx : ∃ k, k < (pre row 96).length ∧ cd (pre row 96) k = c
  · obtain ⟨k, hk, he⟩ := hx
    rw [brM_card (T6_of hD) hk he rfl (fun j hj e => hD.1.2.2.2 j k hj hk (e.trans he.symm))]
    exact h k hk he _ _ _ _ _
  · have hne : ∀ k, k < (pre row 96).length → cd (pre row 96) k ≠ c := fun k hk e => hx ⟨k, hk, e⟩
    rw [brM_off hne]
    exact hno hne _ _ _ _ _
theorem m_broken {w sm : Int32} {order rank straight : Nat → Int32} {r : Nat} {post : Int32 → Int32 → Int32 → (Nat → Int32) → (Nat → Int32) → (Nat → Int32) → Prop} (hM : RM n num row st s) (hO : rowOk n row) (hN : numOk n num) (hr : r < 2147483648) (h : ∀ k, k < (pre row 96).length → isBrk num (pre row 96) k = true → cnt (isBrk num (pre row 96)) k = r → ∀ w sm order rank straight, post (nI (cd (pre row 96) k)) w sm order rank straight) (hno : (∀ k, k < (pre row 96).length → isBrk num (pre row 96) k = true → cnt (isBrk num (pre row 96)) k ≠ r) → ∀ w sm order rank straight, post (-nI 5) w sm order rank straight) : wp_X9_broken (nI r) w sm s order rank straight post := by
  have hn := hO.2.2.2
  have hD := RRd_pre hO hN
  have hl := hD.1.1
  have hb := fun w sm order rank straight c post hc h hno => @m_breaksC n num row st s w sm order rank straight c post hM hO hN hc h hno
  obtain ⟨ix, i0, i1, i2, i3, i4⟩ : ∃ ix : Nat → Nat, ix 0 = 0 ∧ ix 96 = (pre row 96).length ∧ (∀ sc, ix (6 * (sc + 1)) = ix (6 * sc + (row sc).length)) ∧ (∀ sc p, p < (row sc).length → ix (6 * sc + (p + 1)) = ix (6 * sc + p) + 1) ∧ (∀ sc p, sc < 16 → p < (row sc).length → ix (6 * sc + p) < (pre row 96).length ∧ cd (pre row 96) (ix (6 * sc + p)) = gd (row sc) p) := by
    refine ⟨fun t => (pre row t).length, rfl, rfl, fun sc => congrArg List.length (pre_next hO), fun sc p hp => ?_, fun sc p hsc hp => pre_idx hO hsc hp⟩
    show (pre row (6 * sc + p + 1)).length = (pre row (6 * sc + p)).length + 1
    rw [pre_step hO hp, List.length_append, List.length_singleton]
  unfold wp_X9_broken wp_X9_broken_l11
  generalize pre row 96 = L at h hno hD hl hb i1 i4
  refine ⟨fun _ => ?_, fun q => absurd (by rw [l0, z_le (by omega) hr]; omega) q⟩
  refine lf7_i (fun x2 x3 _ _ _ _ _ => ∃ sc, sc ≤ 16 ∧ x3 = nI sc ∧ cnt (isBrk num L) (ix (6 * sc)) ≤ r ∧ x2 = nI (r - cnt (isBrk num L) (ix (6 * sc)))) (fun _ x3 _ _ _ _ _ => 16 - x3.toNatClampNeg) ⟨0, by omega, rfl, by rw [Nat.mul_zero, i0]; exact Nat.zero_le _, by rw [Nat.mul_zero, i0]; rfl⟩ ?_
  rintro x2 x3 w sm order rank straight ⟨sc, hsc, rfl, hcr, rfl⟩
  rw [l16, z_le (by omega) (by omega)]
  refine ⟨fun hx => ?_, fun hx => ?_⟩
  · have hse : sc = 16 := by omega
    subst hse
    refine hno (fun k hk hb2 e => ?_) _ _ _ _ _
    have h1 := cnt_up (p := isBrk num L) (k := k + 1) (L.length - (k + 1))
    rw [show k + 1 + (L.length - (k + 1)) = L.length by omega, cnt, if_pos hb2, ← i1] at h1
    have h2 : cnt (isBrk num L) (ix 96) ≤ r := hcr
    omega
  · have hsc16 : sc < 16 := by omega
    have h6 := hO.1 sc
    have hlen := m_len hM hsc16
    unfold wp_X9_broken_l20
    refine lf7_i (fun x2 x4 _ _ _ _ _ => ∃ p, p ≤ (row sc).length ∧ x4 = nI p ∧ cnt (isBrk num L) (ix (6 * sc + p)) ≤ r ∧ x2 = nI (r - cnt (isBrk num L) (ix (6 * sc + p)))) (fun _ x4 _ _ _ _ _ => 6 - x4.toNatClampNeg) ⟨0, by omega, rfl, hcr, rfl⟩ ?_
    rintro x2 x4 w sm order rank straight ⟨p, hp, rfl, hcp, rfl⟩
    refine m_row ⟨in_row hsc16, ?_⟩
    rw [hlen, z_le (by omega) (by omega)]
    refine ⟨fun hq => ?_, fun hq => ?_⟩
    · have hpe : p = (row sc).length := by omega
      subst hpe
      rw [← i2] at hcp ⊢
      rw [l1, z_add]
      exact ⟨⟨sc + 1, by omega, rfl, hcp, rfl⟩, by simp (disch := omega) only [z_cl]; omega⟩
    · have hpl : p < (row sc).length := by omega
      have hcd := m_card hM hO hsc16 hpl
      obtain ⟨hk, he⟩ := i4 sc p hsc16 hpl
      have hn3 := i3 sc p hpl
      generalize ix (6 * sc + p) = k at hcp hk he hn3 ⊢
      have hcn : gd (row sc) p < n := gd_lt (rowS_of hO sc) hpl
      refine m_row ⟨hcd.1, ?_⟩
      rw [hcd.2]
      refine m_of (k := 0) hM hn hcn (by omega) ?_
      have e1 : nI p + (1 : Int32) = nI (p + 1) := by rw [l1, z_add]
      have hdec : 6 - (nI (p + 1)).toNatClampNeg < 6 - (nI p).toNatClampNeg := by simp (disch := omega) only [z_cl]; omega
      have hnx : cnt (isBrk num L) (k + 1) = cnt (isBrk num L) k + (if isBrk num L k then 1 else 0) := rfl
      refine hb _ _ _ _ _ _ _ hcn (fun j hj hje w sm order rank straight => ?_) (fun hne => absurd he (hne k hk))
      have hjk : j = k := hD.1.2.2.2 j k hj hk (hje.trans he.symm)
      subst hjk
      rw [e1]
      cases hbr : isBrk num L j with
      | true =>
        rw [hbr, if_pos rfl] at hnx
        have b1 : nI (b2n true) = (1 : Int32) := rfl
        rw [b1, z_eq0 (by omega)]
        refine ⟨fun _ => ⟨fun q => ?_, fun q => ⟨⟨p + 1, by omega, rfl, by rw [hn3, hnx]; omega, ?_⟩, hdec⟩⟩, fun q => absurd rfl q⟩
        · rw [← he]; exact h j hj hbr (by omega) _ _ _ _ _
        · rw [hn3, hnx, l1, z_sub (by omega)]; exact congrArg nI (by omega)
      | false =>
        rw [hbr, if_neg (by decide)] at hnx
        have b1 : nI (b2n false) = nI 0 := rfl
        rw [b1]
        refine ⟨fun q => absurd q (by decide), fun _ => ⟨⟨p + 1, by omega, rfl, by rw [hn3, hnx]; omega, ?_⟩, hdec⟩⟩
        rw [hn3, hnx, z_sub (by omega)]; rfl
end
theorem nn_ex {x : Int32} (h : (0 : Int32) ≤ x) : ∃ r : Nat, r < 2147483648 ∧ x = nI r := by
  rw [l0, Int32.le_iff_toInt_le, z_toInt (by omega)] at h
  have hx := Int32.toInt_lt x
  refine ⟨x.toInt.toNat, by omega, ?_⟩
  rw [← Int32.toInt_inj, z_toInt (by omega)]; omega
theorem sim_broken : gSim_broken simR := by
  intro y1 xv_kept xv_now_cards_size xv_now_cards_numbers xv_now_wall_slots xv_now_settings xv_snapshot_cards_size xv_snapshot_cards_numbers xv_snapshot_wall_slots xv_snapshot_settings xv_history_oldest xv_history_size xv_history_states_0_cards_size xv_history_states_0_cards_numbers xv_history_states_0_wall_slots xv_history_states_0_settings xv_history_states_1_cards_size xv_history_states_1_cards_numbers xv_history_states_1_wall_slots xv_history_states_1_settings xv_history_states_2_cards_size xv_history_states_2_cards_numbers xv_history_states_2_wall_slots xv_history_states_2_settings xv_history_states_3_cards_size xv_history_states_3_cards_numbers xv_history_states_3_wall_slots xv_history_states_3_settings xv_text_length xv_text_position xv_text_faulty xv_text_signs xv_text_cards_size xv_text_cards_numbers xv_trial_slots xv_reading_mostScenesWithout xv_reading_mostHoursWithout xv_reading_size xv_reading_cards_size xv_reading_cards_numbers xv_reading_names xv_reading_slots xv_reading_ahead xv_reading_straightAhead xv_reading_last xv_reading_lastStraight xv_straightRow_size xv_straightRow_ranks xv_straightRow_cards xv_straightRow_hours xv_straightRow_slots xv_straightRow_sorted xv_straightRow_longest xv_tensions_values xv_tensions_climbs mv_onWall mv_straightMany mv_length mv_states mv_isKept mv_at mv_cards mv_s mv_before mv_kept mv_aside mv_order mv_rank mv_straight mv_sorted mv_longest mv_read mv_text hsim
  obtain ⟨a, b, hist, h, len, T, hA, hC, hM, hK, hHc, hHm, hT1, hT2, hl1, hl2⟩ := hsim
  have same : simR xv_kept xv_now_cards_size xv_now_cards_numbers xv_now_wall_slots xv_now_settings xv_snapshot_cards_size xv_snapshot_cards_numbers xv_snapshot_wall_slots xv_snapshot_settings xv_history_oldest xv_history_size xv_history_states_0_cards_size xv_history_states_0_cards_numbers xv_history_states_0_wall_slots xv_history_states_0_settings xv_history_states_1_cards_size xv_history_states_1_cards_numbers xv_history_states_1_wall_slots xv_history_states_1_settings xv_history_states_2_cards_size xv_history_states_2_cards_numbers xv_history_states_2_wall_slots xv_history_states_2_settings xv_history_states_3_cards_size xv_history_states_3_cards_numbers xv_history_states_3_wall_slots xv_history_states_3_settings xv_text_length xv_text_position xv_text_faulty xv_text_signs xv_text_cards_size xv_text_cards_numbers xv_trial_slots xv_reading_mostScenesWithout xv_reading_mostHoursWithout xv_reading_size xv_reading_cards_size xv_reading_cards_numbers xv_reading_names xv_reading_slots xv_reading_ahead xv_reading_straightAhead xv_reading_last xv_reading_lastStraight xv_straightRow_size xv_straightRow_ranks xv_straightRow_cards xv_straightRow_hours xv_straightRow_slots xv_straightRow_sorted xv_straightRow_longest xv_tensions_values xv_tensions_climbs mv_onWall mv_straightMany mv_length mv_states mv_isKept mv_at mv_cards mv_s mv_before mv_kept mv_aside mv_order mv_rank mv_straight mv_sorted mv_longest mv_read mv_text := ⟨a, b, hist, h, len, T, hA, hC, hM, hK, hHc, hHm, hT1, hT2, hl1, hl2⟩
  obtain ⟨n, num, row, st⟩ := a
  have hN : numOk n num := hA.1
  have hO : rowOk n row := hA.2.1
  have hn : n ≤ 40 := hO.2.2.2
  have hS : setOk st := hA.2.2
  replace hM : RM n num row st mv_s := hM
  replace hC : RCd n num xv_now_cards_size xv_now_cards_numbers ∧ RW row xv_now_wall_slots ∧ RS st xv_now_settings := hC
  unfold wp_X8_broken
  refine ⟨fun q => ?_, fun q => ?_⟩
  · obtain ⟨r, hr, rfl⟩ := nn_ex q
    refine s_read3 (n := n) (num := num) (row := row) (st := st) hC.1 hN hC.2.2 hC.2.1 hO (fun size csize cnum names slots ahead sAhead last lastS hRR => ?_)
    have hD : RRd n num (pre row 96) := RRd_pre hO hN
    have mb := fun w sm order rank straight post h hno => @m_broken n num row st mv_s w sm order rank straight r post hM hO hN hr h hno
    generalize pre row 96 = L at hRR hD mb
    refine s_breakNumber hD hRR hr (fun k hk hb1 hc1 => ?_) (fun hne => ?_)
    · refine mb _ _ _ _ _ _ (fun j hj hb2 hc2 w sm order rank straight => ?_) (fun hne => absurd hc1 (hne k hk hb1))
      have e : k = j := cnt_uni hb1 hb2 (hc1.trans hc2.symm)
      subst e
      exact ⟨rfl, (n, num, row, st), b, hist, h, len, T, hA, hC, hM, hK, hHc, hHm, hT1, hT2, hl1, hl2⟩
    · refine mb _ _ _ _ _ _ (fun j hj hb2 hc2 => absurd hc2 (hne j hj hb2)) (fun _ w sm order rank straight => ?_)
      exact ⟨rfl, (n, num, row, st), b, hist, h, len, T, hA, hC, hM, hK, hHc, hHm, hT1, hT2, hl1, hl2⟩
  · unfold wp_X9_broken
    exact ⟨fun c => absurd c q, fun _ => ⟨rfl, same⟩⟩
