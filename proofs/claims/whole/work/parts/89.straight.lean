/-! a thread put straight -/
def srtC (H C : Nat → Nat) (m i : Nat) : Nat := match lst (fun k => rk H C m k == i) m with
  | some k => C k
  | none => 0
def stF (row : Nat → List Nat) (H C S : Nat → Nat) (m u : Nat) : Nat := match lst (fun i => S i == u) m with
  | some i => srtC H C m i
  | none => crd row u
theorem lst_uni {p : Nat → Bool} {m i : Nat} (hi : i < m) (hp : p i = true) (hu : ∀ j, j < m → p j = true → j = i) : lst p m = some i := by
  cases h : lst p m with
  | none =>
    have := lst_none _ h i hi
    rw [hp] at this; cases this
  | some b =>
    have := lst_lt _ h
    rw [hu b this.1 this.2]
/-- what holds of the straight row -/
def SF (row : Nat → List Nat) (C S : Nat → Nat) (m : Nat) : Prop := injC C m ∧ (∀ i, i < m → S i < 96 ∧ occ row (S i) ∧ crd row (S i) = C i) ∧ ∀ i j, i < j → j < m → S i < S j
section
variable {n : Nat} {num : Nat → Nat → Nat} {row : Nat → List Nat} {st : Nat → Nat} {s : Nat → Int32} {H C S : Nat → Nat} {m : Nat}
theorem srtC_at {k : Nat} (hC : injC C m) (hk : k < m) : srtC H C m (rk H C m k) = C k := by
  unfold srtC
  rw [lst_uni (p := fun j => rk H C m j == rk H C m k) (i := k) hk (beq_iff_eq.mpr rfl) (fun j hj e => rk_inj hC hj hk (beq_iff_eq.mp e))]
theorem srtC_ex {i : Nat} (hC : injC C m) (hi : i < m) : ∃ k, k < m ∧ rk H C m k = i ∧ srtC H C m i = C k := by
  obtain ⟨k, hk, he⟩ := rk_surj hC (H := H) hi
  refine ⟨k, hk, he, ?_⟩
  rw [← he]; exact srtC_at hC hk
theorem S_inj (h : SF row C S m) {i j : Nat} (hi : i < m) (hj : j < m) (he : S i = S j) : i = j := by
  rcases Nat.lt_trichotomy i j with q | q | q
  · have := h.2.2 i j q hj; omega
  · exact q
  · have := h.2.2 j i q hi; omega
theorem stF_y (h : SF row C S m) {i : Nat} (hi : i < m) : stF row H C S m (S i) = srtC H C m i := by
  unfold stF
  rw [lst_uni (p := fun j => S j == S i) (i := i) hi (beq_iff_eq.mpr rfl) (fun j hj e => S_inj h hj hi (beq_iff_eq.mp e))]
theorem stF_n {u : Nat} (hu : ∀ i, i < m → S i ≠ u) : stF row H C S m u = crd row u := by
  unfold stF
  cases hl : lst (fun i => S i == u) m with
  | none => rfl
  | some b =>
    have := lst_lt _ hl
    exact absurd (beq_iff_eq.mp this.2) (hu b this.1)
theorem st_cases (u : Nat) : (∃ i, i < m ∧ S i = u) ∨ (∀ i, i < m → S i ≠ u) := by
  by_cases h : ∃ i, i < m ∧ S i = u
  · exact Or.inl h
  · exact Or.inr (fun i hi e => h ⟨i, hi, e⟩)
theorem st_ok (hO : rowOk n row) (h : SF row C S m) : rowOk n (reRow row (stF row H C S m)) := by
  have hCn : ∀ k, k < m → C k < n := fun k hk => by
    have := h.2.1 k hk
    rw [← this.2.2]; exact crd_lt hO this.2.1
  refine re_ok hO (fun sc p hp => ?_) (fun u v hu hv h1 h2 he => ?_)
  · rcases st_cases (S := S) (m := m) (6 * sc + p) with ⟨i, hi, e⟩ | hno
    · rw [← e, stF_y h hi]
      obtain ⟨k, hk, _, e2⟩ := srtC_ex (H := H) h.1 hi
      rw [e2]; exact hCn k hk
    · rw [stF_n hno]
      refine crd_lt hO ?_
      have h6 := hO.1 sc
      unfold occ
      rw [show (6 * sc + p) / 6 = sc by omega, show (6 * sc + p) % 6 = p by omega]; exact hp
  · have hc : ∀ u, u < 96 → occ row u → (∀ i, i < m → S i ≠ u) → ∀ j, j < m → crd row u = srtC H C m j → False := by
      intro u hu h1 hno j hj e
      obtain ⟨k, hk, _, e2⟩ := srtC_ex (H := H) h.1 hj
      have a := h.2.1 k hk
      rw [e2, ← a.2.2] at e
      exact hno k hk (crd_inj hO hu a.1 h1 a.2.1 e).symm
    rcases st_cases (S := S) (m := m) u with ⟨i, hi, e1⟩ | hno1
    · rcases st_cases (S := S) (m := m) v with ⟨j, hj, e2⟩ | hno2
      · rw [← e1, ← e2, stF_y h hi, stF_y h hj] at he
        obtain ⟨k, hk, r1, c1⟩ := srtC_ex (H := H) h.1 hi
        obtain ⟨l, hl, r2, c2⟩ := srtC_ex (H := H) h.1 hj
        rw [c1, c2] at he
        have hkl := h.1 k l hk hl he
        subst hkl
        rw [← e1, ← e2, ← r1, ← r2]
      · rw [← e1, stF_y h hi, stF_n hno2] at he
        exact (hc v hv h2 hno2 i hi he.symm).elim
    · rcases st_cases (S := S) (m := m) v with ⟨j, hj, e2⟩ | hno2
      · rw [← e2, stF_y h hj, stF_n hno1] at he
        exact (hc u hu h1 hno1 j hj he).elim
      · rw [stF_n hno1, stF_n hno2] at he
        exact crd_inj hO hu hv h1 h2 he
theorem st_RW {g g' : Nat → Int32} (hO : rowOk n row) (hW : RW row g) (h : SF row C S m) (hy : ∀ i, i < m → g' (S i) = nI (srtC H C m i)) (hno : ∀ u, u < 96 → (∀ i, i < m → S i ≠ u) → g' u = g u) : RW (reRow row (stF row H C S m)) g' := by
  refine re_RW (fun sc hsc p hp => ?_)
  have e1 : (6 * sc + p) / 6 = sc := by omega
  have e2 : (6 * sc + p) % 6 = p := by omega
  have hocc : occ row (6 * sc + p) ↔ p < (row sc).length := by unfold occ; rw [e1, e2]
  have hrw := RW_at hW (t := 6 * sc + p) (by omega)
  have hcr : crd row (6 * sc + p) = gd (row sc) p := by unfold crd; rw [e1, e2]
  rw [e1, e2] at hrw
  rw [show sc * 6 + p = 6 * sc + p by omega]
  have hu : 6 * sc + p < 96 := by omega
  clear e1 e2
  generalize 6 * sc + p = u at hocc hrw hcr hu
  rcases st_cases (S := S) (m := m) u with ⟨i, hi, e⟩ | hn2
  · have a := h.2.1 i hi
    rw [e] at a
    rw [if_pos (hocc.mp a.2.1), ← e, stF_y h hi]; exact hy i hi
  · rw [stF_n hn2, hno u hu hn2, hrw, hcr]
    by_cases h3 : p < (row sc).length
    · rw [if_pos h3]; exact slotv_gd h3
    · rw [if_neg h3]; exact slotv_ge (by omega)
/-- the walk of the model -/
theorem m_walk {x2 w states : Int32} {before order rank straight sorted : Nat → Int32} {post : Int32 → Int32 → Int32 → Int32 → (Nat → Int32) → (Nat → Int32) → (Nat → Int32) → (Nat → Int32) → (Nat → Int32) → (Nat → Int32) → Prop} (hM : RM n num row st s) (hO : rowOk n row) (h : SF row C S m) (hm : m ≤ 40) (hst : ∀ i, i < m → straight i = nI (C i)) (hso : ∀ i, i < m → sorted i = nI (srtC H C m i)) (hp : ∀ s2, RM n num (reRow row (stF row H C S m)) st s2 → post x2 w (nI m) states s2 before order rank straight sorted) : wp_X9_straighten_l188 x2 0 0 w (nI m) states s before order rank straight sorted post := by
  have hn := hO.2.2.2
  have hCn : ∀ k, k < m → C k < n := fun k hk => by
    have := h.2.1 k hk
    rw [← this.2.2]; exact crd_lt hO this.2.1
  unfold wp_X9_straighten_l188
  refine lf3_i (fun x3 x4 s2 => ∃ sc q, sc ≤ 16 ∧ q ≤ m ∧ x4 = nI sc ∧ x3 = nI q ∧ (∀ i, i < q → S i < 6 * sc) ∧ (∀ i, q ≤ i → i < m → 6 * sc ≤ S i) ∧ (∀ i, i < 204 → s2 i = s i) ∧ ∀ k p, k < 16 → p ≤ 6 → s2 (204 + 7 * k + p) = if 0 < p ∧ p ≤ (row k).length ∧ 6 * k + (p - 1) < 6 * sc then nI (stF row H C S m (6 * k + (p - 1))) else s (204 + 7 * k + p)) (fun _ x4 _ => 16 - x4.toNatClampNeg) ⟨0, 0, by omega, by omega, rfl, rfl, fun i hi => absurd hi (Nat.not_lt_zero _), fun i _ _ => by omega, fun _ _ => rfl, fun k p _ _ => by rw [if_neg (by omega)]⟩ ?_
  rintro x3 x4 s2 ⟨sc, q, hsc, hq, rfl, rfl, h1, h2, hlow, hcell⟩
  rw [l16, z_le (by omega) (by omega)]
  refine ⟨fun hx => ?_, fun hx => ?_⟩
  · have hse : sc = 16 := by omega
    subst hse
    refine hp s2 ⟨by rw [hlow 0 (by omega)]; exact hM.1, fun i hi => by rw [hlow _ (by omega)]; exact hM.2.1 i hi, fun c hc k hk => by rw [hlow _ (by omega)]; exact hM.2.2.1 c hc k hk, fun k hk => ?_⟩
    have h6 := hO.1 k
    have hmk := hM.2.2.2 k hk
    rw [re_len]
    refine ⟨?_, fun p hp2 => ?_⟩
    · have e := hcell k 0 hk (by omega)
      rw [if_neg (by omega), Nat.add_zero] at e
      rw [e]; exact hmk.1
    · have e := hcell k (p + 1) hk (by omega)
      rw [if_pos (by omega), Nat.add_sub_cancel] at e
      rw [re_gd hp2, show 204 + 7 * k + 1 + p = 204 + 7 * k + (p + 1) by omega, e]
  · have hsc16 : sc < 16 := by omega
    have h6 := hO.1 sc
    have hmsc := hM.2.2.2 sc hsc16
    unfold wp_X9_straighten_l198
    refine lf3_i (fun x3 x5 s2 => ∃ p q, p ≤ (row sc).length ∧ q ≤ m ∧ x5 = nI p ∧ x3 = nI q ∧ (∀ i, i < q → S i < 6 * sc + p) ∧ (∀ i, q ≤ i → i < m → 6 * sc + p ≤ S i) ∧ (∀ i, i < 204 → s2 i = s i) ∧ ∀ k r, k < 16 → r ≤ 6 → s2 (204 + 7 * k + r) = if 0 < r ∧ r ≤ (row k).length ∧ 6 * k + (r - 1) < 6 * sc + p then nI (stF row H C S m (6 * k + (r - 1))) else s (204 + 7 * k + r)) (fun _ x5 _ => 6 - x5.toNatClampNeg) ⟨0, q, by omega, hq, rfl, rfl, h1, h2, hlow, hcell⟩ ?_
    clear h1 h2 hlow hcell hq q s2
    rintro x3 x5 s2 ⟨p, q, hp6, hq, rfl, rfl, h1, h2, hlow, hcell⟩
    refine m_row ⟨in_row hsc16, ?_⟩
    have elen : s2 (nI (204 + 7 * sc)).toNatClampNeg = nI (row sc).length := by
      have e := hcell sc 0 hsc16 (by omega)
      rw [if_neg (by omega), Nat.add_zero] at e
      rw [z_cl (by omega), e]; exact hmsc.1
    rw [elen, z_le (by omega) (by omega)]
    have e1 : nI sc + (1 : Int32) = nI (sc + 1) := by rw [l1, z_add]
    have e2 : nI p + (1 : Int32) = nI (p + 1) := by rw [l1, z_add]
    rw [e1, e2]
    refine ⟨fun hx2 => ?_, fun hx2 => ?_⟩
    · have hpe : p = (row sc).length := by omega
      refine ⟨⟨sc + 1, q, by omega, hq, rfl, rfl, fun i hi => by have := h1 i hi; omega, fun i i1 i2 => ?_, hlow, fun k r hk hr => ?_⟩, by simp (disch := omega) only [z_cl]; omega⟩
      · have a := h2 i i1 i2
        have b := (h.2.1 i i2).2.1
        unfold occ at b
        rcases Nat.lt_or_ge (S i) (6 * (sc + 1)) with c | c
        · exfalso
          have d : S i / 6 = sc := by omega
          rw [d] at b; omega
        · exact c
      · have e := hcell k r hk hr
        rw [e]
        have h6k := hO.1 k
        by_cases c : 0 < r ∧ r ≤ (row k).length ∧ 6 * k + (r - 1) < 6 * sc + p
        · rw [if_pos c, if_pos (by omega)]
        · rw [if_neg c, if_neg ?_]
          rintro ⟨d1, d2, d3⟩
          refine c ⟨d1, d2, ?_⟩
          by_cases hks : k = sc
          · subst hks; omega
          · omega
    · have hpl : p < (row sc).length := by omega
      have hocc : occ row (6 * sc + p) := by
        unfold occ
        rw [show (6 * sc + p) / 6 = sc by omega, show (6 * sc + p) % 6 = p by omega]; exact hpl
      have hcr : crd row (6 * sc + p) = gd (row sc) p := by
        unfold crd
        rw [show (6 * sc + p) / 6 = sc by omega, show (6 * sc + p) % 6 = p by omega]
      have ecell : s2 (204 + 7 * sc + 1 + p) = nI (crd row (6 * sc + p)) := by
        have e := hcell sc (p + 1) hsc16 (by omega)
        rw [if_neg (by omega)] at e
        rw [show 204 + 7 * sc + 1 + p = 204 + 7 * sc + (p + 1) by omega, e, hcr]
        rw [show 204 + 7 * sc + (p + 1) = 204 + 7 * sc + 1 + p by omega]
        exact hmsc.2 p hpl
      have hdec : 6 - (nI (p + 1)).toNatClampNeg < 6 - (nI p).toNatClampNeg := by simp (disch := omega) only [z_cl]; omega
      have hcn : crd row (6 * sc + p) < n := crd_lt hO hocc
      have keep : (∀ i, i < m → S i ≠ 6 * sc + p) → (∃ p' q', p' ≤ (row sc).length ∧ q' ≤ m ∧ nI (p + 1) = nI p' ∧ nI q = nI q' ∧ (∀ i, i < q' → S i < 6 * sc + p') ∧ (∀ i, q' ≤ i → i < m → 6 * sc + p' ≤ S i) ∧ (∀ i, i < 204 → s2 i = s i) ∧ ∀ k r, k < 16 → r ≤ 6 → s2 (204 + 7 * k + r) = if 0 < r ∧ r ≤ (row k).length ∧ 6 * k + (r - 1) < 6 * sc + p' then nI (stF row H C S m (6 * k + (r - 1))) else s (204 + 7 * k + r)) ∧ 6 - (nI (p + 1)).toNatClampNeg < 6 - (nI p).toNatClampNeg := by
        intro hno
        refine ⟨⟨p + 1, q, by omega, hq, rfl, rfl, fun i hi => by have := h1 i hi; omega, fun i i1 i2 => ?_, hlow, fun k r hk hr => ?_⟩, hdec⟩
        · have a := h2 i i1 i2
          have b := hno i i2
          omega
        · have h6k := hO.1 k
          by_cases hkr : k = sc ∧ r = p + 1
          · obtain ⟨rfl, rfl⟩ := hkr
            rw [if_pos (by omega), Nat.add_sub_cancel, stF_n hno, show 204 + 7 * k + (p + 1) = 204 + 7 * k + 1 + p by omega]; exact ecell
          · rw [hcell k r hk hr]
            by_cases c : 0 < r ∧ r ≤ (row k).length ∧ 6 * k + (r - 1) < 6 * sc + p
            · rw [if_pos c, if_pos (by omega)]
            · rw [if_neg c, if_neg (by omega)]
      rw [z_le (by omega) (by omega)]
      refine ⟨fun hx3 => keep (fun i hi e => ?_), fun hx3 => ?_⟩
      · have := h1 i (by omega); omega
      · have hqm : q < m := by omega
        have hSq := h.2.1 q hqm
        have ei : nI (204 + 7 * sc) + 1 + nI p = nI (204 + 7 * sc + 1 + p) := by rw [l1, z_add, z_add]
        have eq1 : (nI q).toNatClampNeg = q := z_cl (by omega)
        have hCq := hCn q hqm
        refine m_row ?_
        rw [ei, z_cl (show 204 + 7 * sc + 1 + p < 2147483648 by omega), eq1, ecell, hst q hqm, z_eq (by omega) (by omega)]
        refine ⟨(z_in (by omega)).mpr (by omega), (z_in (by omega)).mpr (by omega), fun hx4 => ?_, fun hx4 => keep (fun i hi e => ?_)⟩
        · have hSe : S q = 6 * sc + p := crd_inj hO hSq.1 (by omega) hSq.2.1 hocc (hSq.2.2.trans hx4.symm)
          refine m_row ?_
          rw [ei, z_cl (show 204 + 7 * sc + 1 + p < 2147483648 by omega), hso q hqm]
          refine ⟨(z_in (by omega)).mpr (by omega), (z_in (by omega)).mpr (by omega), ⟨p + 1, q + 1, by omega, by omega, rfl, by rw [l1, z_add], fun i hi => ?_, fun i i1 i2 => ?_, fun i hi => ?_, fun k r hk hr => ?_⟩, hdec⟩
          · rcases Nat.lt_or_ge i q with a | a
            · have := h1 i a; omega
            · rw [show i = q by omega, hSe]; omega
          · have := h.2.2 q i (by omega) i2; omega
          · rw [z_up_n (by omega)]; exact hlow i hi
          · have h6k := hO.1 k
            rw [z_up]
            by_cases hkr : 204 + 7 * k + r = 204 + 7 * sc + 1 + p
            · have hk2 : k = sc := by omega
              have hr2 : r = p + 1 := by omega
              subst hk2
              subst hr2
              rw [if_pos hkr, if_pos (by omega), Nat.add_sub_cancel, ← hSe, stF_y h hqm]
            · rw [if_neg hkr, hcell k r hk hr]
              by_cases c : 0 < r ∧ r ≤ (row k).length ∧ 6 * k + (r - 1) < 6 * sc + p
              · rw [if_pos c, if_pos (by omega)]
              · rw [if_neg c, if_neg ?_]
                rintro ⟨d1, d2, d3⟩
                refine c ⟨d1, d2, ?_⟩
                by_cases hks : k = sc
                · subst hks; omega
                · omega
        · have hiq : q ≤ i := by
            rcases Nat.lt_or_ge i q with a | a
            · have := h1 i a; omega
            · exact a
          have hqi : i = q := by
            rcases Nat.lt_or_ge q i with a | a
            · have b := h.2.2 q i a hi
              have d := h2 q (Nat.le_refl _) hqm
              omega
            · omega
          rw [hqi] at e
          have a := hSq.2.2
          rw [e] at a
          exact hx4 a
end
/-- the model puts a thread straight -/
theorem m_straighten {n : Nat} {num : Nat → Nat → Nat} {row : Nat → List Nat} {st : Nat → Nat} {s : Nat → Int32} {w sm states : Int32} {before order rank straight sorted : Nat → Int32} {t : Nat} {hist : Nat → AS} {h : Nat} {post : Int32 → Int32 → Int32 → Int32 → (Nat → Int32) → (Nat → Int32) → (Nat → Int32) → (Nat → Int32) → (Nat → Int32) → (Nat → Int32) → Prop} (hM : RM n num row st s) (hO : rowOk n row) (hN : numOk n num) (ht : t < 6) (hSF : SF row (CR (pre row 96) (sRow num row t)) (fun i => sl (pre row 96) ((sRow num row t).getD i 0)) (sRow num row t).length)
    (h0 : mvd num (pre row 96) (sRow num row t) (sRow num row t).length = 0 → ∀ w sm order rank straight sorted, post (-5) w sm states s before order rank straight sorted)
    (hrec : ∀ po : Int32 → (Nat → Int32) → Prop, (∀ states before, RHm hist h states before → po states before) → wp_X9_record states s before po)
    (h1 : ¬ mvd num (pre row 96) (sRow num row t) (sRow num row t).length = 0 → ∀ w sm states s2 before order rank straight sorted, RHm hist h states before → RM n num (reRow row (stF row (HR num (pre row 96) (sRow num row t)) (CR (pre row 96) (sRow num row t)) (fun i => sl (pre row 96) ((sRow num row t).getD i 0)) (sRow num row t).length)) st s2 → post (nI (mvd num (pre row 96) (sRow num row t) (sRow num row t).length)) w sm states s2 before order rank straight sorted) : wp_X9_straighten (nI t) w sm states s before order rank straight sorted post := by
  have hn := hO.2.2.2
  have hD := RRd_pre hO hN
  have hG : RGo num (pre row 96) (sRow num row t) := RGo_flt (t := t) hD
  unfold wp_X9_straighten
  refine m_inY (lo := 0) (hi := 5) (by omega) (by omega) (by omega) ⟨fun c => absurd c (by decide), fun _ => ?_⟩
  refine m_layStraight hM hO hN ht (fun order rank straight hR hs => ?_)
  clear hR
  generalize sRow num row t = R at h0 h1 hSF hs hG ⊢
  generalize pre row 96 = L at h0 h1 hSF hs hD hG ⊢
  have hl := hD.1.1
  have hRl : R.length ≤ 40 := hG.2.1
  have hCi : injC (CR L R) R.length := injC_R hG (Nat.le_refl _)
  unfold wp_X9_straighten_l20
  refine lf3_i (fun x2 x3 sd => ∃ k, k ≤ R.length ∧ x3 = nI k ∧ x2 = nI (mvd num L R k) ∧ ∀ j, j < k → sd (rk (HR num L R) (CR L R) R.length j) = nI (CR L R j)) (fun _ x3 _ => R.length - x3.toNatClampNeg) ⟨0, by omega, rfl, rfl, fun j hj => absurd hj (Nat.not_lt_zero _)⟩ ?_
  clear sorted
  rintro x2 x3 sd ⟨k, hk, rfl, rfl, hsd⟩
  have hmv : mvd num L R k ≤ k := cnt_le _ k
  rw [z_le (by omega) (by omega)]
  refine ⟨fun hx => ?_, fun hx => ?_⟩
  · have hke : k = R.length := by omega
    subst hke
    rw [z_eq0 (by omega)]
    refine ⟨fun q => h0 q _ _ _ _ _ _, fun q => hrec _ (fun states before hHm2 => ?_)⟩
    refine m_walk (H := HR num L R) (C := CR L R) (S := fun i => sl L (R.getD i 0)) hM hO hSF hRl hs (fun i hi => ?_) (fun s2 hM2 => h1 q _ _ _ _ _ _ _ _ _ hHm2 hM2)
    obtain ⟨j, hj, hr, hc⟩ := srtC_ex (H := HR num L R) hCi hi
    rw [hc, ← hr]; exact hsd j hj
  · have hkl : k < R.length := by omega
    have ek : (nI k).toNatClampNeg = k := z_cl (by omega)
    have hink : vp_in (nI k) 40 := (z_in (by omega)).mpr (by omega)
    have gk := hG.2.2.1 k hkl
    have ckn := (hD.1.2.1 _ gk.1).1
    unfold wp_X9_straighten_l34
    refine lf2_i (fun x4 x5 => ∃ m, m ≤ R.length ∧ x5 = nI m ∧ x4 = nI (rk (HR num L R) (CR L R) m k)) (fun _ x5 => R.length - x5.toNatClampNeg) ⟨0, by omega, rfl, rfl⟩ ?_
    rintro x4 x5 ⟨m, hm, rfl, rfl⟩
    have hrk : rk (HR num L R) (CR L R) m k ≤ m := cnt_le _ m
    rw [z_le (by omega) (by omega), ek]
    refine ⟨fun hx2 => ?_, fun hx2 => ?_⟩
    · have hme : m = R.length := by omega
      subst hme
      have hlt := rk_lt (H := HR num L R) (C := CR L R) k hkl
      have e1 : nI k + (1 : Int32) = nI (k + 1) := by rw [l1, z_add]
      have hdec : R.length - (nI (k + 1)).toNatClampNeg < R.length - k := by simp (disch := omega) only [z_cl]; omega
      have hstep : mvd num L R (k + 1) = mvd num L R k + (if (!(rk (HR num L R) (CR L R) R.length k == k)) = true then 1 else 0) := rfl
      have hcell : ∀ j, j < k + 1 → upd sd (rk (HR num L R) (CR L R) R.length k) (nI (CR L R k)) (rk (HR num L R) (CR L R) R.length j) = nI (CR L R j) := by
        intro j hj
        rw [z_up]
        by_cases he : j = k
        · rw [if_pos (by rw [he]), he]
        · rw [if_neg (fun e => he (rk_inj hCi (by omega) hkl e))]; exact hsd j (by omega)
      rw [z_cl (show rk (HR num L R) (CR L R) R.length k < 2147483648 by omega), hs k hkl, e1, z_eq (by omega) (by omega)]
      refine ⟨hink, (z_in (by omega)).mpr (by omega), fun q => ⟨⟨k + 1, by omega, rfl, ?_, hcell⟩, hdec⟩, fun q => ⟨⟨k + 1, by omega, rfl, ?_, hcell⟩, hdec⟩⟩
      · rw [hstep, beq_iff_eq.mpr q, l0, z_add]; rfl
      · rw [hstep, beq_eq_false_iff_ne.mpr q, l1, z_add]; rfl
    · have hml : m < R.length := by omega
      have em : (nI m).toNatClampNeg = m := z_cl (by omega)
      have hinm : vp_in (nI m) 40 := (z_in (by omega)).mpr (by omega)
      have gm := hG.2.2.1 m hml
      have cmn := (hD.1.2.1 _ gm.1).1
      have dk : num (CR L R k) 1 = HR num L R k := rfl
      have dm : num (CR L R m) 1 = HR num L R m := rfl
      have e2 : nI m + (1 : Int32) = nI (m + 1) := by rw [l1, z_add]
      have hdec : R.length - (nI (m + 1)).toNatClampNeg < R.length - m := by simp (disch := omega) only [z_cl]; omega
      have hst := rk_s (H := HR num L R) (C := CR L R) (m := m) k
      rw [em, hs m hml, hs k hkl]
      have yes : bef (HR num L R) (CR L R) m k = true → ∀ I20 : Int32 → Int32 → (Nat → Int32) → Prop, ∀ x2, wp_X9_straighten_j111 x2 (nI k) (nI (rk (HR num L R) (CR L R) m k)) (nI m) (nI L.length) (nI R.length) states s before order rank straight sd I20 (fun u0 u1 => (∃ m, m ≤ R.length ∧ u1 = nI m ∧ u0 = nI (rk (HR num L R) (CR L R) m k)) ∧ R.length - u1.toNatClampNeg < R.length - m) post := by
        intro hb I20 x2
        unfold wp_X9_straighten_j111 wp_X9_straighten_j116
        rw [e2]
        refine ⟨fun c => absurd c (by decide), fun _ => ⟨⟨m + 1, by omega, rfl, ?_⟩, hdec⟩⟩
        rw [hst, hb, l1, z_add]; rfl
      have no : bef (HR num L R) (CR L R) m k = false → ∀ I20 : Int32 → Int32 → (Nat → Int32) → Prop, ∀ x2, wp_X9_straighten_j115 x2 (nI k) (nI (rk (HR num L R) (CR L R) m k)) (nI m) (nI L.length) (nI R.length) states s before order rank straight sd I20 (fun u0 u1 => (∃ m, m ≤ R.length ∧ u1 = nI m ∧ u0 = nI (rk (HR num L R) (CR L R) m k)) ∧ R.length - u1.toNatClampNeg < R.length - m) post := by
        intro hb I20 x2
        unfold wp_X9_straighten_j115 wp_X9_straighten_j116
        rw [e2]
        refine ⟨fun _ => ⟨⟨m + 1, by omega, rfl, ?_⟩, hdec⟩, fun c => absurd rfl c⟩
        rw [hst, hb, l0, z_add]; rfl
      refine ⟨hinm, m_of (k := 1) hM hn cmn (by omega) ⟨hink, m_of (k := 1) hM hn ckn (by omega) ?_⟩⟩
      rw [dk, dm, z_lt (by omega) (by omega)]
      refine ⟨fun q => yes (bef_iff.mpr (Or.inl q)) _ _, fun q => ⟨hinm, m_of (k := 1) hM hn cmn (by omega) ⟨hink, m_of (k := 1) hM hn ckn (by omega) ?_⟩⟩⟩
      rw [dk, dm, z_eq (by omega) (by omega)]
      refine ⟨fun q2 => ⟨hinm, hink, ?_⟩, fun q2 => no (decide_eq_false (by omega)) _ _⟩
      rw [z_le (by omega) (by omega)]
      exact ⟨fun q3 => no (decide_eq_false (by omega)) _ _, fun q3 => yes (bef_iff.mpr (Or.inr ⟨q2, by omega⟩)) _ _⟩
theorem sim_straighten : gSim_straighten simR := by
  intro y1 xv_kept xv_now_cards_size xv_now_cards_numbers xv_now_wall_slots xv_now_settings xv_snapshot_cards_size xv_snapshot_cards_numbers xv_snapshot_wall_slots xv_snapshot_settings xv_history_oldest xv_history_size xv_history_states_0_cards_size xv_history_states_0_cards_numbers xv_history_states_0_wall_slots xv_history_states_0_settings xv_history_states_1_cards_size xv_history_states_1_cards_numbers xv_history_states_1_wall_slots xv_history_states_1_settings xv_history_states_2_cards_size xv_history_states_2_cards_numbers xv_history_states_2_wall_slots xv_history_states_2_settings xv_history_states_3_cards_size xv_history_states_3_cards_numbers xv_history_states_3_wall_slots xv_history_states_3_settings xv_text_length xv_text_position xv_text_faulty xv_text_signs xv_text_cards_size xv_text_cards_numbers xv_trial_slots xv_reading_mostScenesWithout xv_reading_mostHoursWithout xv_reading_size xv_reading_cards_size xv_reading_cards_numbers xv_reading_names xv_reading_slots xv_reading_ahead xv_reading_straightAhead xv_reading_last xv_reading_lastStraight xv_straightRow_size xv_straightRow_ranks xv_straightRow_cards xv_straightRow_hours xv_straightRow_slots xv_straightRow_sorted xv_straightRow_longest xv_tensions_values xv_tensions_climbs mv_onWall mv_straightMany mv_length mv_states mv_isKept mv_at mv_cards mv_s mv_before mv_kept mv_aside mv_order mv_rank mv_straight mv_sorted mv_longest mv_read mv_text hsim
  obtain ⟨a, b, hist, h, len, T, hA, hC, hM, hK, hHc, hHm, hT1, hT2, hl1, hl2⟩ := hsim
  have same : simR xv_kept xv_now_cards_size xv_now_cards_numbers xv_now_wall_slots xv_now_settings xv_snapshot_cards_size xv_snapshot_cards_numbers xv_snapshot_wall_slots xv_snapshot_settings xv_history_oldest xv_history_size xv_history_states_0_cards_size xv_history_states_0_cards_numbers xv_history_states_0_wall_slots xv_history_states_0_settings xv_history_states_1_cards_size xv_history_states_1_cards_numbers xv_history_states_1_wall_slots xv_history_states_1_settings xv_history_states_2_cards_size xv_history_states_2_cards_numbers xv_history_states_2_wall_slots xv_history_states_2_settings xv_history_states_3_cards_size xv_history_states_3_cards_numbers xv_history_states_3_wall_slots xv_history_states_3_settings xv_text_length xv_text_position xv_text_faulty xv_text_signs xv_text_cards_size xv_text_cards_numbers xv_trial_slots xv_reading_mostScenesWithout xv_reading_mostHoursWithout xv_reading_size xv_reading_cards_size xv_reading_cards_numbers xv_reading_names xv_reading_slots xv_reading_ahead xv_reading_straightAhead xv_reading_last xv_reading_lastStraight xv_straightRow_size xv_straightRow_ranks xv_straightRow_cards xv_straightRow_hours xv_straightRow_slots xv_straightRow_sorted xv_straightRow_longest xv_tensions_values xv_tensions_climbs mv_onWall mv_straightMany mv_length mv_states mv_isKept mv_at mv_cards mv_s mv_before mv_kept mv_aside mv_order mv_rank mv_straight mv_sorted mv_longest mv_read mv_text := ⟨a, b, hist, h, len, T, hA, hC, hM, hK, hHc, hHm, hT1, hT2, hl1, hl2⟩
  obtain ⟨n, num, row, st⟩ := a
  have hN : numOk n num := hA.1
  have hO : rowOk n row := hA.2.1
  have hn : n ≤ 40 := hO.2.2.2
  have hS : setOk st := hA.2.2
  replace hM : RM n num row st mv_s := hM
  replace hC : RCd n num xv_now_cards_size xv_now_cards_numbers ∧ RW row xv_now_wall_slots ∧ RS st xv_now_settings := hC
  unfold wp_X8_straighten
  rcases rng (x := y1) (lo := 0) (hi := 5) (by omega) (by omega) with ⟨t, rfl, _, ht⟩ | hx
  · have ht6 : t < 6 := by omega
    refine s_isThread ?_ ht6
    refine ⟨fun c => absurd c (by decide), fun _ => ?_⟩
    refine s_read3 (n := n) (num := num) (row := row) (st := st) hC.1 hN hC.2.2 hC.2.1 hO (fun size csize cnum names slots ahead sAhead last lastS hRR => ?_)
    have hD : RRd n num (pre row 96) := RRd_pre hO hN
    have hG0 : RGo num (pre row 96) (sRow num row t) := RGo_flt (t := t) hD
    have hSF : SF row (CR (pre row 96) (sRow num row t)) (fun i => sl (pre row 96) ((sRow num row t).getD i 0)) (sRow num row t).length := by
      refine ⟨injC_R hG0 (Nat.le_refl _), fun i hi => ?_, fun i j hij hj => ?_⟩
      · have a := hG0.2.2.1 i hi
        have c := occ_of (pre_at (row := row) (t := 96) a.1).2
        exact ⟨a.2.2.2, c.1, c.2⟩
      · exact hD.1.2.2.1 _ _ (hG0.2.2.2.1 i j hij hj) (hG0.2.2.1 j hj).1
    have hO2 := st_ok (H := HR num (pre row 96) (sRow num row t)) hO hSF
    have hW2 := fun g' hy hno => @st_RW n row (HR num (pre row 96) (sRow num row t)) (CR (pre row 96) (sRow num row t)) (fun i => sl (pre row 96) ((sRow num row t).getD i 0)) (sRow num row t).length xv_now_wall_slots g' hO hC.2.1 hSF hy hno
    have hrec := fun po hpo => @m_record hist h (n, num, row, st) mv_states mv_s mv_before po hHm hA hM hpo
    have ms := fun w sm order rank straight sorted post h0 h1 => @m_straighten n num row st mv_s w sm mv_states mv_before order rank straight sorted t (recH hist h (n, num, row, st)) (recN h) post hM hO hN ht6 hSF h0 hrec h1
    have hex := fun i hi => @srtC_ex (HR num (pre row 96) (sRow num row t)) (CR (pre row 96) (sRow num row t)) (sRow num row t).length i hSF.1 hi
    unfold sRow at hO2 hW2 ms hex hG0
    clear hSF hrec
    generalize pre row 96 = L at hRR hD hO2 hW2 ms hex hG0
    refine s_gather hD hRR ht6 (fun gz ra ca ho so hG => ?_)
    refine s_sort hG0 hG (fun sd hsd => ?_)
    refine s_moved hG0 hG hsd ?_
    have hmv : mvd num L (flt (pS num L t) L.length) (flt (pS num L t) L.length).length ≤ (flt (pS num L t) L.length).length := cnt_le _ _
    have hRl := hG0.2.1
    rw [z_eq0 (by omega)]
    refine ⟨fun q => ?_, fun q => ?_⟩
    · exact ms _ _ _ _ _ _ _ (fun _ w sm order rank straight sorted => ⟨rfl, (n, num, row, st), b, hist, h, len, T, hA, hC, hM, hK, hHc, hHm, hT1, hT2, hl1, hl2⟩) (fun c => absurd q c)
    · refine s_record hHc hA hC (fun old sz n0 f0 g0 t0 n1 f1 g1 t1 n2 f2 g2 t2 n3 f3 g3 t3 hH2 => ?_)
      refine s_putOn hG0 hD.1.2.2.1 hG hsd (fun g' hg' => ?_)
      have hW3 := hW2 g' (fun i hi => ?_) (fun u hu hno => (hg' u hu).2 hno)
      · refine ms _ _ _ _ _ _ _ (fun c => absurd c q) (fun _ w sm states s2 before order rank straight sorted hHm2 hM2 => ?_)
        exact ⟨rfl, (n, num, _, st), b, _, _, len, T, ⟨hN, hO2, hS⟩, ⟨hC.1, hW3, hC.2.2⟩, hM2, hK, hH2, hHm2, hT1, hT2, hl1, hl2⟩
      · have a := hG0.2.2.1 i hi
        obtain ⟨k, hk, hr, e⟩ := (hg' _ a.2.2.2).1 i hi rfl
        obtain ⟨k2, hk2, hr2, e2⟩ := hex i hi
        have hkk : k = k2 := rk_inj (H := HR num L (flt (pS num L t) L.length)) (injC_R hG0 (Nat.le_refl _)) hk hk2 (hr.trans hr2.symm)
        subst hkk
        rw [e2]; exact e
  · refine s_isThreadN hx ⟨fun _ => ?_, fun c => absurd rfl c⟩
    unfold wp_X9_straighten
    exact m_inN (lo := 0) (hi := 5) hx ⟨fun _ => ⟨rfl, same⟩, fun c => absurd rfl c⟩
