/-! the straight row in the order of hours -/
/-- one stands before another -/
def bef (H C : Nat → Nat) (i j : Nat) : Bool := decide (H i < H j ∨ (H i = H j ∧ C i < C j))
theorem bef_iff {H C : Nat → Nat} {i j : Nat} : bef H C i j = true ↔ (H i < H j ∨ (H i = H j ∧ C i < C j)) := decide_eq_true_iff
/-- how many of the first m stand before -/
def rk (H C : Nat → Nat) (m i : Nat) : Nat := cnt (fun j => bef H C j i) m
def injC (C : Nat → Nat) (m : Nat) : Prop := ∀ i j, i < m → j < m → C i = C j → i = j
theorem cnt_congr {p q : Nat → Bool} : ∀ n, (∀ k, k < n → p k = q k) → cnt p n = cnt q n
  | 0, _ => rfl
  | n + 1, h => by rw [cnt, cnt, cnt_congr n (fun k hk => h k (by omega)), h n (by omega)]
theorem cnt_mono {p q : Nat → Bool} : ∀ n, (∀ k, k < n → p k = true → q k = true) → cnt p n ≤ cnt q n
  | 0, _ => Nat.le_refl _
  | n + 1, h => by
    have ih := cnt_mono n (fun k hk => h k (by omega))
    have hn := h n (by omega)
    rw [cnt, cnt]
    by_cases hp : p n = true
    · rw [if_pos hp, if_pos (hn hp)]; omega
    · rw [if_neg hp]; omega
theorem cnt_lt {p q : Nat → Bool} {k0 : Nat} : ∀ n, (∀ k, k < n → p k = true → q k = true) → k0 < n → p k0 = false → q k0 = true → cnt p n < cnt q n
  | 0, _, h, _, _ => absurd h (Nat.not_lt_zero _)
  | n + 1, h, hk, hp, hq => by
    rw [cnt, cnt]
    by_cases he : k0 = n
    · subst he
      have := cnt_mono (p := p) (q := q) k0 (fun k hk => h k (by omega))
      rw [hp, hq]; simp; omega
    · have ih := cnt_lt n (fun k hk => h k (by omega)) (show k0 < n by omega) hp hq
      have hn := h n (by omega)
      by_cases hp : p n = true
      · rw [if_pos hp, if_pos (hn hp)]; omega
      · rw [if_neg hp]; omega
theorem cnt_one {p q : Nat → Bool} {k0 : Nat} : ∀ n, (∀ k, k < n → k ≠ k0 → p k = q k) → k0 < n → p k0 = false → q k0 = true → cnt q n = cnt p n + 1
  | 0, _, h, _, _ => absurd h (Nat.not_lt_zero _)
  | n + 1, h, hk, hp, hq => by
    rw [cnt, cnt]
    by_cases he : k0 = n
    · subst he
      rw [cnt_congr (p := p) (q := q) k0 (fun k hk => h k (by omega) (by omega)), hp, hq]; simp
    · have ih := cnt_one n (fun k hk => h k (by omega)) (show k0 < n by omega) hp hq
      rw [ih, h n (by omega) (fun e => he e.symm)]; omega
theorem cnt_all {p : Nat → Bool} : ∀ n, (∀ k, k < n → p k = true) → cnt p n = n
  | 0, _ => rfl
  | n + 1, h => by rw [cnt, cnt_all n (fun k hk => h k (by omega)), h n (by omega)]; rfl
theorem cnt_zero {p : Nat → Bool} : ∀ n, (∀ k, k < n → p k = false) → cnt p n = 0
  | 0, _ => rfl
  | n + 1, h => by rw [cnt, cnt_zero n (fun k hk => h k (by omega)), h n (by omega)]; rfl
section
variable {H C : Nat → Nat} {m : Nat}
theorem bef_irr {i : Nat} : bef H C i i = false := by
  cases h : bef H C i i with
  | false => rfl
  | true => have := bef_iff.mp h; omega
theorem bef_tr {i j k : Nat} (h1 : bef H C i j = true) (h2 : bef H C j k = true) : bef H C i k = true := by
  have := bef_iff.mp h1; have := bef_iff.mp h2
  exact bef_iff.mpr (by omega)
theorem bef_tot (hC : injC C m) {i j : Nat} (hi : i < m) (hj : j < m) (hn : i ≠ j) (h : ¬ bef H C i j = true) : bef H C j i = true := by
  rw [bef_iff] at h
  refine bef_iff.mpr ?_
  have : C i ≠ C j := fun e => hn (hC i j hi hj e)
  omega
theorem rk_lt (i : Nat) (hi : i < m) : rk H C m i < m := by
  have := cnt_lt (p := fun j => bef H C j i) (q := fun _ => true) (k0 := i) m (fun _ _ _ => rfl) hi bef_irr rfl
  rw [cnt_all (p := fun _ => true) m (fun _ _ => rfl)] at this
  exact this
theorem rk_mono {i j : Nat} (hi : i < m) (h : bef H C i j = true) : rk H C m i < rk H C m j :=
  cnt_lt m (fun k _ hk => bef_tr hk h) hi bef_irr h
theorem rk_inj (hC : injC C m) {i j : Nat} (hi : i < m) (hj : j < m) (h : rk H C m i = rk H C m j) : i = j := by
  by_cases he : i = j
  · exact he
  · by_cases hb : bef H C i j = true
    · have := rk_mono (m := m) hi hb; omega
    · have := rk_mono (m := m) hj (bef_tot hC hi hj he hb); omega
theorem pigS {f : Nat → Nat} (h1 : ∀ i, i < m → f i < m) (h2 : ∀ i j, i < m → j < m → f i = f j → i = j) {v : Nat} (hv : v < m) : ∃ i, i < m ∧ f i = v := by
  by_cases hx : ∃ i, i < m ∧ f i = v
  · exact hx
  · exfalso
    have hne : ∀ i, i < m → f i ≠ v := fun i hi e => hx ⟨i, hi, e⟩
    have := pig (m - 1) m (fun i => if v < f i then f i - 1 else f i) (fun i hi => by
      show (if v < f i then f i - 1 else f i) < m - 1
      have := h1 i hi; have := hne i hi
      split <;> omega) (fun i j hij hj => by
      show (if v < f i then f i - 1 else f i) ≠ (if v < f j then f j - 1 else f j)
      have := hne i (by omega); have := hne j hj
      have hh : f i ≠ f j := fun e => by have := h2 i j (by omega) hj e; omega
      split <;> split <;> omega)
    omega
theorem rk_surj (hC : injC C m) {v : Nat} (hv : v < m) : ∃ i, i < m ∧ rk H C m i = v := pigS (fun i hi => rk_lt i hi) (fun _ _ hi hj h => rk_inj hC hi hj h) hv
theorem rk_s (i : Nat) : rk H C (m + 1) i = rk H C m i + (if bef H C m i then 1 else 0) := rfl
end
section
variable {num : Nat → Nat → Nat} {L : List (Nat × Nat)} {R : List Nat} {gz : Int32} {ra ca ho so : Nat → Int32}
theorem injC_R (hO : RGo num L R) {m : Nat} (hm : m ≤ R.length) : injC (CR L R) m := fun i j hi hj h => hO.2.2.2.2 i j (by omega) (by omega) h
theorem s_stands {post : Int32 → Prop} {i j : Nat} (hO : RGo num L R) (hG : RG num L R gz ra ca ho so) (hi : i < R.length) (hj : j < R.length) (h : post (bI (bef (HR num L R) (CR L R) i j))) : wp_X5_standsBefore (nI i) (nI j) gz ca ho post := by
  obtain ⟨rfl, hg⟩ := hG
  have hR := hO.2.1
  unfold wp_X5_standsBefore
  have a1 := (hg i hi)
  have a2 := (hg j hj)
  have b1 := hO.2.2.1 i hi
  have b2 := hO.2.2.1 j hj
  have e1 : num (cd L (R.getD i 0)) 1 = HR num L R i := rfl
  have e2 : num (cd L (R.getD j 0)) 1 = HR num L R j := rfl
  have e3 : cd L (R.getD i 0) = CR L R i := rfl
  have e4 : cd L (R.getD j 0) = CR L R j := rfl
  refine s_val5 hR hi ?_
  refine s_val5 hR hj ?_
  rw [a1.2.2.1, a2.2.2.1, e1, e2]
  have d1 : (nI (HR num L R i) - nI (HR num L R j) < 0) ↔ HR num L R i < HR num L R j := by
    rw [Int32.lt_iff_toInt_lt, z_toIntSub (by omega) (by omega)]; show ((HR num L R i : Int) - HR num L R j < 0) ↔ _; omega
  have d2 : (nI (HR num L R i) - nI (HR num L R j) = 0) ↔ HR num L R i = HR num L R j := by
    rw [← Int32.toInt_inj, z_toIntSub (by omega) (by omega)]; show ((HR num L R i : Int) - HR num L R j = 0) ↔ _; omega
  rw [d1, d2]
  refine ⟨fun q => ?_, fun q => ⟨fun q2 => ?_, fun q2 => ?_⟩⟩
  · rw [bef_iff.mpr (Or.inl q)] at h; exact h
  · refine s_val5 hR hi ?_
    refine s_val5 hR hj ?_
    rw [a1.2.1, a2.2.1, e3, e4, z_le (by omega) (by omega)]
    refine ⟨fun q3 => ?_, fun q3 => ?_⟩
    · rw [show bef (HR num L R) (CR L R) i j = false from decide_eq_false (by omega)] at h; exact h
    · rw [bef_iff.mpr (Or.inr ⟨q2, by omega⟩)] at h; exact h
  · rw [show bef (HR num L R) (CR L R) i j = false from decide_eq_false (by omega)] at h; exact h
/-- sorted holds the order of the first m -/
def RSo (num : Nat → Nat → Nat) (L : List (Nat × Nat)) (R : List Nat) (m : Nat) (sd : Nat → Int32) : Prop := ∀ k, k < m → sd (rk (HR num L R) (CR L R) m k) = nI k
theorem s_sort {post : (Nat → Int32) → Prop} {sd : Nat → Int32} (hO : RGo num L R) (hG : RG num L R gz ra ca ho so) (h : ∀ sd', RSo num L R R.length sd' → post sd') : wp_X5_sort gz ca ho sd post := by
  have hR := hO.2.1
  have hgz := hG.1
  unfold wp_X5_sort wp_X5_sort_l2
  refine lf2_i (fun x1 sd => ∃ i, i ≤ R.length ∧ x1 = nI i ∧ RSo num L R i sd) (fun x1 _ => R.length - x1.toNatClampNeg) ⟨0, by omega, rfl, fun k hk => absurd hk (Nat.not_lt_zero _)⟩ ?_
  rintro x1 sd ⟨i, hi, rfl, hsd⟩
  refine ⟨fun hx => ?_, fun hx => ?_⟩
  · rw [hgz] at hx
    have hin : i = R.length := by simp (disch := omega) only [z_le] at hx; omega
    subst hin; exact h _ hsd
  · rw [hgz] at hx
    have hin : i < R.length := by simp (disch := omega) only [z_le] at hx; omega
    refine ⟨fun q => absurd q (by rw [l40, z_le (by omega) (by omega)]; omega), fun _ => ?_⟩
    unfold wp_X5_sort_l18
    have hC := injC_R hO (m := i) (by omega)
    have hC2 := injC_R hO (m := R.length) (Nat.le_refl _)
    have fin : ∀ f sd2, f ≤ i → (∀ k, k < i → if rk (HR num L R) (CR L R) i k < f then sd2 (rk (HR num L R) (CR L R) i k) = nI k else sd2 (rk (HR num L R) (CR L R) i k + 1) = nI k ∧ bef (HR num L R) (CR L R) i k = true) → (∀ k, k < i → rk (HR num L R) (CR L R) i k < f → bef (HR num L R) (CR L R) k i = true) → wp_X5_sort_j58 (nI i) (nI f) gz ca ho sd2 (fun u0 u1 => (∃ i, i ≤ R.length ∧ u0 = nI i ∧ RSo num L R i u1) ∧ R.length - u0.toNatClampNeg < R.length - (nI i).toNatClampNeg) post := by
      intro f sd2 hf hA hB
      unfold wp_X5_sort_j58
      refine ⟨(z_in (by omega)).mpr (by omega), ?_⟩
      have ef : (nI f).toNatClampNeg = f := z_cl (by omega)
      rw [l1, z_add, ef]
      refine ⟨⟨i + 1, by omega, rfl, fun k hk => ?_⟩, by simp (disch := omega) only [z_cl]; omega⟩
      have hrf : rk (HR num L R) (CR L R) i i = f := by
        rcases Nat.eq_zero_or_pos f with h0 | h0
        · subst h0
          refine cnt_zero i (fun j hj => ?_)
          have := hA j hj
          rw [if_neg (Nat.not_lt_zero _)] at this
          cases hb : bef (HR num L R) (CR L R) j i with
          | false => rfl
          | true => have hc := bef_tr hb this.2; rw [bef_irr] at hc; cases hc
        · obtain ⟨k0, hk0, hr0⟩ := rk_surj hC (H := HR num L R) (show f - 1 < i by omega)
          have hb0 := hB k0 hk0 (by omega)
          have h1 := cnt_one (p := fun j => bef (HR num L R) (CR L R) j k0) (q := fun j => bef (HR num L R) (CR L R) j i) (k0 := k0) i (fun j hj hne => by
            show bef _ _ j k0 = bef _ _ j i
            by_cases hc : bef (HR num L R) (CR L R) j k0 = true
            · rw [hc, bef_tr hc hb0]
            · have hd := bef_tot hC hj hk0 hne hc
              have he := rk_mono (m := i) hk0 hd
              have hA2 := hA j hj
              rw [if_neg (by omega)] at hA2
              cases hf2 : bef (HR num L R) (CR L R) j i with
              | false => simpa using hc
              | true => have hc := bef_tr hf2 hA2.2; rw [bef_irr] at hc; cases hc) hk0 bef_irr hb0
          have h2 : rk (HR num L R) (CR L R) i i = rk (HR num L R) (CR L R) i k0 + 1 := h1
          omega
      rw [z_up, rk_s]
      rcases Nat.lt_or_ge k i with q | q
      · have hA2 := hA k q
        by_cases hlt : rk (HR num L R) (CR L R) i k < f
        · rw [if_pos hlt] at hA2
          have hb := hB k q hlt
          rw [if_neg (show ¬ bef (HR num L R) (CR L R) i k = true from fun hc => by have hd := bef_tr hb hc; rw [bef_irr] at hd; cases hd)]
          rw [if_neg (by omega)]; exact hA2
        · rw [if_neg hlt] at hA2
          rw [if_pos hA2.2, if_neg (by omega)]; exact hA2.1
      · have e0 : (if bef (HR num L R) (CR L R) i i = true then 1 else 0 : Nat) = 0 := by rw [bef_irr]; rfl
        rw [show k = i by omega, hrf, e0, if_pos (by omega)]
    refine lf2_i (fun x2 sd2 => ∃ f, f ≤ i ∧ x2 = nI f ∧ (∀ k, k < i → if rk (HR num L R) (CR L R) i k < f then sd2 (rk (HR num L R) (CR L R) i k) = nI k else sd2 (rk (HR num L R) (CR L R) i k + 1) = nI k ∧ bef (HR num L R) (CR L R) i k = true)) (fun x2 _ => x2.toNatClampNeg) ⟨i, by omega, rfl, fun k hk => by rw [if_pos (rk_lt k hk)]; exact hsd k hk⟩ ?_
    rintro x2 sd2 ⟨f, hf, rfl, hA⟩
    refine ⟨fun hx => ?_, fun hx => ?_⟩
    · have hf0 : f = 0 := by simp (disch := omega) only [l0, z_le] at hx; omega
      subst hf0
      exact fin 0 sd2 hf hA (fun k _ hq => absurd hq (Nat.not_lt_zero _))
    · have hf0 : 0 < f := by simp (disch := omega) only [l0, z_le] at hx; omega
      have ef : (nI f).toNatClampNeg = f := z_cl (by omega)
      rw [l1, z_sub (by omega), z_cl (by omega), z_addn (by omega), ef]
      refine ⟨(z_in (by omega)).mpr (by omega), ?_⟩
      obtain ⟨k0, hk0, hr0⟩ := rk_surj hC (H := HR num L R) (show f - 1 < i by omega)
      have hA0 := hA k0 hk0
      rw [if_pos (by omega), hr0] at hA0
      rw [hA0]
      refine s_stands hO hG hin (by omega) ?_
      rw [bI_0]
      refine ⟨fun q => ?_, fun q => ?_⟩
      · refine fin f sd2 hf hA (fun k hk hlt => ?_)
        have h0 : bef (HR num L R) (CR L R) k0 i = true := bef_tot hC2 hin (by omega) (by omega) (by rw [q]; decide)
        by_cases he : k = k0
        · rw [he]; exact h0
        · by_cases hb : bef (HR num L R) (CR L R) k k0 = true
          · exact bef_tr hb h0
          · have hd := rk_mono (m := i) hk0 (bef_tot hC hk hk0 he hb); omega
      · have q1 : bef (HR num L R) (CR L R) i k0 = true := eq_true_of_ne_false q
        refine ⟨(z_in (by omega)).mpr (by omega), (z_in (by omega)).mpr (by omega), ⟨f - 1, by omega, rfl, fun k hk => ?_⟩, by simp (disch := omega) only [z_cl]; omega⟩
        have hAk := hA k hk
        by_cases h1 : rk (HR num L R) (CR L R) i k < f - 1
        · rw [if_pos h1, z_up_n (by omega)]; rw [if_pos (by omega)] at hAk; exact hAk
        · rw [if_neg h1]
          by_cases h2 : rk (HR num L R) (CR L R) i k = f - 1
          · have he : k = k0 := rk_inj (H := HR num L R) hC hk hk0 (by omega)
            subst he
            rw [show rk (HR num L R) (CR L R) i k + 1 = f by omega, z_up_s]; exact ⟨rfl, q1⟩
          · rw [if_neg (by omega)] at hAk
            rw [z_up_n (by omega)]; exact hAk
theorem RSo_at {m v : Nat} {sd : Nat → Int32} (hO : RGo num L R) (hm : m ≤ R.length) (h : RSo num L R m sd) (hv : v < m) : ∃ k, k < m ∧ rk (HR num L R) (CR L R) m k = v ∧ sd v = nI k := by
  obtain ⟨k, hk, hr⟩ := rk_surj (injC_R hO hm) (H := HR num L R) hv
  have := h k hk
  rw [hr] at this
  exact ⟨k, hk, hr, this⟩
/-- how many come to another place -/
def mvd (num : Nat → Nat → Nat) (L : List (Nat × Nat)) (R : List Nat) : Nat → Nat := cnt (fun i => !(rk (HR num L R) (CR L R) R.length i == i))
theorem s_moved {post : Int32 → Prop} {sd : Nat → Int32} (hO : RGo num L R) (hG : RG num L R gz ra ca ho so) (hS : RSo num L R R.length sd) (h : post (nI (mvd num L R R.length))) : wp_X5_moved gz sd post := by
  have hR := hO.2.1
  have hgz := hG.1
  unfold wp_X5_moved wp_X5_moved_l4
  refine lf2_i (fun x1 x2 => ∃ i, i ≤ R.length ∧ x2 = nI i ∧ x1 = nI (mvd num L R i)) (fun _ x2 => R.length - x2.toNatClampNeg) ⟨0, by omega, rfl, rfl⟩ ?_
  rintro x1 x2 ⟨i, hi, rfl, rfl⟩
  rw [hgz]
  refine ⟨fun hx => ?_, fun hx => ?_⟩
  · have hin : i = R.length := by simp (disch := omega) only [z_le] at hx; omega
    subst hin; exact h
  · have hin : i < R.length := by simp (disch := omega) only [z_le] at hx; omega
    have e1 : nI i + (1 : Int32) = nI (i + 1) := by rw [l1, z_add]
    have hdec : R.length - (nI (i + 1)).toNatClampNeg < R.length - (nI i).toNatClampNeg := by simp (disch := omega) only [z_cl]; omega
    refine s_val5 hR hin ?_
    obtain ⟨k, hk, hr, hv⟩ := RSo_at hO (Nat.le_refl _) hS hin
    rw [hv, z_eq (by omega) (by omega), e1]
    refine ⟨fun q => ⟨⟨i + 1, by omega, rfl, ?_⟩, hdec⟩, fun q => ⟨⟨i + 1, by omega, rfl, ?_⟩, hdec⟩⟩
    · subst q
      unfold mvd
      rw [cnt, if_neg (by simp [hr])]; rfl
    · unfold mvd
      have hne : ¬ rk (HR num L R) (CR L R) R.length i = i := fun e => q (rk_inj (H := HR num L R) (injC_R hO (Nat.le_refl _)) hk hin (by omega))
      rw [cnt, if_pos (by simpa using hne), l1, z_add]
/-- the wall with the row put straight: what stands at a slot then -/
def newC (num : Nat → Nat → Nat) (L : List (Nat × Nat)) (R : List Nat) (m s : Nat) (old : Int32) (g : Int32) : Prop := (∀ i, i < m → sl L (R.getD i 0) = s → ∃ k, k < R.length ∧ rk (HR num L R) (CR L R) R.length k = i ∧ g = nI (CR L R k)) ∧ ((∀ i, i < m → sl L (R.getD i 0) ≠ s) → g = old)
theorem s_putOn {post : (Nat → Int32) → Prop} {sd g : Nat → Int32} (hO : RGo num L R) (hU : ∀ i j, i < j → j < L.length → sl L i < sl L j) (hG : RG num L R gz ra ca ho so) (hS : RSo num L R R.length sd) (h : ∀ g', (∀ s, s < 96 → newC num L R R.length s (g s) (g' s)) → post g') : wp_X5_putOn gz ca so sd g post := by
  have hR := hO.2.1
  have hgz := hG.1
  unfold wp_X5_putOn wp_X5_putOn_l2
  refine lf2_i (fun x2 g' => ∃ i, i ≤ R.length ∧ x2 = nI i ∧ ∀ s, s < 96 → newC num L R i s (g s) (g' s)) (fun x2 _ => R.length - x2.toNatClampNeg) ⟨0, by omega, rfl, fun s _ => ⟨fun i hi => absurd hi (Nat.not_lt_zero _), fun _ => rfl⟩⟩ ?_
  rintro x2 g' ⟨i, hi, rfl, hg'⟩
  rw [hgz]
  refine ⟨fun hx => ?_, fun hx => ?_⟩
  · have hin : i = R.length := by simp (disch := omega) only [z_le] at hx; omega
    subst hin; exact h _ hg'
  · have hin : i < R.length := by simp (disch := omega) only [z_le] at hx; omega
    obtain ⟨k, hk, hr, hv⟩ := RSo_at hO (Nat.le_refl _) hS hin
    refine s_val5 hR hin ?_
    refine s_val5 hR hin ?_
    rw [hv]
    refine s_val5 hR hk ?_
    have a1 := (hG.2 i hin).2.2.2
    have a2 := (hG.2 k hk).2.1
    have a3 := (hO.2.2.1 i hin).2.2.2
    rw [a1, a2]
    refine s_put7 a3 ?_
    rw [l1, z_add]
    refine ⟨⟨i + 1, by omega, rfl, fun s hs => ⟨fun j hj he => ?_, fun hno => ?_⟩⟩, by simp (disch := omega) only [z_cl]; omega⟩
    · rcases Nat.lt_or_ge j i with q | q
      · have : sl L (R.getD j 0) < sl L (R.getD i 0) := hU _ _ (hO.2.2.2.1 j i q hin) (hO.2.2.1 i hin).1
        rw [z_up_n (by omega)]
        exact (hg' s hs).1 j q he
      · have e : j = i := by omega
        subst e
        rw [← he, z_up_s]
        exact ⟨k, hk, hr, rfl⟩
    · have := hno i (by omega)
      rw [z_up_n (fun e => this e.symm)]
      exact (hg' s hs).2 (fun j hj => hno j (by omega))
end
