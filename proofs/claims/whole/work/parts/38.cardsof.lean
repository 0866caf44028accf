/-! the cards of a thread, on the wall and in the box; the fewest moves; the card ahead -/
theorem sumN_add {f g : Nat → Nat} : ∀ m, sumN (fun k => f k + g k) m = sumN f m + sumN g m
  | 0 => rfl
  | m + 1 => by rw [sumN, sumN, sumN, sumN_add m]; omega
theorem sumN_zero : ∀ m, sumN (fun _ => 0) m = 0
  | 0 => rfl
  | m + 1 => by rw [sumN, sumN_zero m]
theorem sumN_pt {c0 v : Nat} : ∀ m, sumN (fun c => if c = c0 then v else 0) m = if c0 < m then v else 0
  | 0 => by rw [if_neg (by omega)]; rfl
  | m + 1 => by
    rw [sumN, sumN_pt m]
    by_cases h : m = c0
    · rw [if_pos h, if_neg (by omega), if_pos (by omega)]; omega
    · rw [if_neg h]
      by_cases h2 : c0 < m
      · rw [if_pos h2, if_pos (by omega)]; rfl
      · rw [if_neg h2, if_neg (by omega)]
def onW (L : List (Nat × Nat)) (m c : Nat) : Bool := (lst (fun k => cd L k == c) m).isSome
theorem onW_s {L : List (Nat × Nat)} {m c : Nat} : onW L (m + 1) c = ((cd L m == c) || onW L m c) := by
  unfold onW
  rw [lst_s]
  cases (cd L m == c) <;> rfl
theorem onW_f {L : List (Nat × Nat)} {m c : Nat} (h : ∀ k, k < m → cd L k ≠ c) : onW L m c = false := by
  unfold onW
  cases hl : lst (fun k => cd L k == c) m with
  | none => rfl
  | some b =>
    have hb := lst_lt _ hl
    exact absurd (beq_iff_eq.mp hb.2) (h b hb.1)
theorem onW_t {L : List (Nat × Nat)} {m c : Nat} (h : onW L m c = true) : ∃ k, k < m ∧ cd L k = c := by
  unfold onW at h
  cases hl : lst (fun k => cd L k == c) m with
  | none => rw [hl] at h; cases h
  | some b =>
    have hb := lst_lt _ hl
    exact ⟨b, hb.1, beq_iff_eq.mp hb.2⟩
theorem onW_y {L : List (Nat × Nat)} {m k : Nat} (h : k < m) : onW L m (cd L k) = true := by
  cases hc : onW L m (cd L k) with
  | true => rfl
  | false =>
    unfold onW at hc
    cases hl : lst (fun j => cd L j == cd L k) m with
    | some b => rw [hl] at hc; cases hc
    | none =>
      have := lst_none _ hl k h
      simp at this
theorem sum_on {n : Nat} {L : List (Nat × Nat)} {f : Nat → Nat} (hL : LOk n L) : ∀ m, m ≤ L.length → sumN (fun c => if onW L m c then f c else 0) n = sumN (fun k => f (cd L k)) m
  | 0, _ => by
    show sumN _ n = 0
    exact (sumN_congr (g := fun _ => 0) n (fun c _ => (rfl : (if onW L 0 c = true then f c else 0) = 0))).trans (sumN_zero n)
  | m + 1, h => by
    have ih := sum_on (f := f) hL m (by omega)
    rw [sumN, ← ih]
    have hc := (hL.2.1 m (by omega)).1
    have hno : onW L m (cd L m) = false := onW_f (fun k hk e => by have := hL.2.2.2 k m (by omega) (by omega) e; omega)
    rw [sumN_congr (g := fun c => (if onW L m c then f c else 0) + (if c = cd L m then f (cd L m) else 0)) n (fun c _ => ?_), sumN_add, sumN_pt, if_pos hc]
    rw [onW_s]
    by_cases he : c = cd L m
    · subst he
      rw [hno]; simp
    · rw [beq_eq_false_iff_ne.mpr (fun e => he e.symm), if_neg he]; rfl
section
variable {n : Nat} {num : Nat → Nat → Nat} {row : Nat → List Nat} {st : Nat → Nat} {s : Nat → Int32}
theorem rank_on {L : List (Nat × Nat)} {order rank : Nat → Int32} {c : Nat} (hR : ROr L order rank) (hl : L.length ≤ 40) (hc : c < 40) : (rank c = -5) ↔ onW L L.length c = false := by
  cases ho : onW L L.length c with
  | false =>
    refine ⟨fun _ => rfl, fun _ => hR.2 c hc (fun k hk e => ?_)⟩
    rw [← e, onW_y hk] at ho; cases ho
  | true =>
    obtain ⟨k, hk, e⟩ := onW_t ho
    refine ⟨fun h => ?_, fun h => by cases h⟩
    rw [← e, (hR.1 k hk).2] at h
    have e5 : (-5 : Int32) = -nI 5 := rfl
    rw [e5, z_en (by omega) (by omega) (by omega)] at h
    exact h.elim
def coF (num : Nat → Nat → Nat) (L : List (Nat × Nat)) (t w c : Nat) : Nat := if (num c 0 == t) && (onW L L.length c != (w == 1)) then (if w = 7 then num c 2 else 1) else 0
theorem coF_le {L : List (Nat × Nat)} {t w c : Nat} (hN : numOk n num) (hc : c < n) : coF num L t w c ≤ 999 := by
  have := (hN c hc).2.2.2.1
  unfold coF
  split
  · split <;> omega
  · omega
theorem m_cardsOf0 {y : Int32} {order rank : Nat → Int32} {t w : Nat} {post : Int32 → Int32 → (Nat → Int32) → (Nat → Int32) → Prop} (hM : RM n num row st s) (hO : rowOk n row) (hN : numOk n num) (ht : t < 6) (hw : w < 100) (h : ∀ y order rank, post (nI (sumN (coF num (pre row 96) t w) n)) y order rank) : wp_X9_cardsOf (nI t) (nI w) y s order rank post := by
  have hn := hO.2.2.2
  have hD := RRd_pre hO hN
  have hl := hD.1.1
  unfold wp_X9_cardsOf
  refine m_layOrder hM hO (fun order rank hR => ?_)
  generalize pre row 96 = L at h hD hl hR ⊢
  unfold wp_X9_cardsOf_l9
  refine lf2_i (fun x3 x4 => ∃ j, j ≤ n ∧ x4 = nI j ∧ x3 = nI (sumN (coF num L t w) j)) (fun _ x4 => n - x4.toNatClampNeg) ⟨0, by omega, rfl, rfl⟩ ?_
  rintro x3 x4 ⟨j, hj, rfl, rfl⟩
  have hs0 : s ((0 : Int32)).toNatClampNeg = nI n := hM.1
  rw [hs0, z_le (by omega) (by omega)]
  refine ⟨fun hx => ?_, fun hx => ?_⟩
  · have hjn : j = n := by omega
    subst hjn; exact h _ _ _
  · have hjn : j < n := by omega
    have ec : (nI j).toNatClampNeg = j := z_cl (by omega)
    have hdec : n - (nI (j + 1)).toNatClampNeg < n - j := by simp (disch := omega) only [z_cl]; omega
    have e1 : nI j + (1 : Int32) = nI (j + 1) := by rw [l1, z_add]
    have hnk := hN j hjn
    refine m_of (k := 0) hM hn hjn (by omega) ?_
    rw [z_eq (by omega) (by omega)]
    unfold wp_X9_cardsOf_j36
    rw [ec, e1]
    have skip : coF num L t w j = 0 → (∃ j', j' ≤ n ∧ nI (j + 1) = nI j' ∧ nI (sumN (coF num L t w) j) + 0 = nI (sumN (coF num L t w) j')) ∧ n - (nI (j + 1)).toNatClampNeg < n - j := by
      intro h0
      refine ⟨⟨j + 1, by omega, rfl, ?_⟩, hdec⟩
      rw [sumN, h0, l0, z_add]
    refine ⟨fun q => ⟨fun q2 => absurd q2 (by decide), fun _ => ⟨(z_in (by omega)).mpr (by omega), ?_⟩⟩, fun q => ⟨fun _ => skip ?_, fun q2 => absurd rfl q2⟩⟩
    · have hq : (num j 0 == t) = true := beq_iff_eq.mpr q
      rw [rank_on hR hl (by omega)]
      unfold wp_X9_cardsOf_j61 wp_X9_cardsOf_j71
      rw [e1]
      have h11 : (1 : Int32) = 1 := rfl
      have add : (onW L L.length j != (w == 1)) = true → ((nI w = 7 → wp_X9_of (nI j) 2 s (fun r_8 => (∃ j', j' ≤ n ∧ nI (j + 1) = nI j' ∧ nI (sumN (coF num L t w) j) + r_8 = nI (sumN (coF num L t w) j')) ∧ n - (nI (j + 1)).toNatClampNeg < n - j)) ∧ (¬ nI w = 7 → (∃ j', j' ≤ n ∧ nI (j + 1) = nI j' ∧ nI (sumN (coF num L t w) j) + 1 = nI (sumN (coF num L t w) j')) ∧ n - (nI (j + 1)).toNatClampNeg < n - j)) := by
        intro hb
        rw [l7, z_eq (by omega) (by omega)]
        refine ⟨fun h7 => m_of (k := 2) hM hn hjn (by omega) ⟨⟨j + 1, by omega, rfl, ?_⟩, hdec⟩, fun h7 => ⟨⟨j + 1, by omega, rfl, ?_⟩, hdec⟩⟩
        · have : coF num L t w j = num j 2 := by unfold coF; rw [hq, hb, if_pos (by rfl), if_pos h7]
          rw [sumN, this, z_add]
        · have : coF num L t w j = 1 := by unfold coF; rw [hq, hb, if_pos (by rfl), if_neg h7]
          rw [sumN, this, l1, z_add]
      have sk2 : (onW L L.length j != (w == 1)) = false → coF num L t w j = 0 := by
        intro hb; unfold coF; rw [hq, hb]; rfl
      have ew : (nI w = (1 : Int32)) ↔ w = 1 := by rw [l1]; exact z_eq (by omega) (by omega)
      rw [ew]
      refine ⟨fun q2 => ⟨fun q3 => ⟨fun _ => add (by rw [q2, q3]; rfl), fun c => absurd rfl c⟩, fun q3 => ⟨fun c => absurd c (by decide), fun _ => skip (sk2 (by rw [q2, beq_eq_false_iff_ne.mpr q3]; rfl))⟩⟩, fun q2 => ?_⟩
      have q2' : onW L L.length j = true := eq_true_of_ne_false q2
      exact ⟨fun q3 => ⟨fun c => absurd c (by decide), fun _ => skip (sk2 (by rw [q2', q3]; rfl))⟩, fun q3 => ⟨fun _ => add (by rw [q2', beq_eq_false_iff_ne.mpr q3]; rfl), fun c => absurd rfl c⟩⟩
    · unfold coF; rw [beq_eq_false_iff_ne.mpr q]; rfl
theorem coF_10 {L : List (Nat × Nat)} {t : Nat} (hL : LOk n L) : sumN (coF num L t 0) n = tallyF num st L 10 (some t) none := by
  have h := sum_on (f := fun c => if num c 0 == t then 1 else 0) hL L.length (Nat.le_refl _)
  unfold tallyF
  have e : sumN (fun k => if fits (some t) (num (cd L k) 0) && fits none (sl L k / 6) then worthF num st L 10 k else 0) L.length = sumN (fun k => if num (cd L k) 0 == t then 1 else 0) L.length := sumN_congr _ (fun k _ => by
    show (if (num (cd L k) 0 == t) && true then 1 else 0) = _
    rw [Bool.and_true])
  rw [e, ← h]
  refine sumN_congr _ (fun c _ => ?_)
  unfold coF
  cases onW L L.length c <;> cases (num c 0 == t) <;> rfl
theorem coF_7 {L : List (Nat × Nat)} {t : Nat} (hL : LOk n L) : sumN (coF num L t 7) n = tallyF num st L 2 (some t) none := by
  have h := sum_on (f := fun c => if num c 0 == t then num c 2 else 0) hL L.length (Nat.le_refl _)
  unfold tallyF
  have e : sumN (fun k => if fits (some t) (num (cd L k) 0) && fits none (sl L k / 6) then worthF num st L 2 k else 0) L.length = sumN (fun k => if num (cd L k) 0 == t then num (cd L k) 2 else 0) L.length := sumN_congr _ (fun k _ => by
    show (if (num (cd L k) 0 == t) && true then num (cd L k) 2 else 0) = _
    rw [Bool.and_true])
  rw [e, ← h]
  refine sumN_congr _ (fun c _ => ?_)
  unfold coF
  cases onW L L.length c <;> cases (num c 0 == t) <;> rfl
theorem cntT_sum {t : Nat} : ∀ m, cntT num t m = sumN (fun c => if num c 0 == t then 1 else 0) m
  | 0 => rfl
  | m + 1 => by
    rw [cntT, sumN, cntT_sum m]
    congr 1
    by_cases h : num m 0 = t
    · rw [if_pos h, if_pos (beq_iff_eq.mpr h)]
    · rw [if_neg h, if_neg (by rw [beq_iff_eq]; exact h)]
theorem coF_1 {L : List (Nat × Nat)} {t : Nat} (hL : LOk n L) : sumN (coF num L t 1) n + tallyF num st L 10 (some t) none = cntT num t n := by
  rw [← coF_10 hL, ← sumN_add, cntT_sum]
  refine sumN_congr _ (fun c _ => ?_)
  unfold coF
  cases onW L L.length c <;> cases (num c 0 == t) <;> rfl
/-- the longest rows of the model -/
theorem m_fewest {w sm : Int32} {order rank straight lo : Nat → Int32} {t : Nat} {post : Int32 → Int32 → Int32 → (Nat → Int32) → (Nat → Int32) → (Nat → Int32) → (Nat → Int32) → Prop} (hM : RM n num row st s) (hO : rowOk n row) (hN : numOk n num) (ht : t < 6) (h : ∀ w sm order rank straight lo, post (nI ((sRow num row t).length - bst (HR num (pre row 96) (sRow num row t)) (sRow num row t).length)) w sm order rank straight lo) : wp_X9_fewest (nI t) w sm s order rank straight lo post := by
  have hn := hO.2.2.2
  have hD := RRd_pre hO hN
  have hl := hD.1.1
  have hG : RGo num (pre row 96) (sRow num row t) := RGo_flt (t := t) hD
  unfold wp_X9_fewest
  refine m_layStraight hM hO hN ht (fun order rank straight hR hs => ?_)
  have hRl : (sRow num row t).length ≤ 40 := hG.2.1
  generalize sRow num row t = R at h hs hRl hG ⊢
  generalize pre row 96 = L at h hs hD hl hG hR ⊢
  unfold wp_X9_fewest_l9
  refine lf3_i (fun x2 x3 lo => ∃ k, k ≤ R.length ∧ x3 = nI k ∧ x2 = nI (bst (HR num L R) k) ∧ ∀ j, j < k → lo j = nI (lonT (HR num L R) k j)) (fun _ x3 _ => R.length - x3.toNatClampNeg) ⟨0, by omega, rfl, rfl, fun j hj => absurd hj (Nat.not_lt_zero _)⟩ ?_
  rintro x2 x3 lo ⟨k, hk, rfl, rfl, hlo⟩
  have hb := bst_le (HR num L R) k
  rw [z_le (by omega) (by omega)]
  refine ⟨fun hx => ?_, fun hx => ?_⟩
  · have hkn : k = R.length := by omega
    subst hkn
    rw [z_sub hb]; exact h _ _ _ _ _ lo
  · have hkn : k < R.length := by omega
    have ek : (nI k).toNatClampNeg = k := z_cl (by omega)
    have hink : vp_in (nI k) 40 := (z_in (by omega)).mpr (by omega)
    rw [ek]
    refine ⟨hink, ?_⟩
    unfold wp_X9_fewest_l27
    refine lf2_i (fun x4 lo => ∃ m, m ≤ k ∧ x4 = nI m ∧ lo k = nI (mxB (HR num L R) (lonT (HR num L R) k) k m + 1) ∧ ∀ j, j < k → lo j = nI (lonT (HR num L R) k j)) (fun x4 _ => k - x4.toNatClampNeg) ⟨0, by omega, rfl, z_up_s, fun j hj => by rw [z_up_n (by omega)]; exact hlo j hj⟩ ?_
    clear hlo lo
    rintro x4 lo ⟨m, hm, rfl, hlk, hlo⟩
    have hmx := mxB_le (H := HR num L R) (T := lonT (HR num L R) k) (k := k) (b := k) m (fun j _ => lonT_le _ k j)
    have em : (nI m).toNatClampNeg = m := z_cl (by omega)
    rw [z_le (by omega) (by omega), ek, hlk]
    refine ⟨fun hx => ⟨hink, ?_⟩, fun hx => ?_⟩
    · have hmk : m = k := by omega
      subst hmk
      rw [z_le (by omega) (by omega), l1, z_add]
      have htab : ∀ j, j < m + 1 → lo j = nI (lonT (HR num L R) (m + 1) j) := by
        intro j hj
        rw [lonT_s]
        by_cases he : j = m
        · subst he; rw [if_pos rfl]; exact hlk
        · rw [if_neg he]; exact hlo j (by omega)
      have hdec : R.length - (nI (m + 1)).toNatClampNeg < R.length - m := by simp (disch := omega) only [z_cl]; omega
      refine ⟨fun q => ⟨⟨m + 1, by omega, rfl, ?_, htab⟩, hdec⟩, fun q => ⟨hink, ⟨m + 1, by omega, rfl, ?_, htab⟩, hdec⟩⟩
      · rw [bst_s, if_neg (by omega)]
      · rw [bst_s, if_pos (by omega)]
    · have hmk : m < k := by omega
      have g1 := hG.2.2.1 k hkn
      have g2 := hG.2.2.1 m (by omega)
      have c1 := hD.1.2.1 _ g1.1
      have c2 := hD.1.2.1 _ g2.1
      have e1 : nI m + (1 : Int32) = nI (m + 1) := by rw [l1, z_add]
      have hdec : k - (nI (m + 1)).toNatClampNeg < k - m := by simp (disch := omega) only [z_cl]; omega
      have hinm : vp_in (nI m) 40 := (z_in (by omega)).mpr (by omega)
      rw [em]
      refine ⟨hinm, ?_⟩
      rw [hs m (by omega)]
      refine m_of (k := 1) hM hn c2.1 (by omega) ⟨hink, ?_⟩
      rw [hs k hkn]
      refine m_of (k := 1) hM hn c1.1 (by omega) ?_
      have d1 : num (CR L R k) 1 = HR num L R k := rfl
      have d2 : num (CR L R m) 1 = HR num L R m := rfl
      have h7 := lonT_le (HR num L R) k m
      have hlm := hlo m hmk
      rw [d1, d2, z_lt (by omega) (by omega), hlm]
      have keep : mxB (HR num L R) (lonT (HR num L R) k) k (m + 1) = mxB (HR num L R) (lonT (HR num L R) k) k m → wp_X9_fewest_j81 (nI (bst (HR num L R) k)) (nI k) (nI m) (nI L.length) (nI R.length) s order rank straight lo (fun u0 u1 u2 => (∃ k, k ≤ R.length ∧ u1 = nI k ∧ u0 = nI (bst (HR num L R) k) ∧ ∀ j, j < k → u2 j = nI (lonT (HR num L R) k j)) ∧ R.length - u1.toNatClampNeg < R.length - k) (fun u0 u1 => (∃ m, m ≤ k ∧ u0 = nI m ∧ u1 k = nI (mxB (HR num L R) (lonT (HR num L R) k) k m + 1) ∧ ∀ j, j < k → u1 j = nI (lonT (HR num L R) k j)) ∧ k - u0.toNatClampNeg < k - m) post := by
        intro hkeep
        unfold wp_X9_fewest_j81 wp_X9_fewest_j82 wp_X9_fewest_j112
        rw [ek, e1]
        refine ⟨fun _ => ⟨hink, hink, ⟨m + 1, by omega, rfl, ?_, fun j hj => ?_⟩, hdec⟩, fun c => absurd rfl c⟩
        · rw [z_up_s, hkeep]; exact hlk
        · rw [z_up_n (by omega)]; exact hlo j hj
      have em1 : nI (lonT (HR num L R) k m) + (1 : Int32) = nI (lonT (HR num L R) k m + 1) := by rw [l1, z_add]
      rw [em1, z_le (by omega) (by omega)]
      refine ⟨fun q => keep (by rw [mxB, if_neg (by omega)]), fun q => ⟨hinm, hink, fun q2 => keep (by rw [mxB, if_pos (by omega), if_neg (by omega)]), fun q2 => ?_⟩⟩
      unfold wp_X9_fewest_j82 wp_X9_fewest_j112
      rw [ek, em, e1, hlm, em1]
      refine ⟨fun c => absurd c (by decide), fun _ => ⟨hinm, hink, ⟨m + 1, by omega, rfl, ?_, fun j hj => ?_⟩, hdec⟩⟩
      · rw [z_up_s, mxB, if_pos (by omega), if_pos (by omega)]
      · rw [z_up_n (by omega)]; exact hlo j hj
/-- the card ahead in the row of the thread -/
theorem m_ahead {w : Int32} {order rank : Nat → Int32} {c : Nat} {post : Int32 → Int32 → (Nat → Int32) → (Nat → Int32) → Prop} (hM : RM n num row st s) (hO : rowOk n row) (hN : numOk n num) (hc : c < n) (h : ∀ w order rank k, k < (pre row 96).length → cd (pre row 96) k = c → post (optI ((aA num (pre row 96) k).map (cd (pre row 96)))) w order rank) (hno : (∀ k, k < (pre row 96).length → cd (pre row 96) k ≠ c) → ∀ w order rank, post (-nI 5) w order rank) : wp_X9_ahead (nI c) w s order rank post := by
  have hn := hO.2.2.2
  have hD := RRd_pre hO hN
  have hl := hD.1.1
  unfold wp_X9_ahead
  refine m_layOrder hM hO (fun order rank hR => ?_)
  generalize pre row 96 = L at h hno hD hl hR ⊢
  unfold wp_X9_ahead_l9
  have ec : (nI c).toNatClampNeg = c := z_cl (by omega)
  have hinc : vp_in (nI c) 40 := (z_in (by omega)).mpr (by omega)
  by_cases hx : ∃ k, k < L.length ∧ cd L k = c
  · obtain ⟨k0, hk0, he⟩ := hx
    have hrc : rank c = nI k0 := by rw [← he]; exact (hR.1 k0 hk0).2
    refine lf2_i (fun x2 x3 => ∃ j, j ≤ k0 ∧ x3 = nI j ∧ x2 = optI ((lst (fun j => num (cd L j) 0 == num (cd L k0) 0) j).map (cd L))) (fun _ x3 => k0 - x3.toNatClampNeg) ⟨0, by omega, rfl, rfl⟩ ?_
    rintro x2 x3 ⟨j, hj, rfl, rfl⟩
    refine ⟨hinc, ?_⟩
    rw [ec, hrc, z_le (by omega) (by omega)]
    refine ⟨fun q => ?_, fun q => ?_⟩
    · have : j = k0 := by omega
      subst this
      exact h _ _ _ j hk0 he
    · have ej : (nI j).toNatClampNeg = j := z_cl (by omega)
      have hcj := hD.1.2.1 j (by omega)
      have hinj : vp_in (nI j) 40 := (z_in (by omega)).mpr (by omega)
      have hdec : k0 - (nI (j + 1)).toNatClampNeg < k0 - j := by simp (disch := omega) only [z_cl]; omega
      rw [ej]
      refine ⟨hinj, ?_⟩
      rw [(hR.1 j (by omega)).1]
      refine m_of (k := 0) hM hn hcj.1 (by omega) ?_
      refine m_of (k := 0) hM hn hc (by omega) ?_
      have b1 := (hN _ hcj.1).1
      have b2 := (hN _ hc).1
      rw [z_eq (by omega) (by omega), l1, z_add]
      refine ⟨fun q2 => ⟨hinj, ⟨j + 1, by omega, rfl, ?_⟩, hdec⟩, fun q2 => ⟨⟨j + 1, by omega, rfl, ?_⟩, hdec⟩⟩
      · rw [lst_s, if_pos (by rw [he, q2]; exact beq_iff_eq.mpr rfl)]; rfl
      · rw [lst_s, if_neg (by rw [he, beq_iff_eq]; exact q2)]
  · have hne : ∀ k, k < L.length → cd L k ≠ c := fun k hk e => hx ⟨k, hk, e⟩
    have hrc : rank c = -nI 5 := hR.2 c (by omega) hne
    refine lf2_i (fun x2 x3 => x2 = -nI 5 ∧ x3 = nI 0) (fun _ _ => 0) ⟨rfl, rfl⟩ ?_
    rintro x2 x3 ⟨rfl, rfl⟩
    refine ⟨hinc, fun _ => hno hne _ _ _, fun q => absurd (by rw [ec, hrc]; decide) q⟩
end
