/-! facts of the acts: a thread put straight, two cards exchanged, a card pinned, the best place -/
theorem cnt_ltn {i : Nat} : ∀ m, cnt (fun j => decide (j < i)) m = if m ≤ i then m else i
  | 0 => by rw [if_pos (Nat.zero_le _)]; rfl
  | m + 1 => by
    rw [cnt, cnt_ltn m]
    by_cases h1 : m < i
    · rw [if_pos (by omega), if_pos (decide_eq_true h1), if_pos (by omega)]
    · rw [if_neg (show ¬ (decide (m < i)) = true by rw [decide_eq_false h1]; decide)]
      by_cases h2 : m = i
      · subst h2; rw [if_pos (Nat.le_refl _), if_neg (by omega)]; omega
      · rw [if_neg (by omega), if_neg (by omega)]; omega
/-- what is in order already -/
theorem rk_id {H C : Nat → Nat} {m : Nat} (h : ∀ i j, i < j → j < m → bef H C i j = true) {i : Nat} (hi : i < m) : rk H C m i = i := by
  have e : rk H C m i = cnt (fun j => decide (j < i)) m := cnt_congr m (fun j hj => by
    show bef H C j i = decide (j < i)
    rcases Nat.lt_trichotomy j i with q | q | q
    · rw [h j i q hi, decide_eq_true q]
    · subst q; rw [bef_irr, decide_eq_false (Nat.lt_irrefl _)]
    · rw [decide_eq_false (by omega)]
      cases hb : bef H C j i with
      | false => rfl
      | true => have := bef_tr hb (h i j q hj); rw [bef_irr] at this; cases this)
  rw [e, cnt_ltn, if_neg (by omega)]
theorem ord_bef {H C : Nat → Nat} {m i j : Nat} (hC : injC C m) (hi : i < m) (hj : j < m) (h : rk H C m i < rk H C m j) : bef H C i j = true := by
  by_cases hb : bef H C i j = true
  · exact hb
  · have hne : i ≠ j := by rintro rfl; omega
    have := rk_mono (m := m) hj (bef_tot hC hi hj hne hb)
    omega
/-- how many come elsewhere: as many as the fewest moves at least, never one -/
theorem mv_least {H C : Nat → Nat} {m : Nat} (hC : injC C m) : m ≤ bst H m + cnt (fun i => !(rk H C m i == i)) m := by
  have h1 := cnt_split (p := fun i => rk H C m i == i) m
  have h2 := bst_chain (H := H) (f := fun i => decide (i < m) && (rk H C m i == i)) (fun i j hij hi hj => by
    rw [Bool.and_eq_true] at hi hj
    have a := of_decide_eq_true hi.1
    have b := of_decide_eq_true hj.1
    have c := beq_iff_eq.mp hi.2
    have d := beq_iff_eq.mp hj.2
    have e := bef_iff.mp (ord_bef hC a b (show rk H C m i < rk H C m j by omega))
    omega) m
  rw [cnt_congr (q := fun i => rk H C m i == i) m (fun k hk => by
    show (decide (k < m) && _) = _
    rw [decide_eq_true hk, Bool.true_and])] at h2
  omega
theorem mv_two {H C : Nat → Nat} {m : Nat} (hC : injC C m) (h : ¬ cnt (fun i => !(rk H C m i == i)) m = 0) : 2 ≤ cnt (fun i => !(rk H C m i == i)) m := by
  obtain ⟨i, hi, hp⟩ := cnt_ex m (Nat.pos_of_ne_zero h)
  have hne : rk H C m i ≠ i := by
    intro e
    rw [e] at hp; simp at hp
  have hj := rk_lt (H := H) (C := C) i hi
  refine cnt_two (i := i) (j := rk H C m i) (fun e => hne e.symm) hi hj hp ?_
  have : rk H C m (rk H C m i) ≠ rk H C m i := fun e => hne (rk_inj (H := H) hC hj hi e)
  simpa using this
section
variable {n : Nat} {num : Nat → Nat → Nat} {row : Nat → List Nat} {st : Nat → Nat}
theorem pre_re {f : Nat → Nat} : ∀ t, pre (reRow row f) t = (pre row t).map (fun x => (f x.2, x.2))
  | 0 => rfl
  | t + 1 => by
    have ih := pre_re (f := f) t
    cases h : (row (t / 6))[t % 6]? with
    | none =>
      have h2 : (reRow row f (t / 6))[t % 6]? = none := by
        rw [re_at, if_neg (by have := List.getElem?_eq_none_iff.mp h; omega)]
      rw [pre_none h, pre_none h2, ih]
    | some c =>
      have h2 : (reRow row f (t / 6))[t % 6]? = some (f t) := by
        rw [re_at, if_pos (List.getElem?_eq_some_iff.mp h).1, show 6 * (t / 6) + t % 6 = t by omega]
      rw [pre_some h, pre_some h2, ih, List.map_append]; rfl
theorem len_re {f : Nat → Nat} : (pre (reRow row f) 96).length = (pre row 96).length := by rw [pre_re, List.length_map]
theorem cd_re {f : Nat → Nat} {k : Nat} (hk : k < (pre row 96).length) : cd (pre (reRow row f) 96) k = f (sl (pre row 96) k) ∧ sl (pre (reRow row f) 96) k = sl (pre row 96) k := by
  have e := pre_re (row := row) (f := f) 96
  generalize pre (reRow row f) 96 = L2 at e ⊢
  generalize pre row 96 = L at e hk ⊢
  subst e
  unfold cd sl
  rw [List.getD_eq_getElem?_getD, List.getElem?_map, getD_some (d := (0, 0)) hk]
  exact ⟨rfl, rfl⟩
theorem cd_crd {k : Nat} (hk : k < (pre row 96).length) : occ row (sl (pre row 96) k) ∧ crd row (sl (pre row 96) k) = cd (pre row 96) k := occ_of (pre_at (row := row) (t := 96) hk).2
theorem st_done {t : Nat} (hN : numOk n num) (hO : rowOk n row) (row2 : Nat → List Nat) (h2 : row2 = reRow row (stF row (HR num (pre row 96) (sRow num row t)) (CR (pre row 96) (sRow num row t)) (fun i => sl (pre row 96) ((sRow num row t).getD i 0)) (sRow num row t).length)) (hO2 : rowOk n row2) : tallyF num st (pre row2 96) 12 (some t) none = 0 ∧ (sRow num row2 t).length - bst (HR num (pre row2 96) (sRow num row2 t)) (sRow num row2 t).length = 0 ∧ mvd num (pre row2 96) (sRow num row2 t) (sRow num row2 t).length = 0 := by
  have hSF := SF_row (t := t) hN hO
  have hD := RRd_pre hO hN
  have hD2 := RRd_pre hO2 hN
  have hlen : (pre row2 96).length = (pre row 96).length := by rw [h2]; exact len_re
  have hcd : ∀ k, k < (pre row 96).length → cd (pre row2 96) k = stF row (HR num (pre row 96) (sRow num row t)) (CR (pre row 96) (sRow num row t)) (fun i => sl (pre row 96) ((sRow num row t).getD i 0)) (sRow num row t).length (sl (pre row 96) k) := fun k hk => by
    rw [h2]; exact (cd_re hk).1
  have hcc : ∀ k, k < (pre row 96).length → crd row (sl (pre row 96) k) = cd (pre row 96) k := fun k hk => (cd_crd hk).2
  have hG0 : RGo num (pre row 96) (sRow num row t) := RGo_flt (t := t) hD
  clear h2
  have hRe : sRow num row t = flt (pS num (pre row 96) t) (pre row 96).length := rfl
  have hRe2 : sRow num row2 t = flt (pS num (pre row2 96) t) (pre row2 96).length := rfl
  have h12 := tally_HR (num := num) (st := st) (t := t) (T6_of hD2)
  rw [← hRe2] at h12
  generalize pre row 96 = L at hSF hD hlen hcd hcc hG0 hRe
  generalize pre row2 96 = L2 at hD2 hlen hcd h12 hRe2 ⊢
  have hps : ∀ k, k < L.length → pS num L2 t k = pS num L t k := by
    intro k hk
    have hc := hcd k hk
    cases hp : pS num L t k with
    | true =>
      have hm : k ∈ sRow num row t := by rw [hRe]; exact (flt_mem _).mpr ⟨hk, hp⟩
      obtain ⟨i, hi, he⟩ := List.mem_iff_getElem.mp hm
      have hg : (sRow num row t).getD i 0 = k := by rw [List.getD_eq_getElem?_getD, List.getElem?_eq_getElem hi, he]; rfl
      have hy := stF_y (H := HR num L (sRow num row t)) hSF hi
      rw [hg] at hy
      obtain ⟨j, hj, _, e⟩ := srtC_ex (H := HR num L (sRow num row t)) hSF.1 hi
      rw [hy, e] at hc
      have hb : pS num L t ((sRow num row t).getD j 0) = true := by
        rw [hRe] at hj ⊢; exact (flt_at hj).2
      unfold pS at hb ⊢
      rw [hc]; exact hb
    | false =>
      have hno : ∀ i, i < (sRow num row t).length → sl L ((sRow num row t).getD i 0) ≠ sl L k := by
        intro i hi e
        have a := (hG0.2.2.1 i hi).1
        have hik : (sRow num row t).getD i 0 = k := by
          rcases Nat.lt_trichotomy ((sRow num row t).getD i 0) k with q | q | q
          · have := hD.1.2.2.1 _ _ q hk; omega
          · exact q
          · have := hD.1.2.2.1 _ _ q a; omega
        have hb : pS num L t ((sRow num row t).getD i 0) = true := by
          rw [hRe] at hi ⊢; exact (flt_at hi).2
        rw [hik, hp] at hb; cases hb
      have hn := stF_n (H := HR num L (sRow num row t)) (C := CR L (sRow num row t)) (row := row) (S := fun i => sl L ((sRow num row t).getD i 0)) (u := sl L k) hno
      rw [hn, hcc k hk] at hc
      unfold pS at hp ⊢
      rw [hc]; exact hp
  have hR : sRow num row2 t = sRow num row t := by
    rw [hRe2, hRe, hlen]
    exact flt_congr _ hps
  rw [hR] at h12 ⊢
  clear hRe hRe2 hR
  generalize sRow num row t = R at hSF hG0 hcd h12 ⊢
  have hat : ∀ i, i < R.length → ∃ j, j < R.length ∧ rk (HR num L R) (CR L R) R.length j = i ∧ CR L2 R i = CR L R j ∧ HR num L2 R i = HR num L R j := by
    intro i hi
    obtain ⟨j, hj, hr, e⟩ := srtC_ex (H := HR num L R) hSF.1 hi
    have hy := stF_y (H := HR num L R) hSF hi
    have hc := hcd _ (hG0.2.2.1 i hi).1
    rw [hy, e] at hc
    refine ⟨j, hj, hr, hc, ?_⟩
    show num (cd L2 (R.getD i 0)) 1 = num (cd L (R.getD j 0)) 1
    rw [hc]; rfl
  have hbf : ∀ i j, i < j → j < R.length → bef (HR num L2 R) (CR L2 R) i j = true := by
    intro i j hij hj
    obtain ⟨a, ha, ra, ca, ea⟩ := hat i (by omega)
    obtain ⟨b, hb, rb, cb, eb⟩ := hat j hj
    have := bef_iff.mp (ord_bef (H := HR num L R) hSF.1 ha hb (show rk (HR num L R) (CR L R) R.length a < rk (HR num L R) (CR L R) R.length b by omega))
    refine bef_iff.mpr ?_
    rw [ca, cb, ea, eb]; exact this
  have hd : dsc (HR num L2 R) R.length = 0 := dsc_zero (fun i j hij hj => by have := bef_iff.mp (hbf i j hij hj); omega)
  refine ⟨by rw [h12]; exact hd, by rw [full_bst hd]; omega, cnt_zero _ (fun i hi => ?_)⟩
  rw [rk_id hbf hi]; simp
theorem st_bound {t : Nat} (hN : numOk n num) (hO : rowOk n row) : (sRow num row t).length - bst (HR num (pre row 96) (sRow num row t)) (sRow num row t).length ≤ mvd num (pre row 96) (sRow num row t) (sRow num row t).length ∧ (¬ mvd num (pre row 96) (sRow num row t) (sRow num row t).length = 0 → 2 ≤ mvd num (pre row 96) (sRow num row t) (sRow num row t).length) := by
  have hSF := SF_row (t := t) hN hO
  have h1 := mv_least (H := HR num (pre row 96) (sRow num row t)) hSF.1
  have h2 := mv_two (H := HR num (pre row 96) (sRow num row t)) hSF.1
  unfold mvd
  exact ⟨by omega, h2⟩
/-! a card pinned -/
theorem on_self {sc p c : Nat} (hp : p ≤ (row sc).length) : (onRow row sc p c sc)[p]? = some c := by
  unfold onRow
  rw [if_pos rfl, List.getElem?_insertIdx, if_neg (Nat.lt_irrefl p), if_pos rfl, if_pos hp]
theorem on_slot {sc p c : Nat} (hO2 : rowOk n (onRow row sc p c)) (hsc : sc < 16) (hp : p ≤ (row sc).length) (h5 : (row sc).length ≤ 5) : slotO (onRow row sc p c) c = some (6 * sc + p) := by
  refine slotO_at hO2.2.2.1 (by omega) ?_
  rw [show (6 * sc + p) / 6 = sc by omega, show (6 * sc + p) % 6 = p by omega]
  exact on_self hp
theorem erase_insert {L : List Nat} {p c : Nat} (h : L[p]? = some c) : (L.eraseIdx p).insertIdx p c = L := by
  have hl := (List.getElem?_eq_some_iff.mp h).1
  have hle : p ≤ (L.eraseIdx p).length := by rw [List.length_eraseIdx, if_pos hl]; omega
  apply List.ext_getElem?
  intro i
  rw [List.getElem?_insertIdx]
  by_cases h1 : i < p
  · rw [if_pos h1, List.getElem?_eraseIdx, if_pos h1]
  · rw [if_neg h1]
    by_cases h2 : i = p
    · subst h2; rw [if_pos rfl, if_pos hle, h]
    · rw [if_neg h2, List.getElem?_eraseIdx, if_neg (by omega)]
      congr 1; omega
theorem on_back {c t : Nat} (hs : slotO row c = some t) : onRow (rowW row c) (t / 6) (t % 6) c = row := by
  have hts := slotO_some hs
  rw [rowW_some hs]
  funext k
  unfold onRow offRow
  by_cases hk : k = t / 6
  · rw [if_pos hk, if_pos hk, hk]; exact erase_insert hts.2
  · rw [if_neg hk, if_neg hk]
theorem rowW_len {c t sc : Nat} (hs : slotO row c = some t) : (rowW row c sc).length = if t / 6 = sc then (row sc).length - 1 else (row sc).length := by
  rw [rowW_some hs]
  exact off_len (slotO_some hs).2
theorem slot_off {c : Nat} (hO : rowOk n row) (hs : slotO row c = none) : ∀ k, k < (pre row 96).length → cd (pre row 96) k ≠ c := by
  intro k hk he
  have h1 := pre_at (row := row) (t := 96) hk
  rw [he] at h1
  exact slotO_none hs _ h1.1 h1.2
theorem slot_on {c t : Nat} (hO : rowOk n row) (hs : slotO row c = some t) : ∃ k, k < (pre row 96).length ∧ cd (pre row 96) k = c ∧ sl (pre row 96) k = t := by
  obtain ⟨k, hk, he⟩ := pre_has hO (slotO_some hs)
  refine ⟨k, hk, he, ?_⟩
  have h1 := pre_at (row := row) (t := 96) hk
  rw [he] at h1
  have h2 := slotO_at hO.2.2.1 h1.1 h1.2
  rw [hs] at h2
  exact (Option.some.inj h2).symm
theorem slot_of {k : Nat} (hO : rowOk n row) (hk : k < (pre row 96).length) : slotO row (cd (pre row 96) k) = some (sl (pre row 96) k) := by
  have h1 := pre_at (row := row) (t := 96) hk
  exact slotO_at hO.2.2.1 h1.1 h1.2
/-- a card fewer on the wall -/
theorem len_off {c t : Nat} (hO : rowOk n row) (hs : slotO row c = some t) : (pre (rowW row c) 96).length + 1 = (pre row 96).length := by
  have hts := slotO_some hs
  have hOW : rowOk n (rowW row c) := rowW_ok hO
  have hb := on_back hs
  have hl := rowW_len (sc := t / 6) hs
  rw [if_pos rfl] at hl
  have h6 := (List.getElem?_eq_some_iff.mp hts.2).1
  obtain ⟨A, B, _, e1, e2, _⟩ := pre_on (row := rowW row c) (sc := t / 6) (p := t % 6) (c := c) hOW (by rw [hb]; exact hO) (by omega) (by omega)
  rw [hb] at e2
  have a := congrArg List.length e1
  have b := congrArg List.length e2
  rw [List.length_map, List.length_append] at a
  rw [List.length_map, List.length_append, List.length_cons] at b
  omega
theorem rowW_off {c : Nat} (hO : rowOk n row) : slotO (rowW row c) c = none := by
  cases h : slotO (rowW row c) c with
  | none => rfl
  | some t => exact absurd (slotO_some h).2 (rowW_no hO t (slotO_some h).1)
/-! the best place -/
theorem bs_min {ok : Nat → Bool} {v : Nat → Nat} : ∀ u, (∀ b m, bs ok v u = some (b, m) → (∃ w, w < u ∧ ok w = true ∧ b = 10 * (w / 6) + w % 6 ∧ m = v w) ∧ ∀ w, w < u → ok w = true → m ≤ v w) ∧ (bs ok v u = none → ∀ w, w < u → ok w = false)
  | 0 => ⟨fun b m h => (by cases h), fun _ w hw => absurd hw (Nat.not_lt_zero _)⟩
  | u + 1 => by
    have ih := bs_min (ok := ok) (v := v) u
    cases hok : ok u with
    | false =>
      rw [bs_n hok]
      refine ⟨fun b m h => ?_, fun h w hw => ?_⟩
      · obtain ⟨⟨w, hw, h1, h2⟩, h3⟩ := ih.1 b m h
        refine ⟨⟨w, by omega, h1, h2⟩, fun x hx hox => ?_⟩
        rcases Nat.lt_or_ge x u with q | q
        · exact h3 x q hox
        · rw [show x = u by omega, hok] at hox; cases hox
      · rcases Nat.lt_or_ge w u with q | q
        · exact ih.2 h w q
        · rw [show w = u by omega]; exact hok
    | true =>
      cases hb : bs ok v u with
      | none =>
        rw [bs_y0 hok hb]
        refine ⟨fun b m h => ?_, fun h => by cases h⟩
        cases h
        refine ⟨⟨u, by omega, hok, rfl, rfl⟩, fun x hx hox => ?_⟩
        rcases Nat.lt_or_ge x u with q | q
        · rw [ih.2 hb x q] at hox; cases hox
        · rw [show x = u by omega]; exact Nat.le_refl _
      | some bm =>
        obtain ⟨b0, m0⟩ := bm
        obtain ⟨⟨w, hw, h1, h2, h3⟩, h4⟩ := ih.1 b0 m0 hb
        rw [bs_y1 hok hb]
        refine ⟨fun b m h => ?_, fun h => by split at h <;> cases h⟩
        by_cases hlt : v u < m0
        · rw [if_pos hlt] at h; cases h
          refine ⟨⟨u, by omega, hok, rfl, rfl⟩, fun x hx hox => ?_⟩
          rcases Nat.lt_or_ge x u with q | q
          · have := h4 x q hox; omega
          · rw [show x = u by omega]; exact Nat.le_refl _
        · rw [if_neg hlt] at h; cases h
          refine ⟨⟨w, by omega, h1, h2, h3⟩, fun x hx hox => ?_⟩
          rcases Nat.lt_or_ge x u with q | q
          · exact h4 x q hox
          · rw [show x = u by omega]; omega
/-- there always is room -/
theorem room_ex (hO : rowOk n row) : ∃ sc, sc < 16 ∧ (row sc).length ≤ 5 := by
  by_cases hx : ∃ sc, sc < 16 ∧ (row sc).length ≤ 5
  · exact hx
  · exfalso
    have hf : ∀ u, u < 96 → occ row u := fun u hu => by
      unfold occ
      rcases Nat.lt_or_ge (row (u / 6)).length 6 with q | q
      · exact absurd ⟨u / 6, by omega, by omega⟩ hx
      · omega
    have := pig n 96 (crd row) (fun i hi => crd_lt hO (hf i hi)) (fun i j hij hj he => by
      have := crd_inj hO (by omega) hj (hf i (by omega)) (hf j hj) he
      omega)
    have := hO.2.2.2
    omega
theorem best_ex {c : Nat} {v : Nat → Nat} (hO : rowOk n row) : ∃ u, u < 96 ∧ okU (rowW row c) u = true ∧ bs (okU (rowW row c)) v 96 = some (10 * (u / 6) + u % 6, v u) ∧ ∀ w, w < 96 → okU (rowW row c) w = true → v u ≤ v w := by
  have hOW : rowOk n (rowW row c) := rowW_ok hO
  have h := bs_min (ok := okU (rowW row c)) (v := v) 96
  cases hb : bs (okU (rowW row c)) v 96 with
  | none =>
    obtain ⟨sc, hsc, h5⟩ := room_ex hOW
    have := h.2 hb (6 * sc + 0) (by omega)
    rw [okU_y (row := rowW row c) (sc := sc) (p := 0) (by omega) ⟨h5, Nat.zero_le _⟩] at this
    cases this
  | some bm =>
    obtain ⟨b, m⟩ := bm
    obtain ⟨⟨w, hw, h1, h2, h3⟩, h4⟩ := h.1 b m hb
    subst h2 h3
    exact ⟨w, hw, h1, rfl, h4⟩
end
