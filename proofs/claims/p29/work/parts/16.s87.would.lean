/-! what a move would make -/
section
variable {n : Nat} {num : Nat → Nat → Nat} {row : Nat → List Nat} {st : Nat → Nat} {s : Nat → Int32} {c : Nat}
/-- all breaks -/
def tB (num : Nat → Nat → Nat) (st : Nat → Nat) (row : Nat → List Nat) : Nat := tallyF num st (pre row 96) 12 none none
theorem tB_le (hO : rowOk n row) (hN : numOk n num) : tB num st row ≤ 40 := by
  have hD := RRd_pre hO hN
  have hl := hD.1.1
  unfold tB
  generalize pre row 96 = L at hD hl
  have h := sumN_le (b := 1) (f := fun k => if fits none (num (cd L k) 0) && fits none (sl L k / 6) then worthF num st L 12 k else 0) L.length (fun k hk => by
    show (if _ then b2n (isBrk num L k) else 0) ≤ 1
    have := b2n_le (isBrk num L k)
    split <;> omega)
  show sumN _ _ ≤ 40
  omega
theorem s_made_eq {sc p : Nat} (hN : numOk n num) (hO : rowOk n row) (hO2 : rowOk n (onRow row sc p c)) (hc : c < n) (hsc : sc < 16) (hp : p ≤ (row sc).length) : (num c 4 ≠ 0 → tB num st (onRow row sc p c) = tB num st row) ∧ (num c 4 = 0 → ∀ e, e ≤ (flt (pS num (pre row 96) (num c 0)) (pre row 96).length).length → (∀ i, i < e → (flt (pS num (pre row 96) (num c 0)) (pre row 96).length).getD i 0 < (pre row (6 * sc + p)).length) → (∀ i, e ≤ i → i < (flt (pS num (pre row 96) (num c 0)) (pre row 96).length).length → (pre row (6 * sc + p)).length ≤ (flt (pS num (pre row 96) (num c 0)) (pre row 96).length).getD i 0) → tB num st (onRow row sc p c) + dltM (HR num (pre row 96) (flt (pS num (pre row 96) (num c 0)) (pre row 96).length)) (flt (pS num (pre row 96) (num c 0)) (pre row 96).length).length e = tB num st row + dltP (HR num (pre row 96) (flt (pS num (pre row 96) (num c 0)) (pre row 96).length)) (flt (pS num (pre row 96) (num c 0)) (pre row 96).length).length e (num c 1)) := by
  have hD := RRd_pre hO hN
  have hD2 := RRd_pre hO2 hN
  obtain ⟨A, B, hA, e1, e2, e3⟩ := pre_on hO hO2 hsc hp
  have hcc := hN c hc
  have key := tally_in (st := st) (T6_of hD) (T6_of hD2) (show num c 0 < 6 by omega) e1 e2
  unfold tB
  generalize (pre row (6 * sc + p)).length = r at hA e3 ⊢
  generalize pre row 96 = L at hD e1 e3 key ⊢
  generalize pre (onRow row sc p c) 96 = L2 at e2 key ⊢
  have hr : r ≤ L.length := by
    have q := congrArg List.length e1
    rw [List.length_map, List.length_append] at q; omega
  refine ⟨key.1, fun q e he h1 h2 => ?_⟩
  have hcut := flt_cut hr he h1 h2
  have hA2 : (FL num (num c 0) A).length = e := by
    rw [hcut, e3, ← flt_map r hr, List.length_map]
  have k2 := key.2 q
  have dc := dlt_congr (h := num c 1) he (fun i hi => HF_HR (num := num) (L := L) (t := num c 0) hi)
  rw [← e1, FL_len, hA2, ← dc.1, ← dc.2] at k2
  exact k2
theorem flt_lt_of {q : Nat → Bool} {m r : Nat} (hr : r ≤ m) : (flt q r).length ≤ (flt q m).length ∧ (∀ i, i < (flt q r).length → (flt q m).getD i 0 < r) ∧ (∀ i, (flt q r).length ≤ i → i < (flt q m).length → r ≤ (flt q m).getD i 0) := by
  obtain ⟨X, hX, hx⟩ := flt_app (p := q) (r := r) (m - r)
  rw [show r + (m - r) = m by omega] at hX
  rw [hX, List.length_append]
  refine ⟨by omega, fun i hi => ?_, fun i h1 h2 => ?_⟩
  · rw [getD_l hi]; exact (flt_at hi).1
  · rw [List.getD_eq_getElem?_getD, List.getElem?_append_right h1, getD_some (d := 0) (show i - (flt q r).length < X.length by omega)]
    exact hx _ (getD_mem (by omega))
theorem s_made_ge {sc p : Nat} (hN : numOk n num) (hO : rowOk n row) (hO2 : rowOk n (onRow row sc p c)) (hc : c < n) (hsc : sc < 16) (hp : p ≤ (row sc).length) : tB num st row ≤ tB num st (onRow row sc p c) := by
  have key := s_made_eq (st := st) hN hO hO2 hc hsc hp
  have hr : (pre row (6 * sc + p)).length ≤ (pre row 96).length := by
    obtain ⟨X, hX⟩ := pre_pref (row := row) (t := 6 * sc + p) (96 - (6 * sc + p))
    have h6 := hO.1 sc
    rw [show 6 * sc + p + (96 - (6 * sc + p)) = 96 by omega] at hX
    have q := congrArg List.length hX
    rw [List.length_append] at q; omega
  generalize (pre row (6 * sc + p)).length = r at hr key
  generalize pre row 96 = L at hr key
  by_cases h4 : num c 4 = 0
  · obtain ⟨a, b, d⟩ := flt_lt_of (q := pS num L (num c 0)) hr
    have k := key.2 h4 _ a b d
    have dl := dlt_le (HR num L (flt (pS num L (num c 0)) L.length)) (flt (pS num L (num c 0)) L.length).length (flt (pS num L (num c 0)) r).length (num c 1)
    omega
  · have k := key.1 h4
    omega
theorem s_made8 {f : Nat → Int32} {gz : Int32} {ra ca ho so : Nat → Int32} {sc p : Nat} {post : Int32 → Prop} (hP : RCd n num (nI n) f) (hN : numOk n num) (hO : rowOk n row) (hO2 : rowOk n (onRow row sc p c)) (hc : c < n) (hsc : sc < 16) (hp : p ≤ (row sc).length) (hG : RG num (pre row 96) (flt (pS num (pre row 96) (num c 0)) (pre row 96).length) gz ra ca ho so) (h : tB num st row ≤ tB num st (onRow row sc p c) → post (nI (tB num st (onRow row sc p c) - tB num st row))) : wp_X8_breaksMadeBy (nI c) (nI (pre row (6 * sc + p)).length) (nI n) f gz ra ho post := by
  have hn := hO.2.2.2
  have hD := RRd_pre hO hN
  have hcc := hN c hc
  have key := s_made_eq (st := st) hN hO hO2 hc hsc hp
  have h1 := h (s_made_ge hN hO hO2 hc hsc hp)
  have hRGo := RGo_flt (t := num c 0) hD
  have hr := pre_le (t := 6 * sc + p) hO (by have h6 := hO.1 sc; omega)
  clear h
  generalize (pre row (6 * sc + p)).length = r at key hr ⊢
  generalize pre row 96 = L at hD hG key hRGo
  unfold wp_X8_breaksMadeBy
  refine s_number (k := 4) hP hn hc (by omega) ?_
  rw [l1, z_eq (by omega) (by omega)]
  refine ⟨fun q => ?_, fun q => ?_⟩
  · have e := key.1 (by omega)
    rw [e, Nat.sub_self] at h1
    exact h1
  · refine s_number (k := 1) hP hn hc (by omega) ?_
    refine s_made (h := num c 1) (r := r) hRGo hG hcc.2.1 (by omega) (fun e he a b => ?_)
    have k2 := key.2 (by omega) e he a b
    have dl := dlt_le (HR num L (flt (pS num L (num c 0)) L.length)) (flt (pS num L (num c 0)) L.length).length e (num c 1)
    have k4 : tB num st (onRow row sc p c) - tB num st row = dltP (HR num L (flt (pS num L (num c 0)) L.length)) (flt (pS num L (num c 0)) L.length).length e (num c 1) - dltM (HR num L (flt (pS num L (num c 0)) L.length)) (flt (pS num L (num c 0)) L.length).length e := by omega
    rw [k4] at h1
    exact h1
theorem s_readW {f g t tr : Nat → Int32} {x y size csize gz : Int32} {cnum names slots ahead sAhead last lastS ra ca ho so : Nat → Int32} {post : (Nat → Int32) → Int32 → Int32 → Int32 → Int32 → (Nat → Int32) → (Nat → Int32) → (Nat → Int32) → (Nat → Int32) → (Nat → Int32) → (Nat → Int32) → (Nat → Int32) → Int32 → (Nat → Int32) → (Nat → Int32) → (Nat → Int32) → (Nat → Int32) → Prop} (hP : RCd n num (nI n) f) (hN : numOk n num) (hS : RS st t) (hW : RW row g) (hO : rowOk n row) (hc : c < n) (h : ∀ tr size csize cnum names slots ahead sAhead last lastS gz ra ca ho so, RW (rowW row c) tr → RR num (pre (rowW row c) 96) size csize cnum names slots ahead sAhead → RG num (pre (rowW row c) 96) (flt (pS num (pre (rowW row c) 96) (num c 0)) (pre (rowW row c) 96).length) gz ra ca ho so → post tr (nI (st 0)) (nI (st 1)) size csize cnum names slots ahead sAhead last lastS gz ra ca ho so) : wp_X8_readWithout (nI c) (nI n) f g t tr x y size csize cnum names slots ahead sAhead last lastS gz ra ca ho so post := by
  have hn := hO.2.2.2
  have hcc := hN c hc
  have hD := RRd_pre (rowW_ok (c := c) hO) hN
  unfold wp_X8_readWithout
  refine s_copyWall hW (fun g1 hg1 => s_takeOffW hg1 hO hc (fun g2 hg2 => ?_))
  refine s_read3 hP hN hS hg2 (rowW_ok hO) (fun size csize cnum names slots ahead sAhead last lastS hRR => ?_)
  have h2 := h g2
  clear h
  generalize pre (rowW row c) 96 = L at h2 hD hRR
  refine s_number (k := 0) hP hn hc (by omega) ?_
  refine s_gather hD hRR (show num c 0 < 6 by omega) (fun gz ra ca ho so hG => ?_)
  exact h2 _ _ _ _ _ _ _ _ _ _ _ _ _ _ hg2 hRR hG
end
