/-! the text, read by the model -/
section
variable {T : Nat → Nat} {len : Nat} {g : Nat → Int32}
theorem m_isSign {post : Int32 → Prop} {p lo hi : Nat} (hT : RT T len g) (hp : p ≤ len) (hlo : lo < 65536) (hhi : hi < 65536) (h : post (bI (decide (p < len ∧ lo ≤ T p ∧ T p ≤ hi)))) : wp_X9_isSign (nI p) (nI lo) (nI hi) (nI len) g post := by
  have hl := hT.1
  have h2 := hT.2.1 p
  unfold wp_X9_isSign
  rw [z_le (by omega) (by omega)]
  refine ⟨fun q => ?_, fun q => ⟨(z_in (by omega)).mpr (by omega), ?_⟩⟩
  · rw [decide_eq_false (by omega)] at h; exact h
  · rw [z_cl (by omega), hT.2.2 p (by omega), z_lt (by omega) (by omega), z_lt (by omega) (by omega)]
    refine ⟨fun q2 => ?_, fun q2 => ⟨(z_in (by omega)).mpr (by omega), fun q3 => ?_, fun q3 => ?_⟩⟩
    · rw [decide_eq_false (by omega)] at h; exact h
    · rw [decide_eq_false (by omega)] at h; exact h
    · rw [decide_eq_true (by omega)] at h; exact h
theorem m_number {post : Int32 → Int32 → Prop} {p lo most : Nat} (hT : RT T len g) (hp : p ≤ len) (hlo1 : lo ≤ 1) (hm1 : 9 ≤ most) (hm2 : most ≤ 9999) (h1 : ∀ v q, numP T len lo most p = some (v, q) → post (nI v) (nI q)) (h2 : numP T len lo most p = none → post (-nI 1) (nI p)) : wp_X9_number (nI lo) (nI most) (nI len) (nI p) g post := by
  have hl := hT.1
  have key : wp_X9_number_j16 (nI most) (nI (48 + lo)) (nI p) (nI len) (nI p) g post := by
    unfold wp_X9_number_j16
    refine m_isSign (hi := 57) hT hp (by omega) (by omega) ?_
    rw [bI_0]
    refine ⟨fun q => ?_, fun q => ?_⟩
    · exact h2 (by unfold numP isD; rw [q]; rfl)
    · have hd : isD T len lo p = true := eq_true_of_ne_false q
      have hd2 := isD_iff.mp hd
      have hP : numP T len lo most p = some (numG T len most (len - (p + 1)) (T p - 48) (p + 1)) := by unfold numP; rw [if_pos hd]
      refine ⟨(z_in (by omega)).mpr (by omega), ?_⟩
      rw [z_cl (by omega), hT.2.2 p hd2.1, l48, z_sub (by omega), l1, z_add]
      unfold wp_X9_number_l49
      refine lf2_i (fun x3 pos => ∃ v q, x3 = nI v ∧ pos = nI q ∧ v ≤ most ∧ q ≤ len ∧ numG T len most (len - q) v q = numG T len most (len - (p + 1)) (T p - 48) (p + 1)) (fun _ pos => len - pos.toNatClampNeg) ⟨T p - 48, p + 1, rfl, rfl, by omega, by omega, rfl⟩ ?_
      rintro x3 pos ⟨v, q, rfl, rfl, hv, hq, hG⟩
      have stop : numG T len most (len - q) v q = (v, q) → post (nI v) (nI q) := by
        intro hs
        rw [hs] at hG
        exact h1 v q (by rw [hP, ← hG])
      have stop2 : ¬ (isD T len 0 q = true ∧ v ≠ 0 ∧ v * 10 + (T q - 48) ≤ most) → post (nI v) (nI q) := by
        intro hs
        refine stop ?_
        rcases Nat.eq_zero_or_pos (len - q) with h0 | h0
        · rw [h0]; rfl
        · rw [show len - q = len - (q + 1) + 1 by omega, numG_s, if_neg hs]
      refine ⟨fun c => stop2 ?_, fun c => ?_⟩
      · rw [l0, z_le (by omega) (by omega)] at c
        exact fun h => h.2.1 (by omega)
      · rw [l0, z_le (by omega) (by omega)] at c
        refine m_isSign (lo := 48) (hi := 57) hT hq (by omega) (by omega) ?_
        rw [bI_0]
        refine ⟨fun c2 => stop2 (fun h => ?_), fun c2 => ?_⟩
        · have h3 : isD T len 0 q = false := c2
          rw [h3] at h; exact absurd h.1 (by decide)
        · have h3 : isD T len 0 q = true := eq_true_of_ne_false c2
          have h4 := isD_iff.mp h3
          refine ⟨(z_in (by omega)).mpr (by omega), ?_⟩
          rw [z_cl (by omega), hT.2.2 q h4.1, l10, z_mul, z_add, l48, z_sub (by omega), z_lt (by omega) (by omega), l1, z_add]
          have e1 : 10 * v + T q - 48 = v * 10 + (T q - 48) := by omega
          rw [e1]
          refine ⟨fun c3 => stop2 (fun h => by omega), fun c3 => ⟨(z_in (by omega)).mpr (by omega), ⟨v * 10 + (T q - 48), q + 1, rfl, rfl, by omega, by omega, ?_⟩, by simp (disch := omega) only [z_cl]; omega⟩⟩
          rw [← hG, show len - q = len - (q + 1) + 1 by omega, numG_s, if_pos ⟨h3, by omega, by omega⟩]
  unfold wp_X9_number
  rcases (show lo = 0 ∨ lo = 1 by omega) with rfl | rfl
  · exact ⟨fun _ => key, fun c => absurd rfl c⟩
  · exact ⟨fun c => absurd c (by decide), fun _ => key⟩
theorem m_comma {post : Int32 → Int32 → Prop} {p : Nat} (hT : RT T len g) (hp : p ≤ len) (h1 : isAt T len 44 p = true → post 1 (nI (p + 1))) (h2 : isAt T len 44 p = false → post 0 (nI p)) : wp_X9_comma (nI len) (nI p) g post := by
  unfold wp_X9_comma
  refine m_isSign (lo := 44) (hi := 44) hT hp (by omega) (by omega) ?_
  have e : decide (p < len ∧ 44 ≤ T p ∧ T p ≤ 44) = isAt T len 44 p := by
    unfold isAt
    exact decide_eq_decide.mpr (by omega)
  rw [e, bI_0]
  refine ⟨fun q => ?_, fun q => ?_⟩
  · rw [q]; refine ⟨Or.inl rfl, ?_⟩
    have := h2 q
    rw [l0, z_add]; exact this
  · have q1 : isAt T len 44 p = true := eq_true_of_ne_false q
    rw [q1]; refine ⟨Or.inr rfl, ?_⟩
    rw [l1, z_add]; exact h1 q1
/-- the cards read so far -/
def RRe (cs : List (Nat → Nat)) (rd : Nat → Int32) : Prop := ∀ c, c < cs.length → ∀ k, k < 5 → rd (5 * c + k) = nI (cN cs c k)
theorem RRe_up {cs : List (Nat → Nat)} {rd : Nat → Int32} {i : Nat} {x : Int32} (h : RRe cs rd) (hi : 5 * cs.length ≤ i) : RRe cs (upd rd i x) := by
  intro c hc k hk
  rw [z_up_n (by omega)]; exact h c hc k hk
theorem m_card179 {a b c d e p : Nat} {rd : Nat → Int32} {cs : List (Nat → Nat)} {post : Int32 → Int32 → Int32 → (Nat → Int32) → Prop} (hp : p ≤ 60) (hn : cs.length ≤ 9) (he : e ≤ 1) (hR : RRe cs rd) (h0 : rd (5 * cs.length) = nI a) (h1 : rd (5 * cs.length + 1) = nI b) (h2 : rd (5 * cs.length + 2) = nI c) (h3 : rd (5 * cs.length + 3) = nI d) (h : ∀ rd, RRe (cs ++ [mkC a b c d e]) rd → post 1 (nI (p + e)) (nI (cs.length + 1)) rd) : wp_X9_readsCard_j179 (nI (5 * cs.length)) (nI e) (nI (5 * cs.length + 4)) (nI len) (nI p) (nI cs.length) rd g post := by
  unfold wp_X9_readsCard_j179
  refine ⟨(z_in (by omega)).mpr (by omega), ?_⟩
  have e4 : nI (5 * cs.length) + 4 = nI (5 * cs.length + 4) := by rw [l4, z_add]
  rw [e4]
  refine ⟨(z_in (by omega)).mpr (by omega), ?_⟩
  rw [z_cl (by omega), z_up_s, z_add, l1, z_add]
  refine h _ (fun i hi k hk => ?_)
  rw [List.length_append, List.length_singleton] at hi
  rcases Nat.lt_or_ge i cs.length with r | r
  · rw [z_up_n (by omega), cN_l r]; exact hR i r k hk
  · rw [show i = cs.length by omega, cN_e]
    rcases (show k = 0 ∨ k = 1 ∨ k = 2 ∨ k = 3 ∨ k = 4 by omega) with rfl | rfl | rfl | rfl | rfl
    · rw [z_up_n (by omega)]; exact h0
    · rw [z_up_n (by omega)]; exact h1
    · rw [z_up_n (by omega)]; exact h2
    · rw [z_up_n (by omega)]; exact h3
    · rw [z_up_s]; rfl
theorem m_readsCard {p : Nat} {rd : Nat → Int32} {cs : List (Nat → Nat)} {post : Int32 → Int32 → Int32 → (Nat → Int32) → Prop} (hT : RT T len g) (hp : p ≤ len) (hn : cs.length ≤ 9) (hR : RRe cs rd) (h1 : ∀ c q rd, rdCard T len p = (some c, q) → RRe (cs ++ [c]) rd → post 1 (nI q) (nI (cs.length + 1)) rd) (h2 : ∀ q rd, rdCard T len p = (none, q) → RRe cs rd → post 0 (nI q) (nI cs.length) rd) : wp_X9_readsCard (nI len) (nI p) (nI cs.length) rd g post := by
  have hl := hT.1
  unfold wp_X9_readsCard
  simp (disch := omega) only [l0, l1, l2, l3, l4, l5, z_mul, z_add, z_cl, z_up_s]
  refine m_isSign (lo := 65) (hi := 70) hT hp (by omega) (by omega) ?_
  have hz : ∀ b : Bool, (bI b = nI 0) ↔ b = false := fun b => bI_0
  rw [hz]
  refine ⟨fun q => ?_, fun q => ?_⟩
  · have h0 : ¬ (p < len ∧ 65 ≤ T p ∧ T p ≤ 70) := of_decide_eq_false q
    unfold rdCard at h2
    rw [if_neg h0] at h2
    exact h2 _ _ rfl hR
  · have h0 : p < len ∧ 65 ≤ T p ∧ T p ≤ 70 := of_decide_eq_true (eq_true_of_ne_false q)
    unfold rdCard at h1 h2
    rw [if_pos h0] at h1 h2
    refine ⟨(z_in (by omega)).mpr (by omega), (z_in (by omega)).mpr (by omega), ?_⟩
    rw [hT.2.2 p h0.1, l65, z_sub (by omega)]
    have u0 := RRe_up (x := nI (T p - 65)) hR (i := 5 * cs.length) (by omega)
    refine m_number (lo := 0) (most := 9999) hT (by omega) (by omega) (by omega) (by omega) (fun v1 p1 hn1 => ?_) (fun hn1 => ?_)
    · have k1 := numP_ok (by decide) hn1
      rw [hn1] at h1 h2; dsimp only at h1 h2
      have u1 := RRe_up (x := nI v1) u0 (i := 5 * cs.length + 1) (by omega)
      refine ⟨(z_in (by omega)).mpr (by omega), (z_in (by omega)).mpr (by omega), fun c => absurd c (by rw [z_lt (by omega) (by omega)]; omega), fun _ => ?_⟩
      refine m_comma hT k1.2.2.1 (fun a1 => ?_) (fun a1 => ?_)
      · have b1 := isAt_iff.mp a1
        rw [if_pos a1] at h1 h2
        refine ⟨fun c => absurd c (by decide), fun _ => ?_⟩
        refine m_number (lo := 1) (most := 999) hT (by omega) (by omega) (by omega) (by omega) (fun v2 p2 hn2 => ?_) (fun hn2 => ?_)
        · have k2 := numP_ok (by decide) hn2
          rw [hn2] at h1 h2; dsimp only at h1 h2
          have u2 := RRe_up (x := nI v2) u1 (i := 5 * cs.length + 2) (by omega)
          refine ⟨(z_in (by omega)).mpr (by omega), (z_in (by omega)).mpr (by omega), fun c => absurd c (by rw [z_lt (by omega) (by omega)]; omega), fun _ => ?_⟩
          refine m_comma hT k2.2.2.1 (fun a2 => ?_) (fun a2 => ?_)
          · have b2 := isAt_iff.mp a2
            rw [if_pos a2] at h1 h2
            refine ⟨fun c => absurd c (by decide), fun _ => ?_⟩
            refine m_number (lo := 0) (most := 100) hT (by omega) (by omega) (by omega) (by omega) (fun v3 p3 hn3 => ?_) (fun hn3 => ?_)
            · have k3 := numP_ok (by decide) hn3
              rw [hn3] at h1 h2; dsimp only at h1 h2
              have u3 := RRe_up (x := nI v3) u2 (i := 5 * cs.length + 3) (by omega)
              refine ⟨(z_in (by omega)).mpr (by omega), (z_in (by omega)).mpr (by omega), fun _ => ?_, fun c => absurd (by rw [z_le (by omega) (by omega)]; omega) c⟩
              refine m_isSign (lo := 42) (hi := 42) hT k3.2.2.1 (by omega) (by omega) ?_
              have e : decide (p3 < len ∧ 42 ≤ T p3 ∧ T p3 ≤ 42) = isAt T len 42 p3 := by
                unfold isAt
                exact decide_eq_decide.mpr (by omega)
              rw [e, hz]
              have w0 : (upd (upd (upd (upd rd (5 * cs.length) (nI (T p - 65))) (5 * cs.length + 1) (nI v1)) (5 * cs.length + 2) (nI v2)) (5 * cs.length + 3) (nI v3)) (5 * cs.length) = nI (T p - 65) := by
                rw [z_up_n (by omega), z_up_n (by omega), z_up_n (by omega), z_up_s]
              have w1 : (upd (upd (upd (upd rd (5 * cs.length) (nI (T p - 65))) (5 * cs.length + 1) (nI v1)) (5 * cs.length + 2) (nI v2)) (5 * cs.length + 3) (nI v3)) (5 * cs.length + 1) = nI v1 := by
                rw [z_up_n (by omega), z_up_n (by omega), z_up_s]
              have w2 : (upd (upd (upd (upd rd (5 * cs.length) (nI (T p - 65))) (5 * cs.length + 1) (nI v1)) (5 * cs.length + 2) (nI v2)) (5 * cs.length + 3) (nI v3)) (5 * cs.length + 2) = nI v2 := by
                rw [z_up_n (by omega), z_up_s]
              refine ⟨fun a3 => ?_, fun a3 => ?_⟩
              · rw [if_neg (by rw [a3]; decide)] at h1
                refine m_card179 (e := 0) (by omega) hn (by omega) u3 w0 w1 w2 z_up_s (fun rd hrd => h1 _ _ rd rfl hrd)
              · rw [if_pos (eq_true_of_ne_false a3)] at h1
                refine m_card179 (e := 1) (by omega) hn (by omega) u3 w0 w1 w2 z_up_s (fun rd hrd => h1 _ _ rd rfl hrd)
            · rw [hn3] at h2; dsimp only at h2
              refine ⟨(z_in (by omega)).mpr (by omega), (z_in (by omega)).mpr (by omega), fun c => absurd c (by decide), fun _ => h2 _ _ rfl (RRe_up u2 (by omega))⟩
          · rw [if_neg (by rw [a2]; decide)] at h2
            exact ⟨fun _ => h2 _ _ rfl u2, fun c => absurd rfl c⟩
        · rw [hn2] at h2; dsimp only at h2
          exact ⟨(z_in (by omega)).mpr (by omega), (z_in (by omega)).mpr (by omega), fun _ => h2 _ _ rfl (RRe_up u1 (by omega)), fun c => absurd (by decide) c⟩
      · rw [if_neg (by rw [a1]; decide)] at h2
        exact ⟨fun _ => h2 _ _ rfl u1, fun c => absurd rfl c⟩
    · rw [hn1] at h2; dsimp only at h2
      exact ⟨(z_in (by omega)).mpr (by omega), (z_in (by omega)).mpr (by omega), fun _ => h2 _ _ rfl (RRe_up u0 (by omega)), fun c => absurd (by decide) c⟩
theorem m_faultOf {y z : Int32} {rd : Nat → Int32} {post : Int32 → Int32 → Int32 → (Nat → Int32) → Prop} (hT : RT T len g) (h1 : ∀ cs q y rd, rdAll T len = (some cs, q) → RRe cs rd → post (-nI 1) y (nI cs.length) rd) (h2 : ∀ q y z rd, rdAll T len = (none, q) → post (nI q) y z rd) : wp_X9_faultOf (nI len) y z rd g post := by
  have hl := hT.1
  unfold wp_X9_faultOf
  unfold rdAll at h1 h2
  refine m_readsCard (cs := []) (p := 0) hT (by omega) (by decide) (fun c hc => absurd hc (Nat.not_lt_zero _)) (fun c q rd hc hf => ?_) (fun q rd hc _ => ?_)
  · rw [hc] at h1 h2; dsimp only at h1 h2
    have hk := rdCard_ok hc
    unfold wp_X9_faultOf_l15
    refine lf4_i (fun ok pos n rd => ∃ p, pos = nI p ∧ p ≤ len ∧ ((ok = nI 1 ∧ ∃ cs fu, n = nI cs.length ∧ len ≤ p + fu ∧ 7 * cs.length ≤ p + 1 ∧ RRe cs rd ∧ rdGo T len fu p cs = rdGo T len 60 q [c]) ∨ (ok = nI 0 ∧ rdGo T len 60 q [c] = (none, p)))) (fun ok pos _ _ => if ok = nI 0 then 0 else len + 1 - pos.toNatClampNeg) ⟨q, rfl, hk.2.1, Or.inl ⟨rfl, [c], 60, rfl, by omega, by simp; omega, hf, rfl⟩⟩ ?_
    clear hf rd
    rintro ok pos n rd ⟨p, rfl, hp, hor⟩
    rcases hor with ⟨rfl, cs, fu, rfl, hlen, h7, hRe, hgo⟩ | ⟨rfl, hn⟩
    · have hm : (if nI 1 = nI 0 then 0 else len + 1 - (nI p).toNatClampNeg) = len + 1 - p := by rw [if_neg (by decide), z_cl (by omega)]
      refine ⟨fun c => absurd c (by decide), fun _ => ⟨fun hx => ?_, fun hx => ?_⟩⟩
      · rw [z_le (by omega) (by omega)] at hx
        rw [rdGo_end hx] at hgo
        unfold wp_X9_faultOf_j72
        exact ⟨fun c => absurd c (by decide), fun _ => h1 cs p _ _ hgo.symm hRe⟩
      · rw [z_le (by omega) (by omega)] at hx
        cases fu with
        | zero => omega
        | succ fu =>
          rw [rdGo_s, if_neg hx] at hgo
          refine ⟨(z_in (by omega)).mpr (by omega), ?_⟩
          have h3 := hT.2.1 p
          rw [hm, z_cl (by omega), hT.2.2 p (by omega), l59, z_eq (by omega) (by omega)]
          unfold wp_X9_faultOf_j49
          refine ⟨fun q1 => ?_, fun q1 => ?_⟩
          · rw [if_pos q1] at hgo
            refine ⟨fun c => absurd c (by decide), fun _ => ?_⟩
            rw [l1, z_add]
            refine m_readsCard (p := p + 1) hT (by omega) (by omega) hRe (fun c2 q2 rd2 hc2 hf2 => ?_) (fun q2 rd2 hc2 _ => ?_)
            · have hk2 := rdCard_ok hc2
              rw [hc2] at hgo; dsimp only at hgo
              refine ⟨⟨q2, rfl, hk2.2.1, Or.inl ⟨rfl, cs ++ [c2], fu, by rw [List.length_append, List.length_singleton], by omega, by simp; omega, hf2, hgo⟩⟩, ?_⟩
              rw [if_neg (by decide), z_cl (by omega)]; omega
            · rw [hc2] at hgo; dsimp only at hgo
              have hle := rdCard_le (T := T) (len := len) (p := p + 1) (by omega)
              rw [hc2] at hle
              refine ⟨⟨q2, rfl, hle.2, Or.inr ⟨rfl, hgo.symm⟩⟩, ?_⟩
              rw [if_pos (show (0 : Int32) = nI 0 from rfl)]; omega
          · rw [if_neg q1] at hgo
            refine ⟨fun _ => ⟨⟨p, rfl, hp, Or.inr ⟨rfl, hgo.symm⟩⟩, ?_⟩, fun c => absurd rfl c⟩
            rw [if_pos (show (0 : Int32) = nI 0 from rfl)]; omega
    · refine ⟨fun _ => ?_, fun c => absurd rfl c⟩
      unfold wp_X9_faultOf_j72
      exact ⟨fun _ => h2 p _ _ _ hn, fun c => absurd rfl c⟩
  · rw [hc] at h2; dsimp only at h2
    unfold wp_X9_faultOf_l15
    refine lf4_i (fun ok pos _ _ => pos = nI q ∧ ok = nI 0) (fun _ _ _ _ => 0) ⟨rfl, rfl⟩ ?_
    rintro ok pos n rd ⟨rfl, rfl⟩
    refine ⟨fun _ => ?_, fun c => absurd rfl c⟩
    unfold wp_X9_faultOf_j72
    exact ⟨fun _ => h2 q _ _ _ rfl, fun c => absurd rfl c⟩
end
