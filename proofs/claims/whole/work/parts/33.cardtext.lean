/-! the cards of the text -/
theorem rdCard_ok {T : Nat → Nat} {len p q : Nat} {c : Nat → Nat} (h : rdCard T len p = (some c, q)) : p + 6 ≤ q ∧ q ≤ len ∧ c 0 ≤ 5 ∧ c 1 ≤ 9999 ∧ 1 ≤ c 2 ∧ c 2 ≤ 999 ∧ c 3 ≤ 100 ∧ c 4 ≤ 1 := by
  unfold rdCard at h
  by_cases h0 : p < len ∧ 65 ≤ T p ∧ T p ≤ 70
  · rw [if_pos h0] at h
    cases hn1 : numP T len 0 9999 (p + 1) with
    | none => rw [hn1] at h; cases h
    | some r1 =>
      obtain ⟨v1, p1⟩ := r1
      have k1 := numP_ok (by decide) hn1
      rw [hn1] at h; dsimp only at h
      by_cases a1 : isAt T len 44 p1 = true
      · rw [if_pos a1] at h
        cases hn2 : numP T len 1 999 (p1 + 1) with
        | none => rw [hn2] at h; cases h
        | some r2 =>
          obtain ⟨v2, p2⟩ := r2
          have k2 := numP_ok (by decide) hn2
          rw [hn2] at h; dsimp only at h
          by_cases a2 : isAt T len 44 p2 = true
          · rw [if_pos a2] at h
            cases hn3 : numP T len 0 100 (p2 + 1) with
            | none => rw [hn3] at h; cases h
            | some r3 =>
              obtain ⟨v3, p3⟩ := r3
              have k3 := numP_ok (by decide) hn3
              rw [hn3] at h; dsimp only at h
              have k4 := k2.2.2.2 rfl
              by_cases a3 : isAt T len 42 p3 = true
              · rw [if_pos a3] at h
                have a4 := isAt_iff.mp a3
                cases h
                refine ⟨by omega, by omega, ?_, k1.1, k4, k2.1, k3.1, ?_⟩
                · show T p - 65 ≤ 5; omega
                · show (1 : Nat) ≤ 1; omega
              · rw [if_neg a3] at h
                cases h
                refine ⟨by omega, by omega, ?_, k1.1, k4, k2.1, k3.1, ?_⟩
                · show T p - 65 ≤ 5; omega
                · show (0 : Nat) ≤ 1; omega
          · rw [if_neg a2] at h; cases h
      · rw [if_neg a1] at h; cases h
  · rw [if_neg h0] at h; cases h
theorem rdCard_le {T : Nat → Nat} {len p : Nat} (hp : p ≤ len) : p ≤ (rdCard T len p).2 ∧ (rdCard T len p).2 ≤ len := by
  unfold rdCard
  by_cases h0 : p < len ∧ 65 ≤ T p ∧ T p ≤ 70
  · rw [if_pos h0]
    cases hn1 : numP T len 0 9999 (p + 1) with
    | none => dsimp only; omega
    | some r1 =>
      obtain ⟨v1, p1⟩ := r1
      have k1 := numP_ok (by decide) hn1
      dsimp only
      by_cases a1 : isAt T len 44 p1 = true
      · rw [if_pos a1]
        have b1 := isAt_iff.mp a1
        cases hn2 : numP T len 1 999 (p1 + 1) with
        | none => dsimp only; omega
        | some r2 =>
          obtain ⟨v2, p2⟩ := r2
          have k2 := numP_ok (by decide) hn2
          dsimp only
          by_cases a2 : isAt T len 44 p2 = true
          · rw [if_pos a2]
            have b2 := isAt_iff.mp a2
            cases hn3 : numP T len 0 100 (p2 + 1) with
            | none => dsimp only; omega
            | some r3 =>
              obtain ⟨v3, p3⟩ := r3
              have k3 := numP_ok (by decide) hn3
              dsimp only
              by_cases a3 : isAt T len 42 p3 = true
              · rw [if_pos a3]
                have a4 := isAt_iff.mp a3
                dsimp only; omega
              · rw [if_neg a3]; dsimp only; omega
          · rw [if_neg a2]; dsimp only; omega
      · rw [if_neg a1]; dsimp only; omega
  · rw [if_neg h0]; dsimp only; omega
def cN (cs : List (Nat → Nat)) : Nat → Nat → Nat := fun c k => cs.getD c (fun _ => 0) k
theorem cN_l {cs : List (Nat → Nat)} {x : Nat → Nat} {c : Nat} (h : c < cs.length) : cN (cs ++ [x]) c = cN cs c := by
  funext k; unfold cN; rw [getD_l h]
theorem cN_e {cs : List (Nat → Nat)} {x : Nat → Nat} : cN (cs ++ [x]) cs.length = x := by
  funext k; unfold cN; rw [getD_e]
theorem mkC_num5 {num : Nat → Nat → Nat} {n a b c d e k : Nat} : num5 num n a b c d e n k = mkC a b c d e k := by
  unfold num5
  rw [if_pos rfl]
  rcases k with _ | _ | _ | _ | k <;> rfl
section
variable {T : Nat → Nat} {len : Nat} {g : Nat → Int32}
theorem s_card68F {x1 x2 x3 x4 x5 y z size : Int32} {f : Nat → Int32} {post : Int32 → Int32 → Int32 → (Nat → Int32) → Prop} (h : post y 1 size f) : wp_X0_readCard_j68 x1 x2 x3 x4 x5 z y 1 g size f post := by
  unfold wp_X0_readCard_j68
  exact ⟨fun q => absurd q (by decide), fun _ => h⟩
theorem s_card68 {a b c d e : Nat} {y z size : Int32} {f : Nat → Int32} {cs : List (Nat → Nat)} {post : Int32 → Int32 → Int32 → (Nat → Int32) → Prop} (hR : RCd cs.length (cN cs) size f) (h40 : cs.length < 40) (h : ∀ size f, RCd (cs.length + 1) (cN (cs ++ [mkC a b c d e])) size f → post y 0 size f) : wp_X0_readCard_j68 (nI a) (nI b) (nI c) (nI d) (nI e) z y 0 g size f post := by
  unfold wp_X0_readCard_j68
  refine ⟨fun _ => s_append hR h40 (fun f' hf' => h _ _ ⟨rfl, fun i hi k hk => ?_⟩), fun q => absurd rfl q⟩
  rw [hf'.2 i hi k hk]
  by_cases he : i = cs.length
  · subst he; rw [mkC_num5, cN_e]
  · rw [cN_l (by omega)]
    unfold num5; rw [if_neg he]
theorem s_readCard0 {p : Nat} {size : Int32} {f : Nat → Int32} {cs : List (Nat → Nat)} {post : Int32 → Int32 → Int32 → (Nat → Int32) → Prop} (hT : RT T len g) (hp : p ≤ len) (hR : RCd cs.length (cN cs) size f) (h40 : cs.length < 40) (h1 : ∀ c q size f, rdCard T len p = (some c, q) → RCd (cs.length + 1) (cN (cs ++ [c])) size f → post (nI q) 0 size f) (h2 : ∀ q, rdCard T len p = (none, q) → post (nI q) 1 size f) : wp_X0_readCard (nI len) (nI p) 0 g size f post := by
  unfold wp_X0_readCard
  have g1 : gLEAST 1 = nI 0 ∧ gMOST 1 = nI 9999 := ⟨rfl, rfl⟩
  have g2 : gLEAST 2 = nI 1 ∧ gMOST 2 = nI 999 := ⟨rfl, rfl⟩
  have g3 : gLEAST 3 = nI 0 ∧ gMOST 3 = nI 100 := ⟨rfl, rfl⟩
  refine s_readThread hT hp (fun h0 => ?_) (fun h0 x => ?_)
  · unfold rdCard at h1 h2
    rw [if_pos h0] at h1 h2
    refine s_readNumber (kind := 1) hT (by omega) (by omega) g1.1 g1.2 (by omega) (by omega) (by omega) (fun v1 p1 hn1 => ?_) (fun hn1 => ?_)
    · have k1 := numP_ok (by decide) hn1
      rw [hn1] at h1 h2; dsimp only at h1 h2
      refine s_readSign (c := 44) hT k1.2.2.1 (by omega) (fun a1 => ?_) (fun a1 => ?_)
      · have b1 := isAt_iff.mp a1
        rw [if_pos a1] at h1 h2
        refine s_readNumber (kind := 2) hT (by omega) (by omega) g2.1 g2.2 (by omega) (by omega) (by omega) (fun v2 p2 hn2 => ?_) (fun hn2 => ?_)
        · have k2 := numP_ok (by decide) hn2
          rw [hn2] at h1 h2; dsimp only at h1 h2
          refine s_readSign (c := 44) hT k2.2.2.1 (by omega) (fun a2 => ?_) (fun a2 => ?_)
          · have b2 := isAt_iff.mp a2
            rw [if_pos a2] at h1 h2
            refine s_readNumber (kind := 3) hT (by omega) (by omega) g3.1 g3.2 (by omega) (by omega) (by omega) (fun v3 p3 hn3 => ?_) (fun hn3 => ?_)
            · have k3 := numP_ok (by decide) hn3
              rw [hn3] at h1 h2; dsimp only at h1 h2
              refine ⟨fun _ => s_isAhead (c := 42) hT k3.2.2.1 (by omega) ?_, fun q => absurd rfl q⟩
              rw [bI_0]
              refine ⟨fun a3 => ?_, fun a3 => ?_⟩
              · rw [if_neg (by rw [a3]; decide)] at h1
                exact s_card68 (e := 0) hR h40 (fun size f hf => h1 _ _ size f rfl hf)
              · rw [if_pos (eq_true_of_ne_false a3)] at h1
                rw [l1, z_add]
                exact s_card68 hR h40 (fun size f hf => h1 _ _ size f rfl hf)
            · rw [hn3] at h2; dsimp only at h2
              refine ⟨fun q => absurd q (by decide), fun _ => ?_⟩
              exact s_card68F (h2 _ rfl)
          · rw [if_neg (by rw [a2]; decide)] at h2
            refine s_readNumberF ⟨fun q => absurd q (by decide), fun _ => ?_⟩
            exact s_card68F (h2 _ rfl)
        · rw [hn2] at h2; dsimp only at h2
          refine s_readSignF (s_readNumberF ⟨fun q => absurd q (by decide), fun _ => ?_⟩)
          exact s_card68F (h2 _ rfl)
      · rw [if_neg (by rw [a1]; decide)] at h2
        refine s_readNumberF (s_readSignF (s_readNumberF ⟨fun q => absurd q (by decide), fun _ => ?_⟩))
        exact s_card68F (h2 _ rfl)
    · rw [hn1] at h2; dsimp only at h2
      refine s_readSignF (s_readNumberF (s_readSignF (s_readNumberF ⟨fun q => absurd q (by decide), fun _ => ?_⟩)))
      exact s_card68F (h2 _ rfl)
  · unfold rdCard at h2
    rw [if_neg h0] at h2
    refine s_readNumberF (s_readSignF (s_readNumberF (s_readSignF (s_readNumberF ⟨fun q => absurd q (by decide), fun _ => ?_⟩))))
    exact s_card68F (h2 _ rfl)
theorem s_readCardF {y z size : Int32} {f : Nat → Int32} {post : Int32 → Int32 → Int32 → (Nat → Int32) → Prop} (h : post y 1 size f) : wp_X0_readCard z y 1 g size f post := by
  unfold wp_X0_readCard
  refine s_readThreadF (s_readNumberF (s_readSignF (s_readNumberF (s_readSignF (s_readNumberF ⟨fun q => absurd q (by decide), fun _ => ?_⟩)))))
  exact s_card68F h
end
/-- the cards behind the first -/
def rdGo (T : Nat → Nat) (len : Nat) : Nat → Nat → List (Nat → Nat) → Option (List (Nat → Nat)) × Nat
  | 0, p, cs => (some cs, p)
  | f + 1, p, cs => if len ≤ p then (some cs, p) else if T p = 59 then (match rdCard T len (p + 1) with
    | (none, q) => (none, q)
    | (some c, q) => rdGo T len f q (cs ++ [c])) else (none, p)
theorem rdGo_s {T : Nat → Nat} {len f p : Nat} {cs : List (Nat → Nat)} : rdGo T len (f + 1) p cs = if len ≤ p then (some cs, p) else if T p = 59 then (match rdCard T len (p + 1) with
    | (none, q) => (none, q)
    | (some c, q) => rdGo T len f q (cs ++ [c])) else (none, p) := rfl
theorem rdGo_end {T : Nat → Nat} {len f p : Nat} {cs : List (Nat → Nat)} (h : len ≤ p) : rdGo T len f p cs = (some cs, p) := by
  cases f with
  | zero => rfl
  | succ f => rw [rdGo_s, if_pos h]
/-- all cards of the text; or none, and where the fault is -/
def rdAll (T : Nat → Nat) (len : Nat) : Option (List (Nat → Nat)) × Nat := match rdCard T len 0 with
  | (none, q) => (none, q)
  | (some c, q) => rdGo T len 60 q [c]
def csOk (cs : List (Nat → Nat)) : Prop := numOk cs.length (cN cs)
theorem csOk_snoc {cs : List (Nat → Nat)} {T : Nat → Nat} {len p q : Nat} {c : Nat → Nat} (h : csOk cs) (hc : rdCard T len p = (some c, q)) : csOk (cs ++ [c]) := by
  intro i hi
  have hk := rdCard_ok hc
  rw [List.length_append, List.length_singleton] at hi
  rcases Nat.lt_or_ge i cs.length with r | r
  · rw [cN_l r]; exact h i r
  · rw [show i = cs.length by omega, cN_e]; exact hk.2.2
theorem s_readAll {T : Nat → Nat} {len : Nat} {g : Nat → Int32} {y z size : Int32} {f : Nat → Int32} {post : Int32 → Int32 → Int32 → Int32 → (Nat → Int32) → Prop} (hT : RT T len g) (h1 : ∀ cs q y z size f, rdAll T len = (some cs, q) → csOk cs → cs.length ≤ 8 → RCd cs.length (cN cs) size f → post (-nI 5) y z size f) (h2 : ∀ q y z size f, rdAll T len = (none, q) → q ≤ len → post (nI q) y z size f) : wp_X0_read (nI len) y z g size f post := by
  have hl := hT.1
  unfold wp_X0_read wp_X1_clear
  unfold rdAll at h1 h2
  refine s_readCard0 (cs := []) (p := 0) hT (by omega) ⟨rfl, fun c hc => absurd hc (Nat.not_lt_zero _)⟩ (by decide) (fun c q size f hc hf => ?_) (fun q hc => ?_)
  · rw [hc] at h1 h2; dsimp only at h1 h2
    have hk := rdCard_ok hc
    unfold wp_X0_read_l23
    refine lf5_i (fun x1 pos fa size f => ∃ r p, r ≤ 60 ∧ x1 = nI r ∧ pos = nI p ∧ p ≤ len ∧ ((fa = nI 0 ∧ ∃ cs, len ≤ p + (60 - r) ∧ 7 * cs.length ≤ p + 1 ∧ csOk cs ∧ RCd cs.length (cN cs) size f ∧ rdGo T len (60 - r) p cs = rdGo T len 60 q [c]) ∨ (fa = nI 1 ∧ rdGo T len 60 q [c] = (none, p)))) (fun x1 _ _ _ _ => 60 - x1.toNatClampNeg) ⟨0, q, by omega, rfl, rfl, hk.2.1, Or.inl ⟨rfl, [c], by omega, by simp; omega, csOk_snoc (cs := []) (fun i hi => absurd hi (Nat.not_lt_zero _)) hc, hf, rfl⟩⟩ ?_
    clear hf size f
    rintro x1 pos fa size f ⟨r, p, hr, rfl, rfl, hp, hor⟩
    have hfa : ∀ {y : Int32}, rdGo T len 60 q [c] = (none, p) → wp_X0_read_j63 y (nI p) 1 g size f post := by
      intro y hn
      unfold wp_X0_read_j63
      exact ⟨fun c => absurd c (by decide), fun _ => h2 p _ _ _ _ hn hp⟩
    rcases hor with ⟨rfl, cs, hlen, h7, hcs, hRC, hgo⟩ | ⟨rfl, hn⟩
    · have hst : len ≤ p → wp_X0_read_j63 (nI len) (nI p) (nI 0) g size f post := by
        intro hx
        rw [rdGo_end hx] at hgo
        unfold wp_X0_read_j63
        exact ⟨fun _ => h1 cs p _ _ _ _ hgo.symm hcs (by omega) hRC, fun c => absurd rfl c⟩
      refine ⟨fun hx => ?_, fun hx => ⟨fun _ => ⟨fun hx2 => ?_, fun hx2 => ?_⟩, fun c => absurd rfl c⟩⟩
      · rw [l60, z_le (by omega) (by omega)] at hx
        exact hst (by omega)
      · rw [z_le (by omega) (by omega)] at hx2
        exact hst hx2
      · rw [l60, z_le (by omega) (by omega)] at hx
        rw [z_le (by omega) (by omega)] at hx2
        have e1 : nI r + (1 : Int32) = nI (r + 1) := by rw [l1, z_add]
        have hdec : 60 - (nI (r + 1)).toNatClampNeg < 60 - (nI r).toNatClampNeg := by simp (disch := omega) only [z_cl]; omega
        have hf : 60 - r = 60 - (r + 1) + 1 := by omega
        rw [hf, rdGo_s, if_neg hx2] at hgo
        rw [e1]
        refine s_readSign (c := 59) hT hp (by omega) (fun a1 => ?_) (fun a1 => ?_)
        · have b1 := isAt_iff.mp a1
          rw [if_pos b1.2] at hgo
          refine s_readCard0 (p := p + 1) hT (by omega) hRC (by omega) (fun c2 q2 size f hc2 hf2 => ?_) (fun q2 hc2 => ?_)
          · have hk2 := rdCard_ok hc2
            rw [hc2] at hgo; dsimp only at hgo
            refine ⟨⟨r + 1, q2, by omega, rfl, rfl, hk2.2.1, Or.inl ⟨rfl, cs ++ [c2], by omega, by simp; omega, csOk_snoc hcs hc2, ?_, hgo⟩⟩, hdec⟩
            rw [List.length_append, List.length_singleton]; exact hf2
          · rw [hc2] at hgo; dsimp only at hgo
            have hle := rdCard_le (T := T) (len := len) (p := p + 1) (by omega)
            rw [hc2] at hle
            exact ⟨⟨r + 1, q2, by omega, rfl, rfl, hle.2, Or.inr ⟨rfl, hgo.symm⟩⟩, hdec⟩
        · have b1 : ¬ T p = 59 := by
            intro e
            rw [isAt_iff.mpr ⟨by omega, e⟩] at a1; cases a1
          rw [if_neg b1] at hgo
          exact s_readCardF ⟨⟨r + 1, p, by omega, rfl, rfl, hp, Or.inr ⟨rfl, hgo.symm⟩⟩, hdec⟩
    · refine ⟨fun _ => hfa hn, fun _ => ⟨fun q => absurd q (by decide), fun _ => hfa hn⟩⟩
  · rw [hc] at h2; dsimp only at h2
    have hle := rdCard_le (T := T) (len := len) (p := 0) (by omega)
    rw [hc] at hle
    unfold wp_X0_read_l23
    refine lf5_i (fun x1 pos fa size f => pos = nI q ∧ fa = nI 1) (fun _ _ _ _ _ => 0) ⟨rfl, rfl⟩ ?_
    rintro x1 pos fa size f ⟨rfl, rfl⟩
    have hfa : wp_X0_read_j63 (nI len) (nI q) (nI 1) g size f post := by
      unfold wp_X0_read_j63
      exact ⟨fun c => absurd c (by decide), fun _ => h2 q _ _ _ _ rfl hle.2⟩
    exact ⟨fun _ => hfa, fun _ => ⟨fun c => absurd c (by decide), fun _ => hfa⟩⟩
