/-! the state behind the bundle; what each call answers, over it (by program) -/
def KeptC (b : Option AS) (k sz : Int32) (f g t : Nat → Int32) : Prop := match b with
  | none => k = 0
  | some b => k = 1 ∧ OkS b ∧ RC b sz f g t
/-- the bundle holds the state a; the snapshot b -/
def SV (a : AS) (b : Option AS) (v : VT) : Prop := OkS a ∧ RC a v.2.1 v.2.2.1 v.2.2.2.1 v.2.2.2.2.1 ∧ KeptC b v.1 v.2.2.2.2.2.1 v.2.2.2.2.2.2.1 v.2.2.2.2.2.2.2.1 v.2.2.2.2.2.2.2.2.1 ∧ ∃ (hist : Nat → AS) (h : Nat), RHc hist h v.2.2.2.2.2.2.2.2.2.1 v.2.2.2.2.2.2.2.2.2.2.1 v.2.2.2.2.2.2.2.2.2.2.2.1 v.2.2.2.2.2.2.2.2.2.2.2.2.1 v.2.2.2.2.2.2.2.2.2.2.2.2.2.1 v.2.2.2.2.2.2.2.2.2.2.2.2.2.2.1 v.2.2.2.2.2.2.2.2.2.2.2.2.2.2.2.1 v.2.2.2.2.2.2.2.2.2.2.2.2.2.2.2.2.1 v.2.2.2.2.2.2.2.2.2.2.2.2.2.2.2.2.2.1 v.2.2.2.2.2.2.2.2.2.2.2.2.2.2.2.2.2.2.1 v.2.2.2.2.2.2.2.2.2.2.2.2.2.2.2.2.2.2.2.1 v.2.2.2.2.2.2.2.2.2.2.2.2.2.2.2.2.2.2.2.2.1 v.2.2.2.2.2.2.2.2.2.2.2.2.2.2.2.2.2.2.2.2.2.1 v.2.2.2.2.2.2.2.2.2.2.2.2.2.2.2.2.2.2.2.2.2.2.1 v.2.2.2.2.2.2.2.2.2.2.2.2.2.2.2.2.2.2.2.2.2.2.2.1 v.2.2.2.2.2.2.2.2.2.2.2.2.2.2.2.2.2.2.2.2.2.2.2.2.1 v.2.2.2.2.2.2.2.2.2.2.2.2.2.2.2.2.2.2.2.2.2.2.2.2.2.1 v.2.2.2.2.2.2.2.2.2.2.2.2.2.2.2.2.2.2.2.2.2.2.2.2.2.2.1
theorem p_card0 {n : Nat} {num : Nat → Nat → Nat} {row : Nat → List Nat} {st : Nat → Nat} {v_now_cards_size : Int32} {v_now_cards_numbers : Nat → Int32} {v_now_wall_slots : Nat → Int32} {v_now_settings : Nat → Int32} {v_reading_mostScenesWithout : Int32} {v_reading_mostHoursWithout : Int32} {v_reading_size : Int32} {v_reading_cards_size : Int32} {v_reading_cards_numbers : Nat → Int32} {v_reading_names : Nat → Int32} {v_reading_slots : Nat → Int32} {v_reading_ahead : Nat → Int32} {v_reading_straightAhead : Nat → Int32} {v_reading_last : Nat → Int32} {v_reading_lastStraight : Nat → Int32} {post : Int32 → Int32 → Int32 → Int32 → Int32 → (Nat → Int32) → (Nat → Int32) → (Nat → Int32) → (Nat → Int32) → (Nat → Int32) → (Nat → Int32) → (Nat → Int32) → Prop} {c : Nat} (hN : numOk n num) (hO : rowOk n row) (hS : setOk st) (hC : RCd n num v_now_cards_size v_now_cards_numbers) (hW : RW row v_now_wall_slots) (hT : RS st v_now_settings) (hc : c < n) (h : ∀ (m0 : Int32) (m1 : Int32) (m2 : Int32) (m3 : Int32) (m4 : Nat → Int32) (m5 : Nat → Int32) (m6 : Nat → Int32) (m7 : Nat → Int32) (m8 : Nat → Int32) (m9 : Nat → Int32) (m10 : Nat → Int32), post (nI (num c 0)) m0 m1 m2 m3 m4 m5 m6 m7 m8 m9 m10) : wp_X8_card (nI c) (0 : Int32) v_now_cards_size v_now_cards_numbers v_now_wall_slots v_now_settings v_reading_mostScenesWithout v_reading_mostHoursWithout v_reading_size v_reading_cards_size v_reading_cards_numbers v_reading_names v_reading_slots v_reading_ahead v_reading_straightAhead v_reading_last v_reading_lastStraight post := by
  have hn : n ≤ 40 := hO.2.2.2
  have hsz := hC.1
  subst hsz
  unfold wp_X8_card
  refine s_has hn hc ⟨fun q => absurd q (by decide), fun _ => ⟨fun q => absurd q (by decide), fun _ => ⟨fun q => absurd q (by decide), fun _ => ?_⟩⟩⟩
  refine s_number (k := 0) hC hn hc (by omega) ?_
  exact h _ _ _ _ _ _ _ _ _ _ _
theorem q_card0 {n : Nat} {num : Nat → Nat → Nat} {row : Nat → List Nat} {st : Nat → Nat} {b : Option AS} {v : VT} {post : Int32 → VT → Prop} {c : Nat} (hV : SV (n, num, row, st) b v) (hc : c < n) (h : ∀ v, SV (n, num, row, st) b v → post (nI (num c 0)) v) : wv_card (nI c) (0 : Int32) v post := by
  unfold wv_card
  exact p_card0 hV.1.1 hV.1.2.1 hV.1.2.2 hV.2.1.1 hV.2.1.2.1 hV.2.1.2.2 hc (fun m0 m1 m2 m3 m4 m5 m6 m7 m8 m9 m10 => by refine h  _ ?_; exact hV)
theorem p_card1 {n : Nat} {num : Nat → Nat → Nat} {row : Nat → List Nat} {st : Nat → Nat} {v_now_cards_size : Int32} {v_now_cards_numbers : Nat → Int32} {v_now_wall_slots : Nat → Int32} {v_now_settings : Nat → Int32} {v_reading_mostScenesWithout : Int32} {v_reading_mostHoursWithout : Int32} {v_reading_size : Int32} {v_reading_cards_size : Int32} {v_reading_cards_numbers : Nat → Int32} {v_reading_names : Nat → Int32} {v_reading_slots : Nat → Int32} {v_reading_ahead : Nat → Int32} {v_reading_straightAhead : Nat → Int32} {v_reading_last : Nat → Int32} {v_reading_lastStraight : Nat → Int32} {post : Int32 → Int32 → Int32 → Int32 → Int32 → (Nat → Int32) → (Nat → Int32) → (Nat → Int32) → (Nat → Int32) → (Nat → Int32) → (Nat → Int32) → (Nat → Int32) → Prop} {c : Nat} (hN : numOk n num) (hO : rowOk n row) (hS : setOk st) (hC : RCd n num v_now_cards_size v_now_cards_numbers) (hW : RW row v_now_wall_slots) (hT : RS st v_now_settings) (hc : c < n) (h : ∀ (m0 : Int32) (m1 : Int32) (m2 : Int32) (m3 : Int32) (m4 : Nat → Int32) (m5 : Nat → Int32) (m6 : Nat → Int32) (m7 : Nat → Int32) (m8 : Nat → Int32) (m9 : Nat → Int32) (m10 : Nat → Int32), post (nI (num c 1)) m0 m1 m2 m3 m4 m5 m6 m7 m8 m9 m10) : wp_X8_card (nI c) (1 : Int32) v_now_cards_size v_now_cards_numbers v_now_wall_slots v_now_settings v_reading_mostScenesWithout v_reading_mostHoursWithout v_reading_size v_reading_cards_size v_reading_cards_numbers v_reading_names v_reading_slots v_reading_ahead v_reading_straightAhead v_reading_last v_reading_lastStraight post := by
  have hn : n ≤ 40 := hO.2.2.2
  have hsz := hC.1
  subst hsz
  unfold wp_X8_card
  refine s_has hn hc ⟨fun q => absurd q (by decide), fun _ => ⟨fun q => absurd q (by decide), fun _ => ⟨fun q => absurd q (by decide), fun _ => ?_⟩⟩⟩
  refine s_number (k := 1) hC hn hc (by omega) ?_
  exact h _ _ _ _ _ _ _ _ _ _ _
theorem q_card1 {n : Nat} {num : Nat → Nat → Nat} {row : Nat → List Nat} {st : Nat → Nat} {b : Option AS} {v : VT} {post : Int32 → VT → Prop} {c : Nat} (hV : SV (n, num, row, st) b v) (hc : c < n) (h : ∀ v, SV (n, num, row, st) b v → post (nI (num c 1)) v) : wv_card (nI c) (1 : Int32) v post := by
  unfold wv_card
  exact p_card1 hV.1.1 hV.1.2.1 hV.1.2.2 hV.2.1.1 hV.2.1.2.1 hV.2.1.2.2 hc (fun m0 m1 m2 m3 m4 m5 m6 m7 m8 m9 m10 => by refine h  _ ?_; exact hV)
theorem p_card2 {n : Nat} {num : Nat → Nat → Nat} {row : Nat → List Nat} {st : Nat → Nat} {v_now_cards_size : Int32} {v_now_cards_numbers : Nat → Int32} {v_now_wall_slots : Nat → Int32} {v_now_settings : Nat → Int32} {v_reading_mostScenesWithout : Int32} {v_reading_mostHoursWithout : Int32} {v_reading_size : Int32} {v_reading_cards_size : Int32} {v_reading_cards_numbers : Nat → Int32} {v_reading_names : Nat → Int32} {v_reading_slots : Nat → Int32} {v_reading_ahead : Nat → Int32} {v_reading_straightAhead : Nat → Int32} {v_reading_last : Nat → Int32} {v_reading_lastStraight : Nat → Int32} {post : Int32 → Int32 → Int32 → Int32 → Int32 → (Nat → Int32) → (Nat → Int32) → (Nat → Int32) → (Nat → Int32) → (Nat → Int32) → (Nat → Int32) → (Nat → Int32) → Prop} {c : Nat} (hN : numOk n num) (hO : rowOk n row) (hS : setOk st) (hC : RCd n num v_now_cards_size v_now_cards_numbers) (hW : RW row v_now_wall_slots) (hT : RS st v_now_settings) (hc : c < n) (h : ∀ (m0 : Int32) (m1 : Int32) (m2 : Int32) (m3 : Int32) (m4 : Nat → Int32) (m5 : Nat → Int32) (m6 : Nat → Int32) (m7 : Nat → Int32) (m8 : Nat → Int32) (m9 : Nat → Int32) (m10 : Nat → Int32), post (nI (num c 2)) m0 m1 m2 m3 m4 m5 m6 m7 m8 m9 m10) : wp_X8_card (nI c) (2 : Int32) v_now_cards_size v_now_cards_numbers v_now_wall_slots v_now_settings v_reading_mostScenesWithout v_reading_mostHoursWithout v_reading_size v_reading_cards_size v_reading_cards_numbers v_reading_names v_reading_slots v_reading_ahead v_reading_straightAhead v_reading_last v_reading_lastStraight post := by
  have hn : n ≤ 40 := hO.2.2.2
  have hsz := hC.1
  subst hsz
  unfold wp_X8_card
  refine s_has hn hc ⟨fun q => absurd q (by decide), fun _ => ⟨fun q => absurd q (by decide), fun _ => ⟨fun q => absurd q (by decide), fun _ => ?_⟩⟩⟩
  refine s_number (k := 2) hC hn hc (by omega) ?_
  exact h _ _ _ _ _ _ _ _ _ _ _
theorem q_card2 {n : Nat} {num : Nat → Nat → Nat} {row : Nat → List Nat} {st : Nat → Nat} {b : Option AS} {v : VT} {post : Int32 → VT → Prop} {c : Nat} (hV : SV (n, num, row, st) b v) (hc : c < n) (h : ∀ v, SV (n, num, row, st) b v → post (nI (num c 2)) v) : wv_card (nI c) (2 : Int32) v post := by
  unfold wv_card
  exact p_card2 hV.1.1 hV.1.2.1 hV.1.2.2 hV.2.1.1 hV.2.1.2.1 hV.2.1.2.2 hc (fun m0 m1 m2 m3 m4 m5 m6 m7 m8 m9 m10 => by refine h  _ ?_; exact hV)
theorem p_card3 {n : Nat} {num : Nat → Nat → Nat} {row : Nat → List Nat} {st : Nat → Nat} {v_now_cards_size : Int32} {v_now_cards_numbers : Nat → Int32} {v_now_wall_slots : Nat → Int32} {v_now_settings : Nat → Int32} {v_reading_mostScenesWithout : Int32} {v_reading_mostHoursWithout : Int32} {v_reading_size : Int32} {v_reading_cards_size : Int32} {v_reading_cards_numbers : Nat → Int32} {v_reading_names : Nat → Int32} {v_reading_slots : Nat → Int32} {v_reading_ahead : Nat → Int32} {v_reading_straightAhead : Nat → Int32} {v_reading_last : Nat → Int32} {v_reading_lastStraight : Nat → Int32} {post : Int32 → Int32 → Int32 → Int32 → Int32 → (Nat → Int32) → (Nat → Int32) → (Nat → Int32) → (Nat → Int32) → (Nat → Int32) → (Nat → Int32) → (Nat → Int32) → Prop} {c : Nat} (hN : numOk n num) (hO : rowOk n row) (hS : setOk st) (hC : RCd n num v_now_cards_size v_now_cards_numbers) (hW : RW row v_now_wall_slots) (hT : RS st v_now_settings) (hc : c < n) (h : ∀ (m0 : Int32) (m1 : Int32) (m2 : Int32) (m3 : Int32) (m4 : Nat → Int32) (m5 : Nat → Int32) (m6 : Nat → Int32) (m7 : Nat → Int32) (m8 : Nat → Int32) (m9 : Nat → Int32) (m10 : Nat → Int32), post (nI (num c 3)) m0 m1 m2 m3 m4 m5 m6 m7 m8 m9 m10) : wp_X8_card (nI c) (3 : Int32) v_now_cards_size v_now_cards_numbers v_now_wall_slots v_now_settings v_reading_mostScenesWithout v_reading_mostHoursWithout v_reading_size v_reading_cards_size v_reading_cards_numbers v_reading_names v_reading_slots v_reading_ahead v_reading_straightAhead v_reading_last v_reading_lastStraight post := by
  have hn : n ≤ 40 := hO.2.2.2
  have hsz := hC.1
  subst hsz
  unfold wp_X8_card
  refine s_has hn hc ⟨fun q => absurd q (by decide), fun _ => ⟨fun q => absurd q (by decide), fun _ => ⟨fun q => absurd q (by decide), fun _ => ?_⟩⟩⟩
  refine s_number (k := 3) hC hn hc (by omega) ?_
  exact h _ _ _ _ _ _ _ _ _ _ _
theorem q_card3 {n : Nat} {num : Nat → Nat → Nat} {row : Nat → List Nat} {st : Nat → Nat} {b : Option AS} {v : VT} {post : Int32 → VT → Prop} {c : Nat} (hV : SV (n, num, row, st) b v) (hc : c < n) (h : ∀ v, SV (n, num, row, st) b v → post (nI (num c 3)) v) : wv_card (nI c) (3 : Int32) v post := by
  unfold wv_card
  exact p_card3 hV.1.1 hV.1.2.1 hV.1.2.2 hV.2.1.1 hV.2.1.2.1 hV.2.1.2.2 hc (fun m0 m1 m2 m3 m4 m5 m6 m7 m8 m9 m10 => by refine h  _ ?_; exact hV)
theorem p_card4 {n : Nat} {num : Nat → Nat → Nat} {row : Nat → List Nat} {st : Nat → Nat} {v_now_cards_size : Int32} {v_now_cards_numbers : Nat → Int32} {v_now_wall_slots : Nat → Int32} {v_now_settings : Nat → Int32} {v_reading_mostScenesWithout : Int32} {v_reading_mostHoursWithout : Int32} {v_reading_size : Int32} {v_reading_cards_size : Int32} {v_reading_cards_numbers : Nat → Int32} {v_reading_names : Nat → Int32} {v_reading_slots : Nat → Int32} {v_reading_ahead : Nat → Int32} {v_reading_straightAhead : Nat → Int32} {v_reading_last : Nat → Int32} {v_reading_lastStraight : Nat → Int32} {post : Int32 → Int32 → Int32 → Int32 → Int32 → (Nat → Int32) → (Nat → Int32) → (Nat → Int32) → (Nat → Int32) → (Nat → Int32) → (Nat → Int32) → (Nat → Int32) → Prop} {c : Nat} (hN : numOk n num) (hO : rowOk n row) (hS : setOk st) (hC : RCd n num v_now_cards_size v_now_cards_numbers) (hW : RW row v_now_wall_slots) (hT : RS st v_now_settings) (hc : c < n) (h : ∀ (m0 : Int32) (m1 : Int32) (m2 : Int32) (m3 : Int32) (m4 : Nat → Int32) (m5 : Nat → Int32) (m6 : Nat → Int32) (m7 : Nat → Int32) (m8 : Nat → Int32) (m9 : Nat → Int32) (m10 : Nat → Int32), post (nI (num c 4)) m0 m1 m2 m3 m4 m5 m6 m7 m8 m9 m10) : wp_X8_card (nI c) (4 : Int32) v_now_cards_size v_now_cards_numbers v_now_wall_slots v_now_settings v_reading_mostScenesWithout v_reading_mostHoursWithout v_reading_size v_reading_cards_size v_reading_cards_numbers v_reading_names v_reading_slots v_reading_ahead v_reading_straightAhead v_reading_last v_reading_lastStraight post := by
  have hn : n ≤ 40 := hO.2.2.2
  have hsz := hC.1
  subst hsz
  unfold wp_X8_card
  refine s_has hn hc ⟨fun q => absurd q (by decide), fun _ => ⟨fun q => absurd q (by decide), fun _ => ⟨fun q => absurd q (by decide), fun _ => ?_⟩⟩⟩
  refine s_number (k := 4) hC hn hc (by omega) ?_
  exact h _ _ _ _ _ _ _ _ _ _ _
theorem q_card4 {n : Nat} {num : Nat → Nat → Nat} {row : Nat → List Nat} {st : Nat → Nat} {b : Option AS} {v : VT} {post : Int32 → VT → Prop} {c : Nat} (hV : SV (n, num, row, st) b v) (hc : c < n) (h : ∀ v, SV (n, num, row, st) b v → post (nI (num c 4)) v) : wv_card (nI c) (4 : Int32) v post := by
  unfold wv_card
  exact p_card4 hV.1.1 hV.1.2.1 hV.1.2.2 hV.2.1.1 hV.2.1.2.1 hV.2.1.2.2 hc (fun m0 m1 m2 m3 m4 m5 m6 m7 m8 m9 m10 => by refine h  _ ?_; exact hV)
theorem p_cardAt5 {n : Nat} {num : Nat → Nat → Nat} {row : Nat → List Nat} {st : Nat → Nat} {v_now_cards_size : Int32} {v_now_cards_numbers : Nat → Int32} {v_now_wall_slots : Nat → Int32} {v_now_settings : Nat → Int32} {v_reading_mostScenesWithout : Int32} {v_reading_mostHoursWithout : Int32} {v_reading_size : Int32} {v_reading_cards_size : Int32} {v_reading_cards_numbers : Nat → Int32} {v_reading_names : Nat → Int32} {v_reading_slots : Nat → Int32} {v_reading_ahead : Nat → Int32} {v_reading_straightAhead : Nat → Int32} {v_reading_last : Nat → Int32} {v_reading_lastStraight : Nat → Int32} {post : Int32 → Int32 → Int32 → Int32 → Int32 → (Nat → Int32) → (Nat → Int32) → (Nat → Int32) → (Nat → Int32) → (Nat → Int32) → (Nat → Int32) → (Nat → Int32) → Prop} {c k : Nat} (hN : numOk n num) (hO : rowOk n row) (hS : setOk st) (hC : RCd n num v_now_cards_size v_now_cards_numbers) (hW : RW row v_now_wall_slots) (hT : RS st v_now_settings) (hk : k < (pre row 96).length) (he : cd (pre row 96) k = c) (h : ∀ (m0 : Int32) (m1 : Int32) (m2 : Int32) (m3 : Int32) (m4 : Nat → Int32) (m5 : Nat → Int32) (m6 : Nat → Int32) (m7 : Nat → Int32) (m8 : Nat → Int32) (m9 : Nat → Int32) (m10 : Nat → Int32), post (nI (sl (pre row 96) k / 6)) m0 m1 m2 m3 m4 m5 m6 m7 m8 m9 m10) : wp_X8_card (nI c) (5 : Int32) v_now_cards_size v_now_cards_numbers v_now_wall_slots v_now_settings v_reading_mostScenesWithout v_reading_mostHoursWithout v_reading_size v_reading_cards_size v_reading_cards_numbers v_reading_names v_reading_slots v_reading_ahead v_reading_straightAhead v_reading_last v_reading_lastStraight post := by
  have hn : n ≤ 40 := hO.2.2.2
  have hsz := hC.1
  subst hsz
  have hcn : c < n := by rw [← he]; exact cd_lt hO hk
  unfold wp_X8_card
  refine s_has hn hcn ⟨fun q => absurd q (by decide), fun _ => ⟨fun q => absurd q (by decide), fun _ => ⟨fun _ => ?_, fun q => absurd (by decide) q⟩⟩⟩
  unfold wp_X8_card_j38
  refine s_read3 (n := n) (num := num) (row := row) (st := st) hC hN hT hW hO (fun size csize cnum names slots ahead sAhead last lastS hRR => ?_)
  have hD := RRd_pre hO hN
  generalize pre row 96 = L at hk he h hRR hD
  refine s_rankOf hD hRR hcn (fun j hj hje => ?_) (fun hne => absurd he (hne k hk))
  have hjk : j = k := hD.1.2.2.2 j k hj hk (hje.trans he.symm)
  subst hjk
  refine ⟨fun _ => ?_, fun q => absurd q (by decide), fun q => absurd q (by decide), fun q => absurd q (by decide), fun q => absurd q (by decide), fun q5 q6 q7 q8 q9 => absurd rfl q5⟩
  exact s_scene3 hD hRR hj (h _ _ _ _ _ _ _ _ _ _ _)
theorem q_cardAt5 {n : Nat} {num : Nat → Nat → Nat} {row : Nat → List Nat} {st : Nat → Nat} {b : Option AS} {v : VT} {post : Int32 → VT → Prop} {c k : Nat} (hV : SV (n, num, row, st) b v) (hk : k < (pre row 96).length) (he : cd (pre row 96) k = c) (h : ∀ v, SV (n, num, row, st) b v → post (nI (sl (pre row 96) k / 6)) v) : wv_card (nI c) (5 : Int32) v post := by
  unfold wv_card
  exact p_cardAt5 hV.1.1 hV.1.2.1 hV.1.2.2 hV.2.1.1 hV.2.1.2.1 hV.2.1.2.2 hk he (fun m0 m1 m2 m3 m4 m5 m6 m7 m8 m9 m10 => by refine h  _ ?_; exact hV)
theorem p_cardAt6 {n : Nat} {num : Nat → Nat → Nat} {row : Nat → List Nat} {st : Nat → Nat} {v_now_cards_size : Int32} {v_now_cards_numbers : Nat → Int32} {v_now_wall_slots : Nat → Int32} {v_now_settings : Nat → Int32} {v_reading_mostScenesWithout : Int32} {v_reading_mostHoursWithout : Int32} {v_reading_size : Int32} {v_reading_cards_size : Int32} {v_reading_cards_numbers : Nat → Int32} {v_reading_names : Nat → Int32} {v_reading_slots : Nat → Int32} {v_reading_ahead : Nat → Int32} {v_reading_straightAhead : Nat → Int32} {v_reading_last : Nat → Int32} {v_reading_lastStraight : Nat → Int32} {post : Int32 → Int32 → Int32 → Int32 → Int32 → (Nat → Int32) → (Nat → Int32) → (Nat → Int32) → (Nat → Int32) → (Nat → Int32) → (Nat → Int32) → (Nat → Int32) → Prop} {c k : Nat} (hN : numOk n num) (hO : rowOk n row) (hS : setOk st) (hC : RCd n num v_now_cards_size v_now_cards_numbers) (hW : RW row v_now_wall_slots) (hT : RS st v_now_settings) (hk : k < (pre row 96).length) (he : cd (pre row 96) k = c) (h : ∀ (m0 : Int32) (m1 : Int32) (m2 : Int32) (m3 : Int32) (m4 : Nat → Int32) (m5 : Nat → Int32) (m6 : Nat → Int32) (m7 : Nat → Int32) (m8 : Nat → Int32) (m9 : Nat → Int32) (m10 : Nat → Int32), post (nI (sl (pre row 96) k % 6)) m0 m1 m2 m3 m4 m5 m6 m7 m8 m9 m10) : wp_X8_card (nI c) (6 : Int32) v_now_cards_size v_now_cards_numbers v_now_wall_slots v_now_settings v_reading_mostScenesWithout v_reading_mostHoursWithout v_reading_size v_reading_cards_size v_reading_cards_numbers v_reading_names v_reading_slots v_reading_ahead v_reading_straightAhead v_reading_last v_reading_lastStraight post := by
  have hn : n ≤ 40 := hO.2.2.2
  have hsz := hC.1
  subst hsz
  have hcn : c < n := by rw [← he]; exact cd_lt hO hk
  unfold wp_X8_card
  refine s_has hn hcn ⟨fun q => absurd q (by decide), fun _ => ⟨fun q => absurd q (by decide), fun _ => ⟨fun _ => ?_, fun q => absurd (by decide) q⟩⟩⟩
  unfold wp_X8_card_j38
  refine s_read3 (n := n) (num := num) (row := row) (st := st) hC hN hT hW hO (fun size csize cnum names slots ahead sAhead last lastS hRR => ?_)
  have hD := RRd_pre hO hN
  generalize pre row 96 = L at hk he h hRR hD
  refine s_rankOf hD hRR hcn (fun j hj hje => ?_) (fun hne => absurd he (hne k hk))
  have hjk : j = k := hD.1.2.2.2 j k hj hk (hje.trans he.symm)
  subst hjk
  refine ⟨fun q => absurd q (by decide), fun _ => ?_, fun q => absurd q (by decide), fun q => absurd q (by decide), fun q => absurd q (by decide), fun q5 q6 q7 q8 q9 => absurd rfl q6⟩
  exact s_place3 hD hRR hj (h _ _ _ _ _ _ _ _ _ _ _)
theorem q_cardAt6 {n : Nat} {num : Nat → Nat → Nat} {row : Nat → List Nat} {st : Nat → Nat} {b : Option AS} {v : VT} {post : Int32 → VT → Prop} {c k : Nat} (hV : SV (n, num, row, st) b v) (hk : k < (pre row 96).length) (he : cd (pre row 96) k = c) (h : ∀ v, SV (n, num, row, st) b v → post (nI (sl (pre row 96) k % 6)) v) : wv_card (nI c) (6 : Int32) v post := by
  unfold wv_card
  exact p_cardAt6 hV.1.1 hV.1.2.1 hV.1.2.2 hV.2.1.1 hV.2.1.2.1 hV.2.1.2.2 hk he (fun m0 m1 m2 m3 m4 m5 m6 m7 m8 m9 m10 => by refine h  _ ?_; exact hV)
theorem p_cardAt7 {n : Nat} {num : Nat → Nat → Nat} {row : Nat → List Nat} {st : Nat → Nat} {v_now_cards_size : Int32} {v_now_cards_numbers : Nat → Int32} {v_now_wall_slots : Nat → Int32} {v_now_settings : Nat → Int32} {v_reading_mostScenesWithout : Int32} {v_reading_mostHoursWithout : Int32} {v_reading_size : Int32} {v_reading_cards_size : Int32} {v_reading_cards_numbers : Nat → Int32} {v_reading_names : Nat → Int32} {v_reading_slots : Nat → Int32} {v_reading_ahead : Nat → Int32} {v_reading_straightAhead : Nat → Int32} {v_reading_last : Nat → Int32} {v_reading_lastStraight : Nat → Int32} {post : Int32 → Int32 → Int32 → Int32 → Int32 → (Nat → Int32) → (Nat → Int32) → (Nat → Int32) → (Nat → Int32) → (Nat → Int32) → (Nat → Int32) → (Nat → Int32) → Prop} {c k : Nat} (hN : numOk n num) (hO : rowOk n row) (hS : setOk st) (hC : RCd n num v_now_cards_size v_now_cards_numbers) (hW : RW row v_now_wall_slots) (hT : RS st v_now_settings) (hk : k < (pre row 96).length) (he : cd (pre row 96) k = c) (h : ∀ (m0 : Int32) (m1 : Int32) (m2 : Int32) (m3 : Int32) (m4 : Nat → Int32) (m5 : Nat → Int32) (m6 : Nat → Int32) (m7 : Nat → Int32) (m8 : Nat → Int32) (m9 : Nat → Int32) (m10 : Nat → Int32), post (bI (isBrk num (pre row 96) k)) m0 m1 m2 m3 m4 m5 m6 m7 m8 m9 m10) : wp_X8_card (nI c) (7 : Int32) v_now_cards_size v_now_cards_numbers v_now_wall_slots v_now_settings v_reading_mostScenesWithout v_reading_mostHoursWithout v_reading_size v_reading_cards_size v_reading_cards_numbers v_reading_names v_reading_slots v_reading_ahead v_reading_straightAhead v_reading_last v_reading_lastStraight post := by
  have hn : n ≤ 40 := hO.2.2.2
  have hsz := hC.1
  subst hsz
  have hcn : c < n := by rw [← he]; exact cd_lt hO hk
  unfold wp_X8_card
  refine s_has hn hcn ⟨fun q => absurd q (by decide), fun _ => ⟨fun q => absurd q (by decide), fun _ => ⟨fun _ => ?_, fun q => absurd (by decide) q⟩⟩⟩
  unfold wp_X8_card_j38
  refine s_read3 (n := n) (num := num) (row := row) (st := st) hC hN hT hW hO (fun size csize cnum names slots ahead sAhead last lastS hRR => ?_)
  have hD := RRd_pre hO hN
  generalize pre row 96 = L at hk he h hRR hD
  refine s_rankOf hD hRR hcn (fun j hj hje => ?_) (fun hne => absurd he (hne k hk))
  have hjk : j = k := hD.1.2.2.2 j k hj hk (hje.trans he.symm)
  subst hjk
  refine ⟨fun q => absurd q (by decide), fun q => absurd q (by decide), fun _ => ?_, fun q => absurd q (by decide), fun q => absurd q (by decide), fun q5 q6 q7 q8 q9 => absurd rfl q7⟩
  refine s_isBreak hD hRR hj ?_
  have h2 := h (nI (st 0)) (nI (st 1)) size csize cnum names slots ahead sAhead last lastS
  rw [bI_0]
  refine ⟨fun q => ?_, fun q => ?_⟩
  · rw [q] at h2; exact h2
  · rw [eq_true_of_ne_false q] at h2; exact h2
theorem q_cardAt7 {n : Nat} {num : Nat → Nat → Nat} {row : Nat → List Nat} {st : Nat → Nat} {b : Option AS} {v : VT} {post : Int32 → VT → Prop} {c k : Nat} (hV : SV (n, num, row, st) b v) (hk : k < (pre row 96).length) (he : cd (pre row 96) k = c) (h : ∀ v, SV (n, num, row, st) b v → post (bI (isBrk num (pre row 96) k)) v) : wv_card (nI c) (7 : Int32) v post := by
  unfold wv_card
  exact p_cardAt7 hV.1.1 hV.1.2.1 hV.1.2.2 hV.2.1.1 hV.2.1.2.1 hV.2.1.2.2 hk he (fun m0 m1 m2 m3 m4 m5 m6 m7 m8 m9 m10 => by refine h  _ ?_; exact hV)
theorem p_cardAt8 {n : Nat} {num : Nat → Nat → Nat} {row : Nat → List Nat} {st : Nat → Nat} {v_now_cards_size : Int32} {v_now_cards_numbers : Nat → Int32} {v_now_wall_slots : Nat → Int32} {v_now_settings : Nat → Int32} {v_reading_mostScenesWithout : Int32} {v_reading_mostHoursWithout : Int32} {v_reading_size : Int32} {v_reading_cards_size : Int32} {v_reading_cards_numbers : Nat → Int32} {v_reading_names : Nat → Int32} {v_reading_slots : Nat → Int32} {v_reading_ahead : Nat → Int32} {v_reading_straightAhead : Nat → Int32} {v_reading_last : Nat → Int32} {v_reading_lastStraight : Nat → Int32} {post : Int32 → Int32 → Int32 → Int32 → Int32 → (Nat → Int32) → (Nat → Int32) → (Nat → Int32) → (Nat → Int32) → (Nat → Int32) → (Nat → Int32) → (Nat → Int32) → Prop} {c k : Nat} (hN : numOk n num) (hO : rowOk n row) (hS : setOk st) (hC : RCd n num v_now_cards_size v_now_cards_numbers) (hW : RW row v_now_wall_slots) (hT : RS st v_now_settings) (hk : k < (pre row 96).length) (he : cd (pre row 96) k = c) (h : ∀ (m0 : Int32) (m1 : Int32) (m2 : Int32) (m3 : Int32) (m4 : Nat → Int32) (m5 : Nat → Int32) (m6 : Nat → Int32) (m7 : Nat → Int32) (m8 : Nat → Int32) (m9 : Nat → Int32) (m10 : Nat → Int32), post (nI k) m0 m1 m2 m3 m4 m5 m6 m7 m8 m9 m10) : wp_X8_card (nI c) (8 : Int32) v_now_cards_size v_now_cards_numbers v_now_wall_slots v_now_settings v_reading_mostScenesWithout v_reading_mostHoursWithout v_reading_size v_reading_cards_size v_reading_cards_numbers v_reading_names v_reading_slots v_reading_ahead v_reading_straightAhead v_reading_last v_reading_lastStraight post := by
  have hn : n ≤ 40 := hO.2.2.2
  have hsz := hC.1
  subst hsz
  have hcn : c < n := by rw [← he]; exact cd_lt hO hk
  unfold wp_X8_card
  refine s_has hn hcn ⟨fun q => absurd q (by decide), fun _ => ⟨fun q => absurd q (by decide), fun _ => ⟨fun _ => ?_, fun q => absurd (by decide) q⟩⟩⟩
  unfold wp_X8_card_j38
  refine s_read3 (n := n) (num := num) (row := row) (st := st) hC hN hT hW hO (fun size csize cnum names slots ahead sAhead last lastS hRR => ?_)
  have hD := RRd_pre hO hN
  generalize pre row 96 = L at hk he h hRR hD
  refine s_rankOf hD hRR hcn (fun j hj hje => ?_) (fun hne => absurd he (hne k hk))
  have hjk : j = k := hD.1.2.2.2 j k hj hk (hje.trans he.symm)
  subst hjk
  refine ⟨fun q => absurd q (by decide), fun q => absurd q (by decide), fun q => absurd q (by decide), fun _ => ?_, fun q => absurd q (by decide), fun q5 q6 q7 q8 q9 => absurd rfl q8⟩
  exact h _ _ _ _ _ _ _ _ _ _ _
theorem q_cardAt8 {n : Nat} {num : Nat → Nat → Nat} {row : Nat → List Nat} {st : Nat → Nat} {b : Option AS} {v : VT} {post : Int32 → VT → Prop} {c k : Nat} (hV : SV (n, num, row, st) b v) (hk : k < (pre row 96).length) (he : cd (pre row 96) k = c) (h : ∀ v, SV (n, num, row, st) b v → post (nI k) v) : wv_card (nI c) (8 : Int32) v post := by
  unfold wv_card
  exact p_cardAt8 hV.1.1 hV.1.2.1 hV.1.2.2 hV.2.1.1 hV.2.1.2.1 hV.2.1.2.2 hk he (fun m0 m1 m2 m3 m4 m5 m6 m7 m8 m9 m10 => by refine h  _ ?_; exact hV)
theorem p_cardAt9 {n : Nat} {num : Nat → Nat → Nat} {row : Nat → List Nat} {st : Nat → Nat} {v_now_cards_size : Int32} {v_now_cards_numbers : Nat → Int32} {v_now_wall_slots : Nat → Int32} {v_now_settings : Nat → Int32} {v_reading_mostScenesWithout : Int32} {v_reading_mostHoursWithout : Int32} {v_reading_size : Int32} {v_reading_cards_size : Int32} {v_reading_cards_numbers : Nat → Int32} {v_reading_names : Nat → Int32} {v_reading_slots : Nat → Int32} {v_reading_ahead : Nat → Int32} {v_reading_straightAhead : Nat → Int32} {v_reading_last : Nat → Int32} {v_reading_lastStraight : Nat → Int32} {post : Int32 → Int32 → Int32 → Int32 → Int32 → (Nat → Int32) → (Nat → Int32) → (Nat → Int32) → (Nat → Int32) → (Nat → Int32) → (Nat → Int32) → (Nat → Int32) → Prop} {c k : Nat} (hN : numOk n num) (hO : rowOk n row) (hS : setOk st) (hC : RCd n num v_now_cards_size v_now_cards_numbers) (hW : RW row v_now_wall_slots) (hT : RS st v_now_settings) (hk : k < (pre row 96).length) (he : cd (pre row 96) k = c) (h : ∀ (m0 : Int32) (m1 : Int32) (m2 : Int32) (m3 : Int32) (m4 : Nat → Int32) (m5 : Nat → Int32) (m6 : Nat → Int32) (m7 : Nat → Int32) (m8 : Nat → Int32) (m9 : Nat → Int32) (m10 : Nat → Int32), post (optI ((aA num (pre row 96) k).map (cd (pre row 96)))) m0 m1 m2 m3 m4 m5 m6 m7 m8 m9 m10) : wp_X8_card (nI c) (9 : Int32) v_now_cards_size v_now_cards_numbers v_now_wall_slots v_now_settings v_reading_mostScenesWithout v_reading_mostHoursWithout v_reading_size v_reading_cards_size v_reading_cards_numbers v_reading_names v_reading_slots v_reading_ahead v_reading_straightAhead v_reading_last v_reading_lastStraight post := by
  have hn : n ≤ 40 := hO.2.2.2
  have hsz := hC.1
  subst hsz
  have hcn : c < n := by rw [← he]; exact cd_lt hO hk
  unfold wp_X8_card
  refine s_has hn hcn ⟨fun q => absurd q (by decide), fun _ => ⟨fun q => absurd q (by decide), fun _ => ⟨fun _ => ?_, fun q => absurd (by decide) q⟩⟩⟩
  unfold wp_X8_card_j38
  refine s_read3 (n := n) (num := num) (row := row) (st := st) hC hN hT hW hO (fun size csize cnum names slots ahead sAhead last lastS hRR => ?_)
  have hD := RRd_pre hO hN
  generalize pre row 96 = L at hk he h hRR hD
  refine s_rankOf hD hRR hcn (fun j hj hje => ?_) (fun hne => absurd he (hne k hk))
  have hjk : j = k := hD.1.2.2.2 j k hj hk (hje.trans he.symm)
  subst hjk
  refine ⟨fun q => absurd q (by decide), fun q => absurd q (by decide), fun q => absurd q (by decide), fun q => absurd q (by decide), fun _ => ?_, fun q5 q6 q7 q8 q9 => absurd rfl q9⟩
  have hsz3 := hRR.1
  subst hsz3
  unfold wp_X3_rankAhead
  refine s_val3 hD.1.1 hj ?_
  rw [hRR.2.2.2.2.1 j hj]
  cases ha : aA num L j with
  | none =>
    unfold wp_X3_cardAt
    rw [ha] at h
    exact s_val3_no (Or.inl (by decide)) (h _ _ _ _ _ _ _ _ _ _ _)
  | some bb =>
    have hbk := aA_lt ha
    rw [ha] at h
    exact s_card3 (k := bb) hD hRR (by omega) (h _ _ _ _ _ _ _ _ _ _ _)
theorem q_cardAt9 {n : Nat} {num : Nat → Nat → Nat} {row : Nat → List Nat} {st : Nat → Nat} {b : Option AS} {v : VT} {post : Int32 → VT → Prop} {c k : Nat} (hV : SV (n, num, row, st) b v) (hk : k < (pre row 96).length) (he : cd (pre row 96) k = c) (h : ∀ v, SV (n, num, row, st) b v → post (optI ((aA num (pre row 96) k).map (cd (pre row 96)))) v) : wv_card (nI c) (9 : Int32) v post := by
  unfold wv_card
  exact p_cardAt9 hV.1.1 hV.1.2.1 hV.1.2.2 hV.2.1.1 hV.2.1.2.1 hV.2.1.2.2 hk he (fun m0 m1 m2 m3 m4 m5 m6 m7 m8 m9 m10 => by refine h  _ ?_; exact hV)
theorem p_cardOff5 {n : Nat} {num : Nat → Nat → Nat} {row : Nat → List Nat} {st : Nat → Nat} {v_now_cards_size : Int32} {v_now_cards_numbers : Nat → Int32} {v_now_wall_slots : Nat → Int32} {v_now_settings : Nat → Int32} {v_reading_mostScenesWithout : Int32} {v_reading_mostHoursWithout : Int32} {v_reading_size : Int32} {v_reading_cards_size : Int32} {v_reading_cards_numbers : Nat → Int32} {v_reading_names : Nat → Int32} {v_reading_slots : Nat → Int32} {v_reading_ahead : Nat → Int32} {v_reading_straightAhead : Nat → Int32} {v_reading_last : Nat → Int32} {v_reading_lastStraight : Nat → Int32} {post : Int32 → Int32 → Int32 → Int32 → Int32 → (Nat → Int32) → (Nat → Int32) → (Nat → Int32) → (Nat → Int32) → (Nat → Int32) → (Nat → Int32) → (Nat → Int32) → Prop} {c : Nat} (hN : numOk n num) (hO : rowOk n row) (hS : setOk st) (hC : RCd n num v_now_cards_size v_now_cards_numbers) (hW : RW row v_now_wall_slots) (hT : RS st v_now_settings) (hc : c < n) (hno : ∀ k, k < (pre row 96).length → cd (pre row 96) k ≠ c) (h : ∀ (m0 : Int32) (m1 : Int32) (m2 : Int32) (m3 : Int32) (m4 : Nat → Int32) (m5 : Nat → Int32) (m6 : Nat → Int32) (m7 : Nat → Int32) (m8 : Nat → Int32) (m9 : Nat → Int32) (m10 : Nat → Int32), post (-nI 5) m0 m1 m2 m3 m4 m5 m6 m7 m8 m9 m10) : wp_X8_card (nI c) (5 : Int32) v_now_cards_size v_now_cards_numbers v_now_wall_slots v_now_settings v_reading_mostScenesWithout v_reading_mostHoursWithout v_reading_size v_reading_cards_size v_reading_cards_numbers v_reading_names v_reading_slots v_reading_ahead v_reading_straightAhead v_reading_last v_reading_lastStraight post := by
  have hn : n ≤ 40 := hO.2.2.2
  have hsz := hC.1
  subst hsz
  unfold wp_X8_card
  refine s_has hn hc ⟨fun q => absurd q (by decide), fun _ => ⟨fun q => absurd q (by decide), fun _ => ⟨fun _ => ?_, fun q => absurd (by decide) q⟩⟩⟩
  unfold wp_X8_card_j38
  refine s_read3 (n := n) (num := num) (row := row) (st := st) hC hN hT hW hO (fun size csize cnum names slots ahead sAhead last lastS hRR => ?_)
  have hD := RRd_pre hO hN
  generalize pre row 96 = L at hno hRR hD
  refine s_rankOf hD hRR hc (fun j hj hje => absurd hje (hno j hj)) (fun hne => ?_)
  refine ⟨fun _ => ?_, fun q => absurd q (by decide), fun q => absurd q (by decide), fun q => absurd q (by decide), fun q => absurd q (by decide), fun q5 q6 q7 q8 q9 => absurd rfl q5⟩
  exact s_sceneNo hRR (h _ _ _ _ _ _ _ _ _ _ _)
theorem q_cardOff5 {n : Nat} {num : Nat → Nat → Nat} {row : Nat → List Nat} {st : Nat → Nat} {b : Option AS} {v : VT} {post : Int32 → VT → Prop} {c : Nat} (hV : SV (n, num, row, st) b v) (hc : c < n) (hno : ∀ k, k < (pre row 96).length → cd (pre row 96) k ≠ c) (h : ∀ v, SV (n, num, row, st) b v → post (-nI 5) v) : wv_card (nI c) (5 : Int32) v post := by
  unfold wv_card
  exact p_cardOff5 hV.1.1 hV.1.2.1 hV.1.2.2 hV.2.1.1 hV.2.1.2.1 hV.2.1.2.2 hc hno (fun m0 m1 m2 m3 m4 m5 m6 m7 m8 m9 m10 => by refine h  _ ?_; exact hV)
theorem p_cardOff6 {n : Nat} {num : Nat → Nat → Nat} {row : Nat → List Nat} {st : Nat → Nat} {v_now_cards_size : Int32} {v_now_cards_numbers : Nat → Int32} {v_now_wall_slots : Nat → Int32} {v_now_settings : Nat → Int32} {v_reading_mostScenesWithout : Int32} {v_reading_mostHoursWithout : Int32} {v_reading_size : Int32} {v_reading_cards_size : Int32} {v_reading_cards_numbers : Nat → Int32} {v_reading_names : Nat → Int32} {v_reading_slots : Nat → Int32} {v_reading_ahead : Nat → Int32} {v_reading_straightAhead : Nat → Int32} {v_reading_last : Nat → Int32} {v_reading_lastStraight : Nat → Int32} {post : Int32 → Int32 → Int32 → Int32 → Int32 → (Nat → Int32) → (Nat → Int32) → (Nat → Int32) → (Nat → Int32) → (Nat → Int32) → (Nat → Int32) → (Nat → Int32) → Prop} {c : Nat} (hN : numOk n num) (hO : rowOk n row) (hS : setOk st) (hC : RCd n num v_now_cards_size v_now_cards_numbers) (hW : RW row v_now_wall_slots) (hT : RS st v_now_settings) (hc : c < n) (hno : ∀ k, k < (pre row 96).length → cd (pre row 96) k ≠ c) (h : ∀ (m0 : Int32) (m1 : Int32) (m2 : Int32) (m3 : Int32) (m4 : Nat → Int32) (m5 : Nat → Int32) (m6 : Nat → Int32) (m7 : Nat → Int32) (m8 : Nat → Int32) (m9 : Nat → Int32) (m10 : Nat → Int32), post (-nI 5) m0 m1 m2 m3 m4 m5 m6 m7 m8 m9 m10) : wp_X8_card (nI c) (6 : Int32) v_now_cards_size v_now_cards_numbers v_now_wall_slots v_now_settings v_reading_mostScenesWithout v_reading_mostHoursWithout v_reading_size v_reading_cards_size v_reading_cards_numbers v_reading_names v_reading_slots v_reading_ahead v_reading_straightAhead v_reading_last v_reading_lastStraight post := by
  have hn : n ≤ 40 := hO.2.2.2
  have hsz := hC.1
  subst hsz
  unfold wp_X8_card
  refine s_has hn hc ⟨fun q => absurd q (by decide), fun _ => ⟨fun q => absurd q (by decide), fun _ => ⟨fun _ => ?_, fun q => absurd (by decide) q⟩⟩⟩
  unfold wp_X8_card_j38
  refine s_read3 (n := n) (num := num) (row := row) (st := st) hC hN hT hW hO (fun size csize cnum names slots ahead sAhead last lastS hRR => ?_)
  have hD := RRd_pre hO hN
  generalize pre row 96 = L at hno hRR hD
  refine s_rankOf hD hRR hc (fun j hj hje => absurd hje (hno j hj)) (fun hne => ?_)
  refine ⟨fun q => absurd q (by decide), fun _ => ?_, fun q => absurd q (by decide), fun q => absurd q (by decide), fun q => absurd q (by decide), fun q5 q6 q7 q8 q9 => absurd rfl q6⟩
  exact s_placeNo hRR (h _ _ _ _ _ _ _ _ _ _ _)
theorem q_cardOff6 {n : Nat} {num : Nat → Nat → Nat} {row : Nat → List Nat} {st : Nat → Nat} {b : Option AS} {v : VT} {post : Int32 → VT → Prop} {c : Nat} (hV : SV (n, num, row, st) b v) (hc : c < n) (hno : ∀ k, k < (pre row 96).length → cd (pre row 96) k ≠ c) (h : ∀ v, SV (n, num, row, st) b v → post (-nI 5) v) : wv_card (nI c) (6 : Int32) v post := by
  unfold wv_card
  exact p_cardOff6 hV.1.1 hV.1.2.1 hV.1.2.2 hV.2.1.1 hV.2.1.2.1 hV.2.1.2.2 hc hno (fun m0 m1 m2 m3 m4 m5 m6 m7 m8 m9 m10 => by refine h  _ ?_; exact hV)
theorem p_cardOff8 {n : Nat} {num : Nat → Nat → Nat} {row : Nat → List Nat} {st : Nat → Nat} {v_now_cards_size : Int32} {v_now_cards_numbers : Nat → Int32} {v_now_wall_slots : Nat → Int32} {v_now_settings : Nat → Int32} {v_reading_mostScenesWithout : Int32} {v_reading_mostHoursWithout : Int32} {v_reading_size : Int32} {v_reading_cards_size : Int32} {v_reading_cards_numbers : Nat → Int32} {v_reading_names : Nat → Int32} {v_reading_slots : Nat → Int32} {v_reading_ahead : Nat → Int32} {v_reading_straightAhead : Nat → Int32} {v_reading_last : Nat → Int32} {v_reading_lastStraight : Nat → Int32} {post : Int32 → Int32 → Int32 → Int32 → Int32 → (Nat → Int32) → (Nat → Int32) → (Nat → Int32) → (Nat → Int32) → (Nat → Int32) → (Nat → Int32) → (Nat → Int32) → Prop} {c : Nat} (hN : numOk n num) (hO : rowOk n row) (hS : setOk st) (hC : RCd n num v_now_cards_size v_now_cards_numbers) (hW : RW row v_now_wall_slots) (hT : RS st v_now_settings) (hc : c < n) (hno : ∀ k, k < (pre row 96).length → cd (pre row 96) k ≠ c) (h : ∀ (m0 : Int32) (m1 : Int32) (m2 : Int32) (m3 : Int32) (m4 : Nat → Int32) (m5 : Nat → Int32) (m6 : Nat → Int32) (m7 : Nat → Int32) (m8 : Nat → Int32) (m9 : Nat → Int32) (m10 : Nat → Int32), post (-nI 5) m0 m1 m2 m3 m4 m5 m6 m7 m8 m9 m10) : wp_X8_card (nI c) (8 : Int32) v_now_cards_size v_now_cards_numbers v_now_wall_slots v_now_settings v_reading_mostScenesWithout v_reading_mostHoursWithout v_reading_size v_reading_cards_size v_reading_cards_numbers v_reading_names v_reading_slots v_reading_ahead v_reading_straightAhead v_reading_last v_reading_lastStraight post := by
  have hn : n ≤ 40 := hO.2.2.2
  have hsz := hC.1
  subst hsz
  unfold wp_X8_card
  refine s_has hn hc ⟨fun q => absurd q (by decide), fun _ => ⟨fun q => absurd q (by decide), fun _ => ⟨fun _ => ?_, fun q => absurd (by decide) q⟩⟩⟩
  unfold wp_X8_card_j38
  refine s_read3 (n := n) (num := num) (row := row) (st := st) hC hN hT hW hO (fun size csize cnum names slots ahead sAhead last lastS hRR => ?_)
  have hD := RRd_pre hO hN
  generalize pre row 96 = L at hno hRR hD
  refine s_rankOf hD hRR hc (fun j hj hje => absurd hje (hno j hj)) (fun hne => ?_)
  refine ⟨fun q => absurd q (by decide), fun q => absurd q (by decide), fun q => absurd q (by decide), fun _ => ?_, fun q => absurd q (by decide), fun q5 q6 q7 q8 q9 => absurd rfl q8⟩
  exact h _ _ _ _ _ _ _ _ _ _ _
theorem q_cardOff8 {n : Nat} {num : Nat → Nat → Nat} {row : Nat → List Nat} {st : Nat → Nat} {b : Option AS} {v : VT} {post : Int32 → VT → Prop} {c : Nat} (hV : SV (n, num, row, st) b v) (hc : c < n) (hno : ∀ k, k < (pre row 96).length → cd (pre row 96) k ≠ c) (h : ∀ v, SV (n, num, row, st) b v → post (-nI 5) v) : wv_card (nI c) (8 : Int32) v post := by
  unfold wv_card
  exact p_cardOff8 hV.1.1 hV.1.2.1 hV.1.2.2 hV.2.1.1 hV.2.1.2.1 hV.2.1.2.2 hc hno (fun m0 m1 m2 m3 m4 m5 m6 m7 m8 m9 m10 => by refine h  _ ?_; exact hV)
theorem p_at {n : Nat} {num : Nat → Nat → Nat} {row : Nat → List Nat} {st : Nat → Nat} {v_now_wall_slots : Nat → Int32} {post : Int32 → Prop} {sc p : Nat} (hN : numOk n num) (hO : rowOk n row) (hS : setOk st) (hW : RW row v_now_wall_slots) (hsc : sc < 16) (hp : p ≤ 6) (h : post (slotv (row sc) p) ) : wp_X8_at (nI sc) (nI p) v_now_wall_slots post := by
  unfold wp_X8_at
  refine s_isSceneY hsc ⟨fun q => absurd q (by decide), fun _ => ⟨fun _ => ?_, fun q => absurd (by rw [l0, z_le (by omega) (by omega)]; omega) q⟩⟩
  have h6 := hO.1 sc
  by_cases hp6 : p < 6
  · exact s_cardIn hW hsc hp6 h
  · refine s_cardInBig hsc ⟨by rw [z_lt (by omega) (by omega)]; omega, by rw [z_le (by omega) (by omega)]; omega⟩ ?_
    rw [slotv_ge (by omega)] at h; exact h
theorem q_at {n : Nat} {num : Nat → Nat → Nat} {row : Nat → List Nat} {st : Nat → Nat} {b : Option AS} {v : VT} {post : Int32 → VT → Prop} {sc p : Nat} (hV : SV (n, num, row, st) b v) (hsc : sc < 16) (hp : p ≤ 6) (h : ∀ v, SV (n, num, row, st) b v → post (slotv (row sc) p) v) : wv_at (nI sc) (nI p) v post := by
  unfold wv_at
  exact p_at hV.1.1 hV.1.2.1 hV.1.2.2 hV.2.1.2.1 hsc hp (by refine h  _ ?_; exact hV)
