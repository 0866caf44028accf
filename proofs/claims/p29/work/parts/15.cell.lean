/-! the law's cells of the script, and the law from its entry (by program) -/
def gcell (L : Nat) (xs : Nat → Int32) (k : Int32) : Int32 := (if k < Int32.ofNat L then xs k.toNatClampNeg else 15485959 * k + 1279) &&& 2147483647
abbrev rm_L_cell : Room := { frames := 0, cells := 0, slots := 0, locals := 0 }
def pc_L_cell (b L : Nat) (xs : Nat → Int32) (k : Int32) : Array Value → State → Prop := fun a U => a = ([.ref b, .int k] : List Value).toArray ∧ va_X b L xs U U.heap ∧ b < U.heap.size
def qc_L_cell (L : Nat) (xs : Nat → Int32) (k : Int32) : Array Value → State → Outcome → State → Prop := va_Qi (S := Unit) (fun r _ => r = gcell L xs k) (fun _ _ => True) (fun _ => False)
theorem g_lt {a b : Int32} (h : ¬ b ≤ a) : a < b := by
  rw [Int32.le_iff_toInt_le] at h
  rw [Int32.lt_iff_toInt_lt]; omega
theorem g_nlt {a b : Int32} (h : b ≤ a) : ¬ a < b := by
  rw [Int32.le_iff_toInt_le] at h
  rw [Int32.lt_iff_toInt_lt]; omega
set_option maxHeartbeats 4000000 in
set_option maxRecDepth 100000 in
theorem c_L_cell (l : Launch) (b L : Nat) (xs : Nat → Int32) (hL : L ≤ 260) (k : Int32) (hk : (0 : Int32) ≤ k) : Met l yL_cell wsL_cell rm_L_cell (pc_L_cell b L xs k) (qc_L_cell L xs k) 0 0 (fun _ => False) := by
  refine Met.ofW (cc := cL_cell) (maxL := 2) (ret := (some .int)) (by decide) rfl ?_
  intro p e s m args below meth c s₁ B hml hv
  obtain ⟨rfl, hX, hbl⟩ := hv
  have hx := B.exec
  have hb := B.bytes
  have hr := B.returns
  have hts := atoms_spec (ws := wsL_cell) B.pre
  have hown : s.vm.findClass RL = some m.cls := findClass_of_methodNamed B.named
  have hlocks := B.notSynchronized
  have hl := lv_entry ([.ref b, .int k]) (n := 2) (Nat.le_of_ble_eq_true rfl)
  rw [lg_entry_eq]
  generalize (lg_sl ([.ref b, .int k]) ++ List.replicate (2 - (lg_sl ([.ref b, .int k])).length) Slot.unset).toArray = ls at hl ⊢
  have hl : lv_has ls 2 [(0, .ref b), (1, .int k)] := hl
  have hS : va_S (fun _ => False) s.heap s.heap [] := va_S.rf
  refine lv_iload_n hx hb dL_cell_0 rfl (lv_at hl 1 rfl) ?_
  refine lv_aload_n hx hb dL_cell_1 rfl (lv_at hl 0 rfl) ?_
  refine va_slen hx hb hX hbl (fun h => h) hS dL_cell_2 ?_
  have fin : ∀ r : Int32, r &&& 2147483647 = gcell L xs k → W p l e (headSpec wsL_cell rm_L_cell).room s m ([.ref b, .int k] : List Value).toArray below meth c s.heap [] 0 0 (MQ below (qc_L_cell L xs k) ([.ref b, .int k] : List Value).toArray s 0 0 (fun _ => False)) (F0 m 20 ls [.int r]) := by
    intro r hr2
    refine lv_ldc (v := 2147483647) hx hb hown (hts (.constant RL 8 (2147483647)) (List.mem_of_getElem? (i := 2) rfl)) dL_cell_20 ?_
    refine lv_iand hx hb dL_cell_22 ?_
    exact W.iret hx hb hr (fun t ht hW => ⟨⟨_, (), rfl, hr2, trivial⟩, hS.F ht⟩) hS.2.2 dL_cell_23 hlocks
  refine lv_icmp_ge (tgt := 12) hx hb dL_cell_3 (by decide) (fun hc => ?_) (fun hc => ?_)
  · refine lv_ldc (v := 15485959) hx hb hown (hts (.constant RL 7 (15485959)) (List.mem_of_getElem? (i := 1) rfl)) dL_cell_12 ?_
    refine lv_iload_n hx hb dL_cell_14 rfl (lv_at hl 1 rfl) ?_
    refine lv_imul hx hb dL_cell_15 ?_
    refine lv_sipush (v := 1279) hx hb dL_cell_16 (by decide) ?_
    refine lv_iadd hx hb dL_cell_19 ?_
    refine fin _ ?_
    unfold gcell
    rw [if_neg (g_nlt hc)]
  · have hlt := g_lt hc
    have hin : vp_in k L := by
      rw [vp_in_iff]
      rw [Int32.le_iff_toInt_le] at hk
      rw [Int32.lt_iff_toInt_lt] at hlt
      have e0 : (0 : Int32).toInt = 0 := rfl
      have e1 : (Int32.ofNat L).toInt = (L : Int) := nI_toInt (n := L) (by omega)
      omega
    refine lv_aload_n hx hb dL_cell_6 rfl (lv_at hl 0 rfl) ?_
    refine lv_iload_n hx hb dL_cell_7 rfl (lv_at hl 1 rfl) ?_
    refine va_sld hx hb hX hbl (fun h => h) hS hin dL_cell_8 ?_
    refine lv_goto (tgt := 20) hx hb dL_cell_9 (by decide) ?_
    refine fin _ ?_
    unfold gcell
    rw [if_pos hlt]
theorem pc_blind (b L : Nat) (xs : Nat → Int32) (k : Int32) : FrameBlind (pc_L_cell b L xs k) := fun a U g mk q =>
  ⟨q.1, va_X.moved (u := U) (U := U.calling g mk a) (Vm.Alike.refl U.vm) q.2.1, q.2.2⟩
theorem gCell {p : Program} {l : Launch} {e : Env} {s : State} {m : MethodId} {below : List Frame} {meth : Method} {c : Code} {H : Heap} {locs : List Loc} {b L : Nat} {xs : Nat → Int32} {D : va_G} {A : Nat → Prop} {w : va_W} {k : Int32} {rest : List Value} {pc : Nat} {ls : Array Slot} {Q : State → Prop} {LL : List (Nat × Value)} (hL : L ≤ 260) (C0 : lw_At p s m meth c b L xs) (hts : ∀ w ∈ wsL_law, w.before #[Value.ref b] s = true) (hbA : ¬ A b) (hk : (0 : Int32) ≤ k) (hg : GoodIn wsL_law (va_wsS RL 78 yL_cell wsL_cell)) (hl : lv_has ls 6 LL) (hdg : decode code pc = .ok (.invokestatic 78, 3)) (hP : va_P D vwCl w H) (hD : va_D A w) (hS : va_S A s.heap H locs) (hrm : (rest.map fun v => v.category).sum ≤ 8)
    (kk : ∀ (H : Heap) (locs : List Loc), va_P D vwCl w H → va_D A w → va_S A s.heap H locs → W p l e room_1 s m #[Value.ref b] below meth c H locs 600000 7302250 Q (F0 m (pc + 3) ls (.int (gcell L xs k) :: rest))) :
    W p l e room_1 s m #[Value.ref b] below meth c H locs 600000 7302250 Q (F0 m pc ls (.int k :: .ref b :: rest)) := by
  obtain ⟨hx, hb, hr, hml, hown, hts0, hXs, hbl, hlocks, hgv⟩ := C0
  refine va_calli (A1 := fun _ => False) (free := fun _ => False) (a := ([.ref b, .int k] : List Value).toArray) (va_runS (As := [.ref b, .int k]) (rest := rest) ⟨hx, hb, hml, hown, hts⟩ (c_L_cell l b L xs hL k hk) (va_cwS 2 hts hg rfl rfl rfl (by decide +kernel) ⟨Nat.le_of_ble_eq_true rfl, Nat.le_of_ble_eq_true rfl⟩) ⟨pc_blind b L xs k, fun U hU hW => ⟨rfl, (va_X.moved hW.alike (hXs.kept (by rw [hU]; exact hS.2.1 b hbl hbA))), by rw [hU]; exact Nat.lt_of_lt_of_le hbl hS.1⟩⟩ rfl rfl hl.1 rfl (lv_room hrm) hdg ⟨Nat.le_of_ble_eq_true rfl, Nat.le_of_ble_eq_true rfl⟩) hS (fun q _ h => h.elim) (fun q h => h.elim) (fun r u t H1 locs1 ht hvm hw _ hz hkk hS1 => ?_)
  subst hw
  exact kk H1 locs1 (hP.kept (fun i q hq => hkk q.1 (hP i q hq).lt (fun h => h))) hD hS1
theorem gcell_nn (L : Nat) (xs : Nat → Int32) (k : Int32) : (0 : Int32) ≤ gcell L xs k := by
  unfold gcell
  generalize (if k < Int32.ofNat L then xs k.toNatClampNeg else 15485959 * k + 1279) = x
  rw [Int32.le_iff_toInt_le]
  show (0 : Int) ≤ (x &&& 2147483647).toBitVec.toInt
  have h : (x &&& 2147483647).toBitVec.toNat ≤ 2147483647 := by
    rw [Int32.toBitVec_and, BitVec.toNat_and]
    exact Nat.and_le_right
  rw [BitVec.toInt_eq_toNat_cond, if_pos (by omega)]
  omega
