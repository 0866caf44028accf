/-! 'ldc_w' of a float; Float.floatToIntBits of what is no NaN -/
section
variable {p : Program} {l : Launch} {e : Env} {R : Room} {s : State} {m : MethodId} {args : Array Value} {below : List Frame} {meth : Method} {c : Code} {H : Heap} {locs : List Loc} {cells slots : Nat} {Q : State → Prop}
theorem g_ldcwF0 {T : State} (X : Stand p l e R s m args below meth c T locs cells slots) (hexec : p.tables.exec = Jvm.exec) {own : String} {index : Nat} {b : UInt32} (hown : s.vm.findClass own = some m.cls)
    (hconst : (Cond.constantFloat own index b).before args s = true) {g : JFrame} (hg : g.method = m) (hdg : decode c.code g.pc = .ok (.ldc_w index, 3)) :
    ∀ target, Steps p.tables e below (T.setTop { g with pc := g.pc + 3, stack := .float b :: g.stack }) target → Steps p.tables e below (T.setTop g) target := by
  obtain ⟨k, cf, hk, hcf, hc⟩ := Cond.constantFloat_spec hown hconst
  obtain ⟨k', hk', he⟩ := X.warmed.alike.2.2 _ _ hk
  intro target hrest
  subst hg
  jvm_step X.here [hexec, hdg, ldc_w.wp_float (s := T) (f := g) X.here.top hk' (by rw [he]; exact hcf) hc]
  exact hrest
theorem lv_ldcwf {cc : ByteArray} {pc : Nat} {ls : Array Slot} {rest : List Value} (hexec : p.tables.exec = Jvm.exec) (hb : c.code = cc) {own : String} {index : Nat} {v : UInt32} (hown : s.vm.findClass own = some m.cls) (hconst : (Jvm.Cond.constantFloat own index v).before args s = true) (hdg : decode cc pc = .ok (.ldc_w index, 3)) (k : W p l e R s m args below meth c H locs cells slots Q (F0 m (pc + 3) ls (.float v :: rest))) : W p l e R s m args below meth c H locs cells slots Q (F0 m pc ls rest) := by
  intro T hT X
  obtain ⟨t, a, b⟩ := k T hT X
  exact ⟨t, g_ldcwF0 X hexec hown hconst (g := F0 m pc ls rest) rfl (by rw [hb]; exact hdg) t a, b⟩
end
theorem vf_mod {r : UInt32} (h : vf_n32 r) : r.toNat % 2147483648 ≤ 2139095040 := by
  unfold vf_n32 at h
  have h1 := UInt32.le_iff_toNat_le.mp h
  rw [UInt32.toNat_and] at h1
  have h2 : r.toNat &&& (0x7fffffff : UInt32).toNat = r.toNat % 2147483648 := Nat.and_two_pow_sub_one_eq_mod r.toNat 31
  rw [h2] at h1
  exact h1
theorem vf_notNaN {r : UInt32} (h : vf_n32 r) : FP.Core.decode FP.Core.b32 r.toNat ≠ .nan := by
  have h1 := vf_mod h
  unfold FP.Core.decode
  have e1 : FP.Core.fieldE FP.Core.b32 r.toNat = r.toNat / 8388608 % 256 := rfl
  have e2 : FP.Core.fieldT FP.Core.b32 r.toNat = r.toNat % 8388608 := rfl
  have e3 : FP.Core.b32.exps - 1 = 255 := rfl
  rw [e1, e2, e3]
  split
  · split
    · simp
    · omega
  · split <;> simp
theorem vf_cmpSelf {r : UInt32} (h : vf_n32 r) (op : CmpOp) : Op.cmpValue (FP.fcmp r r) op = 0 := by
  have h1 := vf_notNaN h
  have h2 : FP.fcmp r r = some .eq := by
    show FP.Core.order (FP.Core.decode FP.Core.b32 r.toNat) (FP.Core.decode FP.Core.b32 r.toNat) = some .eq
    cases hd : FP.Core.decode FP.Core.b32 r.toNat with
    | nan => exact absurd hd h1
    | inf s => simp [FP.Core.order, compare, compareOfLessAndEq]
    | fin s c q => simp [FP.Core.order, compare, compareOfLessAndEq]
  rw [h2]
  cases op <;> rfl
theorem gOfJ {l : Launch} {y : MethodName} {ws ws' : List Cond} {rm : Room} {D : va_G} {tys : List (ClassId × FieldType)} {av : List Value} {wc : va_W} {sz : Nat} {Qc : Array Value → State → Outcome → State → Prop} {mc ms : Nat} {cc : ByteArray} {maxL : Nat} {ret : Option FieldType} (hy : plainFor y = true) (hw : ws = Cond.code y cc maxL ret :: ws') (hlen : (lg_sl av).length ≤ maxL)
    (body : ∀ (p : Program) (e : Env) (s : State) (m : MethodId) (below : List Frame) (meth : Method) (c : Code) (A : Nat → Prop), va_A wc sz = A → p.tables.exec = Jvm.exec → c.code = cc → meth.sig.returnType = ret → (∀ w ∈ ws, w.before av.toArray s = true) → s.vm.findClass y.cls = some m.cls → c.maxLocals = maxL → meth.locks = false → meth.name = y.name → (∀ q, s.heap.size ≤ q → A q) → va_K D vwCl tys s → gX s → gST A s s.heap → va_P D vwCl wc s.heap → va_D A wc → va_S A s.heap s.heap [] → ∀ ls : Array Slot, lv_has ls maxL (lv_args 0 av) → W p l e (headSpec ws rm).room s m av.toArray below meth c s.heap [] 0 0 (MQ below Qc av.toArray s mc ms A) (F0 m 0 ls [])) :
    Met l y ws rm (gPre D tys av wc sz) Qc mc ms (va_A wc sz) := by
  refine va_MetF (cc := cc) (maxL := maxL) (ret := ret) hy hw ?_
  intro p e s m args below meth c s₁ B hml hv
  obtain ⟨rfl, hsz, hP, hK, hX, hT, hD⟩ := hv
  have hl := lv_entry av hlen
  rw [lg_entry_eq]
  exact body p e s m below meth c _ rfl B.exec B.bytes B.returns (atoms_spec (ws := ws) B.pre) (findClass_of_methodNamed B.named) hml B.notSynchronized (name_of_methodNamed B.named B.method).1 (fun q h => Or.inr (hsz ▸ h)) hK hX hT hP hD.self va_S.rf _ hl
theorem gOfJi {l : Launch} {y : MethodName} {ws ws' : List Cond} {rm : Room} {D : va_G} {tys : List (ClassId × FieldType)} {av : List Value} {wc : va_W} {sz : Nat} {S : Type} {post : Int32 → S → Prop} {w1 : S → va_W} {mc ms : Nat} {cc : ByteArray} {maxL : Nat} {ret : Option FieldType} {own : String} (ho : y.cls = own) (hy : plainFor y = true) (hw : ws = Cond.code y cc maxL ret :: ws') (hlen : (lg_sl av).length ≤ maxL) (hre : ret = some .int)
    (body : ∀ (p : Program) (e : Env) (s : State) (m : MethodId) (below : List Frame) (meth : Method) (c : Code) (A : Nat → Prop) (args : Array Value) (Q : State → Prop), va_A wc sz = A → p.tables.exec = Jvm.exec → c.code = cc → meth.sig.returnType = ret → (∀ w ∈ ws, w.before args s = true) → s.vm.findClass own = some m.cls → c.maxLocals = maxL → meth.locks = false → meth.name = y.name → (∀ q, s.heap.size ≤ q → A q) → va_K D vwCl tys s → gX s → gST A s s.heap → va_P D vwCl wc s.heap → va_D A wc → va_S A s.heap s.heap [] → (∀ {H : Heap} {locs : List Loc} {pc : Nat} {ls : Array Slot} {wx : va_W} {r : Int32} (u : S) (is : List Nat), decode cc pc = .ok (.ireturn, 1) → post r u → is.map (fun i => wx[i]?) = (w1 u).map some → va_nd is = true → va_P D vwCl wx H → va_D A wx → va_S A s.heap H locs → W p l e rm s m args below meth c H locs mc ms Q (F0 m pc ls [.int r])) → ∀ ls : Array Slot, lv_has ls maxL (lv_args 0 av) → W p l e rm s m args below meth c s.heap [] 0 0 Q (F0 m 0 ls [])) :
    Met l y ws rm (gPre D tys av wc sz) (va_Qi post (gB D tys w1 wc sz) (va_A wc sz)) mc ms (va_A wc sz) := by
  subst ho
  refine gOfJ hy hw hlen ?_
  intro p e s m below meth c A hAe hx hb hr hts hown hml hlocks hname hA hK hX hT hP hD hS ls hl
  subst hAe
  exact body p e s m below meth c (va_A wc sz) av.toArray (MQ below (va_Qi post (gB D tys w1 wc sz) (va_A wc sz)) av.toArray s mc ms (va_A wc sz)) rfl hx hb hr hts hown hml hlocks hname hA hK hX hT hP hD hS (fun u is hd hq h1 hn hP hD hS => gReti rfl hx hb (hr.trans hre) hlocks hK hP hD hS u is h1 hn hq hd) ls hl
theorem gOfJz {l : Launch} {y : MethodName} {ws ws' : List Cond} {rm : Room} {D : va_G} {tys : List (ClassId × FieldType)} {av : List Value} {wc : va_W} {sz : Nat} {S : Type} {post : Int32 → S → Prop} {w1 : S → va_W} {mc ms : Nat} {cc : ByteArray} {maxL : Nat} {ret : Option FieldType} {own : String} (ho : y.cls = own) (hy : plainFor y = true) (hw : ws = Cond.code y cc maxL ret :: ws') (hlen : (lg_sl av).length ≤ maxL) (hre : ret = some .boolean)
    (body : ∀ (p : Program) (e : Env) (s : State) (m : MethodId) (below : List Frame) (meth : Method) (c : Code) (A : Nat → Prop) (args : Array Value) (Q : State → Prop), va_A wc sz = A → p.tables.exec = Jvm.exec → c.code = cc → meth.sig.returnType = ret → (∀ w ∈ ws, w.before args s = true) → s.vm.findClass own = some m.cls → c.maxLocals = maxL → meth.locks = false → meth.name = y.name → (∀ q, s.heap.size ≤ q → A q) → va_K D vwCl tys s → gX s → gST A s s.heap → va_P D vwCl wc s.heap → va_D A wc → va_S A s.heap s.heap [] → (∀ {H : Heap} {locs : List Loc} {pc : Nat} {ls : Array Slot} {wx : va_W} {r : Int32} (u : S) (is : List Nat), decode cc pc = .ok (.ireturn, 1) → (r = 0 ∨ r = 1) → post r u → is.map (fun i => wx[i]?) = (w1 u).map some → va_nd is = true → va_P D vwCl wx H → va_D A wx → va_S A s.heap H locs → W p l e rm s m args below meth c H locs mc ms Q (F0 m pc ls [.int r])) → ∀ ls : Array Slot, lv_has ls maxL (lv_args 0 av) → W p l e rm s m args below meth c s.heap [] 0 0 Q (F0 m 0 ls [])) :
    Met l y ws rm (gPre D tys av wc sz) (va_Qi post (gB D tys w1 wc sz) (va_A wc sz)) mc ms (va_A wc sz) := by
  subst ho
  refine gOfJ hy hw hlen ?_
  intro p e s m below meth c A hAe hx hb hr hts hown hml hlocks hname hA hK hX hT hP hD hS ls hl
  subst hAe
  exact body p e s m below meth c (va_A wc sz) av.toArray (MQ below (va_Qi post (gB D tys w1 wc sz) (va_A wc sz)) av.toArray s mc ms (va_A wc sz)) rfl hx hb hr hts hown hml hlocks hname hA hK hX hT hP hD hS (fun u is hd hz hq h1 hn hP hD hS => gRetz rfl hx hb (hr.trans hre) (gNarB hz) hlocks hK hP hD hS u is h1 hn hq hd) ls hl
abbrev rm_fti : Room := { frames := 1, cells := 0, slots := 0, locals := 20 }
abbrev rm_isnan : Room := { frames := 0, cells := 0, slots := 0, locals := 0 }
set_option maxHeartbeats 4000000 in
set_option maxRecDepth 100000 in
theorem c_isnan (l : Launch) (D : va_G) (cI cC cF cO : ClassId) (sz : Nat) (x : UInt32) (hn : vf_n32 x) : Met l yJxf58ca_isNaN_12338 wsJxf58ca_isNaN_12338 rm_isnan (gPre D (gT cI cC cF cO) [.float x] [] sz) (va_Qi (S := Unit) (fun r _ => r = 0) (gB D (gT cI cC cF cO) (fun _ : Unit => []) [] sz) (va_A [] sz)) 0 0 (va_A [] sz) := by
  refine gOfJz (own := RJxf58ca) (cc := cJxf58ca_isNaN_12338) (maxL := 1) (ret := (some .boolean)) rfl (by decide +kernel) rfl (Nat.le_of_ble_eq_true rfl) rfl ?_
  intro p e s m below meth c A args Q hAe hx hb hr hts hown hml hlocks hname hA hK hX hT hP hD hS hret ls hl
  have hl : lv_has ls 1 [(0, .float x)] := hl
  refine lv_fload_n hx hb dJxf58ca_isNaN_12338_0 rfl (lv_at hl 0 rfl) ?_
  refine lv_fload_n hx hb dJxf58ca_isNaN_12338_1 rfl (lv_at hl 0 rfl) ?_
  refine lv_fcmp hx hb dJxf58ca_isNaN_12338_2 ?_
  rw [vf_cmpSelf hn]
  refine lv_if_eq (tgt := 10) hx hb dJxf58ca_isNaN_12338_3 (by decide) (fun hc => ?_) (fun hc => absurd rfl hc)
  refine lv_iconst (v := 0) hx hb dJxf58ca_isNaN_12338_10 (by decide) ?_
  exact hret () [] dJxf58ca_isNaN_12338_11 (Or.inl rfl) rfl rfl rfl hP hD hS
set_option maxHeartbeats 4000000 in
set_option maxRecDepth 100000 in
theorem c_fti (l : Launch) (D : va_G) (cI cC cF cO : ClassId) (sz : Nat) (x : UInt32) (hn : vf_n32 x) : Met l yJxf58ca_floatToIntBits_5c35a wsJxf58ca_floatToIntBits_5c35a rm_fti (gPre D (gT cI cC cF cO) [.float x] [] sz) (va_Qi (S := Unit) (fun r _ => r = x.toInt32) (gB D (gT cI cC cF cO) (fun _ : Unit => []) [] sz) (va_A [] sz)) 0 0 (va_A [] sz) := by
  refine gOfJi (own := RJxf58ca) (cc := cJxf58ca_floatToIntBits_5c35a) (maxL := 1) (ret := (some .int)) rfl (by decide +kernel) rfl (Nat.le_of_ble_eq_true rfl) rfl ?_
  intro p e s m below meth c A args Q hAe hx hb hr hts hown hml hlocks hname hA hK hX hT hP hD hS hret ls hl
  have hl : lv_has ls 1 [(0, .float x)] := hl
  refine lv_fload_n hx hb dJxf58ca_floatToIntBits_5c35a_0 rfl (lv_at hl 0 rfl) ?_
  refine gBacki (D := D) (tys := gT cI cC cF cO) (A := A) (wr := []) (w1 := fun _ : Unit => []) (va_runS (As := [.float x]) (rest := []) ⟨hx, hb, hml, hown, hts⟩ (c_isnan l D cI cC cF cO _ x hn) (va_cwS 1 hts gJxf58ca_floatToIntBits_5c35a_Jxf58ca_isNaN_12338 rfl rfl rfl (by decide +kernel) ⟨Nat.le_of_ble_eq_true rfl, Nat.le_of_ble_eq_true rfl⟩) (gPreS hK hX hT hP hD hS hA [] rfl rfl) rfl rfl hl.1 rfl (lv_room (Nat.le_of_ble_eq_true rfl)) dJxf58ca_floatToIntBits_5c35a_1 ⟨Nat.le_of_ble_eq_true rfl, Nat.le_of_ble_eq_true rfl⟩) hP hD hS hA [] [] rfl rfl rfl (by decide) (fun r u H locs hrr hP hD hS => ?_)
  subst hrr
  refine lv_if_ne (tgt := 12) hx hb dJxf58ca_floatToIntBits_5c35a_4 (by decide) (fun hc => absurd rfl hc) (fun hc => ?_)
  refine lv_fload_n hx hb dJxf58ca_floatToIntBits_5c35a_7 rfl (lv_at hl 0 rfl) ?_
  refine vn_f2i hx hb (by rw [hml]; exact hl.1.symm) hown (hts _ (List.mem_of_getElem? (i := 1) rfl)) (hts _ (List.mem_of_getElem? (i := 2) rfl)) (hts _ (List.mem_of_getElem? (i := 3) rfl)) (hts _ (List.mem_of_getElem? (i := 4) rfl)) (Nat.le_of_ble_eq_true rfl) (Nat.le_of_ble_eq_true rfl) dJxf58ca_floatToIntBits_5c35a_8 ?_
  exact hret () [] dJxf58ca_floatToIntBits_5c35a_11 rfl rfl rfl hP hD hS
