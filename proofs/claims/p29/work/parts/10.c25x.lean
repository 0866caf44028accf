/-! 'ldc_w' of a float; Float.floatToIntBits of what is no NaN -/
section
variable {p : Program} {l : Launch} {e : Env} {R : Room} {s : State} {m : MethodId} {args : Array Value} {below : List Frame} {meth : Method} {c : Code} {H : Heap} {locs : List Loc} {cells slots : Nat} {Q : State → Prop}
theorem g_ldcwF0 {T : State} (X : Stand p l e R s m args below meth c T locs cells slots) (hexec : p.tables.exec = Jvm.exec) {own : String} {index : Nat} {b : UInt32} (hown : s.vm.findClass own = some m.cls)
    (hconst : (Cond.constantFloat own index b).before args s = true) {g : JFrame} (hg : g.method = m) (hdg : decode c.code g.pc = .ok (.ldc_w index, 3)) :
    ∀ target, Steps p.tables e below (T.setTop { g with pc := g.pc + 3, stack := .float b :: g.stack }) target → Steps p.tables e below (T.setTop g) target := by
  obtain ⟨k, cf, hk, hcf, hc⟩ := Cond.constantFloat_spec hown hconst
  obtain ⟨k', hk', he⟩ := X.warmed.alike.2.2 _ _ hk
  intro target hrest
  subst hg
  jvm_step X.here [hexec, hdg, ldc_w.wp_float (s := T) (f := g) X.here.top hk' (by rw [he]; exact hcf) hc]
  exact hrest
theorem lv_ldcwf {cc : ByteArray} {pc : Nat} {ls : Array Slot} {rest : List Value} (hexec : p.tables.exec = Jvm.exec) (hb : c.code = cc) {own : String} {index : Nat} {v : UInt32} (hown : s.vm.findClass own = some m.cls) (hconst : (Jvm.Cond.constantFloat own index v).before args s = true) (hdg : decode cc pc = .ok (.ldc_w index, 3)) (k : W p l e R s m args below meth c H locs cells slots Q (F0 m (pc + 3) ls (.float v :: rest))) : W p l e R s m args below meth c H locs cells slots Q (F0 m pc ls rest) := by
  intro T hT X
  obtain ⟨t, a, b⟩ := k T hT X
  exact ⟨t, g_ldcwF0 X hexec hown hconst (g := F0 m pc ls rest) rfl (by rw [hb]; exact hdg) t a, b⟩
end
theorem vf_mod {r : UInt32} (h : vf_n32 r) : r.toNat % 2147483648 ≤ 2139095040 := by
  unfold vf_n32 at h
  have h1 := UInt32.le_iff_toNat_le.mp h
  rw [UInt32.toNat_and] at h1
  have h2 : r.toNat &&& (0x7fffffff : UInt32).toNat = r.toNat % 2147483648 := Nat.and_two_pow_sub_one_eq_mod r.toNat 31
  rw [h2] at h1
  exact h1
theorem vf_notNaN {r : UInt32} (h : vf_n32 r) : FP.Core.decode FP.Core.b32 r.toNat ≠ .nan := by
  have h1 := vf_mod h
  unfold FP.Core.decode
  have e1 : FP.Core.fieldE FP.Core.b32 r.toNat = r.toNat / 8388608 % 256 := rfl
  have e2 : FP.Core.fieldT FP.Core.b32 r.toNat = r.toNat % 8388608 := rfl
  have e3 : FP.Core.b32.exps - 1 = 255 := rfl
  rw [e1, e2, e3]
  split
  · split
    · simp
    · omega
  · split <;> simp
theorem vf_cmpSelf {r : UInt32} (h : vf_n32 r) (op : CmpOp) : Op.cmpValue (FP.fcmp r r) op = 0 := by
  have h1 := vf_notNaN h
  have h2 : FP.fcmp r r = some .eq := by
    show FP.Core.order (FP.Core.decode FP.Core.b32 r.toNat) (FP.Core.decode FP.Core.b32 r.toNat) = some .eq
    cases hd : FP.Core.decode FP.Core.b32 r.toNat with
    | nan => exact absurd hd h1
    | inf s => simp [FP.Core.order, compare, compareOfLessAndEq]
    | fin s c q => simp [FP.Core.order, compare, compareOfLessAndEq]
  rw [h2]
  cases op <;> rfl
