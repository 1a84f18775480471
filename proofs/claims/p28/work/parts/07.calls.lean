/-! Contracts over worlds told by lists, and calls by them. -/
def rmc (fr lo mc ms : Nat) : Room := { frames := fr, cells := mc, slots := ms, locals := lo }
def pcW (D : va_G) (cl : List vw_C) (tys : List (ClassId × FieldType)) (ws : va_W) (As : List Value) (sz : Nat) : Array Value → State → Prop := va_Pc As (fun U => U.heap.size = sz ∧ va_P D cl ws U.heap ∧ va_K D cl tys U ∧ va_D (fun _ => True) ws ∧ NWs U)
def qcW (D : va_G) (cl : List vw_C) (ws ws1 : va_W) (r : Option Value) (sz : Nat) : Array Value → State → Outcome → State → Prop := fun _ st oc t => (oc = .returned r ∧ va_P D cl ws1 t.heap) ∧ va_F (va_A ws sz) st t
/-- the method y, in a world ws with the arguments As: it returns r, the world is ws1 -/
def Ct (l : Launch) (y : MethodName) (cc : ByteArray) (maxL : Nat) (ret : Option FieldType) (fr lo : Nat) (D : va_G) (cl : List vw_C) (tys : List (ClassId × FieldType)) (ws ws1 : va_W) (As : List Value) (r : Option Value) : Prop :=
  ∀ sz : Nat, Met l y (.code y cc maxL ret :: wALL) (rmc fr lo 0 0) (pcW D cl tys ws As sz) (qcW D cl ws ws1 r sz) 0 0 (va_A ws sz)
theorem pcW_blind {D : va_G} {cl : List vw_C} {tys : List (ClassId × FieldType)} {ws : va_W} {As : List Value} {sz : Nat} : FrameBlind (pcW D cl tys ws As sz) := fun a U g mk h => by
  obtain ⟨ha, h1, h2, h3, h4, h5⟩ := h
  exact ⟨ha, h1, h2, va_K.moved (u := U) (U := U.calling g mk a) (Vm.Alike.refl U.vm) h3, h4, h5.call⟩
theorem pcW_pre {D : va_G} {cl : List vw_C} {tys : List (ClassId × FieldType)} {ws : va_W} {As : List Value} {s : State} {H : Heap} {A0 : Nat → Prop} (hP : va_P D cl ws H) (hK : va_K D cl tys s) (hD : va_D A0 ws) (hN : NWs s) : PreS s H (pcW D cl tys ws As H.size) As :=
  ⟨pcW_blind, fun U hU hW => ⟨rfl, by rw [hU], by rw [hU]; exact hP, va_K.moved hW.alike hK, hD.weaken (fun _ _ _ _ => trivial), hN.warm hW⟩⟩
theorem va_A_in {A0 : Nat → Prop} {ws : va_W} {H0 H : Heap} {locs : List Loc} (hD : va_D A0 ws) (hS : va_S A0 H0 H locs) (hA : ∀ q, H0.size ≤ q → A0 q) : ∀ q, va_A ws H.size q → A0 q := by
  intro q h
  rcases h with ⟨k, e, h⟩ | h
  · exact hD.2 k (q, e) h
  · exact hA q (Nat.le_trans hS.1 h)
theorem isZ_narrow {v : Int32} (h : v &&& 1 = v) : narrow .boolean (.int v) = .int v := by
  show Value.int (v &&& 1) = .int v
  rw [h]
theorem isZ_or {v : Int32} (h : v &&& 1 = v) : v = 0 ∨ v = 1 := by
  have h1 : (v.toBitVec &&& 1#32) = v.toBitVec := congrArg Int32.toBitVec h
  have h2 : v.toBitVec.toNat % 2 = v.toBitVec.toNat := by
    have h3 := congrArg BitVec.toNat h1
    rw [BitVec.toNat_and] at h3
    have h4 : (1#32).toNat = 1 := rfl
    rw [h4, Nat.and_one_is_mod] at h3
    exact h3
  have h5 : v.toBitVec.toNat = 0 ∨ v.toBitVec.toNat = 1 := by omega
  rcases h5 with h5 | h5
  · exact Or.inl (Int32.toBitVec_inj.mp (BitVec.eq_of_toNat_eq (by rw [h5]; rfl)))
  · exact Or.inr (Int32.toBitVec_inj.mp (BitVec.eq_of_toNat_eq (by rw [h5]; rfl)))
theorem isZ_fits {v : Int32} (h : v &&& 1 = v) : fits .boolean (.int v) = true := by
  rcases isZ_or h with rfl | rfl <;> rfl
theorem os2 {α β : Type} {a c : α} {b d : β} (h : some (a, b) = some (c, d)) : a = c ∧ b = d := by cases h; exact ⟨rfl, rfl⟩
theorem os1 {α : Type} {a c : α} (h : some a = some c) : a = c := Option.some.inj h
theorem ct_of {l : Launch} {y : MethodName} {cc : ByteArray} {maxL : Nat} {ret : Option FieldType} {fr lo : Nat} {D : va_G} {cl : List vw_C} {tys : List (ClassId × FieldType)} {ws ws1 : va_W} {As : List Value} {r : Option Value} (hy : plainName y.cls = true) (hlen : (lg_sl As).length ≤ maxL)
    (body : ∀ (p : Program) (e : Env) (s : State) (m : MethodId) (args : Array Value) (below : List Frame) (meth : Method) (c : Code), p.tables.exec = Jvm.exec → c.code = cc → meth.sig.returnType = ret → meth.locks = false → c.maxLocals = maxL → s.vm.findClass y.cls = some m.cls → (∀ w ∈ wALL, w.before args s = true) → va_K D cl tys s → va_D (va_A ws s.heap.size) ws → NWs s → (∀ q, s.heap.size ≤ q → va_A ws s.heap.size q) →
      WW p l e (rmc fr lo 0 0) s m args below meth c D cl (va_A ws s.heap.size) maxL 0 0 (MQ below (qcW D cl ws ws1 r s.heap.size) args s 0 0 (va_A ws s.heap.size)) ws 0 (lv_args 0 As) []) : Ct l y cc maxL ret fr lo D cl tys ws ws1 As r := by
  intro sz
  refine Met.ofW (cc := cc) (maxL := maxL) (ret := ret) hy rfl ?_
  intro p e s m args below meth c s₁ B hml hv
  obtain ⟨rfl, hsz, hP, hK, hD0, hN⟩ := hv
  have hts := atoms_spec (ws := .code y cc maxL ret :: wALL) B.pre
  subst hsz
  have hl := lv_entry As (n := maxL) hlen
  rw [lg_entry_eq]
  exact body p e s m As.toArray below meth c B.exec B.bytes B.returns B.notSynchronized hml (findClass_of_methodNamed B.named) (fun w hw => hts w (List.mem_cons_of_mem _ hw)) hK hD0.self hN (fun q h => Or.inr h) s.heap [] _ hP va_S.rf hl
/-- what a call's site and its target owe to the tables -/
def csV (own C : String) (index : Nat) (y : MethodName) (cc : ByteArray) (maxL : Nat) (ret : Option FieldType) (n : Nat) : Prop :=
  Cond.methodLink own index y ∈ wALL ∧ Cond.instanceMethod y ∈ wALL ∧ Cond.selects C y y ∈ wALL ∧ Cond.initialized C ∈ wALL ∧ Cond.code y cc maxL ret ∈ wALL ∧ (y.cls = C ∧ y.cls ≠ "java/lang/invoke/MethodHandle" ∧ y.cls ≠ "java/lang/invoke/VarHandle" ∧ (parseMethodDescriptor y.desc).map (fun d => d.parameters.length) = some n)
def csS (own : String) (index : Nat) (y : MethodName) (cc : ByteArray) (maxL : Nat) (ret : Option FieldType) (n : Nat) : Prop :=
  Cond.methodLink own index y ∈ wALL ∧ Cond.static y ∈ wALL ∧ Cond.initialized y.cls ∈ wALL ∧ Cond.code y cc maxL ret ∈ wALL ∧ (y.cls ≠ "java/lang/invoke/MethodHandle" ∧ y.cls ≠ "java/lang/invoke/VarHandle" ∧ (parseMethodDescriptor y.desc).map (fun d => d.parameters.length) = some n)
def csN (own : String) (index : Nat) (y : MethodName) (host : String) (cc : ByteArray) (maxL : Nat) (ret : Option FieldType) (n : Nat) : Prop :=
  (own, index, y, host) ∈ nestL ∧ Cond.static y ∈ wALL ∧ Cond.initialized y.cls ∈ wALL ∧ Cond.code y cc maxL ret ∈ wALL ∧ (y.cls ≠ "java/lang/invoke/MethodHandle" ∧ y.cls ≠ "java/lang/invoke/VarHandle" ∧ (parseMethodDescriptor y.desc).map (fun d => d.parameters.length) = some n)
section CLS
variable {p : Program} {l : Launch} {e : Env} {R : Room} {s : State} {m : MethodId} {args : Array Value} {below : List Frame} {meth : Method} {c : Code} {cells slots : Nat} {Q : State → Prop}
variable {D : va_G} {cl : List vw_C} {tys : List (ClassId × FieldType)} {A0 : Nat → Prop} {nL : Nat} {ws ws1 : va_W} {cc : ByteArray} {pc : Nat} {lv lv1 : List (Nat × Value)} {st : List Value}
/-- behind a call by Ct -/
theorem ww_run {H : Heap} {locs : List Loc} {ls : Array Slot} {g : JFrame} {rest : List Value} {a : Array Value} {r : Option Value} (hr : va_Run p l e R s m args below meth c H locs cells slots 0 0 g rest (qcW D cl ws ws1 r H.size a) (va_A ws H.size)) (hg : g = F0 m pc ls st) (hD : va_D A0 ws) (hA : ∀ q, s.heap.size ≤ q → A0 q) (hS : va_S A0 s.heap H locs) (hl : lv_has ls nL lv)
    (kk : WW p l e R s m args below meth c D cl A0 nL cells slots Q ws1 (pc + 3) lv (r.toList ++ rest)) : W p l e R s m args below meth c H locs cells slots Q (F0 m pc ls st) := by
  subst hg
  intro T hT X
  obtain ⟨v, st₀, t, T', L, h0, X', hL, e1, e2, ⟨⟨hv, hP1⟩, hF⟩, stp⟩ := hr T hT X
  cases hv
  have hfree := va_A_in hD hS hA
  obtain ⟨-, -, k3⟩ := vx_keep h0 e1 hS (fun q _ h => hfree q h) hfree hL hF
  obtain ⟨t2, a1, b1⟩ := kk T'.heap (locs ++ L) ls (by rw [e1]; exact hP1) k3 hl T' rfl X'
  exact ⟨t2, stp t2 a1, b1⟩
theorem ww_callV (hx : p.tables.exec = Jvm.exec) (hb : c.code = cc) (hml : c.maxLocals = nL) {own : String} (hown : s.vm.findClass own = some m.cls) (hts : ∀ w ∈ wALL, w.before args s = true) (hK : va_K D cl tys s) (hN : NWs s) (hA : ∀ q, s.heap.size ≤ q → A0 q) (hD : va_D A0 ws) (hc : cells ≤ R.cells) (hs : slots ≤ R.slots) {y : MethodName} {bytes : ByteArray} {maxL index n fr lo b ci : Nat} {ret : Option FieldType} {C : String} {r : Option Value} {T : u_T} {N : Nat} {fs : List Value} (As rest : List Value) (hC : Ct l y bytes maxL ret fr lo D cl tys ws ws1 (.ref b :: As) r) (hk : csV own C index y bytes maxL ret n) (hn : As.length = n) (hR : fr + 1 ≤ R.frames ∧ 8 + (maxL + 11) + lo ≤ R.locals) (q0 : Nat) (he : ws[q0]? = some (b, .inr (ci, fs))) (hcl : cl[ci]? = some (C, T, N)) (hst : st = As.reverse ++ .ref b :: rest) (hW : (rest.map fun v => v.category).sum ≤ 8) (hd : decode cc pc = .ok (.invokevirtual index, 3)) {st1 : List Value} (hr1 : r.toList ++ rest = st1)
    (kk : WW p l e R s m args below meth c D cl A0 nL cells slots Q ws1 (pc + 3) lv st1) : WW p l e R s m args below meth c D cl A0 nL cells slots Q ws pc lv st := by
  intro H locs ls hP hS hl
  obtain ⟨k1, k2, k3, k4, k5, hd5⟩ := hk
  obtain ⟨hC5, hd5⟩ := hd5
  have cw : CallW R s args own C index y bytes maxL ret (.code y bytes maxL ret :: wALL) (rmc fr lo 0 0) 0 0 n := ⟨callB_of n hts (all_in0 k5) rfl rfl rfl (hts _ (by rw [hC5]; exact k4)) (hts _ k1) hd5 hR, hts _ k2, hts _ k3⟩
  have hp : PreV s H C b (pcW D cl tys ws (.ref b :: As) H.size) As := ⟨pcW_blind, va_recv hK hP hcl he, (pcW_pre hP hK hD hN).2⟩
  exact ww_run (va_runV (g := F0 m pc ls st) (rest := rest) ⟨hx, hb, hml, hown, hts⟩ (hC H.size) cw hp rfl hn hl.1 hst (lv_room hW) hd ⟨hc, hs⟩) rfl hD hA hS hl (hr1 ▸ kk)
theorem ww_callS (hx : p.tables.exec = Jvm.exec) (hb : c.code = cc) (hml : c.maxLocals = nL) {own : String} (hown : s.vm.findClass own = some m.cls) (hts : ∀ w ∈ wALL, w.before args s = true) (hK : va_K D cl tys s) (hN : NWs s) (hA : ∀ q, s.heap.size ≤ q → A0 q) (hD : va_D A0 ws) (hc : cells ≤ R.cells) (hs : slots ≤ R.slots) {y : MethodName} {bytes : ByteArray} {maxL index n fr lo : Nat} {ret : Option FieldType} {r : Option Value} (As rest : List Value) (hC : Ct l y bytes maxL ret fr lo D cl tys ws ws1 As r) (hk : csS own index y bytes maxL ret n) (hn : As.length = n) (hR : fr + 1 ≤ R.frames ∧ 8 + (maxL + 11) + lo ≤ R.locals) (hst : st = As.reverse ++ rest) (hW : (rest.map fun v => v.category).sum ≤ 8) (hd : decode cc pc = .ok (.invokestatic index, 3)) {st1 : List Value} (hr1 : r.toList ++ rest = st1)
    (kk : WW p l e R s m args below meth c D cl A0 nL cells slots Q ws1 (pc + 3) lv st1) : WW p l e R s m args below meth c D cl A0 nL cells slots Q ws pc lv st := by
  intro H locs ls hP hS hl
  obtain ⟨k1, k2, k3, k5, hd5⟩ := hk
  have cw : CallB R s args own index y bytes maxL ret (.code y bytes maxL ret :: wALL) (rmc fr lo 0 0) 0 0 n ∧ (Cond.static y).before args s = true := ⟨callB_of n hts (all_in0 k5) rfl rfl rfl (hts _ k3) (hts _ k1) hd5 hR, hts _ k2⟩
  exact ww_run (va_runS (g := F0 m pc ls st) (rest := rest) ⟨hx, hb, hml, hown, hts⟩ (hC H.size) cw (pcW_pre hP hK hD hN) rfl hn hl.1 hst (lv_room hW) hd ⟨hc, hs⟩) rfl hD hA hS hl (hr1 ▸ kk)
theorem ww_callN (hx : p.tables.exec = Jvm.exec) (hb : c.code = cc) (hml : c.maxLocals = nL) {own : String} (hown : s.vm.findClass own = some m.cls) (hts : ∀ w ∈ wALL, w.before args s = true) (hK : va_K D cl tys s) (hN : NWs s) (hA : ∀ q, s.heap.size ≤ q → A0 q) (hD : va_D A0 ws) (hc : cells ≤ R.cells) (hs : slots ≤ R.slots) {y : MethodName} {bytes : ByteArray} {maxL index n fr lo : Nat} {host : String} {ret : Option FieldType} {r : Option Value} (As rest : List Value) (hC : Ct l y bytes maxL ret fr lo D cl tys ws ws1 As r) (hk : csN own index y host bytes maxL ret n) (hn : As.length = n) (hR : fr + 1 ≤ R.frames ∧ 8 + (maxL + 11) + lo ≤ R.locals) (hst : st = As.reverse ++ rest) (hW : (rest.map fun v => v.category).sum ≤ 8) (hd : decode cc pc = .ok (.invokestatic index, 3)) {st1 : List Value} (hr1 : r.toList ++ rest = st1)
    (kk : WW p l e R s m args below meth c D cl A0 nL cells slots Q ws1 (pc + 3) lv st1) : WW p l e R s m args below meth c D cl A0 nL cells slots Q ws pc lv st := by
  intro H locs ls hP hS hl
  obtain ⟨k1, k2, k3, k5, hd5⟩ := hk
  have cw : va_CN R s args own index y host bytes maxL ret (.code y bytes maxL ret :: wALL) (rmc fr lo 0 0) 0 0 n ∧ (Cond.static y).before args s = true ∧ True := ⟨va_cnB n hts (all_in0 k5) rfl rfl rfl (hN.1 _ k1) (hts _ k3) hd5 hR, hts _ k2, trivial⟩
  exact ww_run (va_runSN (g := F0 m pc ls st) (rest := rest) ⟨hx, hb, hml, hown, hts⟩ (hC H.size) cw (pcW_pre hP hK hD hN) rfl hn hl.1 hst (lv_room hW) hd ⟨hc, hs⟩) rfl hD hA hS hl (hr1 ▸ kk)
def imax (x y : Int32) : Int32 := if x < y then y else x
def imin (x y : Int32) : Int32 := if y < x then y else x
theorem ww_iret (hx : p.tables.exec = Jvm.exec) (hb : c.code = cc) {ws0 : va_W} {v : Int32} {r : Option Value} (hr : meth.sig.returnType = some .int) (hlk : meth.locks = false) (hv : some (.int v) = r) (hd : decode cc pc = .ok (.ireturn, 1)) : WW p l e R s m args below meth c D cl (va_A ws0 s.heap.size) nL cells slots (MQ below (qcW D cl ws0 ws r s.heap.size) args s cells slots (va_A ws0 s.heap.size)) ws pc lv [.int v] :=
  fun _ _ _ hP hS _ => W.iret hx hb hr (fun t ht _ => ⟨⟨by rw [hv], by rw [ht]; exact hP⟩, hS.F ht⟩) hS.2.2 hd hlk
theorem ww_zret (hx : p.tables.exec = Jvm.exec) (hb : c.code = cc) {ws0 : va_W} {v : Int32} {r : Option Value} (hr : meth.sig.returnType = some .boolean) (hlk : meth.locks = false) (hz : v &&& 1 = v) (hv : some (.int v) = r) (hd : decode cc pc = .ok (.ireturn, 1)) : WW p l e R s m args below meth c D cl (va_A ws0 s.heap.size) nL cells slots (MQ below (qcW D cl ws0 ws r s.heap.size) args s cells slots (va_A ws0 s.heap.size)) ws pc lv [.int v] :=
  fun _ _ _ hP hS _ => W.zret hx hb hr (isZ_narrow hz) (fun t ht _ => ⟨⟨by rw [hv], by rw [ht]; exact hP⟩, hS.F ht⟩) hS.2.2 hd hlk
theorem ww_vret (hx : p.tables.exec = Jvm.exec) (hb : c.code = cc) {ws0 : va_W} (hr : meth.sig.returnType = none) (hlk : meth.locks = false) (hd : decode cc pc = .ok (.return_, 1)) : WW p l e R s m args below meth c D cl (va_A ws0 s.heap.size) nL cells slots (MQ below (qcW D cl ws0 ws none s.heap.size) args s cells slots (va_A ws0 s.heap.size)) ws pc lv [] :=
  fun _ _ _ hP hS _ => W.vret hx hb hr (fun t ht _ => ⟨⟨rfl, by rw [ht]; exact hP⟩, hS.F ht⟩) hS.2.2 hd hlk
theorem ww_max (hx : p.tables.exec = Jvm.exec) (hb : c.code = cc) (hml : c.maxLocals = nL) {own : String} (hown : s.vm.findClass own = some m.cls) (hts : ∀ w ∈ wALL, w.before args s = true) (hc : cells ≤ R.cells) (hs : slots ≤ R.slots) {x y : Int32} {index : Nat} {rest : List Value} (k1 : Cond.methodLink own index Lib.Math.max.name ∈ wALL) (k2 : Cond.static Lib.Math.max.name ∈ wALL) (k3 : Cond.initialized "java/lang/Math" ∈ wALL) (k4 : Cond.code Lib.Math.max.name Lib.Math.max.code 2 (some .int) ∈ wALL) (hR : 1 ≤ R.frames ∧ (rest.map fun v => v.category).sum + 13 ≤ R.locals) (hd : decode cc pc = .ok (.invokestatic index, 3))
    (kk : WW p l e R s m args below meth c D cl A0 nL cells slots Q ws (pc + 3) lv (.int (imax x y) :: rest)) : WW p l e R s m args below meth c D cl A0 nL cells slots Q ws pc lv (.int y :: .int x :: rest) :=
  fun H locs ls hP hS hl => va_mmax hx hb (hml.trans hl.1.symm) hown (hts _ k1) (hts _ k2) (hts _ k3) (hts _ k4) hR.1 hR.2 hc hs hd (kk H locs ls hP hS hl)
theorem ww_min (hx : p.tables.exec = Jvm.exec) (hb : c.code = cc) (hml : c.maxLocals = nL) {own : String} (hown : s.vm.findClass own = some m.cls) (hts : ∀ w ∈ wALL, w.before args s = true) (hc : cells ≤ R.cells) (hs : slots ≤ R.slots) {x y : Int32} {index : Nat} {rest : List Value} (k1 : Cond.methodLink own index Lib.Math.min.name ∈ wALL) (k2 : Cond.static Lib.Math.min.name ∈ wALL) (k3 : Cond.initialized "java/lang/Math" ∈ wALL) (k4 : Cond.code Lib.Math.min.name Lib.Math.min.code 2 (some .int) ∈ wALL) (hR : 1 ≤ R.frames ∧ (rest.map fun v => v.category).sum + 13 ≤ R.locals) (hd : decode cc pc = .ok (.invokestatic index, 3))
    (kk : WW p l e R s m args below meth c D cl A0 nL cells slots Q ws (pc + 3) lv (.int (imin x y) :: rest)) : WW p l e R s m args below meth c D cl A0 nL cells slots Q ws pc lv (.int y :: .int x :: rest) :=
  fun H locs ls hP hS hl => va_mmin hx hb (hml.trans hl.1.symm) hown (hts _ k1) (hts _ k2) (hts _ k3) (hts _ k4) hR.1 hR.2 hc hs hd (kk H locs ls hP hS hl)
end CLS
