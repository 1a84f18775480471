/-! The law's own static methods, and rows for worlds with a frame. -/
theorem pxW_blind {D : va_G} {cl : List vw_C} {tys : List (ClassId × FieldType)} {ws : va_W} {As : List Value} {sz : Nat} : FrameBlind (pxW D cl tys ws As sz) := fun a U g mk h => by
  obtain ⟨ha, h1, h2, h3, h4, h5, h6⟩ := h
  exact ⟨ha, h1, h2, va_K.moved (u := U) (U := U.calling g mk a) (Vm.Alike.refl U.vm) h3, h4, h5.call, ⟨vx_Zq.moved (u := U) (U := U.calling g mk a) (Vm.Alike.refl U.vm) h6.1, vx_Zq.moved (u := U) (U := U.calling g mk a) (Vm.Alike.refl U.vm) h6.2⟩⟩
theorem pxW_pre {D : va_G} {cl : List vw_C} {tys : List (ClassId × FieldType)} {ws : va_W} {As : List Value} {s : State} {H : Heap} {locs : List Loc} {A0 : Nat → Prop} (hP : va_P D cl ws H) (hK : va_K D cl tys s) (hD : va_D A0 ws) (hN : NWs s) (hZ : ZZ A0 s) (hS : va_S A0 s.heap H locs) (hA : ∀ q, s.heap.size ≤ q → A0 q) : PreS s H (pxW D cl tys ws As H.size) As :=
  ⟨pxW_blind, fun U hU hW => ⟨rfl, by rw [hU], by rw [hU]; exact hP, va_K.moved hW.alike hK, hD.weaken (fun _ _ _ _ => trivial), hN.warm hW,
    ⟨by rw [hU]; exact ((hZ.1.kept hS.2.1).moved hW.alike).narrow (va_A_in hD hS hA), by rw [hU]; exact ((hZ.2.kept hS.2.1).moved hW.alike).narrow (va_A_in hD hS hA)⟩⟩⟩
theorem va_D.sw {A : Nat → Prop} {a b : va_W} (h : va_D A (a ++ b)) : va_D A (b ++ a) := by
  have hl : ∀ (k : Nat) (q : Nat × va_E), a[k]? = some q → (a ++ b)[k]? = some q := fun k q h => by
    rw [List.getElem?_append_left ((List.getElem?_eq_some_iff.mp h).1)]; exact h
  have hr : ∀ (k : Nat) (q : Nat × va_E), b[k]? = some q → (a ++ b)[a.length + k]? = some q := fun k q h => by
    rw [List.getElem?_append_right (Nat.le_add_right _ _), Nat.add_sub_cancel_left]; exact h
  refine va_D.app h.last ⟨fun i j p q hi hj e => h.1 i j p q (hl i p hi) (hl j q hj) e, fun k q hk => h.2 k q (hl k q hk)⟩ (fun i j p q hi hj e => ?_)
  have h1 := h.1 _ _ p q (hr i p hi) (hl j q hj) e
  have h2 := (List.getElem?_eq_some_iff.mp hj).1
  omega
/-- the number that a helper of the law answers for what was thrown -/
def hcode : List String → Int32 → String → Option Int32
  | [], _, _ => none
  | a :: t, n, E => if E = a then some n else hcode t (n + 1) E
/-- what a helper of the law answers, and the cell behind it -/
def hres (Es : List String) (z : Bool) (f : Nat → Int64) (r : Int32 ⊕ String) : Option (Int32 × (Nat → Int64)) := match r with
  | .inl v => some (0, vp_updL f (Int32.toNatClampNeg 0) (if z = true then (if v = 0 then Int64.ofNat ((0 : Fin 2) : Nat) else Int64.ofNat ((1 : Fin 2) : Nat)) else v.toInt64))
  | .inr E => (hcode Es 1 E).map (fun k => (k, f))
def CtH (l : Launch) (y : MethodName) (cc : ByteArray) (maxL : Nat) (hh : List (Nat × Nat × Nat × Nat)) (fr lo : Nat) (D : va_G) (cl : List vw_C) (tys : List (ClassId × FieldType)) (ws ws1 : va_W) (As : List Value) (k : Int32) : Prop :=
  ∀ sz : Nat, vx_Met l y (.codeWith y cc maxL (some .int) hh :: wALL) (rmc fr lo 1 6) (pxW D cl tys ws As sz) (qxW D cl ws ws1 (.inl k) sz) (xcW D cl ws ws1 (.inl k) sz) 1 6 (va_A ws sz)
theorem cth_of {l : Launch} {y : MethodName} {cc : ByteArray} {maxL : Nat} {hh : List (Nat × Nat × Nat × Nat)} {fr lo : Nat} {D : va_G} {cl : List vw_C} {tys : List (ClassId × FieldType)} {ws ws1 : va_W} {As : List Value} {k : Int32} (hy : plainName y.cls = true) (hlen : (lg_sl As).length ≤ maxL)
    (body : ∀ (p : Program) (e : Env) (s : State) (m : MethodId) (args : Array Value) (below : List Frame) (meth : Method) (c : Code), p.tables.exec = Jvm.exec → c.code = cc → meth.sig.returnType = some .int → meth.locks = false → c.maxLocals = maxL → s.vm.findClass y.cls = some m.cls → (∀ w ∈ wALL, w.before args s = true) → va_K D cl tys s → va_D (va_A ws s.heap.size) ws → NWs s → (∀ q, s.heap.size ≤ q → va_A ws s.heap.size q) → ZZ (va_A ws s.heap.size) s → c.exceptionTable.toList = tableOf hh →
      WW p l e (rmc fr lo 1 6) s m args below meth c D cl (va_A ws s.heap.size) maxL 0 0 (vx_MQ below (qxW D cl ws ws1 (.inl k) s.heap.size) (xcW D cl ws ws1 (.inl k) s.heap.size) args s 1 6 (va_A ws s.heap.size)) ws 0 (lv_args 0 As) []) : CtH l y cc maxL hh fr lo D cl tys ws ws1 As k := by
  intro sz
  refine vx_ofWH (cc := cc) (maxL := maxL) (ret := some .int) (hh := hh) hy rfl ?_
  intro p e s m args below meth c s₁ B hml hv
  obtain ⟨rfl, hsz, hP, hK, hD0, hN, hZ⟩ := hv
  have hts := atoms_spec (ws := .codeWith y cc maxL (some .int) hh :: wALL) B.pre
  have htab := vx_table (x := y) B (hts _ List.mem_cons_self)
  subst hsz
  have hl := lv_entry As (n := maxL) hlen
  rw [lg_entry_eq]
  exact body p e s m As.toArray below meth c B.exec B.bytes B.returns B.notSynchronized hml (findClass_of_methodNamed B.named) (fun w hw => hts w (List.mem_cons_of_mem _ hw)) hK hD0.self hN (fun q h => Or.inr h) hZ htab s.heap [] _ hP va_S.rf hl
def csH (own : String) (index : Nat) (y : MethodName) (cc : ByteArray) (maxL : Nat) (hh : List (Nat × Nat × Nat × Nat)) (n : Nat) : Prop :=
  Cond.methodLink own index y ∈ wALL ∧ Cond.static y ∈ wALL ∧ Cond.initialized y.cls ∈ wALL ∧ Cond.codeWith y cc maxL (some .int) hh ∈ wALL ∧ (y.cls ≠ "java/lang/invoke/MethodHandle" ∧ y.cls ≠ "java/lang/invoke/VarHandle" ∧ (parseMethodDescriptor y.desc).map (fun d => d.parameters.length) = some n)
section HRS
variable {p : Program} {l : Launch} {e : Env} {R : Room} {s : State} {m : MethodId} {args : Array Value} {below : List Frame} {meth : Method} {c : Code} {cells slots : Nat} {Q : State → Prop}
variable {D : va_G} {cl : List vw_C} {tys : List (ClassId × FieldType)} {A0 : Nat → Prop} {nL : Nat} {ws ws1 : va_W} {cc : ByteArray} {pc : Nat} {lv lv1 : List (Nat × Value)} {st : List Value}
theorem ww_swap {a b : va_W} (kk : WW p l e R s m args below meth c D cl A0 nL cells slots Q (b ++ a) pc lv st) : WW p l e R s m args below meth c D cl A0 nL cells slots Q (a ++ b) pc lv st :=
  fun H locs ls hP hS hl => kk H locs ls (va_P.app hP.last (fun k q hk => hP k q (by rw [List.getElem?_append_left ((List.getElem?_eq_some_iff.mp hk).1)]; exact hk))) hS hl
theorem ww_widen {k n : Nat} (h1 : cells ≤ k) (h2 : slots ≤ n) (kk : WW p l e R s m args below meth c D cl A0 nL k n Q ws pc lv st) : WW p l e R s m args below meth c D cl A0 nL cells slots Q ws pc lv st := fun H locs ls hP hS hl => W.widen h1 h2 (kk H locs ls hP hS hl)
theorem ww_hiret (hx : p.tables.exec = Jvm.exec) (hb : c.code = cc) {ws0 : va_W} {v : Int32} {r : Int32 ⊕ String} (hr : meth.sig.returnType = some .int) (hlk : meth.locks = false) (hv : Sum.inl v = r) (hd : decode cc pc = .ok (.ireturn, 1)) : WW p l e R s m args below meth c D cl (va_A ws0 s.heap.size) nL (0 + 1) (0 + 6) (vx_MQ below (qxW D cl ws0 ws r s.heap.size) (xcW D cl ws0 ws r s.heap.size) args s 1 6 (va_A ws0 s.heap.size)) ws pc lv [.int v] :=
  fun _ _ _ hP hS _ => W.widen (k := 1) (n := 6) (Nat.le_refl _) (Nat.le_refl _) (vx_ret (W.iret hx hb hr (fun t ht _ => ⟨⟨⟨v, hv.symm, rfl⟩, by rw [ht]; exact hP⟩, hS.F ht⟩) hS.2.2 hd hlk))
/-- an E is thrown here -/
def XW (p : Program) (l : Launch) (e : Env) (R : Room) (s : State) (m : MethodId) (args : Array Value) (below : List Frame) (meth : Method) (c : Code) (D : va_G) (cl : List vw_C) (A0 : Nat → Prop) (nL cells slots : Nat) (Q : State → Prop) (ws : va_W) (E : String) (pc : Nat) (lv : List (Nat × Value)) (rest : List Value) : Prop :=
  ∀ (H : Heap) (locs : List Loc) (ls : Array Slot) (q : Addr) (ce : Cell), va_P D cl ws H → va_S A0 s.heap H locs → lv_has ls nL lv → H[q]? = some ce → ce.vm = .none → s.vm.findClass E = some ce.cls → vx_W p l e R s m args below meth c H locs cells slots Q (F0 m pc ls rest) q
theorem ww_catch {own E : String} {hh : List (Nat × Nat × Nat × Nat)} (hown : s.vm.findClass own = some m.cls) (hts : ∀ w ∈ wALL, w.before args s = true) (hN : NWs s) (hE : E ∈ castL) (htab : c.exceptionTable.toList = tableOf hh) (pre : List (ExceptionTableEntry × String)) (x : ExceptionTableEntry) (suf : List ExceptionTableEntry) (hsplit : tableOf hh = pre.map Prod.fst ++ x :: suf)
    (hpass : ∀ z ∈ pre, z.1.catchType ≠ 0 ∧ Cond.classLink own z.1.catchType z.2 ∈ wALL ∧ z.2 ∈ castL ∧ E ≠ z.2) (hcov : covers x pc = true) (h0 : x.catchType ≠ 0) (hlink : Cond.classLink own x.catchType E ∈ wALL)
    (kk : ∀ q : Nat, WW p l e R s m args below meth c D cl A0 nL cells slots Q ws x.handlerPc lv [.ref q]) : XW p l e R s m args below meth c D cl A0 nL cells slots Q ws E pc lv st :=
  fun H locs ls q ce hP hS hl hce hcv hcl => vx_catch hown (pre.map Prod.fst) x suf (htab.trans hsplit) (fun z hz => by
    obtain ⟨w, hw, rfl⟩ := List.mem_map.mp hz
    obtain ⟨h1, h2, h3, h4⟩ := hpass w hw
    exact Or.inr ⟨h1, w.2, hts _ h2, hN.2.2.1 E hE w.2 h3 h4⟩) hcov h0 (hts _ hlink) (va_Nw.use rfl (hN.2.1 E hE)) hce hcv hcl (kk q H locs ls hP hS hl)
/-- the class's method, called with a frame beside its world -/
theorem ww_callX (hx : p.tables.exec = Jvm.exec) (hb : c.code = cc) (hml : c.maxLocals = nL) {own : String} (hown : s.vm.findClass own = some m.cls) (hts : ∀ w ∈ wALL, w.before args s = true) (hK : va_K D cl tys s) (hN : NWs s) (hA : ∀ q, s.heap.size ≤ q → A0 q) (hZ : ZZ A0 s) {tys1 : List (ClassId × FieldType)} (hK1 : va_K D cl tys1 s) {y : MethodName} {bytes : ByteArray} {maxL index n fr lo b ci : Nat} {ret : Option FieldType} {C : String} {r : Int32 ⊕ String} {T : u_T} {N : Nat} {fs : List Value} {w0 w01 : va_W} (wr : va_W) (As rest : List Value) (hC : CtX l y bytes maxL ret fr lo D cl tys1 w0 w01 (.ref b :: As) r) (hk : csV own C index y bytes maxL ret n) (hn : As.length = n) (hR : fr + 1 ≤ R.frames ∧ 8 + (maxL + 11) + lo ≤ R.locals) (hcs : cells + 1 ≤ R.cells ∧ slots + 6 ≤ R.slots) (hws : ws = wr ++ w0) (hD : va_D A0 ws) (hadr : w01.map Prod.fst = w0.map Prod.fst) (q0 : Nat) (he : w0[q0]? = some (b, .inr (ci, fs))) (hcl : cl[ci]? = some (C, T, N)) (hst : st = As.reverse ++ .ref b :: rest) (hW : (rest.map fun v => v.category).sum ≤ 8) (hd : decode cc pc = .ok (.invokevirtual index, 3))
    (kk : ∀ v, r = .inl v → WW p l e R s m args below meth c D cl A0 nL (cells + 1) (slots + 6) Q (wr ++ w01) (pc + 3) lv (.int v :: rest))
    (kx : ∀ E, r = .inr E → XW p l e R s m args below meth c D cl A0 nL (cells + 1) (slots + 6) Q (wr ++ w01) E pc lv rest) : WW p l e R s m args below meth c D cl A0 nL cells slots Q ws pc lv st := by
  subst hws
  intro H locs ls hP hS hl
  obtain ⟨k1, k2, k3, k4, k5, hC5, hd5⟩ := hk
  have cw : CallW R s args own C index y bytes maxL ret (.code y bytes maxL ret :: wALL) (rmc fr lo 1 6) 1 6 n := ⟨callB_of n hts (all_in0 k5) rfl rfl rfl (hts _ (by rw [hC5]; exact k4)) (hts _ k1) hd5 hR, hts _ k2, hts _ k3⟩
  have hp : PreV s H C b (pxW D cl tys1 w0 (.ref b :: As) H.size) As := ⟨pxW_blind, va_recv hK1 hP.last hcl he, (pxW_pre hP.last hK1 hD.last hN hZ hS hA).2⟩
  have hr := vx_runV (e := e) (below := below) (meth := meth) (locs := locs) (cells := cells) (slots := slots) (g := F0 m pc ls st) (rest := rest) ⟨hx, hb, hml, hown, hts⟩ (hC H.size) cw hp rfl hn hl.1 hst (lv_room hW) hd hcs
  have hfree := va_A_in hD.last hS hA
  have hD1 : va_D (va_A w0 H.size) w01 := (hD.last.self (sz := H.size)).adr hadr
  intro T2 hT X
  rcases hr T2 hT X with ⟨v, st₀, t, T', L, h0, X', hL, e1, e2, ⟨⟨⟨w, hw, hv⟩, hP1⟩, hF⟩, stp⟩ | ⟨q, st₀, t, T', L, E, ce, h0, X', hL, e1, e2, ⟨hE, hP1, hF⟩, hce, hcv, hcl1, stp⟩
  · cases hv
    obtain ⟨-, hk, k3⟩ := vx_keep h0 e1 hS (fun q _ h => hfree q h) hfree hL hF
    obtain ⟨hP2, -⟩ := wj (w1 := w01) hP hD hk hfree (by rw [e1]; exact hP1) hD1
    obtain ⟨t2, a1, b1⟩ := kk w hw T'.heap (locs ++ L) ls hP2 k3 hl T' rfl X'
    exact ⟨t2, stp t2 a1, b1⟩
  · obtain ⟨-, hk, k3⟩ := vx_keep h0 e1 hS (fun q _ h => hfree q h) hfree hL hF
    obtain ⟨hP2, -⟩ := wj (w1 := w01) hP hD hk hfree (by rw [e1]; exact hP1) hD1
    obtain ⟨t2, a1, b1⟩ := kx E hE T'.heap (locs ++ L) ls q ce hP2 k3 hl (by rw [e1]; exact hce) hcv hcl1 T' rfl X'
    exact ⟨t2, stp.trans a1, b1⟩
/-- a helper of the law, called with a frame -/
theorem ww_callH (hx : p.tables.exec = Jvm.exec) (hb : c.code = cc) (hml : c.maxLocals = nL) {own : String} (hown : s.vm.findClass own = some m.cls) (hts : ∀ w ∈ wALL, w.before args s = true) (hK : va_K D cl tys s) (hN : NWs s) (hA : ∀ q, s.heap.size ≤ q → A0 q) (hZ : ZZ A0 s) {y : MethodName} {bytes : ByteArray} {maxL index n fr lo : Nat} {hh : List (Nat × Nat × Nat × Nat)} {k : Int32} {w0 w01 : va_W} (wr : va_W) (As rest : List Value) (hC : CtH l y bytes maxL hh fr lo D cl tys w0 w01 As k) (hk : csH own index y bytes maxL hh n) (hn : As.length = n) (hR : fr + 1 ≤ R.frames ∧ 8 + (maxL + 11) + lo ≤ R.locals) (hcs : cells + 1 ≤ R.cells ∧ slots + 6 ≤ R.slots) (hws : ws = wr ++ w0) (hD : va_D A0 ws) (hadr : w01.map Prod.fst = w0.map Prod.fst) (hst : st = As.reverse ++ rest) (hW : (rest.map fun v => v.category).sum ≤ 8) (hd : decode cc pc = .ok (.invokestatic index, 3))
    (kk : WW p l e R s m args below meth c D cl A0 nL (cells + 1) (slots + 6) Q (wr ++ w01) (pc + 3) lv (.int k :: rest)) : WW p l e R s m args below meth c D cl A0 nL cells slots Q ws pc lv st := by
  subst hws
  intro H locs ls hP hS hl
  obtain ⟨k1, k2, k3, k5, hd5⟩ := hk
  have cw : vx_CSW R s args own index y bytes maxL (some .int) hh (.codeWith y bytes maxL (some .int) hh :: wALL) (rmc fr lo 1 6) 1 6 n := ⟨⟨rfl, rfl, hR.1, hR.2, pay_in hts (all_in0 k5), List.mem_cons_self⟩, hts _ k5, hts _ k3, ⟨hd5.1, hd5.2.1⟩, fun sig h => by have h2 := hd5.2.2; rw [h] at h2; exact (Option.some.inj h2).symm, hts _ k1, hts _ k2⟩
  have hr := vx_runSX (e := e) (below := below) (meth := meth) (locs := locs) (cells := cells) (slots := slots) (g := F0 m pc ls st) (rest := rest) ⟨hx, hb, hml, hown, hts⟩ (hC H.size) cw (pxW_pre hP.last hK hD.last hN hZ hS hA) rfl hn hl.1 hst (lv_room hW) hd hcs
  have hfree := va_A_in hD.last hS hA
  have hD1 : va_D (va_A w0 H.size) w01 := (hD.last.self (sz := H.size)).adr hadr
  intro T2 hT X
  rcases hr T2 hT X with ⟨v, st₀, t, T', L, h0, X', hL, e1, e2, ⟨⟨⟨w, hw, hv⟩, hP1⟩, hF⟩, stp⟩ | ⟨q, st₀, t, T', L, E, ce, h0, X', hL, e1, e2, ⟨hE, hP1, hF⟩, hce, hcv, hcl1, stp⟩
  · cases hv
    cases hw
    obtain ⟨-, hk, k3⟩ := vx_keep h0 e1 hS (fun q _ h => hfree q h) hfree hL hF
    obtain ⟨hP2, -⟩ := wj (w1 := w01) hP hD hk hfree (by rw [e1]; exact hP1) hD1
    obtain ⟨t2, a1, b1⟩ := kk T'.heap (locs ++ L) ls hP2 k3 hl T' rfl X'
    exact ⟨t2, stp t2 a1, b1⟩
  · cases hE
/-- a method that doesn't throw, called with a frame -/
theorem ww_callVF (hx : p.tables.exec = Jvm.exec) (hb : c.code = cc) (hml : c.maxLocals = nL) {own : String} (hown : s.vm.findClass own = some m.cls) (hts : ∀ w ∈ wALL, w.before args s = true) (hN : NWs s) (hA : ∀ q, s.heap.size ≤ q → A0 q) {tys1 : List (ClassId × FieldType)} (hK1 : va_K D cl tys1 s) (hc : cells ≤ R.cells) (hs : slots ≤ R.slots) {y : MethodName} {bytes : ByteArray} {maxL index n fr lo b ci : Nat} {ret : Option FieldType} {C : String} {r : Int32} {T : u_T} {N : Nat} {fs : List Value} {w0 w01 : va_W} (wr : va_W) (As rest : List Value) (hC : Ct l y bytes maxL ret fr lo D cl tys1 w0 w01 (.ref b :: As) (some (.int r))) (hk : csV own C index y bytes maxL ret n) (hn : As.length = n) (hR : fr + 1 ≤ R.frames ∧ 8 + (maxL + 11) + lo ≤ R.locals) (hws : ws = wr ++ w0) (hD : va_D A0 ws) (hadr : w01.map Prod.fst = w0.map Prod.fst) (q0 : Nat) (he : w0[q0]? = some (b, .inr (ci, fs))) (hcl : cl[ci]? = some (C, T, N)) (hst : st = As.reverse ++ .ref b :: rest) (hW : (rest.map fun v => v.category).sum ≤ 8) (hd : decode cc pc = .ok (.invokevirtual index, 3))
    (kk : WW p l e R s m args below meth c D cl A0 nL cells slots Q (wr ++ w01) (pc + 3) lv (.int r :: rest)) : WW p l e R s m args below meth c D cl A0 nL cells slots Q ws pc lv st := by
  subst hws
  intro H locs ls hP hS hl
  obtain ⟨k1, k2, k3, k4, k5, hC5, hd5⟩ := hk
  have cw : CallW R s args own C index y bytes maxL ret (.code y bytes maxL ret :: wALL) (rmc fr lo 0 0) 0 0 n := ⟨callB_of n hts (all_in0 k5) rfl rfl rfl (hts _ (by rw [hC5]; exact k4)) (hts _ k1) hd5 hR, hts _ k2, hts _ k3⟩
  have hp : PreV s H C b (pcW D cl tys1 w0 (.ref b :: As) H.size) As := ⟨pcW_blind, va_recv hK1 hP.last hcl he, (pcW_pre hP.last hK1 hD.last hN).2⟩
  have hr := va_runV (e := e) (below := below) (meth := meth) (locs := locs) (cells := cells) (slots := slots) (g := F0 m pc ls st) (rest := rest) ⟨hx, hb, hml, hown, hts⟩ (hC H.size) cw hp rfl hn hl.1 hst (lv_room hW) hd ⟨hc, hs⟩
  have hfree := va_A_in hD.last hS hA
  have hD1 : va_D (va_A w0 H.size) w01 := (hD.last.self (sz := H.size)).adr hadr
  intro T2 hT X
  obtain ⟨v, st₀, t, T', L, h0, X', hL, e1, e2, ⟨⟨hv, hP1⟩, hF⟩, stp⟩ := hr T2 hT X
  cases hv
  obtain ⟨-, hk, k3⟩ := vx_keep h0 e1 hS (fun q _ h => hfree q h) hfree hL hF
  obtain ⟨hP2, -⟩ := wj (w1 := w01) hP hD hk hfree (by rw [e1]; exact hP1) hD1
  obtain ⟨t2, a1, b1⟩ := kk T'.heap (locs ++ L) ls hP2 k3 hl T' rfl X'
  exact ⟨t2, stp t2 a1, b1⟩
theorem ww_sld (hx : p.tables.exec = Jvm.exec) (hb : c.code = cc) {b L : Nat} {xs : Nat → Int32} (hX : va_X b L xs s s.heap) (hbl : b < s.heap.size) (hbA : ¬ A0 b) {i : Int32} (hin : vp_in i L) (hd : decode cc pc = .ok (.iaload, 1)) (kk : WW p l e R s m args below meth c D cl A0 nL cells slots Q ws (pc + 1) lv (.int (xs i.toNatClampNeg) :: st)) : WW p l e R s m args below meth c D cl A0 nL cells slots Q ws pc lv (.int i :: .ref b :: st) :=
  fun H locs ls hP hS hl => va_sld hx hb hX hbl hbA hS hin hd (kk H locs ls hP hS hl)
theorem ww_slen (hx : p.tables.exec = Jvm.exec) (hb : c.code = cc) {b L : Nat} {xs : Nat → Int32} (hX : va_X b L xs s s.heap) (hbl : b < s.heap.size) (hbA : ¬ A0 b) (hd : decode cc pc = .ok (.arraylength, 1)) (kk : WW p l e R s m args below meth c D cl A0 nL cells slots Q ws (pc + 1) lv (.int (Int32.ofNat L) :: st)) : WW p l e R s m args below meth c D cl A0 nL cells slots Q ws pc lv (.ref b :: st) :=
  fun H locs ls hP hS hl => va_slen hx hb hX hbl hbA hS hd (kk H locs ls hP hS hl)
theorem ww_tabO (hx : p.tables.exec = Jvm.exec) (hb : c.code = cc) {dflt lo hi : Int} {offs : Array Int} {len tgt : Nat} {x : Int32} (hd : decode cc pc = .ok (.tableswitch dflt lo hi offs, len)) (h : x.toInt < lo ∨ hi < x.toInt) (ht : (pc : Int) + dflt = (tgt : Int)) (kk : WW p l e R s m args below meth c D cl A0 nL cells slots Q ws tgt lv st) : WW p l e R s m args below meth c D cl A0 nL cells slots Q ws pc lv (.int x :: st) := ww_of (fun _ _ _ _ k => lv_tableOut hx hb hd h ht k) kk
theorem ww_tabI (hx : p.tables.exec = Jvm.exec) (hb : c.code = cc) {dflt lo hi off : Int} {offs : Array Int} {len tgt : Nat} {x : Int32} (hd : decode cc pc = .ok (.tableswitch dflt lo hi offs, len)) (h1 : ¬ x.toInt < lo) (h2 : ¬ hi < x.toInt) (ho : offs[(x.toInt - lo).toNat]? = some off) (ht : (pc : Int) + off = (tgt : Int)) (kk : WW p l e R s m args below meth c D cl A0 nL cells slots Q ws tgt lv st) : WW p l e R s m args below meth c D cl A0 nL cells slots Q ws pc lv (.int x :: st) := ww_of (fun _ _ _ _ k => lv_tableIn hx hb hd h1 h2 ho ht k) kk
end HRS
theorem in0 : vp_in 0 1 := fun h => by
  rcases h with h | h
  · exact absurd h (by decide)
  · exact absurd h (by decide)
abbrev WO (o : Nat) (cL : ClassId) (f : Nat → Int64) : va_W := [(o, .inl (cL, 1, .inr (.inl f)))]
theorem kw_381 : Cond.codeWith yL_addScene cL_addScene 8 (some .int) [(0, 16, 19, 13), (0, 16, 23, 15)] ∈ wALL := tk2 (i := 83) rfl rfl
theorem kw_382 : Cond.methodLink RL 7 yX4_addScene ∈ wALL := tk2 (i := 86) rfl rfl
theorem kw_383 : Cond.instanceMethod yX4_addScene ∈ wALL := tk2 (i := 87) rfl rfl
theorem kw_384 : Cond.selects RX4 yX4_addScene yX4_addScene ∈ wALL := tk2 (i := 88) rfl rfl
theorem kw_385 : Cond.code yX4_addScene cX4_addScene 6 (some .int) ∈ wALL := tk2 (i := 89) rfl rfl
theorem kw_386 : Cond.classLink RL 13 "java/lang/IllegalArgumentException" ∈ wALL := tk2 (i := 84) rfl rfl
theorem kw_387 : Cond.classLink RL 15 "java/lang/IllegalStateException" ∈ wALL := tk2 (i := 85) rfl rfl
theorem kw_388 : Cond.codeWith yL_setOut cL_setOut 5 (some .int) [(0, 17, 20, 21)] ∈ wALL := tk2 (i := 183) rfl rfl
theorem kw_389 : Cond.methodLink RL 17 yX4_setOut ∈ wALL := tk2 (i := 185) rfl rfl
theorem kw_390 : Cond.instanceMethod yX4_setOut ∈ wALL := tk2 (i := 186) rfl rfl
theorem kw_391 : Cond.selects RX4 yX4_setOut yX4_setOut ∈ wALL := tk2 (i := 187) rfl rfl
theorem kw_392 : Cond.code yX4_setOut cX4_setOut 4 (some .boolean) ∈ wALL := tk2 (i := 188) rfl rfl
theorem kw_393 : Cond.classLink RL 21 "java/lang/IndexOutOfBoundsException" ∈ wALL := tk2 (i := 184) rfl rfl
theorem kw_394 : Cond.codeWith yL_setChild cL_setChild 5 (some .int) [(0, 17, 20, 21)] ∈ wALL := tk2 (i := 208) rfl rfl
theorem kw_395 : Cond.methodLink RL 23 yX4_setChild ∈ wALL := tk2 (i := 209) rfl rfl
theorem kw_396 : Cond.instanceMethod yX4_setChild ∈ wALL := tk2 (i := 210) rfl rfl
theorem kw_397 : Cond.selects RX4 yX4_setChild yX4_setChild ∈ wALL := tk2 (i := 211) rfl rfl
theorem kw_398 : Cond.code yX4_setChild cX4_setChild 4 (some .boolean) ∈ wALL := tk2 (i := 212) rfl rfl
theorem kw_399 : Cond.codeWith yL_setRates cL_setRates 5 (some .int) [(0, 10, 13, 13)] ∈ wALL := tk2 (i := 215) rfl rfl
theorem kw_400 : Cond.methodLink RL 26 yX4_setRates ∈ wALL := tk2 (i := 216) rfl rfl
theorem kw_401 : Cond.instanceMethod yX4_setRates ∈ wALL := tk2 (i := 217) rfl rfl
theorem kw_402 : Cond.selects RX4 yX4_setRates yX4_setRates ∈ wALL := tk2 (i := 218) rfl rfl
theorem kw_403 : Cond.code yX4_setRates cX4_setRates 4 (some .int) ∈ wALL := tk2 (i := 219) rfl rfl
theorem kw_404 : Cond.codeWith yL_shoot cL_shoot 4 (some .int) [(0, 9, 12, 15)] ∈ wALL := tk2 (i := 222) rfl rfl
theorem kw_405 : Cond.methodLink RL 30 yX4_shoot ∈ wALL := tk2 (i := 223) rfl rfl
theorem kw_406 : Cond.instanceMethod yX4_shoot ∈ wALL := tk2 (i := 224) rfl rfl
theorem kw_407 : Cond.selects RX4 yX4_shoot yX4_shoot ∈ wALL := tk2 (i := 225) rfl rfl
theorem kw_408 : Cond.code yX4_shoot cX4_shoot 6 (some .int) ∈ wALL := tk2 (i := 226) rfl rfl
theorem kw_409 : Cond.codeWith yL_approve cL_approve 5 (some .int) [(0, 10, 13, 21), (0, 10, 17, 13)] ∈ wALL := tk3 (i := 31) rfl rfl
theorem kw_410 : Cond.methodLink RL 34 yX4_approve ∈ wALL := tk3 (i := 32) rfl rfl
theorem kw_411 : Cond.instanceMethod yX4_approve ∈ wALL := tk3 (i := 33) rfl rfl
theorem kw_412 : Cond.selects RX4 yX4_approve yX4_approve ∈ wALL := tk3 (i := 34) rfl rfl
theorem kw_413 : Cond.code yX4_approve cX4_approve 3 (some .int) ∈ wALL := tk3 (i := 35) rfl rfl
theorem kw_414 : Cond.codeWith yL_grant cL_grant 4 (some .int) [(0, 9, 12, 13)] ∈ wALL := tk3 (i := 40) rfl rfl
theorem kw_415 : Cond.methodLink RL 37 yX4_grant ∈ wALL := tk3 (i := 41) rfl rfl
theorem kw_416 : Cond.instanceMethod yX4_grant ∈ wALL := tk3 (i := 42) rfl rfl
theorem kw_417 : Cond.selects RX4 yX4_grant yX4_grant ∈ wALL := tk3 (i := 43) rfl rfl
theorem kw_418 : Cond.code yX4_grant cX4_grant 2 (some .int) ∈ wALL := tk3 (i := 44) rfl rfl
theorem kw_419 : Cond.codeWith yL_bill cL_bill 5 (some .int) [(0, 10, 13, 21), (0, 10, 17, 13), (0, 10, 21, 15)] ∈ wALL := tk3 (i := 47) rfl rfl
theorem kw_420 : Cond.methodLink RL 41 yX4_bill ∈ wALL := tk3 (i := 48) rfl rfl
theorem kw_421 : Cond.instanceMethod yX4_bill ∈ wALL := tk3 (i := 49) rfl rfl
theorem kw_422 : Cond.selects RX4 yX4_bill yX4_bill ∈ wALL := tk3 (i := 50) rfl rfl
theorem kw_423 : Cond.code yX4_bill cX4_bill 3 (some .int) ∈ wALL := tk3 (i := 51) rfl rfl
theorem kw_424 : Cond.codeWith yL_loan cL_loan 5 (some .int) [(0, 10, 13, 21), (0, 10, 17, 13), (0, 10, 21, 15)] ∈ wALL := tk3 (i := 54) rfl rfl
theorem kw_425 : Cond.methodLink RL 44 yX4_loan ∈ wALL := tk3 (i := 55) rfl rfl
theorem kw_426 : Cond.instanceMethod yX4_loan ∈ wALL := tk3 (i := 56) rfl rfl
theorem kw_427 : Cond.selects RX4 yX4_loan yX4_loan ∈ wALL := tk3 (i := 57) rfl rfl
theorem kw_428 : Cond.code yX4_loan cX4_loan 3 (some .int) ∈ wALL := tk3 (i := 58) rfl rfl
theorem kw_429 : Cond.codeWith yL_part cL_part 6 (some .int) [(0, 12, 15, 21), (0, 12, 19, 13), (0, 12, 23, 15)] ∈ wALL := tk3 (i := 66) rfl rfl
theorem kw_430 : Cond.methodLink RL 47 yX4_part ∈ wALL := tk3 (i := 67) rfl rfl
theorem kw_431 : Cond.instanceMethod yX4_part ∈ wALL := tk3 (i := 68) rfl rfl
theorem kw_432 : Cond.selects RX4 yX4_part yX4_part ∈ wALL := tk3 (i := 69) rfl rfl
theorem kw_433 : Cond.code yX4_part cX4_part 4 (some .int) ∈ wALL := tk3 (i := 70) rfl rfl
theorem kw_434 : Cond.codeWith yL_income cL_income 4 (some .int) [(0, 9, 12, 13)] ∈ wALL := tk3 (i := 82) rfl rfl
theorem kw_435 : Cond.methodLink RL 51 yX4_income ∈ wALL := tk3 (i := 83) rfl rfl
theorem kw_436 : Cond.instanceMethod yX4_income ∈ wALL := tk3 (i := 84) rfl rfl
theorem kw_437 : Cond.selects RX4 yX4_income yX4_income ∈ wALL := tk3 (i := 85) rfl rfl
theorem kw_438 : Cond.code yX4_income cX4_income 3 (some .int) ∈ wALL := tk3 (i := 86) rfl rfl
theorem kw_439 : Cond.codeWith yL_daysByAll cL_daysByAll 3 (some .int) [(0, 8, 11, 15)] ∈ wALL := tk3 (i := 107) rfl rfl
theorem kw_440 : Cond.methodLink RL 54 yX4_daysByAll ∈ wALL := tk3 (i := 108) rfl rfl
theorem kw_441 : Cond.instanceMethod yX4_daysByAll ∈ wALL := tk3 (i := 109) rfl rfl
theorem kw_442 : Cond.selects RX4 yX4_daysByAll yX4_daysByAll ∈ wALL := tk3 (i := 110) rfl rfl
theorem kw_443 : Cond.code yX4_daysByAll cX4_daysByAll 1 (some .int) ∈ wALL := tk3 (i := 111) rfl rfl
theorem kw_444 : Cond.codeWith yL_planned cL_planned 4 (some .int) [(0, 9, 12, 21)] ∈ wALL := tk3 (i := 123) rfl rfl
theorem kw_445 : Cond.methodLink RL 58 yX4_planned ∈ wALL := tk3 (i := 124) rfl rfl
theorem kw_446 : Cond.instanceMethod yX4_planned ∈ wALL := tk3 (i := 125) rfl rfl
theorem kw_447 : Cond.selects RX4 yX4_planned yX4_planned ∈ wALL := tk3 (i := 126) rfl rfl
theorem kw_448 : Cond.code yX4_planned cX4_planned 2 (some .int) ∈ wALL := tk3 (i := 127) rfl rfl
theorem kw_449 : Cond.codeWith yL_begins cL_begins 4 (some .int) [(0, 9, 12, 21)] ∈ wALL := tk3 (i := 130) rfl rfl
theorem kw_450 : Cond.methodLink RL 61 yX4_begins ∈ wALL := tk3 (i := 131) rfl rfl
theorem kw_451 : Cond.instanceMethod yX4_begins ∈ wALL := tk3 (i := 132) rfl rfl
theorem kw_452 : Cond.selects RX4 yX4_begins yX4_begins ∈ wALL := tk3 (i := 133) rfl rfl
theorem kw_453 : Cond.code yX4_begins cX4_begins 2 (some .int) ∈ wALL := tk3 (i := 134) rfl rfl
theorem kw_454 : Cond.codeWith yL_left cL_left 4 (some .int) [(0, 9, 12, 21)] ∈ wALL := tk3 (i := 137) rfl rfl
theorem kw_455 : Cond.methodLink RL 64 yX4_left ∈ wALL := tk3 (i := 138) rfl rfl
theorem kw_456 : Cond.instanceMethod yX4_left ∈ wALL := tk3 (i := 139) rfl rfl
theorem kw_457 : Cond.selects RX4 yX4_left yX4_left ∈ wALL := tk3 (i := 140) rfl rfl
theorem kw_458 : Cond.code yX4_left cX4_left 2 (some .int) ∈ wALL := tk3 (i := 141) rfl rfl
theorem kw_459 : Cond.codeWith yL_openOf cL_openOf 4 (some .int) [(0, 9, 12, 21)] ∈ wALL := tk3 (i := 144) rfl rfl
theorem kw_460 : Cond.methodLink RL 67 yX4_openOf ∈ wALL := tk3 (i := 145) rfl rfl
theorem kw_461 : Cond.instanceMethod yX4_openOf ∈ wALL := tk3 (i := 146) rfl rfl
theorem kw_462 : Cond.selects RX4 yX4_openOf yX4_openOf ∈ wALL := tk3 (i := 147) rfl rfl
theorem kw_463 : Cond.code yX4_openOf cX4_openOf 2 (some .int) ∈ wALL := tk3 (i := 148) rfl rfl
theorem kw_464 : Cond.codeWith yL_got cL_got 4 (some .int) [(0, 9, 12, 21)] ∈ wALL := tk3 (i := 151) rfl rfl
theorem kw_465 : Cond.methodLink RL 70 yX4_got ∈ wALL := tk3 (i := 152) rfl rfl
theorem kw_466 : Cond.instanceMethod yX4_got ∈ wALL := tk3 (i := 153) rfl rfl
theorem kw_467 : Cond.selects RX4 yX4_got yX4_got ∈ wALL := tk3 (i := 154) rfl rfl
theorem kw_468 : Cond.code yX4_got cX4_got 2 (some .int) ∈ wALL := tk3 (i := 155) rfl rfl
theorem cs_L_7 : csV RL RX4 7 yX4_addScene cX4_addScene 6 (some .int) 5 := ⟨kw_382, kw_383, kw_384, kw_4, kw_385, by decide +kernel⟩
theorem cs_L_17 : csV RL RX4 17 yX4_setOut cX4_setOut 4 (some .boolean) 2 := ⟨kw_389, kw_390, kw_391, kw_4, kw_392, by decide +kernel⟩
theorem cs_L_23 : csV RL RX4 23 yX4_setChild cX4_setChild 4 (some .boolean) 2 := ⟨kw_395, kw_396, kw_397, kw_4, kw_398, by decide +kernel⟩
theorem cs_L_26 : csV RL RX4 26 yX4_setRates cX4_setRates 4 (some .int) 2 := ⟨kw_400, kw_401, kw_402, kw_4, kw_403, by decide +kernel⟩
theorem cs_L_30 : csV RL RX4 30 yX4_shoot cX4_shoot 6 (some .int) 1 := ⟨kw_405, kw_406, kw_407, kw_4, kw_408, by decide +kernel⟩
theorem cs_L_34 : csV RL RX4 34 yX4_approve cX4_approve 3 (some .int) 2 := ⟨kw_410, kw_411, kw_412, kw_4, kw_413, by decide +kernel⟩
theorem cs_L_37 : csV RL RX4 37 yX4_grant cX4_grant 2 (some .int) 1 := ⟨kw_415, kw_416, kw_417, kw_4, kw_418, by decide +kernel⟩
theorem cs_L_41 : csV RL RX4 41 yX4_bill cX4_bill 3 (some .int) 2 := ⟨kw_420, kw_421, kw_422, kw_4, kw_423, by decide +kernel⟩
theorem cs_L_44 : csV RL RX4 44 yX4_loan cX4_loan 3 (some .int) 2 := ⟨kw_425, kw_426, kw_427, kw_4, kw_428, by decide +kernel⟩
theorem cs_L_47 : csV RL RX4 47 yX4_part cX4_part 4 (some .int) 3 := ⟨kw_430, kw_431, kw_432, kw_4, kw_433, by decide +kernel⟩
theorem cs_L_51 : csV RL RX4 51 yX4_income cX4_income 3 (some .int) 1 := ⟨kw_435, kw_436, kw_437, kw_4, kw_438, by decide +kernel⟩
theorem cs_L_54 : csV RL RX4 54 yX4_daysByAll cX4_daysByAll 1 (some .int) 0 := ⟨kw_440, kw_441, kw_442, kw_4, kw_443, by decide +kernel⟩
theorem cs_L_58 : csV RL RX4 58 yX4_planned cX4_planned 2 (some .int) 1 := ⟨kw_445, kw_446, kw_447, kw_4, kw_448, by decide +kernel⟩
theorem cs_L_61 : csV RL RX4 61 yX4_begins cX4_begins 2 (some .int) 1 := ⟨kw_450, kw_451, kw_452, kw_4, kw_453, by decide +kernel⟩
theorem cs_L_64 : csV RL RX4 64 yX4_left cX4_left 2 (some .int) 1 := ⟨kw_455, kw_456, kw_457, kw_4, kw_458, by decide +kernel⟩
theorem cs_L_67 : csV RL RX4 67 yX4_openOf cX4_openOf 2 (some .int) 1 := ⟨kw_460, kw_461, kw_462, kw_4, kw_463, by decide +kernel⟩
theorem cs_L_70 : csV RL RX4 70 yX4_got cX4_got 2 (some .int) 1 := ⟨kw_465, kw_466, kw_467, kw_4, kw_468, by decide +kernel⟩
section
variable {l : Launch} {D : va_G} {q : Nat → Nat} {cA cL : ClassId} {o : Nat}
set_option maxHeartbeats 4000000 in
set_option maxRecDepth 100000 in
theorem mL_addScene (hl0 : l.stackTraces = false) (σ : SS) (x1 x2 x3 x4 x5 : Int32) (f : Nat → Int64) (r : Int32 ⊕ String) (σ1 : SS) (h : X4_addScene σ x1 x2 x3 x4 x5 = some (r, σ1)) (k : Int32) (f1 : Nat → Int64) (hk : hres ["java/lang/IllegalArgumentException", "java/lang/IllegalStateException"] false f r = some (k, f1)) : CtH l yL_addScene cL_addScene 8 [(0, 16, 19, 13), (0, 16, 23, 15)] 8 320 D vwCl [(cA, .int), (cL, .long)] (WO o cL f ++ WC q cA σ) (WO o cL f1 ++ WC q cA σ1) [.ref (q 0), .int x1, .int x2, .int x3, .int x4, .int x5, .ref o] k := by
  refine cth_of (by decide +kernel) (Nat.le_of_ble_eq_true rfl) ?_
  intro p e s m args below meth c hx hb hr hlk hml hown hts hK hD hN hA hZ htab
  have hown : s.vm.findClass RL = some m.cls := hown
  have hK1 : va_K D vwCl [(cA, .int)] s := hK.sub [0] rfl
  refine ww_sub (lv1 := [(0, .ref (q 0)), (1, .int x1), (2, .int x2), (3, .int x3), (4, .int x4), (5, .int x5), (6, .ref o)]) [0, 1, 2, 3, 4, 5, 6] rfl ?_
  refine ww_aload hx hb dL_addScene_0 6 rfl ?_
  refine ww_iconst (v := 0) hx hb dL_addScene_2 (by decide) ?_
  refine ww_aload_n hx hb dL_addScene_3 rfl 0 rfl ?_
  refine ww_iload_n hx hb dL_addScene_4 rfl 1 rfl ?_
  refine ww_iload_n hx hb dL_addScene_5 rfl 2 rfl ?_
  refine ww_iload_n hx hb dL_addScene_6 rfl 3 rfl ?_
  refine ww_iload hx hb dL_addScene_7 4 rfl ?_
  refine ww_iload hx hb dL_addScene_9 5 rfl ?_
  refine ww_callX hx hb hml hown hts hK hN hA hZ hK1 (WO o cL f) [.int x1, .int x2, .int x3, .int x4, .int x5] [.int 0, .ref o] (m_X4_addScene hl0 σ x1 x2 x3 x4 x5 r σ1 h) cs_L_7 rfl (by decide) (by decide) rfl hD rfl 0 rfl rfl rfl (Nat.le_of_ble_eq_true rfl) dL_addScene_11 (fun v hv => ?_) (fun E hE => ?_)
  · subst hv
    obtain ⟨rfl, rfl⟩ := os2 hk
    simp only [Bool.false_eq_true, if_false]
    refine ww_i2l hx hb dL_addScene_14 ?_
    refine ww_last (i := 0) (ws := WO o cL f ++ WC q cA σ1) (ws1 := WO o cL (vp_updL f (Int32.toNatClampNeg 0) v.toInt64) ++ WC q cA σ1) hx hb hown hts hK (hD.adr rfl) 0 1 rfl rfl in0 dL_addScene_15 rfl ?_
    refine ww_goto (tgt := 27) hx hb dL_addScene_16 (by decide) ?_
    refine ww_iconst (v := 0) hx hb dL_addScene_27 (by decide) ?_
    exact ww_hiret hx hb hr hlk rfl dL_addScene_28
  · subst hE
    obtain ⟨k1, hk1, hk2⟩ := Option.map_eq_some_iff.mp hk
    obtain ⟨rfl, rfl⟩ := Prod.mk.inj hk2
    rw [hcode] at hk1
    by_cases hE0 : E = "java/lang/IllegalArgumentException"
    · rw [if_pos hE0] at hk1
      obtain rfl := os1 hk1
      subst hE0
      refine ww_catch hown hts hN (by decide) htab [] ⟨0, 16, 19, 13⟩ [⟨0, 16, 23, 15⟩] rfl (fun z hz => nomatch hz) (by decide) (by decide) kw_386 (fun q9 => ?_)
      refine ww_astore (i := 7) (lv1 := [(0, .ref (q 0)), (1, .int x1), (2, .int x2), (3, .int x3), (4, .int x4), (5, .int x5), (6, .ref o)]) hx hb dL_addScene_19 (by decide) [1, 2, 3, 4, 5, 6, 7] rfl ?_
      refine ww_iconst (v := 1) hx hb dL_addScene_21 (by decide) ?_
      exact ww_hiret hx hb hr hlk rfl dL_addScene_22
    · rw [if_neg hE0] at hk1
      rw [hcode] at hk1
      by_cases hE1 : E = "java/lang/IllegalStateException"
      · rw [if_pos hE1] at hk1
        obtain rfl := os1 hk1
        subst hE1
        refine ww_catch hown hts hN (by decide) htab [(⟨0, 16, 19, 13⟩, "java/lang/IllegalArgumentException")] ⟨0, 16, 23, 15⟩ [] rfl (List.forall_mem_cons.mpr ⟨⟨by decide, kw_386, by decide, by decide⟩, fun _ h => nomatch h⟩) (by decide) (by decide) kw_387 (fun q9 => ?_)
        refine ww_astore (i := 7) (lv1 := [(0, .ref (q 0)), (1, .int x1), (2, .int x2), (3, .int x3), (4, .int x4), (5, .int x5), (6, .ref o)]) hx hb dL_addScene_23 (by decide) [1, 2, 3, 4, 5, 6, 7] rfl ?_
        refine ww_iconst (v := 2) hx hb dL_addScene_25 (by decide) ?_
        exact ww_hiret hx hb hr hlk rfl dL_addScene_26
      · rw [if_neg hE1] at hk1
        cases hk1
set_option maxHeartbeats 4000000 in
set_option maxRecDepth 100000 in
theorem mL_setOut (hl0 : l.stackTraces = false) (σ : SS) (x1 x2 : Int32) (f : Nat → Int64) (r : Int32 ⊕ String) (σ1 : SS) (h : X4_setOut σ x1 x2 = some (r, σ1)) (k : Int32) (f1 : Nat → Int64) (hk : hres ["java/lang/IndexOutOfBoundsException"] true f r = some (k, f1)) : CtH l yL_setOut cL_setOut 5 [(0, 17, 20, 21)] 8 320 D vwCl [(cA, .int), (cL, .long)] (WO o cL f ++ WC q cA σ) (WO o cL f1 ++ WC q cA σ1) [.ref (q 0), .int x1, .int x2, .ref o] k := by
  refine cth_of (by decide +kernel) (Nat.le_of_ble_eq_true rfl) ?_
  intro p e s m args below meth c hx hb hr hlk hml hown hts hK hD hN hA hZ htab
  have hown : s.vm.findClass RL = some m.cls := hown
  have hK1 : va_K D vwCl [(cA, .int)] s := hK.sub [0] rfl
  refine ww_sub (lv1 := [(0, .ref (q 0)), (1, .int x1), (2, .int x2), (3, .ref o)]) [0, 1, 2, 3] rfl ?_
  refine ww_aload_n hx hb dL_setOut_0 rfl 3 rfl ?_
  refine ww_iconst (v := 0) hx hb dL_setOut_1 (by decide) ?_
  refine ww_aload_n hx hb dL_setOut_2 rfl 0 rfl ?_
  refine ww_iload_n hx hb dL_setOut_3 rfl 1 rfl ?_
  refine ww_iload_n hx hb dL_setOut_4 rfl 2 rfl ?_
  refine ww_callX hx hb hml hown hts hK hN hA hZ hK1 (WO o cL f) [.int x1, .int x2] [.int 0, .ref o] (m_X4_setOut hl0 σ x1 x2 r σ1 h) cs_L_17 rfl (by decide) (by decide) rfl hD rfl 0 rfl rfl rfl (Nat.le_of_ble_eq_true rfl) dL_setOut_5 (fun v hv => ?_) (fun E hE => ?_)
  · subst hv
    obtain ⟨rfl, rfl⟩ := os2 hk
    refine ww_eq0 (tgt := 15) hx hb dL_setOut_8 (by decide) (fun c_1 => ?_) (fun c_1 => ?_)
    · refine ww_eq (ws1 := WO o cL f ++ WC q cA σ1) rfl ?_
      simp only [if_true, if_pos c_1]
      refine ww_lconst (v := Int64.ofNat ((0 : Fin 2) : Nat)) hx hb dL_setOut_15 rfl ?_
      refine ww_last (i := 0) (ws := WO o cL f ++ WC q cA σ1) (ws1 := WO o cL (vp_updL f (Int32.toNatClampNeg 0) (Int64.ofNat ((0 : Fin 2) : Nat))) ++ WC q cA σ1) hx hb hown hts hK (hD.adr rfl) 0 1 rfl rfl in0 dL_setOut_16 rfl ?_
      refine ww_goto (tgt := 24) hx hb dL_setOut_17 (by decide) ?_
      refine ww_iconst (v := 0) hx hb dL_setOut_24 (by decide) ?_
      exact ww_hiret hx hb hr hlk rfl dL_setOut_25
    · simp only [if_true, if_neg c_1]
      refine ww_lconst (v := Int64.ofNat ((1 : Fin 2) : Nat)) hx hb dL_setOut_11 rfl ?_
      refine ww_goto (tgt := 16) hx hb dL_setOut_12 (by decide) ?_
      refine ww_last (i := 0) (ws := WO o cL f ++ WC q cA σ1) (ws1 := WO o cL (vp_updL f (Int32.toNatClampNeg 0) (Int64.ofNat ((1 : Fin 2) : Nat))) ++ WC q cA σ1) hx hb hown hts hK (hD.adr rfl) 0 1 rfl rfl in0 dL_setOut_16 rfl ?_
      refine ww_goto (tgt := 24) hx hb dL_setOut_17 (by decide) ?_
      refine ww_iconst (v := 0) hx hb dL_setOut_24 (by decide) ?_
      exact ww_hiret hx hb hr hlk rfl dL_setOut_25
  · subst hE
    obtain ⟨k1, hk1, hk2⟩ := Option.map_eq_some_iff.mp hk
    obtain ⟨rfl, rfl⟩ := Prod.mk.inj hk2
    rw [hcode] at hk1
    by_cases hE0 : E = "java/lang/IndexOutOfBoundsException"
    · rw [if_pos hE0] at hk1
      obtain rfl := os1 hk1
      subst hE0
      refine ww_catch hown hts hN (by decide) htab [] ⟨0, 17, 20, 21⟩ [] rfl (fun z hz => nomatch hz) (by decide) (by decide) kw_393 (fun q9 => ?_)
      refine ww_astore (i := 4) (lv1 := [(0, .ref (q 0)), (1, .int x1), (2, .int x2), (3, .ref o)]) hx hb dL_setOut_20 (by decide) [1, 2, 3, 4] rfl ?_
      refine ww_iconst (v := 1) hx hb dL_setOut_22 (by decide) ?_
      exact ww_hiret hx hb hr hlk rfl dL_setOut_23
    · rw [if_neg hE0] at hk1
      cases hk1
set_option maxHeartbeats 4000000 in
set_option maxRecDepth 100000 in
theorem mL_setChild (hl0 : l.stackTraces = false) (σ : SS) (x1 x2 : Int32) (f : Nat → Int64) (r : Int32 ⊕ String) (σ1 : SS) (h : X4_setChild σ x1 x2 = some (r, σ1)) (k : Int32) (f1 : Nat → Int64) (hk : hres ["java/lang/IndexOutOfBoundsException"] true f r = some (k, f1)) : CtH l yL_setChild cL_setChild 5 [(0, 17, 20, 21)] 8 320 D vwCl [(cA, .int), (cL, .long)] (WO o cL f ++ WC q cA σ) (WO o cL f1 ++ WC q cA σ1) [.ref (q 0), .int x1, .int x2, .ref o] k := by
  refine cth_of (by decide +kernel) (Nat.le_of_ble_eq_true rfl) ?_
  intro p e s m args below meth c hx hb hr hlk hml hown hts hK hD hN hA hZ htab
  have hown : s.vm.findClass RL = some m.cls := hown
  have hK1 : va_K D vwCl [(cA, .int)] s := hK.sub [0] rfl
  refine ww_sub (lv1 := [(0, .ref (q 0)), (1, .int x1), (2, .int x2), (3, .ref o)]) [0, 1, 2, 3] rfl ?_
  refine ww_aload_n hx hb dL_setChild_0 rfl 3 rfl ?_
  refine ww_iconst (v := 0) hx hb dL_setChild_1 (by decide) ?_
  refine ww_aload_n hx hb dL_setChild_2 rfl 0 rfl ?_
  refine ww_iload_n hx hb dL_setChild_3 rfl 1 rfl ?_
  refine ww_iload_n hx hb dL_setChild_4 rfl 2 rfl ?_
  refine ww_callX hx hb hml hown hts hK hN hA hZ hK1 (WO o cL f) [.int x1, .int x2] [.int 0, .ref o] (m_X4_setChild hl0 σ x1 x2 r σ1 h) cs_L_23 rfl (by decide) (by decide) rfl hD rfl 0 rfl rfl rfl (Nat.le_of_ble_eq_true rfl) dL_setChild_5 (fun v hv => ?_) (fun E hE => ?_)
  · subst hv
    obtain ⟨rfl, rfl⟩ := os2 hk
    refine ww_eq0 (tgt := 15) hx hb dL_setChild_8 (by decide) (fun c_1 => ?_) (fun c_1 => ?_)
    · refine ww_eq (ws1 := WO o cL f ++ WC q cA σ1) rfl ?_
      simp only [if_true, if_pos c_1]
      refine ww_lconst (v := Int64.ofNat ((0 : Fin 2) : Nat)) hx hb dL_setChild_15 rfl ?_
      refine ww_last (i := 0) (ws := WO o cL f ++ WC q cA σ1) (ws1 := WO o cL (vp_updL f (Int32.toNatClampNeg 0) (Int64.ofNat ((0 : Fin 2) : Nat))) ++ WC q cA σ1) hx hb hown hts hK (hD.adr rfl) 0 1 rfl rfl in0 dL_setChild_16 rfl ?_
      refine ww_goto (tgt := 24) hx hb dL_setChild_17 (by decide) ?_
      refine ww_iconst (v := 0) hx hb dL_setChild_24 (by decide) ?_
      exact ww_hiret hx hb hr hlk rfl dL_setChild_25
    · simp only [if_true, if_neg c_1]
      refine ww_lconst (v := Int64.ofNat ((1 : Fin 2) : Nat)) hx hb dL_setChild_11 rfl ?_
      refine ww_goto (tgt := 16) hx hb dL_setChild_12 (by decide) ?_
      refine ww_last (i := 0) (ws := WO o cL f ++ WC q cA σ1) (ws1 := WO o cL (vp_updL f (Int32.toNatClampNeg 0) (Int64.ofNat ((1 : Fin 2) : Nat))) ++ WC q cA σ1) hx hb hown hts hK (hD.adr rfl) 0 1 rfl rfl in0 dL_setChild_16 rfl ?_
      refine ww_goto (tgt := 24) hx hb dL_setChild_17 (by decide) ?_
      refine ww_iconst (v := 0) hx hb dL_setChild_24 (by decide) ?_
      exact ww_hiret hx hb hr hlk rfl dL_setChild_25
  · subst hE
    obtain ⟨k1, hk1, hk2⟩ := Option.map_eq_some_iff.mp hk
    obtain ⟨rfl, rfl⟩ := Prod.mk.inj hk2
    rw [hcode] at hk1
    by_cases hE0 : E = "java/lang/IndexOutOfBoundsException"
    · rw [if_pos hE0] at hk1
      obtain rfl := os1 hk1
      subst hE0
      refine ww_catch hown hts hN (by decide) htab [] ⟨0, 17, 20, 21⟩ [] rfl (fun z hz => nomatch hz) (by decide) (by decide) kw_393 (fun q9 => ?_)
      refine ww_astore (i := 4) (lv1 := [(0, .ref (q 0)), (1, .int x1), (2, .int x2), (3, .ref o)]) hx hb dL_setChild_20 (by decide) [1, 2, 3, 4] rfl ?_
      refine ww_iconst (v := 1) hx hb dL_setChild_22 (by decide) ?_
      exact ww_hiret hx hb hr hlk rfl dL_setChild_23
    · rw [if_neg hE0] at hk1
      cases hk1
set_option maxHeartbeats 4000000 in
set_option maxRecDepth 100000 in
theorem mL_setRates (hl0 : l.stackTraces = false) (σ : SS) (x1 x2 : Int32) (f : Nat → Int64) (r : Int32 ⊕ String) (σ1 : SS) (h : X4_setRates σ x1 x2 = some (r, σ1)) (k : Int32) (f1 : Nat → Int64) (hk : hres ["java/lang/IllegalArgumentException"] false f r = some (k, f1)) : CtH l yL_setRates cL_setRates 5 [(0, 10, 13, 13)] 8 320 D vwCl [(cA, .int), (cL, .long)] (WO o cL f ++ WC q cA σ) (WO o cL f1 ++ WC q cA σ1) [.ref (q 0), .int x1, .int x2, .ref o] k := by
  refine cth_of (by decide +kernel) (Nat.le_of_ble_eq_true rfl) ?_
  intro p e s m args below meth c hx hb hr hlk hml hown hts hK hD hN hA hZ htab
  have hown : s.vm.findClass RL = some m.cls := hown
  have hK1 : va_K D vwCl [(cA, .int)] s := hK.sub [0] rfl
  refine ww_sub (lv1 := [(0, .ref (q 0)), (1, .int x1), (2, .int x2), (3, .ref o)]) [0, 1, 2, 3] rfl ?_
  refine ww_aload_n hx hb dL_setRates_0 rfl 3 rfl ?_
  refine ww_iconst (v := 0) hx hb dL_setRates_1 (by decide) ?_
  refine ww_aload_n hx hb dL_setRates_2 rfl 0 rfl ?_
  refine ww_iload_n hx hb dL_setRates_3 rfl 1 rfl ?_
  refine ww_iload_n hx hb dL_setRates_4 rfl 2 rfl ?_
  refine ww_callX hx hb hml hown hts hK hN hA hZ hK1 (WO o cL f) [.int x1, .int x2] [.int 0, .ref o] (m_X4_setRates hl0 σ x1 x2 r σ1 h) cs_L_26 rfl (by decide) (by decide) rfl hD rfl 0 rfl rfl rfl (Nat.le_of_ble_eq_true rfl) dL_setRates_5 (fun v hv => ?_) (fun E hE => ?_)
  · subst hv
    obtain ⟨rfl, rfl⟩ := os2 hk
    simp only [Bool.false_eq_true, if_false]
    refine ww_i2l hx hb dL_setRates_8 ?_
    refine ww_last (i := 0) (ws := WO o cL f ++ WC q cA σ1) (ws1 := WO o cL (vp_updL f (Int32.toNatClampNeg 0) v.toInt64) ++ WC q cA σ1) hx hb hown hts hK (hD.adr rfl) 0 1 rfl rfl in0 dL_setRates_9 rfl ?_
    refine ww_goto (tgt := 17) hx hb dL_setRates_10 (by decide) ?_
    refine ww_iconst (v := 0) hx hb dL_setRates_17 (by decide) ?_
    exact ww_hiret hx hb hr hlk rfl dL_setRates_18
  · subst hE
    obtain ⟨k1, hk1, hk2⟩ := Option.map_eq_some_iff.mp hk
    obtain ⟨rfl, rfl⟩ := Prod.mk.inj hk2
    rw [hcode] at hk1
    by_cases hE0 : E = "java/lang/IllegalArgumentException"
    · rw [if_pos hE0] at hk1
      obtain rfl := os1 hk1
      subst hE0
      refine ww_catch hown hts hN (by decide) htab [] ⟨0, 10, 13, 13⟩ [] rfl (fun z hz => nomatch hz) (by decide) (by decide) kw_386 (fun q9 => ?_)
      refine ww_astore (i := 4) (lv1 := [(0, .ref (q 0)), (1, .int x1), (2, .int x2), (3, .ref o)]) hx hb dL_setRates_13 (by decide) [1, 2, 3, 4] rfl ?_
      refine ww_iconst (v := 1) hx hb dL_setRates_15 (by decide) ?_
      exact ww_hiret hx hb hr hlk rfl dL_setRates_16
    · rw [if_neg hE0] at hk1
      cases hk1
set_option maxHeartbeats 4000000 in
set_option maxRecDepth 100000 in
theorem mL_shoot (hl0 : l.stackTraces = false) (σ : SS) (x1 : Int32) (f : Nat → Int64) (r : Int32 ⊕ String) (σ1 : SS) (h : X4_shoot σ x1 = some (r, σ1)) (k : Int32) (f1 : Nat → Int64) (hk : hres ["java/lang/IllegalStateException"] false f r = some (k, f1)) : CtH l yL_shoot cL_shoot 4 [(0, 9, 12, 15)] 23 920 D vwCl [(cA, .int), (cL, .long)] (WO o cL f ++ WC q cA σ) (WO o cL f1 ++ WC q cA σ1) [.ref (q 0), .int x1, .ref o] k := by
  refine cth_of (by decide +kernel) (Nat.le_of_ble_eq_true rfl) ?_
  intro p e s m args below meth c hx hb hr hlk hml hown hts hK hD hN hA hZ htab
  have hown : s.vm.findClass RL = some m.cls := hown
  have hK1 : va_K D vwCl [(cA, .int)] s := hK.sub [0] rfl
  refine ww_sub (lv1 := [(0, .ref (q 0)), (1, .int x1), (2, .ref o)]) [0, 1, 2] rfl ?_
  refine ww_aload_n hx hb dL_shoot_0 rfl 2 rfl ?_
  refine ww_iconst (v := 0) hx hb dL_shoot_1 (by decide) ?_
  refine ww_aload_n hx hb dL_shoot_2 rfl 0 rfl ?_
  refine ww_iload_n hx hb dL_shoot_3 rfl 1 rfl ?_
  refine ww_callX hx hb hml hown hts hK hN hA hZ hK1 (WO o cL f) [.int x1] [.int 0, .ref o] (m_X4_shoot hl0 σ x1 r σ1 h) cs_L_30 rfl (by decide) (by decide) rfl hD rfl 0 rfl rfl rfl (Nat.le_of_ble_eq_true rfl) dL_shoot_4 (fun v hv => ?_) (fun E hE => ?_)
  · subst hv
    obtain ⟨rfl, rfl⟩ := os2 hk
    simp only [Bool.false_eq_true, if_false]
    refine ww_i2l hx hb dL_shoot_7 ?_
    refine ww_last (i := 0) (ws := WO o cL f ++ WC q cA σ1) (ws1 := WO o cL (vp_updL f (Int32.toNatClampNeg 0) v.toInt64) ++ WC q cA σ1) hx hb hown hts hK (hD.adr rfl) 0 1 rfl rfl in0 dL_shoot_8 rfl ?_
    refine ww_goto (tgt := 15) hx hb dL_shoot_9 (by decide) ?_
    refine ww_iconst (v := 0) hx hb dL_shoot_15 (by decide) ?_
    exact ww_hiret hx hb hr hlk rfl dL_shoot_16
  · subst hE
    obtain ⟨k1, hk1, hk2⟩ := Option.map_eq_some_iff.mp hk
    obtain ⟨rfl, rfl⟩ := Prod.mk.inj hk2
    rw [hcode] at hk1
    by_cases hE0 : E = "java/lang/IllegalStateException"
    · rw [if_pos hE0] at hk1
      obtain rfl := os1 hk1
      subst hE0
      refine ww_catch hown hts hN (by decide) htab [] ⟨0, 9, 12, 15⟩ [] rfl (fun z hz => nomatch hz) (by decide) (by decide) kw_387 (fun q9 => ?_)
      refine ww_astore_n (i := 3) (lv1 := [(0, .ref (q 0)), (1, .int x1), (2, .ref o)]) hx hb dL_shoot_12 rfl (by decide) [1, 2, 3] rfl ?_
      refine ww_iconst (v := 1) hx hb dL_shoot_13 (by decide) ?_
      exact ww_hiret hx hb hr hlk rfl dL_shoot_14
    · rw [if_neg hE0] at hk1
      cases hk1
set_option maxHeartbeats 4000000 in
set_option maxRecDepth 100000 in
theorem mL_approve (hl0 : l.stackTraces = false) (σ : SS) (x1 x2 : Int32) (f : Nat → Int64) (r : Int32 ⊕ String) (σ1 : SS) (h : X4_approve σ x1 x2 = some (r, σ1)) (k : Int32) (f1 : Nat → Int64) (hk : hres ["java/lang/IndexOutOfBoundsException", "java/lang/IllegalArgumentException"] false f r = some (k, f1)) : CtH l yL_approve cL_approve 5 [(0, 10, 13, 21), (0, 10, 17, 13)] 8 320 D vwCl [(cA, .int), (cL, .long)] (WO o cL f ++ WC q cA σ) (WO o cL f1 ++ WC q cA σ1) [.ref (q 0), .int x1, .int x2, .ref o] k := by
  refine cth_of (by decide +kernel) (Nat.le_of_ble_eq_true rfl) ?_
  intro p e s m args below meth c hx hb hr hlk hml hown hts hK hD hN hA hZ htab
  have hown : s.vm.findClass RL = some m.cls := hown
  have hK1 : va_K D vwCl [(cA, .int)] s := hK.sub [0] rfl
  refine ww_sub (lv1 := [(0, .ref (q 0)), (1, .int x1), (2, .int x2), (3, .ref o)]) [0, 1, 2, 3] rfl ?_
  refine ww_aload_n hx hb dL_approve_0 rfl 3 rfl ?_
  refine ww_iconst (v := 0) hx hb dL_approve_1 (by decide) ?_
  refine ww_aload_n hx hb dL_approve_2 rfl 0 rfl ?_
  refine ww_iload_n hx hb dL_approve_3 rfl 1 rfl ?_
  refine ww_iload_n hx hb dL_approve_4 rfl 2 rfl ?_
  refine ww_callX hx hb hml hown hts hK hN hA hZ hK1 (WO o cL f) [.int x1, .int x2] [.int 0, .ref o] (m_X4_approve hl0 σ x1 x2 r σ1 h) cs_L_34 rfl (by decide) (by decide) rfl hD rfl 0 rfl rfl rfl (Nat.le_of_ble_eq_true rfl) dL_approve_5 (fun v hv => ?_) (fun E hE => ?_)
  · subst hv
    obtain ⟨rfl, rfl⟩ := os2 hk
    simp only [Bool.false_eq_true, if_false]
    refine ww_i2l hx hb dL_approve_8 ?_
    refine ww_last (i := 0) (ws := WO o cL f ++ WC q cA σ1) (ws1 := WO o cL (vp_updL f (Int32.toNatClampNeg 0) v.toInt64) ++ WC q cA σ1) hx hb hown hts hK (hD.adr rfl) 0 1 rfl rfl in0 dL_approve_9 rfl ?_
    refine ww_goto (tgt := 21) hx hb dL_approve_10 (by decide) ?_
    refine ww_iconst (v := 0) hx hb dL_approve_21 (by decide) ?_
    exact ww_hiret hx hb hr hlk rfl dL_approve_22
  · subst hE
    obtain ⟨k1, hk1, hk2⟩ := Option.map_eq_some_iff.mp hk
    obtain ⟨rfl, rfl⟩ := Prod.mk.inj hk2
    rw [hcode] at hk1
    by_cases hE0 : E = "java/lang/IndexOutOfBoundsException"
    · rw [if_pos hE0] at hk1
      obtain rfl := os1 hk1
      subst hE0
      refine ww_catch hown hts hN (by decide) htab [] ⟨0, 10, 13, 21⟩ [⟨0, 10, 17, 13⟩] rfl (fun z hz => nomatch hz) (by decide) (by decide) kw_393 (fun q9 => ?_)
      refine ww_astore (i := 4) (lv1 := [(0, .ref (q 0)), (1, .int x1), (2, .int x2), (3, .ref o)]) hx hb dL_approve_13 (by decide) [1, 2, 3, 4] rfl ?_
      refine ww_iconst (v := 1) hx hb dL_approve_15 (by decide) ?_
      exact ww_hiret hx hb hr hlk rfl dL_approve_16
    · rw [if_neg hE0] at hk1
      rw [hcode] at hk1
      by_cases hE1 : E = "java/lang/IllegalArgumentException"
      · rw [if_pos hE1] at hk1
        obtain rfl := os1 hk1
        subst hE1
        refine ww_catch hown hts hN (by decide) htab [(⟨0, 10, 13, 21⟩, "java/lang/IndexOutOfBoundsException")] ⟨0, 10, 17, 13⟩ [] rfl (List.forall_mem_cons.mpr ⟨⟨by decide, kw_393, by decide, by decide⟩, fun _ h => nomatch h⟩) (by decide) (by decide) kw_386 (fun q9 => ?_)
        refine ww_astore (i := 4) (lv1 := [(0, .ref (q 0)), (1, .int x1), (2, .int x2), (3, .ref o)]) hx hb dL_approve_17 (by decide) [1, 2, 3, 4] rfl ?_
        refine ww_iconst (v := 2) hx hb dL_approve_19 (by decide) ?_
        exact ww_hiret hx hb hr hlk rfl dL_approve_20
      · rw [if_neg hE1] at hk1
        cases hk1
set_option maxHeartbeats 4000000 in
set_option maxRecDepth 100000 in
theorem mL_grant (hl0 : l.stackTraces = false) (σ : SS) (x1 : Int32) (f : Nat → Int64) (r : Int32 ⊕ String) (σ1 : SS) (h : X4_grant σ x1 = some (r, σ1)) (k : Int32) (f1 : Nat → Int64) (hk : hres ["java/lang/IllegalArgumentException"] false f r = some (k, f1)) : CtH l yL_grant cL_grant 4 [(0, 9, 12, 13)] 8 320 D vwCl [(cA, .int), (cL, .long)] (WO o cL f ++ WC q cA σ) (WO o cL f1 ++ WC q cA σ1) [.ref (q 0), .int x1, .ref o] k := by
  refine cth_of (by decide +kernel) (Nat.le_of_ble_eq_true rfl) ?_
  intro p e s m args below meth c hx hb hr hlk hml hown hts hK hD hN hA hZ htab
  have hown : s.vm.findClass RL = some m.cls := hown
  have hK1 : va_K D vwCl [(cA, .int)] s := hK.sub [0] rfl
  refine ww_sub (lv1 := [(0, .ref (q 0)), (1, .int x1), (2, .ref o)]) [0, 1, 2] rfl ?_
  refine ww_aload_n hx hb dL_grant_0 rfl 2 rfl ?_
  refine ww_iconst (v := 0) hx hb dL_grant_1 (by decide) ?_
  refine ww_aload_n hx hb dL_grant_2 rfl 0 rfl ?_
  refine ww_iload_n hx hb dL_grant_3 rfl 1 rfl ?_
  refine ww_callX hx hb hml hown hts hK hN hA hZ hK1 (WO o cL f) [.int x1] [.int 0, .ref o] (m_X4_grant hl0 σ x1 r σ1 h) cs_L_37 rfl (by decide) (by decide) rfl hD rfl 0 rfl rfl rfl (Nat.le_of_ble_eq_true rfl) dL_grant_4 (fun v hv => ?_) (fun E hE => ?_)
  · subst hv
    obtain ⟨rfl, rfl⟩ := os2 hk
    simp only [Bool.false_eq_true, if_false]
    refine ww_i2l hx hb dL_grant_7 ?_
    refine ww_last (i := 0) (ws := WO o cL f ++ WC q cA σ1) (ws1 := WO o cL (vp_updL f (Int32.toNatClampNeg 0) v.toInt64) ++ WC q cA σ1) hx hb hown hts hK (hD.adr rfl) 0 1 rfl rfl in0 dL_grant_8 rfl ?_
    refine ww_goto (tgt := 15) hx hb dL_grant_9 (by decide) ?_
    refine ww_iconst (v := 0) hx hb dL_grant_15 (by decide) ?_
    exact ww_hiret hx hb hr hlk rfl dL_grant_16
  · subst hE
    obtain ⟨k1, hk1, hk2⟩ := Option.map_eq_some_iff.mp hk
    obtain ⟨rfl, rfl⟩ := Prod.mk.inj hk2
    rw [hcode] at hk1
    by_cases hE0 : E = "java/lang/IllegalArgumentException"
    · rw [if_pos hE0] at hk1
      obtain rfl := os1 hk1
      subst hE0
      refine ww_catch hown hts hN (by decide) htab [] ⟨0, 9, 12, 13⟩ [] rfl (fun z hz => nomatch hz) (by decide) (by decide) kw_386 (fun q9 => ?_)
      refine ww_astore_n (i := 3) (lv1 := [(0, .ref (q 0)), (1, .int x1), (2, .ref o)]) hx hb dL_grant_12 rfl (by decide) [1, 2, 3] rfl ?_
      refine ww_iconst (v := 1) hx hb dL_grant_13 (by decide) ?_
      exact ww_hiret hx hb hr hlk rfl dL_grant_14
    · rw [if_neg hE0] at hk1
      cases hk1
set_option maxHeartbeats 4000000 in
set_option maxRecDepth 100000 in
theorem mL_bill (hl0 : l.stackTraces = false) (σ : SS) (x1 x2 : Int32) (f : Nat → Int64) (r : Int32 ⊕ String) (σ1 : SS) (h : X4_bill σ x1 x2 = some (r, σ1)) (k : Int32) (f1 : Nat → Int64) (hk : hres ["java/lang/IndexOutOfBoundsException", "java/lang/IllegalArgumentException", "java/lang/IllegalStateException"] false f r = some (k, f1)) : CtH l yL_bill cL_bill 5 [(0, 10, 13, 21), (0, 10, 17, 13), (0, 10, 21, 15)] 8 320 D vwCl [(cA, .int), (cL, .long)] (WO o cL f ++ WC q cA σ) (WO o cL f1 ++ WC q cA σ1) [.ref (q 0), .int x1, .int x2, .ref o] k := by
  refine cth_of (by decide +kernel) (Nat.le_of_ble_eq_true rfl) ?_
  intro p e s m args below meth c hx hb hr hlk hml hown hts hK hD hN hA hZ htab
  have hown : s.vm.findClass RL = some m.cls := hown
  have hK1 : va_K D vwCl [(cA, .int)] s := hK.sub [0] rfl
  refine ww_sub (lv1 := [(0, .ref (q 0)), (1, .int x1), (2, .int x2), (3, .ref o)]) [0, 1, 2, 3] rfl ?_
  refine ww_aload_n hx hb dL_bill_0 rfl 3 rfl ?_
  refine ww_iconst (v := 0) hx hb dL_bill_1 (by decide) ?_
  refine ww_aload_n hx hb dL_bill_2 rfl 0 rfl ?_
  refine ww_iload_n hx hb dL_bill_3 rfl 1 rfl ?_
  refine ww_iload_n hx hb dL_bill_4 rfl 2 rfl ?_
  refine ww_callX hx hb hml hown hts hK hN hA hZ hK1 (WO o cL f) [.int x1, .int x2] [.int 0, .ref o] (m_X4_bill hl0 σ x1 x2 r σ1 h) cs_L_41 rfl (by decide) (by decide) rfl hD rfl 0 rfl rfl rfl (Nat.le_of_ble_eq_true rfl) dL_bill_5 (fun v hv => ?_) (fun E hE => ?_)
  · subst hv
    obtain ⟨rfl, rfl⟩ := os2 hk
    simp only [Bool.false_eq_true, if_false]
    refine ww_i2l hx hb dL_bill_8 ?_
    refine ww_last (i := 0) (ws := WO o cL f ++ WC q cA σ1) (ws1 := WO o cL (vp_updL f (Int32.toNatClampNeg 0) v.toInt64) ++ WC q cA σ1) hx hb hown hts hK (hD.adr rfl) 0 1 rfl rfl in0 dL_bill_9 rfl ?_
    refine ww_goto (tgt := 25) hx hb dL_bill_10 (by decide) ?_
    refine ww_iconst (v := 0) hx hb dL_bill_25 (by decide) ?_
    exact ww_hiret hx hb hr hlk rfl dL_bill_26
  · subst hE
    obtain ⟨k1, hk1, hk2⟩ := Option.map_eq_some_iff.mp hk
    obtain ⟨rfl, rfl⟩ := Prod.mk.inj hk2
    rw [hcode] at hk1
    by_cases hE0 : E = "java/lang/IndexOutOfBoundsException"
    · rw [if_pos hE0] at hk1
      obtain rfl := os1 hk1
      subst hE0
      refine ww_catch hown hts hN (by decide) htab [] ⟨0, 10, 13, 21⟩ [⟨0, 10, 17, 13⟩, ⟨0, 10, 21, 15⟩] rfl (fun z hz => nomatch hz) (by decide) (by decide) kw_393 (fun q9 => ?_)
      refine ww_astore (i := 4) (lv1 := [(0, .ref (q 0)), (1, .int x1), (2, .int x2), (3, .ref o)]) hx hb dL_bill_13 (by decide) [1, 2, 3, 4] rfl ?_
      refine ww_iconst (v := 1) hx hb dL_bill_15 (by decide) ?_
      exact ww_hiret hx hb hr hlk rfl dL_bill_16
    · rw [if_neg hE0] at hk1
      rw [hcode] at hk1
      by_cases hE1 : E = "java/lang/IllegalArgumentException"
      · rw [if_pos hE1] at hk1
        obtain rfl := os1 hk1
        subst hE1
        refine ww_catch hown hts hN (by decide) htab [(⟨0, 10, 13, 21⟩, "java/lang/IndexOutOfBoundsException")] ⟨0, 10, 17, 13⟩ [⟨0, 10, 21, 15⟩] rfl (List.forall_mem_cons.mpr ⟨⟨by decide, kw_393, by decide, by decide⟩, fun _ h => nomatch h⟩) (by decide) (by decide) kw_386 (fun q9 => ?_)
        refine ww_astore (i := 4) (lv1 := [(0, .ref (q 0)), (1, .int x1), (2, .int x2), (3, .ref o)]) hx hb dL_bill_17 (by decide) [1, 2, 3, 4] rfl ?_
        refine ww_iconst (v := 2) hx hb dL_bill_19 (by decide) ?_
        exact ww_hiret hx hb hr hlk rfl dL_bill_20
      · rw [if_neg hE1] at hk1
        rw [hcode] at hk1
        by_cases hE2 : E = "java/lang/IllegalStateException"
        · rw [if_pos hE2] at hk1
          obtain rfl := os1 hk1
          subst hE2
          refine ww_catch hown hts hN (by decide) htab [(⟨0, 10, 13, 21⟩, "java/lang/IndexOutOfBoundsException"), (⟨0, 10, 17, 13⟩, "java/lang/IllegalArgumentException")] ⟨0, 10, 21, 15⟩ [] rfl (List.forall_mem_cons.mpr ⟨⟨by decide, kw_393, by decide, by decide⟩, List.forall_mem_cons.mpr ⟨⟨by decide, kw_386, by decide, by decide⟩, fun _ h => nomatch h⟩⟩) (by decide) (by decide) kw_387 (fun q9 => ?_)
          refine ww_astore (i := 4) (lv1 := [(0, .ref (q 0)), (1, .int x1), (2, .int x2), (3, .ref o)]) hx hb dL_bill_21 (by decide) [1, 2, 3, 4] rfl ?_
          refine ww_iconst (v := 3) hx hb dL_bill_23 (by decide) ?_
          exact ww_hiret hx hb hr hlk rfl dL_bill_24
        · rw [if_neg hE2] at hk1
          cases hk1
set_option maxHeartbeats 4000000 in
set_option maxRecDepth 100000 in
theorem mL_loan (hl0 : l.stackTraces = false) (σ : SS) (x1 x2 : Int32) (f : Nat → Int64) (r : Int32 ⊕ String) (σ1 : SS) (h : X4_loan σ x1 x2 = some (r, σ1)) (k : Int32) (f1 : Nat → Int64) (hk : hres ["java/lang/IndexOutOfBoundsException", "java/lang/IllegalArgumentException", "java/lang/IllegalStateException"] false f r = some (k, f1)) : CtH l yL_loan cL_loan 5 [(0, 10, 13, 21), (0, 10, 17, 13), (0, 10, 21, 15)] 8 320 D vwCl [(cA, .int), (cL, .long)] (WO o cL f ++ WC q cA σ) (WO o cL f1 ++ WC q cA σ1) [.ref (q 0), .int x1, .int x2, .ref o] k := by
  refine cth_of (by decide +kernel) (Nat.le_of_ble_eq_true rfl) ?_
  intro p e s m args below meth c hx hb hr hlk hml hown hts hK hD hN hA hZ htab
  have hown : s.vm.findClass RL = some m.cls := hown
  have hK1 : va_K D vwCl [(cA, .int)] s := hK.sub [0] rfl
  refine ww_sub (lv1 := [(0, .ref (q 0)), (1, .int x1), (2, .int x2), (3, .ref o)]) [0, 1, 2, 3] rfl ?_
  refine ww_aload_n hx hb dL_loan_0 rfl 3 rfl ?_
  refine ww_iconst (v := 0) hx hb dL_loan_1 (by decide) ?_
  refine ww_aload_n hx hb dL_loan_2 rfl 0 rfl ?_
  refine ww_iload_n hx hb dL_loan_3 rfl 1 rfl ?_
  refine ww_iload_n hx hb dL_loan_4 rfl 2 rfl ?_
  refine ww_callX hx hb hml hown hts hK hN hA hZ hK1 (WO o cL f) [.int x1, .int x2] [.int 0, .ref o] (m_X4_loan hl0 σ x1 x2 r σ1 h) cs_L_44 rfl (by decide) (by decide) rfl hD rfl 0 rfl rfl rfl (Nat.le_of_ble_eq_true rfl) dL_loan_5 (fun v hv => ?_) (fun E hE => ?_)
  · subst hv
    obtain ⟨rfl, rfl⟩ := os2 hk
    simp only [Bool.false_eq_true, if_false]
    refine ww_i2l hx hb dL_loan_8 ?_
    refine ww_last (i := 0) (ws := WO o cL f ++ WC q cA σ1) (ws1 := WO o cL (vp_updL f (Int32.toNatClampNeg 0) v.toInt64) ++ WC q cA σ1) hx hb hown hts hK (hD.adr rfl) 0 1 rfl rfl in0 dL_loan_9 rfl ?_
    refine ww_goto (tgt := 25) hx hb dL_loan_10 (by decide) ?_
    refine ww_iconst (v := 0) hx hb dL_loan_25 (by decide) ?_
    exact ww_hiret hx hb hr hlk rfl dL_loan_26
  · subst hE
    obtain ⟨k1, hk1, hk2⟩ := Option.map_eq_some_iff.mp hk
    obtain ⟨rfl, rfl⟩ := Prod.mk.inj hk2
    rw [hcode] at hk1
    by_cases hE0 : E = "java/lang/IndexOutOfBoundsException"
    · rw [if_pos hE0] at hk1
      obtain rfl := os1 hk1
      subst hE0
      refine ww_catch hown hts hN (by decide) htab [] ⟨0, 10, 13, 21⟩ [⟨0, 10, 17, 13⟩, ⟨0, 10, 21, 15⟩] rfl (fun z hz => nomatch hz) (by decide) (by decide) kw_393 (fun q9 => ?_)
      refine ww_astore (i := 4) (lv1 := [(0, .ref (q 0)), (1, .int x1), (2, .int x2), (3, .ref o)]) hx hb dL_loan_13 (by decide) [1, 2, 3, 4] rfl ?_
      refine ww_iconst (v := 1) hx hb dL_loan_15 (by decide) ?_
      exact ww_hiret hx hb hr hlk rfl dL_loan_16
    · rw [if_neg hE0] at hk1
      rw [hcode] at hk1
      by_cases hE1 : E = "java/lang/IllegalArgumentException"
      · rw [if_pos hE1] at hk1
        obtain rfl := os1 hk1
        subst hE1
        refine ww_catch hown hts hN (by decide) htab [(⟨0, 10, 13, 21⟩, "java/lang/IndexOutOfBoundsException")] ⟨0, 10, 17, 13⟩ [⟨0, 10, 21, 15⟩] rfl (List.forall_mem_cons.mpr ⟨⟨by decide, kw_393, by decide, by decide⟩, fun _ h => nomatch h⟩) (by decide) (by decide) kw_386 (fun q9 => ?_)
        refine ww_astore (i := 4) (lv1 := [(0, .ref (q 0)), (1, .int x1), (2, .int x2), (3, .ref o)]) hx hb dL_loan_17 (by decide) [1, 2, 3, 4] rfl ?_
        refine ww_iconst (v := 2) hx hb dL_loan_19 (by decide) ?_
        exact ww_hiret hx hb hr hlk rfl dL_loan_20
      · rw [if_neg hE1] at hk1
        rw [hcode] at hk1
        by_cases hE2 : E = "java/lang/IllegalStateException"
        · rw [if_pos hE2] at hk1
          obtain rfl := os1 hk1
          subst hE2
          refine ww_catch hown hts hN (by decide) htab [(⟨0, 10, 13, 21⟩, "java/lang/IndexOutOfBoundsException"), (⟨0, 10, 17, 13⟩, "java/lang/IllegalArgumentException")] ⟨0, 10, 21, 15⟩ [] rfl (List.forall_mem_cons.mpr ⟨⟨by decide, kw_393, by decide, by decide⟩, List.forall_mem_cons.mpr ⟨⟨by decide, kw_386, by decide, by decide⟩, fun _ h => nomatch h⟩⟩) (by decide) (by decide) kw_387 (fun q9 => ?_)
          refine ww_astore (i := 4) (lv1 := [(0, .ref (q 0)), (1, .int x1), (2, .int x2), (3, .ref o)]) hx hb dL_loan_21 (by decide) [1, 2, 3, 4] rfl ?_
          refine ww_iconst (v := 3) hx hb dL_loan_23 (by decide) ?_
          exact ww_hiret hx hb hr hlk rfl dL_loan_24
        · rw [if_neg hE2] at hk1
          cases hk1
set_option maxHeartbeats 4000000 in
set_option maxRecDepth 100000 in
theorem mL_part (hl0 : l.stackTraces = false) (σ : SS) (x1 x2 x3 : Int32) (f : Nat → Int64) (r : Int32 ⊕ String) (σ1 : SS) (h : X4_part σ x1 x2 x3 = some (r, σ1)) (k : Int32) (f1 : Nat → Int64) (hk : hres ["java/lang/IndexOutOfBoundsException", "java/lang/IllegalArgumentException", "java/lang/IllegalStateException"] false f r = some (k, f1)) : CtH l yL_part cL_part 6 [(0, 12, 15, 21), (0, 12, 19, 13), (0, 12, 23, 15)] 8 320 D vwCl [(cA, .int), (cL, .long)] (WO o cL f ++ WC q cA σ) (WO o cL f1 ++ WC q cA σ1) [.ref (q 0), .int x1, .int x2, .int x3, .ref o] k := by
  refine cth_of (by decide +kernel) (Nat.le_of_ble_eq_true rfl) ?_
  intro p e s m args below meth c hx hb hr hlk hml hown hts hK hD hN hA hZ htab
  have hown : s.vm.findClass RL = some m.cls := hown
  have hK1 : va_K D vwCl [(cA, .int)] s := hK.sub [0] rfl
  refine ww_sub (lv1 := [(0, .ref (q 0)), (1, .int x1), (2, .int x2), (3, .int x3), (4, .ref o)]) [0, 1, 2, 3, 4] rfl ?_
  refine ww_aload hx hb dL_part_0 4 rfl ?_
  refine ww_iconst (v := 0) hx hb dL_part_2 (by decide) ?_
  refine ww_aload_n hx hb dL_part_3 rfl 0 rfl ?_
  refine ww_iload_n hx hb dL_part_4 rfl 1 rfl ?_
  refine ww_iload_n hx hb dL_part_5 rfl 2 rfl ?_
  refine ww_iload_n hx hb dL_part_6 rfl 3 rfl ?_
  refine ww_callX hx hb hml hown hts hK hN hA hZ hK1 (WO o cL f) [.int x1, .int x2, .int x3] [.int 0, .ref o] (m_X4_part hl0 σ x1 x2 x3 r σ1 h) cs_L_47 rfl (by decide) (by decide) rfl hD rfl 0 rfl rfl rfl (Nat.le_of_ble_eq_true rfl) dL_part_7 (fun v hv => ?_) (fun E hE => ?_)
  · subst hv
    obtain ⟨rfl, rfl⟩ := os2 hk
    simp only [Bool.false_eq_true, if_false]
    refine ww_i2l hx hb dL_part_10 ?_
    refine ww_last (i := 0) (ws := WO o cL f ++ WC q cA σ1) (ws1 := WO o cL (vp_updL f (Int32.toNatClampNeg 0) v.toInt64) ++ WC q cA σ1) hx hb hown hts hK (hD.adr rfl) 0 1 rfl rfl in0 dL_part_11 rfl ?_
    refine ww_goto (tgt := 27) hx hb dL_part_12 (by decide) ?_
    refine ww_iconst (v := 0) hx hb dL_part_27 (by decide) ?_
    exact ww_hiret hx hb hr hlk rfl dL_part_28
  · subst hE
    obtain ⟨k1, hk1, hk2⟩ := Option.map_eq_some_iff.mp hk
    obtain ⟨rfl, rfl⟩ := Prod.mk.inj hk2
    rw [hcode] at hk1
    by_cases hE0 : E = "java/lang/IndexOutOfBoundsException"
    · rw [if_pos hE0] at hk1
      obtain rfl := os1 hk1
      subst hE0
      refine ww_catch hown hts hN (by decide) htab [] ⟨0, 12, 15, 21⟩ [⟨0, 12, 19, 13⟩, ⟨0, 12, 23, 15⟩] rfl (fun z hz => nomatch hz) (by decide) (by decide) kw_393 (fun q9 => ?_)
      refine ww_astore (i := 5) (lv1 := [(0, .ref (q 0)), (1, .int x1), (2, .int x2), (3, .int x3), (4, .ref o)]) hx hb dL_part_15 (by decide) [1, 2, 3, 4, 5] rfl ?_
      refine ww_iconst (v := 1) hx hb dL_part_17 (by decide) ?_
      exact ww_hiret hx hb hr hlk rfl dL_part_18
    · rw [if_neg hE0] at hk1
      rw [hcode] at hk1
      by_cases hE1 : E = "java/lang/IllegalArgumentException"
      · rw [if_pos hE1] at hk1
        obtain rfl := os1 hk1
        subst hE1
        refine ww_catch hown hts hN (by decide) htab [(⟨0, 12, 15, 21⟩, "java/lang/IndexOutOfBoundsException")] ⟨0, 12, 19, 13⟩ [⟨0, 12, 23, 15⟩] rfl (List.forall_mem_cons.mpr ⟨⟨by decide, kw_393, by decide, by decide⟩, fun _ h => nomatch h⟩) (by decide) (by decide) kw_386 (fun q9 => ?_)
        refine ww_astore (i := 5) (lv1 := [(0, .ref (q 0)), (1, .int x1), (2, .int x2), (3, .int x3), (4, .ref o)]) hx hb dL_part_19 (by decide) [1, 2, 3, 4, 5] rfl ?_
        refine ww_iconst (v := 2) hx hb dL_part_21 (by decide) ?_
        exact ww_hiret hx hb hr hlk rfl dL_part_22
      · rw [if_neg hE1] at hk1
        rw [hcode] at hk1
        by_cases hE2 : E = "java/lang/IllegalStateException"
        · rw [if_pos hE2] at hk1
          obtain rfl := os1 hk1
          subst hE2
          refine ww_catch hown hts hN (by decide) htab [(⟨0, 12, 15, 21⟩, "java/lang/IndexOutOfBoundsException"), (⟨0, 12, 19, 13⟩, "java/lang/IllegalArgumentException")] ⟨0, 12, 23, 15⟩ [] rfl (List.forall_mem_cons.mpr ⟨⟨by decide, kw_393, by decide, by decide⟩, List.forall_mem_cons.mpr ⟨⟨by decide, kw_386, by decide, by decide⟩, fun _ h => nomatch h⟩⟩) (by decide) (by decide) kw_387 (fun q9 => ?_)
          refine ww_astore (i := 5) (lv1 := [(0, .ref (q 0)), (1, .int x1), (2, .int x2), (3, .int x3), (4, .ref o)]) hx hb dL_part_23 (by decide) [1, 2, 3, 4, 5] rfl ?_
          refine ww_iconst (v := 3) hx hb dL_part_25 (by decide) ?_
          exact ww_hiret hx hb hr hlk rfl dL_part_26
        · rw [if_neg hE2] at hk1
          cases hk1
set_option maxHeartbeats 4000000 in
set_option maxRecDepth 100000 in
theorem mL_income (hl0 : l.stackTraces = false) (σ : SS) (x1 : Int32) (f : Nat → Int64) (r : Int32 ⊕ String) (σ1 : SS) (h : X4_income σ x1 = some (r, σ1)) (k : Int32) (f1 : Nat → Int64) (hk : hres ["java/lang/IllegalArgumentException"] false f r = some (k, f1)) : CtH l yL_income cL_income 4 [(0, 9, 12, 13)] 8 320 D vwCl [(cA, .int), (cL, .long)] (WO o cL f ++ WC q cA σ) (WO o cL f1 ++ WC q cA σ1) [.ref (q 0), .int x1, .ref o] k := by
  refine cth_of (by decide +kernel) (Nat.le_of_ble_eq_true rfl) ?_
  intro p e s m args below meth c hx hb hr hlk hml hown hts hK hD hN hA hZ htab
  have hown : s.vm.findClass RL = some m.cls := hown
  have hK1 : va_K D vwCl [(cA, .int)] s := hK.sub [0] rfl
  refine ww_sub (lv1 := [(0, .ref (q 0)), (1, .int x1), (2, .ref o)]) [0, 1, 2] rfl ?_
  refine ww_aload_n hx hb dL_income_0 rfl 2 rfl ?_
  refine ww_iconst (v := 0) hx hb dL_income_1 (by decide) ?_
  refine ww_aload_n hx hb dL_income_2 rfl 0 rfl ?_
  refine ww_iload_n hx hb dL_income_3 rfl 1 rfl ?_
  refine ww_callX hx hb hml hown hts hK hN hA hZ hK1 (WO o cL f) [.int x1] [.int 0, .ref o] (m_X4_income hl0 σ x1 r σ1 h) cs_L_51 rfl (by decide) (by decide) rfl hD rfl 0 rfl rfl rfl (Nat.le_of_ble_eq_true rfl) dL_income_4 (fun v hv => ?_) (fun E hE => ?_)
  · subst hv
    obtain ⟨rfl, rfl⟩ := os2 hk
    simp only [Bool.false_eq_true, if_false]
    refine ww_i2l hx hb dL_income_7 ?_
    refine ww_last (i := 0) (ws := WO o cL f ++ WC q cA σ1) (ws1 := WO o cL (vp_updL f (Int32.toNatClampNeg 0) v.toInt64) ++ WC q cA σ1) hx hb hown hts hK (hD.adr rfl) 0 1 rfl rfl in0 dL_income_8 rfl ?_
    refine ww_goto (tgt := 15) hx hb dL_income_9 (by decide) ?_
    refine ww_iconst (v := 0) hx hb dL_income_15 (by decide) ?_
    exact ww_hiret hx hb hr hlk rfl dL_income_16
  · subst hE
    obtain ⟨k1, hk1, hk2⟩ := Option.map_eq_some_iff.mp hk
    obtain ⟨rfl, rfl⟩ := Prod.mk.inj hk2
    rw [hcode] at hk1
    by_cases hE0 : E = "java/lang/IllegalArgumentException"
    · rw [if_pos hE0] at hk1
      obtain rfl := os1 hk1
      subst hE0
      refine ww_catch hown hts hN (by decide) htab [] ⟨0, 9, 12, 13⟩ [] rfl (fun z hz => nomatch hz) (by decide) (by decide) kw_386 (fun q9 => ?_)
      refine ww_astore_n (i := 3) (lv1 := [(0, .ref (q 0)), (1, .int x1), (2, .ref o)]) hx hb dL_income_12 rfl (by decide) [1, 2, 3] rfl ?_
      refine ww_iconst (v := 1) hx hb dL_income_13 (by decide) ?_
      exact ww_hiret hx hb hr hlk rfl dL_income_14
    · rw [if_neg hE0] at hk1
      cases hk1
set_option maxHeartbeats 4000000 in
set_option maxRecDepth 100000 in
theorem mL_daysByAll (hl0 : l.stackTraces = false) (σ : SS) (f : Nat → Int64) (r : Int32 ⊕ String) (σ1 : SS) (h : X4_daysByAll σ = some (r, σ1)) (k : Int32) (f1 : Nat → Int64) (hk : hres ["java/lang/IllegalStateException"] false f r = some (k, f1)) : CtH l yL_daysByAll cL_daysByAll 3 [(0, 8, 11, 15)] 23 920 D vwCl [(cA, .int), (cL, .long)] (WO o cL f ++ WC q cA σ) (WO o cL f1 ++ WC q cA σ1) [.ref (q 0), .ref o] k := by
  refine cth_of (by decide +kernel) (Nat.le_of_ble_eq_true rfl) ?_
  intro p e s m args below meth c hx hb hr hlk hml hown hts hK hD hN hA hZ htab
  have hown : s.vm.findClass RL = some m.cls := hown
  have hK1 : va_K D vwCl [(cA, .int)] s := hK.sub [0] rfl
  refine ww_sub (lv1 := [(0, .ref (q 0)), (1, .ref o)]) [0, 1] rfl ?_
  refine ww_aload_n hx hb dL_daysByAll_0 rfl 1 rfl ?_
  refine ww_iconst (v := 0) hx hb dL_daysByAll_1 (by decide) ?_
  refine ww_aload_n hx hb dL_daysByAll_2 rfl 0 rfl ?_
  refine ww_callX hx hb hml hown hts hK hN hA hZ hK1 (WO o cL f) [] [.int 0, .ref o] (m_X4_daysByAll hl0 σ r σ1 h) cs_L_54 rfl (by decide) (by decide) rfl hD rfl 0 rfl rfl rfl (Nat.le_of_ble_eq_true rfl) dL_daysByAll_3 (fun v hv => ?_) (fun E hE => ?_)
  · subst hv
    obtain ⟨rfl, rfl⟩ := os2 hk
    simp only [Bool.false_eq_true, if_false]
    refine ww_i2l hx hb dL_daysByAll_6 ?_
    refine ww_last (i := 0) (ws := WO o cL f ++ WC q cA σ1) (ws1 := WO o cL (vp_updL f (Int32.toNatClampNeg 0) v.toInt64) ++ WC q cA σ1) hx hb hown hts hK (hD.adr rfl) 0 1 rfl rfl in0 dL_daysByAll_7 rfl ?_
    refine ww_goto (tgt := 14) hx hb dL_daysByAll_8 (by decide) ?_
    refine ww_iconst (v := 0) hx hb dL_daysByAll_14 (by decide) ?_
    exact ww_hiret hx hb hr hlk rfl dL_daysByAll_15
  · subst hE
    obtain ⟨k1, hk1, hk2⟩ := Option.map_eq_some_iff.mp hk
    obtain ⟨rfl, rfl⟩ := Prod.mk.inj hk2
    rw [hcode] at hk1
    by_cases hE0 : E = "java/lang/IllegalStateException"
    · rw [if_pos hE0] at hk1
      obtain rfl := os1 hk1
      subst hE0
      refine ww_catch hown hts hN (by decide) htab [] ⟨0, 8, 11, 15⟩ [] rfl (fun z hz => nomatch hz) (by decide) (by decide) kw_387 (fun q9 => ?_)
      refine ww_astore_n (i := 2) (lv1 := [(0, .ref (q 0)), (1, .ref o)]) hx hb dL_daysByAll_11 rfl (by decide) [1, 2] rfl ?_
      refine ww_iconst (v := 1) hx hb dL_daysByAll_12 (by decide) ?_
      exact ww_hiret hx hb hr hlk rfl dL_daysByAll_13
    · rw [if_neg hE0] at hk1
      cases hk1
set_option maxHeartbeats 4000000 in
set_option maxRecDepth 100000 in
theorem mL_planned (hl0 : l.stackTraces = false) (σ : SS) (x1 : Int32) (f : Nat → Int64) (r : Int32 ⊕ String) (σ1 : SS) (h : X4_planned σ x1 = some (r, σ1)) (k : Int32) (f1 : Nat → Int64) (hk : hres ["java/lang/IndexOutOfBoundsException"] false f r = some (k, f1)) : CtH l yL_planned cL_planned 4 [(0, 9, 12, 21)] 23 920 D vwCl [(cA, .int), (cL, .long)] (WO o cL f ++ WC q cA σ) (WO o cL f1 ++ WC q cA σ1) [.ref (q 0), .int x1, .ref o] k := by
  refine cth_of (by decide +kernel) (Nat.le_of_ble_eq_true rfl) ?_
  intro p e s m args below meth c hx hb hr hlk hml hown hts hK hD hN hA hZ htab
  have hown : s.vm.findClass RL = some m.cls := hown
  have hK1 : va_K D vwCl [(cA, .int)] s := hK.sub [0] rfl
  refine ww_sub (lv1 := [(0, .ref (q 0)), (1, .int x1), (2, .ref o)]) [0, 1, 2] rfl ?_
  refine ww_aload_n hx hb dL_planned_0 rfl 2 rfl ?_
  refine ww_iconst (v := 0) hx hb dL_planned_1 (by decide) ?_
  refine ww_aload_n hx hb dL_planned_2 rfl 0 rfl ?_
  refine ww_iload_n hx hb dL_planned_3 rfl 1 rfl ?_
  refine ww_callX hx hb hml hown hts hK hN hA hZ hK1 (WO o cL f) [.int x1] [.int 0, .ref o] (m_X4_planned hl0 σ x1 r σ1 h) cs_L_58 rfl (by decide) (by decide) rfl hD rfl 0 rfl rfl rfl (Nat.le_of_ble_eq_true rfl) dL_planned_4 (fun v hv => ?_) (fun E hE => ?_)
  · subst hv
    obtain ⟨rfl, rfl⟩ := os2 hk
    simp only [Bool.false_eq_true, if_false]
    refine ww_i2l hx hb dL_planned_7 ?_
    refine ww_last (i := 0) (ws := WO o cL f ++ WC q cA σ1) (ws1 := WO o cL (vp_updL f (Int32.toNatClampNeg 0) v.toInt64) ++ WC q cA σ1) hx hb hown hts hK (hD.adr rfl) 0 1 rfl rfl in0 dL_planned_8 rfl ?_
    refine ww_goto (tgt := 15) hx hb dL_planned_9 (by decide) ?_
    refine ww_iconst (v := 0) hx hb dL_planned_15 (by decide) ?_
    exact ww_hiret hx hb hr hlk rfl dL_planned_16
  · subst hE
    obtain ⟨k1, hk1, hk2⟩ := Option.map_eq_some_iff.mp hk
    obtain ⟨rfl, rfl⟩ := Prod.mk.inj hk2
    rw [hcode] at hk1
    by_cases hE0 : E = "java/lang/IndexOutOfBoundsException"
    · rw [if_pos hE0] at hk1
      obtain rfl := os1 hk1
      subst hE0
      refine ww_catch hown hts hN (by decide) htab [] ⟨0, 9, 12, 21⟩ [] rfl (fun z hz => nomatch hz) (by decide) (by decide) kw_393 (fun q9 => ?_)
      refine ww_astore_n (i := 3) (lv1 := [(0, .ref (q 0)), (1, .int x1), (2, .ref o)]) hx hb dL_planned_12 rfl (by decide) [1, 2, 3] rfl ?_
      refine ww_iconst (v := 1) hx hb dL_planned_13 (by decide) ?_
      exact ww_hiret hx hb hr hlk rfl dL_planned_14
    · rw [if_neg hE0] at hk1
      cases hk1
set_option maxHeartbeats 4000000 in
set_option maxRecDepth 100000 in
theorem mL_begins (hl0 : l.stackTraces = false) (σ : SS) (x1 : Int32) (f : Nat → Int64) (r : Int32 ⊕ String) (σ1 : SS) (h : X4_begins σ x1 = some (r, σ1)) (k : Int32) (f1 : Nat → Int64) (hk : hres ["java/lang/IndexOutOfBoundsException"] false f r = some (k, f1)) : CtH l yL_begins cL_begins 4 [(0, 9, 12, 21)] 23 920 D vwCl [(cA, .int), (cL, .long)] (WO o cL f ++ WC q cA σ) (WO o cL f1 ++ WC q cA σ1) [.ref (q 0), .int x1, .ref o] k := by
  refine cth_of (by decide +kernel) (Nat.le_of_ble_eq_true rfl) ?_
  intro p e s m args below meth c hx hb hr hlk hml hown hts hK hD hN hA hZ htab
  have hown : s.vm.findClass RL = some m.cls := hown
  have hK1 : va_K D vwCl [(cA, .int)] s := hK.sub [0] rfl
  refine ww_sub (lv1 := [(0, .ref (q 0)), (1, .int x1), (2, .ref o)]) [0, 1, 2] rfl ?_
  refine ww_aload_n hx hb dL_begins_0 rfl 2 rfl ?_
  refine ww_iconst (v := 0) hx hb dL_begins_1 (by decide) ?_
  refine ww_aload_n hx hb dL_begins_2 rfl 0 rfl ?_
  refine ww_iload_n hx hb dL_begins_3 rfl 1 rfl ?_
  refine ww_callX hx hb hml hown hts hK hN hA hZ hK1 (WO o cL f) [.int x1] [.int 0, .ref o] (m_X4_begins hl0 σ x1 r σ1 h) cs_L_61 rfl (by decide) (by decide) rfl hD rfl 0 rfl rfl rfl (Nat.le_of_ble_eq_true rfl) dL_begins_4 (fun v hv => ?_) (fun E hE => ?_)
  · subst hv
    obtain ⟨rfl, rfl⟩ := os2 hk
    simp only [Bool.false_eq_true, if_false]
    refine ww_i2l hx hb dL_begins_7 ?_
    refine ww_last (i := 0) (ws := WO o cL f ++ WC q cA σ1) (ws1 := WO o cL (vp_updL f (Int32.toNatClampNeg 0) v.toInt64) ++ WC q cA σ1) hx hb hown hts hK (hD.adr rfl) 0 1 rfl rfl in0 dL_begins_8 rfl ?_
    refine ww_goto (tgt := 15) hx hb dL_begins_9 (by decide) ?_
    refine ww_iconst (v := 0) hx hb dL_begins_15 (by decide) ?_
    exact ww_hiret hx hb hr hlk rfl dL_begins_16
  · subst hE
    obtain ⟨k1, hk1, hk2⟩ := Option.map_eq_some_iff.mp hk
    obtain ⟨rfl, rfl⟩ := Prod.mk.inj hk2
    rw [hcode] at hk1
    by_cases hE0 : E = "java/lang/IndexOutOfBoundsException"
    · rw [if_pos hE0] at hk1
      obtain rfl := os1 hk1
      subst hE0
      refine ww_catch hown hts hN (by decide) htab [] ⟨0, 9, 12, 21⟩ [] rfl (fun z hz => nomatch hz) (by decide) (by decide) kw_393 (fun q9 => ?_)
      refine ww_astore_n (i := 3) (lv1 := [(0, .ref (q 0)), (1, .int x1), (2, .ref o)]) hx hb dL_begins_12 rfl (by decide) [1, 2, 3] rfl ?_
      refine ww_iconst (v := 1) hx hb dL_begins_13 (by decide) ?_
      exact ww_hiret hx hb hr hlk rfl dL_begins_14
    · rw [if_neg hE0] at hk1
      cases hk1
set_option maxHeartbeats 4000000 in
set_option maxRecDepth 100000 in
theorem mL_left (hl0 : l.stackTraces = false) (σ : SS) (x1 : Int32) (f : Nat → Int64) (r : Int32 ⊕ String) (σ1 : SS) (h : X4_left σ x1 = some (r, σ1)) (k : Int32) (f1 : Nat → Int64) (hk : hres ["java/lang/IndexOutOfBoundsException"] false f r = some (k, f1)) : CtH l yL_left cL_left 4 [(0, 9, 12, 21)] 8 320 D vwCl [(cA, .int), (cL, .long)] (WO o cL f ++ WC q cA σ) (WO o cL f1 ++ WC q cA σ1) [.ref (q 0), .int x1, .ref o] k := by
  refine cth_of (by decide +kernel) (Nat.le_of_ble_eq_true rfl) ?_
  intro p e s m args below meth c hx hb hr hlk hml hown hts hK hD hN hA hZ htab
  have hown : s.vm.findClass RL = some m.cls := hown
  have hK1 : va_K D vwCl [(cA, .int)] s := hK.sub [0] rfl
  refine ww_sub (lv1 := [(0, .ref (q 0)), (1, .int x1), (2, .ref o)]) [0, 1, 2] rfl ?_
  refine ww_aload_n hx hb dL_left_0 rfl 2 rfl ?_
  refine ww_iconst (v := 0) hx hb dL_left_1 (by decide) ?_
  refine ww_aload_n hx hb dL_left_2 rfl 0 rfl ?_
  refine ww_iload_n hx hb dL_left_3 rfl 1 rfl ?_
  refine ww_callX hx hb hml hown hts hK hN hA hZ hK1 (WO o cL f) [.int x1] [.int 0, .ref o] (m_X4_left hl0 σ x1 r σ1 h) cs_L_64 rfl (by decide) (by decide) rfl hD rfl 0 rfl rfl rfl (Nat.le_of_ble_eq_true rfl) dL_left_4 (fun v hv => ?_) (fun E hE => ?_)
  · subst hv
    obtain ⟨rfl, rfl⟩ := os2 hk
    simp only [Bool.false_eq_true, if_false]
    refine ww_i2l hx hb dL_left_7 ?_
    refine ww_last (i := 0) (ws := WO o cL f ++ WC q cA σ1) (ws1 := WO o cL (vp_updL f (Int32.toNatClampNeg 0) v.toInt64) ++ WC q cA σ1) hx hb hown hts hK (hD.adr rfl) 0 1 rfl rfl in0 dL_left_8 rfl ?_
    refine ww_goto (tgt := 15) hx hb dL_left_9 (by decide) ?_
    refine ww_iconst (v := 0) hx hb dL_left_15 (by decide) ?_
    exact ww_hiret hx hb hr hlk rfl dL_left_16
  · subst hE
    obtain ⟨k1, hk1, hk2⟩ := Option.map_eq_some_iff.mp hk
    obtain ⟨rfl, rfl⟩ := Prod.mk.inj hk2
    rw [hcode] at hk1
    by_cases hE0 : E = "java/lang/IndexOutOfBoundsException"
    · rw [if_pos hE0] at hk1
      obtain rfl := os1 hk1
      subst hE0
      refine ww_catch hown hts hN (by decide) htab [] ⟨0, 9, 12, 21⟩ [] rfl (fun z hz => nomatch hz) (by decide) (by decide) kw_393 (fun q9 => ?_)
      refine ww_astore_n (i := 3) (lv1 := [(0, .ref (q 0)), (1, .int x1), (2, .ref o)]) hx hb dL_left_12 rfl (by decide) [1, 2, 3] rfl ?_
      refine ww_iconst (v := 1) hx hb dL_left_13 (by decide) ?_
      exact ww_hiret hx hb hr hlk rfl dL_left_14
    · rw [if_neg hE0] at hk1
      cases hk1
set_option maxHeartbeats 4000000 in
set_option maxRecDepth 100000 in
theorem mL_openOf (hl0 : l.stackTraces = false) (σ : SS) (x1 : Int32) (f : Nat → Int64) (r : Int32 ⊕ String) (σ1 : SS) (h : X4_openOf σ x1 = some (r, σ1)) (k : Int32) (f1 : Nat → Int64) (hk : hres ["java/lang/IndexOutOfBoundsException"] false f r = some (k, f1)) : CtH l yL_openOf cL_openOf 4 [(0, 9, 12, 21)] 8 320 D vwCl [(cA, .int), (cL, .long)] (WO o cL f ++ WC q cA σ) (WO o cL f1 ++ WC q cA σ1) [.ref (q 0), .int x1, .ref o] k := by
  refine cth_of (by decide +kernel) (Nat.le_of_ble_eq_true rfl) ?_
  intro p e s m args below meth c hx hb hr hlk hml hown hts hK hD hN hA hZ htab
  have hown : s.vm.findClass RL = some m.cls := hown
  have hK1 : va_K D vwCl [(cA, .int)] s := hK.sub [0] rfl
  refine ww_sub (lv1 := [(0, .ref (q 0)), (1, .int x1), (2, .ref o)]) [0, 1, 2] rfl ?_
  refine ww_aload_n hx hb dL_openOf_0 rfl 2 rfl ?_
  refine ww_iconst (v := 0) hx hb dL_openOf_1 (by decide) ?_
  refine ww_aload_n hx hb dL_openOf_2 rfl 0 rfl ?_
  refine ww_iload_n hx hb dL_openOf_3 rfl 1 rfl ?_
  refine ww_callX hx hb hml hown hts hK hN hA hZ hK1 (WO o cL f) [.int x1] [.int 0, .ref o] (m_X4_openOf hl0 σ x1 r σ1 h) cs_L_67 rfl (by decide) (by decide) rfl hD rfl 0 rfl rfl rfl (Nat.le_of_ble_eq_true rfl) dL_openOf_4 (fun v hv => ?_) (fun E hE => ?_)
  · subst hv
    obtain ⟨rfl, rfl⟩ := os2 hk
    simp only [Bool.false_eq_true, if_false]
    refine ww_i2l hx hb dL_openOf_7 ?_
    refine ww_last (i := 0) (ws := WO o cL f ++ WC q cA σ1) (ws1 := WO o cL (vp_updL f (Int32.toNatClampNeg 0) v.toInt64) ++ WC q cA σ1) hx hb hown hts hK (hD.adr rfl) 0 1 rfl rfl in0 dL_openOf_8 rfl ?_
    refine ww_goto (tgt := 15) hx hb dL_openOf_9 (by decide) ?_
    refine ww_iconst (v := 0) hx hb dL_openOf_15 (by decide) ?_
    exact ww_hiret hx hb hr hlk rfl dL_openOf_16
  · subst hE
    obtain ⟨k1, hk1, hk2⟩ := Option.map_eq_some_iff.mp hk
    obtain ⟨rfl, rfl⟩ := Prod.mk.inj hk2
    rw [hcode] at hk1
    by_cases hE0 : E = "java/lang/IndexOutOfBoundsException"
    · rw [if_pos hE0] at hk1
      obtain rfl := os1 hk1
      subst hE0
      refine ww_catch hown hts hN (by decide) htab [] ⟨0, 9, 12, 21⟩ [] rfl (fun z hz => nomatch hz) (by decide) (by decide) kw_393 (fun q9 => ?_)
      refine ww_astore_n (i := 3) (lv1 := [(0, .ref (q 0)), (1, .int x1), (2, .ref o)]) hx hb dL_openOf_12 rfl (by decide) [1, 2, 3] rfl ?_
      refine ww_iconst (v := 1) hx hb dL_openOf_13 (by decide) ?_
      exact ww_hiret hx hb hr hlk rfl dL_openOf_14
    · rw [if_neg hE0] at hk1
      cases hk1
set_option maxHeartbeats 4000000 in
set_option maxRecDepth 100000 in
theorem mL_got (hl0 : l.stackTraces = false) (σ : SS) (x1 : Int32) (f : Nat → Int64) (r : Int32 ⊕ String) (σ1 : SS) (h : X4_got σ x1 = some (r, σ1)) (k : Int32) (f1 : Nat → Int64) (hk : hres ["java/lang/IndexOutOfBoundsException"] false f r = some (k, f1)) : CtH l yL_got cL_got 4 [(0, 9, 12, 21)] 8 320 D vwCl [(cA, .int), (cL, .long)] (WO o cL f ++ WC q cA σ) (WO o cL f1 ++ WC q cA σ1) [.ref (q 0), .int x1, .ref o] k := by
  refine cth_of (by decide +kernel) (Nat.le_of_ble_eq_true rfl) ?_
  intro p e s m args below meth c hx hb hr hlk hml hown hts hK hD hN hA hZ htab
  have hown : s.vm.findClass RL = some m.cls := hown
  have hK1 : va_K D vwCl [(cA, .int)] s := hK.sub [0] rfl
  refine ww_sub (lv1 := [(0, .ref (q 0)), (1, .int x1), (2, .ref o)]) [0, 1, 2] rfl ?_
  refine ww_aload_n hx hb dL_got_0 rfl 2 rfl ?_
  refine ww_iconst (v := 0) hx hb dL_got_1 (by decide) ?_
  refine ww_aload_n hx hb dL_got_2 rfl 0 rfl ?_
  refine ww_iload_n hx hb dL_got_3 rfl 1 rfl ?_
  refine ww_callX hx hb hml hown hts hK hN hA hZ hK1 (WO o cL f) [.int x1] [.int 0, .ref o] (m_X4_got hl0 σ x1 r σ1 h) cs_L_70 rfl (by decide) (by decide) rfl hD rfl 0 rfl rfl rfl (Nat.le_of_ble_eq_true rfl) dL_got_4 (fun v hv => ?_) (fun E hE => ?_)
  · subst hv
    obtain ⟨rfl, rfl⟩ := os2 hk
    simp only [Bool.false_eq_true, if_false]
    refine ww_i2l hx hb dL_got_7 ?_
    refine ww_last (i := 0) (ws := WO o cL f ++ WC q cA σ1) (ws1 := WO o cL (vp_updL f (Int32.toNatClampNeg 0) v.toInt64) ++ WC q cA σ1) hx hb hown hts hK (hD.adr rfl) 0 1 rfl rfl in0 dL_got_8 rfl ?_
    refine ww_goto (tgt := 15) hx hb dL_got_9 (by decide) ?_
    refine ww_iconst (v := 0) hx hb dL_got_15 (by decide) ?_
    exact ww_hiret hx hb hr hlk rfl dL_got_16
  · subst hE
    obtain ⟨k1, hk1, hk2⟩ := Option.map_eq_some_iff.mp hk
    obtain ⟨rfl, rfl⟩ := Prod.mk.inj hk2
    rw [hcode] at hk1
    by_cases hE0 : E = "java/lang/IndexOutOfBoundsException"
    · rw [if_pos hE0] at hk1
      obtain rfl := os1 hk1
      subst hE0
      refine ww_catch hown hts hN (by decide) htab [] ⟨0, 9, 12, 21⟩ [] rfl (fun z hz => nomatch hz) (by decide) (by decide) kw_393 (fun q9 => ?_)
      refine ww_astore_n (i := 3) (lv1 := [(0, .ref (q 0)), (1, .int x1), (2, .ref o)]) hx hb dL_got_12 rfl (by decide) [1, 2, 3] rfl ?_
      refine ww_iconst (v := 1) hx hb dL_got_13 (by decide) ?_
      exact ww_hiret hx hb hr hlk rfl dL_got_14
    · rw [if_neg hE0] at hk1
      cases hk1
end
