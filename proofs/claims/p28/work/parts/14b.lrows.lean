/-! The law's own static methods, and rows for worlds with a frame. -/
theorem pxW_blind {D : va_G} {cl : List vw_C} {tys : List (ClassId × FieldType)} {ws : va_W} {As : List Value} {sz : Nat} : FrameBlind (pxW D cl tys ws As sz) := fun a U g mk h => by
  obtain ⟨ha, h1, h2, h3, h4, h5, h6⟩ := h
  exact ⟨ha, h1, h2, va_K.moved (u := U) (U := U.calling g mk a) (Vm.Alike.refl U.vm) h3, h4, h5.call, ⟨vx_Zq.moved (u := U) (U := U.calling g mk a) (Vm.Alike.refl U.vm) h6.1, vx_Zq.moved (u := U) (U := U.calling g mk a) (Vm.Alike.refl U.vm) h6.2⟩⟩
theorem pxW_pre {D : va_G} {cl : List vw_C} {tys : List (ClassId × FieldType)} {ws : va_W} {As : List Value} {s : State} {H : Heap} {locs : List Loc} {A0 : Nat → Prop} (hP : va_P D cl ws H) (hK : va_K D cl tys s) (hD : va_D A0 ws) (hN : NWs s) (hZ : ZZ A0 s) (hS : va_S A0 s.heap H locs) (hA : ∀ q, s.heap.size ≤ q → A0 q) : PreS s H (pxW D cl tys ws As H.size) As :=
  ⟨pxW_blind, fun U hU hW => ⟨rfl, by rw [hU], by rw [hU]; exact hP, va_K.moved hW.alike hK, hD.weaken (fun _ _ _ _ => trivial), hN.warm hW,
    ⟨by rw [hU]; exact ((hZ.1.kept hS.2.1).moved hW.alike).narrow (va_A_in hD hS hA), by rw [hU]; exact ((hZ.2.kept hS.2.1).moved hW.alike).narrow (va_A_in hD hS hA)⟩⟩⟩
theorem va_D.sw {A : Nat → Prop} {a b : va_W} (h : va_D A (a ++ b)) : va_D A (b ++ a) := by
  have hl : ∀ (k : Nat) (q : Nat × va_E), a[k]? = some q → (a ++ b)[k]? = some q := fun k q h => by
    rw [List.getElem?_append_left ((List.getElem?_eq_some_iff.mp h).1)]; exact h
  have hr : ∀ (k : Nat) (q : Nat × va_E), b[k]? = some q → (a ++ b)[a.length + k]? = some q := fun k q h => by
    rw [List.getElem?_append_right (Nat.le_add_right _ _), Nat.add_sub_cancel_left]; exact h
  refine va_D.app h.last ⟨fun i j p q hi hj e => h.1 i j p q (hl i p hi) (hl j q hj) e, fun k q hk => h.2 k q (hl k q hk)⟩ (fun i j p q hi hj e => ?_)
  have h1 := h.1 _ _ p q (hr i p hi) (hl j q hj) e
  have h2 := (List.getElem?_eq_some_iff.mp hj).1
  omega
def CtH (l : Launch) (y : MethodName) (cc : ByteArray) (maxL : Nat) (hh : List (Nat × Nat × Nat × Nat)) (fr lo : Nat) (D : va_G) (cl : List vw_C) (tys : List (ClassId × FieldType)) (ws ws1 : va_W) (As : List Value) (k : Int32) : Prop :=
  ∀ sz : Nat, vx_Met l y (.codeWith y cc maxL (some .int) hh :: wALL) (rmc fr lo 1 6) (pxW D cl tys ws As sz) (qxW D cl ws ws1 (.inl k) sz) (xcW D cl ws ws1 (.inl k) sz) 1 6 (va_A ws sz)
theorem cth_of {l : Launch} {y : MethodName} {cc : ByteArray} {maxL : Nat} {hh : List (Nat × Nat × Nat × Nat)} {fr lo : Nat} {D : va_G} {cl : List vw_C} {tys : List (ClassId × FieldType)} {ws ws1 : va_W} {As : List Value} {k : Int32} (hy : plainName y.cls = true) (hlen : (lg_sl As).length ≤ maxL)
    (body : ∀ (p : Program) (e : Env) (s : State) (m : MethodId) (args : Array Value) (below : List Frame) (meth : Method) (c : Code), p.tables.exec = Jvm.exec → c.code = cc → meth.sig.returnType = some .int → meth.locks = false → c.maxLocals = maxL → s.vm.findClass y.cls = some m.cls → (∀ w ∈ wALL, w.before args s = true) → va_K D cl tys s → va_D (va_A ws s.heap.size) ws → NWs s → (∀ q, s.heap.size ≤ q → va_A ws s.heap.size q) → ZZ (va_A ws s.heap.size) s → c.exceptionTable.toList = tableOf hh →
      WW p l e (rmc fr lo 1 6) s m args below meth c D cl (va_A ws s.heap.size) maxL 0 0 (vx_MQ below (qxW D cl ws ws1 (.inl k) s.heap.size) (xcW D cl ws ws1 (.inl k) s.heap.size) args s 1 6 (va_A ws s.heap.size)) ws 0 (lv_args 0 As) []) : CtH l y cc maxL hh fr lo D cl tys ws ws1 As k := by
  intro sz
  refine vx_ofWH (cc := cc) (maxL := maxL) (ret := some .int) (hh := hh) hy rfl ?_
  intro p e s m args below meth c s₁ B hml hv
  obtain ⟨rfl, hsz, hP, hK, hD0, hN, hZ⟩ := hv
  have hts := atoms_spec (ws := .codeWith y cc maxL (some .int) hh :: wALL) B.pre
  have htab := vx_table (x := y) B (hts _ List.mem_cons_self)
  subst hsz
  have hl := lv_entry As (n := maxL) hlen
  rw [lg_entry_eq]
  exact body p e s m As.toArray below meth c B.exec B.bytes B.returns B.notSynchronized hml (findClass_of_methodNamed B.named) (fun w hw => hts w (List.mem_cons_of_mem _ hw)) hK hD0.self hN (fun q h => Or.inr h) hZ htab s.heap [] _ hP va_S.rf hl
def csH (own : String) (index : Nat) (y : MethodName) (cc : ByteArray) (maxL : Nat) (hh : List (Nat × Nat × Nat × Nat)) (n : Nat) : Prop :=
  Cond.methodLink own index y ∈ wALL ∧ Cond.static y ∈ wALL ∧ Cond.initialized y.cls ∈ wALL ∧ Cond.codeWith y cc maxL (some .int) hh ∈ wALL ∧ (y.cls ≠ "java/lang/invoke/MethodHandle" ∧ y.cls ≠ "java/lang/invoke/VarHandle" ∧ (parseMethodDescriptor y.desc).map (fun d => d.parameters.length) = some n)
section HRS
variable {p : Program} {l : Launch} {e : Env} {R : Room} {s : State} {m : MethodId} {args : Array Value} {below : List Frame} {meth : Method} {c : Code} {cells slots : Nat} {Q : State → Prop}
variable {D : va_G} {cl : List vw_C} {tys : List (ClassId × FieldType)} {A0 : Nat → Prop} {nL : Nat} {ws ws1 : va_W} {cc : ByteArray} {pc : Nat} {lv lv1 : List (Nat × Value)} {st : List Value}
theorem ww_widen {k n : Nat} (h1 : cells ≤ k) (h2 : slots ≤ n) (kk : WW p l e R s m args below meth c D cl A0 nL k n Q ws pc lv st) : WW p l e R s m args below meth c D cl A0 nL cells slots Q ws pc lv st := fun H locs ls hP hS hl => W.widen h1 h2 (kk H locs ls hP hS hl)
theorem ww_hiret (hx : p.tables.exec = Jvm.exec) (hb : c.code = cc) {ws0 : va_W} {v : Int32} {r : Int32 ⊕ String} (hr : meth.sig.returnType = some .int) (hlk : meth.locks = false) (hv : Sum.inl v = r) (hd : decode cc pc = .ok (.ireturn, 1)) : WW p l e R s m args below meth c D cl (va_A ws0 s.heap.size) nL (0 + 1) (0 + 6) (vx_MQ below (qxW D cl ws0 ws r s.heap.size) (xcW D cl ws0 ws r s.heap.size) args s 1 6 (va_A ws0 s.heap.size)) ws pc lv [.int v] :=
  fun _ _ _ hP hS _ => W.widen (k := 1) (n := 6) (Nat.le_refl _) (Nat.le_refl _) (vx_ret (W.iret hx hb hr (fun t ht _ => ⟨⟨⟨v, hv.symm, rfl⟩, by rw [ht]; exact hP⟩, hS.F ht⟩) hS.2.2 hd hlk))
/-- an E is thrown here -/
def XW (p : Program) (l : Launch) (e : Env) (R : Room) (s : State) (m : MethodId) (args : Array Value) (below : List Frame) (meth : Method) (c : Code) (D : va_G) (cl : List vw_C) (A0 : Nat → Prop) (nL cells slots : Nat) (Q : State → Prop) (ws : va_W) (E : String) (pc : Nat) (lv : List (Nat × Value)) (rest : List Value) : Prop :=
  ∀ (H : Heap) (locs : List Loc) (ls : Array Slot) (q : Addr) (ce : Cell), va_P D cl ws H → va_S A0 s.heap H locs → lv_has ls nL lv → H[q]? = some ce → ce.vm = .none → s.vm.findClass E = some ce.cls → vx_W p l e R s m args below meth c H locs cells slots Q (F0 m pc ls rest) q
theorem ww_catch {own E : String} {hh : List (Nat × Nat × Nat × Nat)} (hown : s.vm.findClass own = some m.cls) (hts : ∀ w ∈ wALL, w.before args s = true) (hN : NWs s) (hE : E ∈ castL) (htab : c.exceptionTable.toList = tableOf hh) (pre : List (ExceptionTableEntry × String)) (x : ExceptionTableEntry) (suf : List ExceptionTableEntry) (hsplit : tableOf hh = pre.map Prod.fst ++ x :: suf)
    (hpass : ∀ z ∈ pre, z.1.catchType ≠ 0 ∧ Cond.classLink own z.1.catchType z.2 ∈ wALL ∧ z.2 ∈ castL ∧ E ≠ z.2) (hcov : covers x pc = true) (h0 : x.catchType ≠ 0) (hlink : Cond.classLink own x.catchType E ∈ wALL)
    (kk : ∀ q : Nat, WW p l e R s m args below meth c D cl A0 nL cells slots Q ws x.handlerPc lv [.ref q]) : XW p l e R s m args below meth c D cl A0 nL cells slots Q ws E pc lv st :=
  fun H locs ls q ce hP hS hl hce hcv hcl => vx_catch hown (pre.map Prod.fst) x suf (htab.trans hsplit) (fun z hz => by
    obtain ⟨w, hw, rfl⟩ := List.mem_map.mp hz
    obtain ⟨h1, h2, h3, h4⟩ := hpass w hw
    exact Or.inr ⟨h1, w.2, hts _ h2, hN.2.2.1 E hE w.2 h3 h4⟩) hcov h0 (hts _ hlink) (va_Nw.use rfl (hN.2.1 E hE)) hce hcv hcl (kk q H locs ls hP hS hl)
/-- the class's method, called with a frame beside its world -/
theorem ww_callX (hx : p.tables.exec = Jvm.exec) (hb : c.code = cc) (hml : c.maxLocals = nL) {own : String} (hown : s.vm.findClass own = some m.cls) (hts : ∀ w ∈ wALL, w.before args s = true) (hK : va_K D cl tys s) (hN : NWs s) (hA : ∀ q, s.heap.size ≤ q → A0 q) (hZ : ZZ A0 s) {tys1 : List (ClassId × FieldType)} (hK1 : va_K D cl tys1 s) {y : MethodName} {bytes : ByteArray} {maxL index n fr lo b ci : Nat} {ret : Option FieldType} {C : String} {r : Int32 ⊕ String} {T : u_T} {N : Nat} {fs : List Value} {w0 w01 : va_W} (wr : va_W) (As rest : List Value) (hC : CtX l y bytes maxL ret fr lo D cl tys1 w0 w01 (.ref b :: As) r) (hk : csV own C index y bytes maxL ret n) (hn : As.length = n) (hR : fr + 1 ≤ R.frames ∧ 8 + (maxL + 11) + lo ≤ R.locals) (hcs : cells + 1 ≤ R.cells ∧ slots + 6 ≤ R.slots) (hws : ws = wr ++ w0) (hD : va_D A0 ws) (hadr : w01.map Prod.fst = w0.map Prod.fst) (q0 : Nat) (he : w0[q0]? = some (b, .inr (ci, fs))) (hcl : cl[ci]? = some (C, T, N)) (hst : st = As.reverse ++ .ref b :: rest) (hW : (rest.map fun v => v.category).sum ≤ 8) (hd : decode cc pc = .ok (.invokevirtual index, 3))
    (kk : ∀ v, r = .inl v → WW p l e R s m args below meth c D cl A0 nL (cells + 1) (slots + 6) Q (wr ++ w01) (pc + 3) lv (.int v :: rest))
    (kx : ∀ E, r = .inr E → XW p l e R s m args below meth c D cl A0 nL (cells + 1) (slots + 6) Q (wr ++ w01) E pc lv rest) : WW p l e R s m args below meth c D cl A0 nL cells slots Q ws pc lv st := by
  subst hws
  intro H locs ls hP hS hl
  obtain ⟨k1, k2, k3, k4, k5, hC5, hd5⟩ := hk
  have cw : CallW R s args own C index y bytes maxL ret (.code y bytes maxL ret :: wALL) (rmc fr lo 1 6) 1 6 n := ⟨callB_of n hts (all_in0 k5) rfl rfl rfl (hts _ (by rw [hC5]; exact k4)) (hts _ k1) hd5 hR, hts _ k2, hts _ k3⟩
  have hp : PreV s H C b (pxW D cl tys1 w0 (.ref b :: As) H.size) As := ⟨pxW_blind, va_recv hK1 hP.last hcl he, (pxW_pre hP.last hK1 hD.last hN hZ hS hA).2⟩
  have hr := vx_runV (e := e) (below := below) (meth := meth) (locs := locs) (cells := cells) (slots := slots) (g := F0 m pc ls st) (rest := rest) ⟨hx, hb, hml, hown, hts⟩ (hC H.size) cw hp rfl hn hl.1 hst (lv_room hW) hd hcs
  have hfree := va_A_in hD.last hS hA
  have hD1 : va_D (va_A w0 H.size) w01 := (hD.last.self (sz := H.size)).adr hadr
  intro T2 hT X
  rcases hr T2 hT X with ⟨v, st₀, t, T', L, h0, X', hL, e1, e2, ⟨⟨⟨w, hw, hv⟩, hP1⟩, hF⟩, stp⟩ | ⟨q, st₀, t, T', L, E, ce, h0, X', hL, e1, e2, ⟨hE, hP1, hF⟩, hce, hcv, hcl1, stp⟩
  · cases hv
    obtain ⟨-, hk, k3⟩ := vx_keep h0 e1 hS (fun q _ h => hfree q h) hfree hL hF
    obtain ⟨hP2, -⟩ := wj (w1 := w01) hP hD hk hfree (by rw [e1]; exact hP1) hD1
    obtain ⟨t2, a1, b1⟩ := kk w hw T'.heap (locs ++ L) ls hP2 k3 hl T' rfl X'
    exact ⟨t2, stp t2 a1, b1⟩
  · obtain ⟨-, hk, k3⟩ := vx_keep h0 e1 hS (fun q _ h => hfree q h) hfree hL hF
    obtain ⟨hP2, -⟩ := wj (w1 := w01) hP hD hk hfree (by rw [e1]; exact hP1) hD1
    obtain ⟨t2, a1, b1⟩ := kx E hE T'.heap (locs ++ L) ls q ce hP2 k3 hl (by rw [e1]; exact hce) hcv hcl1 T' rfl X'
    exact ⟨t2, stp.trans a1, b1⟩
/-- a helper of the law, called with a frame -/
theorem ww_callH (hx : p.tables.exec = Jvm.exec) (hb : c.code = cc) (hml : c.maxLocals = nL) {own : String} (hown : s.vm.findClass own = some m.cls) (hts : ∀ w ∈ wALL, w.before args s = true) (hK : va_K D cl tys s) (hN : NWs s) (hA : ∀ q, s.heap.size ≤ q → A0 q) (hZ : ZZ A0 s) {y : MethodName} {bytes : ByteArray} {maxL index n fr lo : Nat} {hh : List (Nat × Nat × Nat × Nat)} {k : Int32} {w0 w01 : va_W} (wr : va_W) (As rest : List Value) (hC : CtH l y bytes maxL hh fr lo D cl tys w0 w01 As k) (hk : csH own index y bytes maxL hh n) (hn : As.length = n) (hR : fr + 1 ≤ R.frames ∧ 8 + (maxL + 11) + lo ≤ R.locals) (hcs : cells + 1 ≤ R.cells ∧ slots + 6 ≤ R.slots) (hws : ws = wr ++ w0) (hD : va_D A0 ws) (hadr : w01.map Prod.fst = w0.map Prod.fst) (hst : st = As.reverse ++ rest) (hW : (rest.map fun v => v.category).sum ≤ 8) (hd : decode cc pc = .ok (.invokestatic index, 3))
    (kk : WW p l e R s m args below meth c D cl A0 nL (cells + 1) (slots + 6) Q (wr ++ w01) (pc + 3) lv (.int k :: rest)) : WW p l e R s m args below meth c D cl A0 nL cells slots Q ws pc lv st := by
  subst hws
  intro H locs ls hP hS hl
  obtain ⟨k1, k2, k3, k5, hd5⟩ := hk
  have cw : vx_CSW R s args own index y bytes maxL (some .int) hh (.codeWith y bytes maxL (some .int) hh :: wALL) (rmc fr lo 1 6) 1 6 n := ⟨⟨rfl, rfl, hR.1, hR.2, pay_in hts (all_in0 k5), List.mem_cons_self⟩, hts _ k5, hts _ k3, ⟨hd5.1, hd5.2.1⟩, fun sig h => by have h2 := hd5.2.2; rw [h] at h2; exact (Option.some.inj h2).symm, hts _ k1, hts _ k2⟩
  have hr := vx_runSX (e := e) (below := below) (meth := meth) (locs := locs) (cells := cells) (slots := slots) (g := F0 m pc ls st) (rest := rest) ⟨hx, hb, hml, hown, hts⟩ (hC H.size) cw (pxW_pre hP.last hK hD.last hN hZ hS hA) rfl hn hl.1 hst (lv_room hW) hd hcs
  have hfree := va_A_in hD.last hS hA
  have hD1 : va_D (va_A w0 H.size) w01 := (hD.last.self (sz := H.size)).adr hadr
  intro T2 hT X
  rcases hr T2 hT X with ⟨v, st₀, t, T', L, h0, X', hL, e1, e2, ⟨⟨⟨w, hw, hv⟩, hP1⟩, hF⟩, stp⟩ | ⟨q, st₀, t, T', L, E, ce, h0, X', hL, e1, e2, ⟨hE, hP1, hF⟩, hce, hcv, hcl1, stp⟩
  · cases hv
    cases hw
    obtain ⟨-, hk, k3⟩ := vx_keep h0 e1 hS (fun q _ h => hfree q h) hfree hL hF
    obtain ⟨hP2, -⟩ := wj (w1 := w01) hP hD hk hfree (by rw [e1]; exact hP1) hD1
    obtain ⟨t2, a1, b1⟩ := kk T'.heap (locs ++ L) ls hP2 k3 hl T' rfl X'
    exact ⟨t2, stp t2 a1, b1⟩
  · cases hE
theorem ww_sld (hx : p.tables.exec = Jvm.exec) (hb : c.code = cc) {b L : Nat} {xs : Nat → Int32} (hX : va_X b L xs s s.heap) (hbl : b < s.heap.size) (hbA : ¬ A0 b) {i : Int32} (hin : vp_in i L) (hd : decode cc pc = .ok (.iaload, 1)) (kk : WW p l e R s m args below meth c D cl A0 nL cells slots Q ws (pc + 1) lv (.int (xs i.toNatClampNeg) :: st)) : WW p l e R s m args below meth c D cl A0 nL cells slots Q ws pc lv (.int i :: .ref b :: st) :=
  fun H locs ls hP hS hl => va_sld hx hb hX hbl hbA hS hin hd (kk H locs ls hP hS hl)
theorem ww_slen (hx : p.tables.exec = Jvm.exec) (hb : c.code = cc) {b L : Nat} {xs : Nat → Int32} (hX : va_X b L xs s s.heap) (hbl : b < s.heap.size) (hbA : ¬ A0 b) (hd : decode cc pc = .ok (.arraylength, 1)) (kk : WW p l e R s m args below meth c D cl A0 nL cells slots Q ws (pc + 1) lv (.int (Int32.ofNat L) :: st)) : WW p l e R s m args below meth c D cl A0 nL cells slots Q ws pc lv (.ref b :: st) :=
  fun H locs ls hP hS hl => va_slen hx hb hX hbl hbA hS hd (kk H locs ls hP hS hl)
/-- behind a class's method that may throw, or returns -/
theorem ww_callX0 (hx : p.tables.exec = Jvm.exec) (hb : c.code = cc) (hml : c.maxLocals = nL) {own : String} (hown : s.vm.findClass own = some m.cls) (hts : ∀ w ∈ wALL, w.before args s = true) (hK : va_K D cl tys s) (hN : NWs s) (hA : ∀ q, s.heap.size ≤ q → A0 q) (hZ : ZZ A0 s) {y : MethodName} {bytes : ByteArray} {maxL index n fr lo b ci : Nat} {ret : Option FieldType} {C : String} {r : Int32 ⊕ String} {T : u_T} {N : Nat} {fs : List Value} {w0 w01 : va_W} (As rest : List Value) (hC : CtX l y bytes maxL ret fr lo D cl tys w0 w01 (.ref b :: As) r) (hk : csV own C index y bytes maxL ret n) (hn : As.length = n) (hR : fr + 1 ≤ R.frames ∧ 8 + (maxL + 11) + lo ≤ R.locals) (hcs : cells + 1 ≤ R.cells ∧ slots + 6 ≤ R.slots) (hD : va_D A0 w0) (q0 : Nat) (he : w0[q0]? = some (b, .inr (ci, fs))) (hcl : cl[ci]? = some (C, T, N)) (hst : st = As.reverse ++ .ref b :: rest) (hW : (rest.map fun v => v.category).sum ≤ 8) (hd : decode cc pc = .ok (.invokevirtual index, 3))
    (kk : ∀ v, r = .inl v → WW p l e R s m args below meth c D cl A0 nL (cells + 1) (slots + 6) Q w01 (pc + 3) lv (.int v :: rest))
    (kx : ∀ E, r = .inr E → XW p l e R s m args below meth c D cl A0 nL (cells + 1) (slots + 6) Q w01 E pc lv rest) : WW p l e R s m args below meth c D cl A0 nL cells slots Q w0 pc lv st := by
  intro H locs ls hP hS hl
  obtain ⟨k1, k2, k3, k4, k5, hC5, hd5⟩ := hk
  have cw : CallW R s args own C index y bytes maxL ret (.code y bytes maxL ret :: wALL) (rmc fr lo 1 6) 1 6 n := ⟨callB_of n hts (all_in0 k5) rfl rfl rfl (hts _ (by rw [hC5]; exact k4)) (hts _ k1) hd5 hR, hts _ k2, hts _ k3⟩
  have hp : PreV s H C b (pxW D cl tys w0 (.ref b :: As) H.size) As := ⟨pxW_blind, va_recv hK hP hcl he, (pxW_pre hP hK hD hN hZ hS hA).2⟩
  have hr := vx_runV (e := e) (below := below) (meth := meth) (locs := locs) (cells := cells) (slots := slots) (g := F0 m pc ls st) (rest := rest) ⟨hx, hb, hml, hown, hts⟩ (hC H.size) cw hp rfl hn hl.1 hst (lv_room hW) hd hcs
  have hfree := va_A_in hD hS hA
  intro T2 hT X
  rcases hr T2 hT X with ⟨v, st₀, t, T', L, h0, X', hL, e1, e2, ⟨⟨⟨w, hw, hv⟩, hP1⟩, hF⟩, stp⟩ | ⟨q, st₀, t, T', L, E, ce, h0, X', hL, e1, e2, ⟨hE, hP1, hF⟩, hce, hcv, hcl1, stp⟩
  · cases hv
    obtain ⟨-, -, k3⟩ := vx_keep h0 e1 hS (fun q _ h => hfree q h) hfree hL hF
    obtain ⟨t2, a1, b1⟩ := kk w hw T'.heap (locs ++ L) ls (by rw [e1]; exact hP1) k3 hl T' rfl X'
    exact ⟨t2, stp t2 a1, b1⟩
  · obtain ⟨-, -, k3⟩ := vx_keep h0 e1 hS (fun q _ h => hfree q h) hfree hL hF
    obtain ⟨t2, a1, b1⟩ := kx E hE T'.heap (locs ++ L) ls q ce (by rw [e1]; exact hP1) k3 hl (by rw [e1]; exact hce) hcv hcl1 T' rfl X'
    exact ⟨t2, stp.trans a1, b1⟩
/-- behind a class's method that may throw, where it returns v -/
theorem ww_callXI (hx : p.tables.exec = Jvm.exec) (hb : c.code = cc) (hml : c.maxLocals = nL) {own : String} (hown : s.vm.findClass own = some m.cls) (hts : ∀ w ∈ wALL, w.before args s = true) (hK : va_K D cl tys s) (hN : NWs s) (hA : ∀ q, s.heap.size ≤ q → A0 q) (hZ : ZZ A0 s) {y : MethodName} {bytes : ByteArray} {maxL index n fr lo b ci : Nat} {ret : Option FieldType} {C : String} {v : Int32} {T : u_T} {N : Nat} {fs : List Value} {w0 w01 : va_W} (As rest : List Value) (hC : CtX l y bytes maxL ret fr lo D cl tys w0 w01 (.ref b :: As) (.inl v)) (hk : csV own C index y bytes maxL ret n) (hn : As.length = n) (hR : fr + 1 ≤ R.frames ∧ 8 + (maxL + 11) + lo ≤ R.locals) (hcs : cells + 1 ≤ R.cells ∧ slots + 6 ≤ R.slots) (hD : va_D A0 w0) (q0 : Nat) (he : w0[q0]? = some (b, .inr (ci, fs))) (hcl : cl[ci]? = some (C, T, N)) (hst : st = As.reverse ++ .ref b :: rest) (hW : (rest.map fun v => v.category).sum ≤ 8) (hd : decode cc pc = .ok (.invokevirtual index, 3)) {st1 : List Value} (hr1 : .int v :: rest = st1)
    (kk : WW p l e R s m args below meth c D cl A0 nL (cells + 1) (slots + 6) Q w01 (pc + 3) lv st1) : WW p l e R s m args below meth c D cl A0 nL cells slots Q w0 pc lv st :=
  ww_callX0 hx hb hml hown hts hK hN hA hZ As rest hC hk hn hR hcs hD q0 he hcl hst hW hd (fun w hw => by cases hw; exact hr1 ▸ kk) (fun E hE => by cases hE)
/-- behind a static method of the law that catches -/
theorem ww_callH0 (hx : p.tables.exec = Jvm.exec) (hb : c.code = cc) (hml : c.maxLocals = nL) {own : String} (hown : s.vm.findClass own = some m.cls) (hts : ∀ w ∈ wALL, w.before args s = true) (hK : va_K D cl tys s) (hN : NWs s) (hA : ∀ q, s.heap.size ≤ q → A0 q) (hZ : ZZ A0 s) {y : MethodName} {bytes : ByteArray} {maxL index n fr lo : Nat} {hh : List (Nat × Nat × Nat × Nat)} {k : Int32} {w0 w01 : va_W} (As rest : List Value) (hC : CtH l y bytes maxL hh fr lo D cl tys w0 w01 As k) (hk : csH own index y bytes maxL hh n) (hn : As.length = n) (hR : fr + 1 ≤ R.frames ∧ 8 + (maxL + 11) + lo ≤ R.locals) (hcs : cells + 1 ≤ R.cells ∧ slots + 6 ≤ R.slots) (hD : va_D A0 w0) (hst : st = As.reverse ++ rest) (hW : (rest.map fun v => v.category).sum ≤ 8) (hd : decode cc pc = .ok (.invokestatic index, 3)) {st1 : List Value} (hr1 : .int k :: rest = st1)
    (kk : WW p l e R s m args below meth c D cl A0 nL (cells + 1) (slots + 6) Q w01 (pc + 3) lv st1) : WW p l e R s m args below meth c D cl A0 nL cells slots Q w0 pc lv st := by
  subst hr1
  intro H locs ls hP hS hl
  obtain ⟨k1, k2, k3, k5, hd5⟩ := hk
  have cw : vx_CSW R s args own index y bytes maxL (some .int) hh (.codeWith y bytes maxL (some .int) hh :: wALL) (rmc fr lo 1 6) 1 6 n := ⟨⟨rfl, rfl, hR.1, hR.2, pay_in hts (all_in0 k5), List.mem_cons_self⟩, hts _ k5, hts _ k3, ⟨hd5.1, hd5.2.1⟩, fun sig h => by have h2 := hd5.2.2; rw [h] at h2; exact (Option.some.inj h2).symm, hts _ k1, hts _ k2⟩
  have hr := vx_runSX (e := e) (below := below) (meth := meth) (locs := locs) (cells := cells) (slots := slots) (g := F0 m pc ls st) (rest := rest) ⟨hx, hb, hml, hown, hts⟩ (hC H.size) cw (pxW_pre hP hK hD hN hZ hS hA) rfl hn hl.1 hst (lv_room hW) hd hcs
  have hfree := va_A_in hD hS hA
  intro T2 hT X
  rcases hr T2 hT X with ⟨v, st₀, t, T', L, h0, X', hL, e1, e2, ⟨⟨⟨w, hw, hv⟩, hP1⟩, hF⟩, stp⟩ | ⟨q, st₀, t, T', L, E, ce, h0, X', hL, e1, e2, ⟨hE, hP1, hF⟩, hce, hcv, hcl1, stp⟩
  · cases hv
    cases hw
    obtain ⟨-, -, k3⟩ := vx_keep h0 e1 hS (fun q _ h => hfree q h) hfree hL hF
    obtain ⟨t2, a1, b1⟩ := kk T'.heap (locs ++ L) ls (by rw [e1]; exact hP1) k3 hl T' rfl X'
    exact ⟨t2, stp t2 a1, b1⟩
  · cases hE
/-- the law's method y, in a world ws with the arguments As: it returns k, the world is ws1, at most mc new cells of ms slots -/
def CtK (l : Launch) (y : MethodName) (cc : ByteArray) (maxL : Nat) (ret : Option FieldType) (fr lo mc ms : Nat) (D : va_G) (cl : List vw_C) (tys : List (ClassId × FieldType)) (ws ws1 : va_W) (As : List Value) (k : Int32) : Prop :=
  ∀ sz : Nat, vx_Met l y (.code y cc maxL ret :: wALL) (rmc fr lo mc ms) (pxW D cl tys ws As sz) (qxW D cl ws ws1 (.inl k) sz) (xcW D cl ws ws1 (.inl k) sz) mc ms (va_A ws sz)
end HRS
theorem ctk_of {l : Launch} {y : MethodName} {cc : ByteArray} {maxL : Nat} {ret : Option FieldType} {fr lo mc ms : Nat} {D : va_G} {cl : List vw_C} {tys : List (ClassId × FieldType)} {ws ws1 : va_W} {As : List Value} {k : Int32} (hy : plainName y.cls = true) (hlen : (lg_sl As).length ≤ maxL)
    (body : ∀ (p : Program) (e : Env) (s : State) (m : MethodId) (args : Array Value) (below : List Frame) (meth : Method) (c : Code), p.tables.exec = Jvm.exec → c.code = cc → meth.sig.returnType = ret → meth.locks = false → c.maxLocals = maxL → s.vm.findClass y.cls = some m.cls → (∀ w ∈ wALL, w.before args s = true) → va_K D cl tys s → va_D (va_A ws s.heap.size) ws → NWs s → (∀ q, s.heap.size ≤ q → va_A ws s.heap.size q) → ZZ (va_A ws s.heap.size) s →
      WW p l e (rmc fr lo mc ms) s m args below meth c D cl (va_A ws s.heap.size) maxL 0 0 (vx_MQ below (qxW D cl ws ws1 (.inl k) s.heap.size) (xcW D cl ws ws1 (.inl k) s.heap.size) args s mc ms (va_A ws s.heap.size)) ws 0 (lv_args 0 As) []) : CtK l y cc maxL ret fr lo mc ms D cl tys ws ws1 As k := by
  intro sz
  refine vx_ofW (cc := cc) (maxL := maxL) (ret := ret) hy rfl ?_
  intro p e s m args below meth c s₁ B hml hno hv
  obtain ⟨rfl, hsz, hP, hK, hD0, hN, hZ⟩ := hv
  have hts := atoms_spec (ws := .code y cc maxL ret :: wALL) B.pre
  subst hsz
  have hl := lv_entry As (n := maxL) hlen
  rw [lg_entry_eq]
  exact body p e s m As.toArray below meth c B.exec B.bytes B.returns B.notSynchronized hml (findClass_of_methodNamed B.named) (fun w hw => hts w (List.mem_cons_of_mem _ hw)) hK hD0.self hN (fun q h => Or.inr h) hZ s.heap [] _ hP va_S.rf hl
section KRS
variable {p : Program} {l : Launch} {e : Env} {R : Room} {s : State} {m : MethodId} {args : Array Value} {below : List Frame} {meth : Method} {c : Code} {cells slots : Nat} {Q : State → Prop}
variable {D : va_G} {cl : List vw_C} {tys : List (ClassId × FieldType)} {A0 : Nat → Prop} {nL : Nat} {ws ws1 : va_W} {cc : ByteArray} {pc : Nat} {lv lv1 : List (Nat × Value)} {st : List Value}
/-- behind a static method of the law -/
theorem ww_callK (hx : p.tables.exec = Jvm.exec) (hb : c.code = cc) (hml : c.maxLocals = nL) {own : String} (hown : s.vm.findClass own = some m.cls) (hts : ∀ w ∈ wALL, w.before args s = true) (hK : va_K D cl tys s) (hN : NWs s) (hA : ∀ q, s.heap.size ≤ q → A0 q) (hZ : ZZ A0 s) {y : MethodName} {bytes : ByteArray} {maxL index n fr lo mc ms : Nat} {ret : Option FieldType} {k : Int32} {w0 w01 : va_W} (As rest : List Value) (hC : CtK l y bytes maxL ret fr lo mc ms D cl tys w0 w01 As k) (hk : csS own index y bytes maxL ret n) (hn : As.length = n) (hR : fr + 1 ≤ R.frames ∧ 8 + (maxL + 11) + lo ≤ R.locals) (hcs : cells + mc ≤ R.cells ∧ slots + ms ≤ R.slots) (hD : va_D A0 w0) (hst : st = As.reverse ++ rest) (hW : (rest.map fun v => v.category).sum ≤ 8) (hd : decode cc pc = .ok (.invokestatic index, 3)) {st1 : List Value} (hr1 : .int k :: rest = st1)
    (kk : WW p l e R s m args below meth c D cl A0 nL (cells + mc) (slots + ms) Q w01 (pc + 3) lv st1) : WW p l e R s m args below meth c D cl A0 nL cells slots Q w0 pc lv st := by
  subst hr1
  intro H locs ls hP hS hl
  obtain ⟨k1, k2, k3, k5, hd5⟩ := hk
  have cw : CallB R s args own index y bytes maxL ret (.code y bytes maxL ret :: wALL) (rmc fr lo mc ms) mc ms n ∧ (Cond.static y).before args s = true := ⟨callB_of n hts (all_in0 k5) rfl rfl rfl (hts _ k3) (hts _ k1) hd5 hR, hts _ k2⟩
  have hr := vx_runS (e := e) (below := below) (meth := meth) (locs := locs) (cells := cells) (slots := slots) (g := F0 m pc ls st) (rest := rest) ⟨hx, hb, hml, hown, hts⟩ (hC H.size) cw (pxW_pre hP hK hD hN hZ hS hA) rfl hn hl.1 hst (lv_room hW) hd hcs
  have hfree := va_A_in hD hS hA
  intro T2 hT X
  rcases hr T2 hT X with ⟨v, st₀, t, T', L, h0, X', hL, e1, e2, ⟨⟨⟨w, hw, hv⟩, hP1⟩, hF⟩, stp⟩ | ⟨q, st₀, t, T', L, E, ce, h0, X', hL, e1, e2, ⟨hE, hP1, hF⟩, hce, hcv, hcl1, stp⟩
  · cases hv
    cases hw
    obtain ⟨-, -, k3⟩ := vx_keep h0 e1 hS (fun q _ h => hfree q h) hfree hL hF
    obtain ⟨t2, a1, b1⟩ := kk T'.heap (locs ++ L) ls (by rw [e1]; exact hP1) k3 hl T' rfl X'
    exact ⟨t2, stp t2 a1, b1⟩
  · cases hE
theorem ww_kiret (hx : p.tables.exec = Jvm.exec) (hb : c.code = cc) {ws0 : va_W} {v : Int32} {r : Int32 ⊕ String} {mc ms : Nat} (h1 : cells ≤ mc) (h2 : slots ≤ ms) (hr : meth.sig.returnType = some .int) (hlk : meth.locks = false) (hv : Sum.inl v = r) (hd : decode cc pc = .ok (.ireturn, 1)) : WW p l e R s m args below meth c D cl (va_A ws0 s.heap.size) nL cells slots (vx_MQ below (qxW D cl ws0 ws r s.heap.size) (xcW D cl ws0 ws r s.heap.size) args s mc ms (va_A ws0 s.heap.size)) ws pc lv [.int v] :=
  fun _ _ _ hP hS _ => W.widen (k := mc) (n := ms) h1 h2 (vx_ret (W.iret hx hb hr (fun t ht _ => ⟨⟨⟨v, hv.symm, rfl⟩, by rw [ht]; exact hP⟩, hS.F ht⟩) hS.2.2 hd hlk))
theorem ww_kzret (hx : p.tables.exec = Jvm.exec) (hb : c.code = cc) {ws0 : va_W} {v : Int32} {r : Int32 ⊕ String} {mc ms : Nat} (h1 : cells ≤ mc) (h2 : slots ≤ ms) (hr : meth.sig.returnType = some .boolean) (hlk : meth.locks = false) (hz : v &&& 1 = v) (hv : Sum.inl v = r) (hd : decode cc pc = .ok (.ireturn, 1)) : WW p l e R s m args below meth c D cl (va_A ws0 s.heap.size) nL cells slots (vx_MQ below (qxW D cl ws0 ws r s.heap.size) (xcW D cl ws0 ws r s.heap.size) args s mc ms (va_A ws0 s.heap.size)) ws pc lv [.int v] :=
  fun _ _ _ hP hS _ => W.widen (k := mc) (n := ms) h1 h2 (vx_ret (W.zret hx hb hr (isZ_narrow hz) (fun t ht _ => ⟨⟨⟨v, hv.symm, rfl⟩, by rw [ht]; exact hP⟩, hS.F ht⟩) hS.2.2 hd hlk))
theorem ww_perm (is : List Nat) (h : is.filterMap (fun i => ws[i]?) = ws1) (kk : WW p l e R s m args below meth c D cl A0 nL cells slots Q ws1 pc lv st) : WW p l e R s m args below meth c D cl A0 nL cells slots Q ws pc lv st := fun H locs ls hP hS hl => kk H locs ls (hP.sub is h) hS hl
end KRS
theorem d_nil {A : Nat → Prop} : va_D A [] := ⟨fun i j p q h => by simp at h, fun k q h => by simp at h⟩
theorem kw_285 : Cond.methodLink RL 60 yX4_got ∈ wALL := tk3 (i := 83) rfl rfl
theorem kw_286 : Cond.instanceMethod yX4_got ∈ wALL := tk3 (i := 84) rfl rfl
theorem kw_287 : Cond.selects RX4 yX4_got yX4_got ∈ wALL := tk3 (i := 85) rfl rfl
theorem kw_288 : Cond.code yX4_got cX4_got 2 (some .int) ∈ wALL := tk3 (i := 86) rfl rfl
theorem kw_289 : Cond.methodLink RL 57 yX4_openOf ∈ wALL := tk3 (i := 79) rfl rfl
theorem kw_290 : Cond.instanceMethod yX4_openOf ∈ wALL := tk3 (i := 80) rfl rfl
theorem kw_291 : Cond.selects RX4 yX4_openOf yX4_openOf ∈ wALL := tk3 (i := 81) rfl rfl
theorem kw_292 : Cond.code yX4_openOf cX4_openOf 2 (some .int) ∈ wALL := tk3 (i := 82) rfl rfl
theorem kw_293 : Cond.methodLink RL 54 yX4_left ∈ wALL := tk3 (i := 75) rfl rfl
theorem kw_294 : Cond.instanceMethod yX4_left ∈ wALL := tk3 (i := 76) rfl rfl
theorem kw_295 : Cond.selects RX4 yX4_left yX4_left ∈ wALL := tk3 (i := 77) rfl rfl
theorem kw_296 : Cond.code yX4_left cX4_left 2 (some .int) ∈ wALL := tk3 (i := 78) rfl rfl
theorem kw_297 : Cond.methodLink RL 51 yX4_begins ∈ wALL := tk2 (i := 225) rfl rfl
theorem kw_298 : Cond.instanceMethod yX4_begins ∈ wALL := tk2 (i := 226) rfl rfl
theorem kw_299 : Cond.selects RX4 yX4_begins yX4_begins ∈ wALL := tk2 (i := 227) rfl rfl
theorem kw_300 : Cond.code yX4_begins cX4_begins 2 (some .int) ∈ wALL := tk2 (i := 228) rfl rfl
theorem kw_301 : Cond.methodLink RL 48 yX4_planned ∈ wALL := tk3 (i := 71) rfl rfl
theorem kw_302 : Cond.instanceMethod yX4_planned ∈ wALL := tk3 (i := 72) rfl rfl
theorem kw_303 : Cond.selects RX4 yX4_planned yX4_planned ∈ wALL := tk3 (i := 73) rfl rfl
theorem kw_304 : Cond.code yX4_planned cX4_planned 2 (some .int) ∈ wALL := tk3 (i := 74) rfl rfl
theorem kw_305 : Cond.methodLink RL 44 yX4_daysByAll ∈ wALL := tk2 (i := 210) rfl rfl
theorem kw_306 : Cond.instanceMethod yX4_daysByAll ∈ wALL := tk2 (i := 211) rfl rfl
theorem kw_307 : Cond.selects RX4 yX4_daysByAll yX4_daysByAll ∈ wALL := tk2 (i := 212) rfl rfl
theorem kw_308 : Cond.code yX4_daysByAll cX4_daysByAll 1 (some .int) ∈ wALL := tk2 (i := 213) rfl rfl
theorem kw_309 : Cond.methodLink RL 41 yX4_income ∈ wALL := tk3 (i := 51) rfl rfl
theorem kw_310 : Cond.instanceMethod yX4_income ∈ wALL := tk3 (i := 52) rfl rfl
theorem kw_311 : Cond.selects RX4 yX4_income yX4_income ∈ wALL := tk3 (i := 53) rfl rfl
theorem kw_312 : Cond.code yX4_income cX4_income 3 (some .int) ∈ wALL := tk3 (i := 54) rfl rfl
theorem kw_313 : Cond.methodLink RL 37 yX4_part ∈ wALL := tk3 (i := 38) rfl rfl
theorem kw_314 : Cond.instanceMethod yX4_part ∈ wALL := tk3 (i := 39) rfl rfl
theorem kw_315 : Cond.selects RX4 yX4_part yX4_part ∈ wALL := tk3 (i := 40) rfl rfl
theorem kw_316 : Cond.code yX4_part cX4_part 4 (some .int) ∈ wALL := tk3 (i := 41) rfl rfl
theorem kw_317 : Cond.methodLink RL 34 yX4_loan ∈ wALL := tk3 (i := 29) rfl rfl
theorem kw_318 : Cond.instanceMethod yX4_loan ∈ wALL := tk3 (i := 30) rfl rfl
theorem kw_319 : Cond.selects RX4 yX4_loan yX4_loan ∈ wALL := tk3 (i := 31) rfl rfl
theorem kw_320 : Cond.code yX4_loan cX4_loan 3 (some .int) ∈ wALL := tk3 (i := 32) rfl rfl
theorem kw_321 : Cond.methodLink RL 31 yX4_bill ∈ wALL := tk3 (i := 25) rfl rfl
theorem kw_322 : Cond.instanceMethod yX4_bill ∈ wALL := tk3 (i := 26) rfl rfl
theorem kw_323 : Cond.selects RX4 yX4_bill yX4_bill ∈ wALL := tk3 (i := 27) rfl rfl
theorem kw_324 : Cond.code yX4_bill cX4_bill 3 (some .int) ∈ wALL := tk3 (i := 28) rfl rfl
theorem kw_325 : Cond.methodLink RL 27 yX4_grant ∈ wALL := tk2 (i := 193) rfl rfl
theorem kw_326 : Cond.instanceMethod yX4_grant ∈ wALL := tk2 (i := 194) rfl rfl
theorem kw_327 : Cond.selects RX4 yX4_grant yX4_grant ∈ wALL := tk2 (i := 195) rfl rfl
theorem kw_328 : Cond.code yX4_grant cX4_grant 2 (some .int) ∈ wALL := tk2 (i := 196) rfl rfl
theorem kw_329 : Cond.methodLink RL 24 yX4_approve ∈ wALL := tk3 (i := 20) rfl rfl
theorem kw_330 : Cond.instanceMethod yX4_approve ∈ wALL := tk3 (i := 21) rfl rfl
theorem kw_331 : Cond.selects RX4 yX4_approve yX4_approve ∈ wALL := tk3 (i := 22) rfl rfl
theorem kw_332 : Cond.code yX4_approve cX4_approve 3 (some .int) ∈ wALL := tk3 (i := 23) rfl rfl
theorem kw_333 : Cond.methodLink RL 16 yX4_setRates ∈ wALL := tk2 (i := 50) rfl rfl
theorem kw_334 : Cond.instanceMethod yX4_setRates ∈ wALL := tk2 (i := 51) rfl rfl
theorem kw_335 : Cond.selects RX4 yX4_setRates yX4_setRates ∈ wALL := tk2 (i := 52) rfl rfl
theorem kw_336 : Cond.code yX4_setRates cX4_setRates 4 (some .int) ∈ wALL := tk2 (i := 53) rfl rfl
theorem kw_337 : Cond.methodLink RL 20 yX4_shoot ∈ wALL := tk2 (i := 54) rfl rfl
theorem kw_338 : Cond.instanceMethod yX4_shoot ∈ wALL := tk2 (i := 55) rfl rfl
theorem kw_339 : Cond.selects RX4 yX4_shoot yX4_shoot ∈ wALL := tk2 (i := 56) rfl rfl
theorem kw_340 : Cond.code yX4_shoot cX4_shoot 6 (some .int) ∈ wALL := tk2 (i := 57) rfl rfl
theorem kw_341 : Cond.methodLink RL 13 yX4_setChild ∈ wALL := tk3 (i := 16) rfl rfl
theorem kw_342 : Cond.instanceMethod yX4_setChild ∈ wALL := tk3 (i := 17) rfl rfl
theorem kw_343 : Cond.selects RX4 yX4_setChild yX4_setChild ∈ wALL := tk3 (i := 18) rfl rfl
theorem kw_344 : Cond.code yX4_setChild cX4_setChild 4 (some .boolean) ∈ wALL := tk3 (i := 19) rfl rfl
theorem kw_345 : Cond.methodLink RL 7 yX4_setOut ∈ wALL := tk3 (i := 10) rfl rfl
theorem kw_346 : Cond.instanceMethod yX4_setOut ∈ wALL := tk3 (i := 11) rfl rfl
theorem kw_347 : Cond.selects RX4 yX4_setOut yX4_setOut ∈ wALL := tk3 (i := 12) rfl rfl
theorem kw_348 : Cond.code yX4_setOut cX4_setOut 4 (some .boolean) ∈ wALL := tk3 (i := 13) rfl rfl
theorem kw_349 : Cond.classLink RL 63 "java/lang/IndexOutOfBoundsException" ∈ wALL := tk3 (i := 7) rfl rfl
theorem kw_350 : Cond.classLink RL 65 "java/lang/IllegalArgumentException" ∈ wALL := tk3 (i := 8) rfl rfl
theorem kw_351 : Cond.classLink RL 67 "java/lang/IllegalStateException" ∈ wALL := tk3 (i := 9) rfl rfl
theorem kw_352 : Cond.methodLink RL 69 yX4_addScene ∈ wALL := tk1 (i := 190) rfl rfl
theorem kw_353 : Cond.instanceMethod yX4_addScene ∈ wALL := tk1 (i := 191) rfl rfl
theorem kw_354 : Cond.selects RX4 yX4_addScene yX4_addScene ∈ wALL := tk1 (i := 192) rfl rfl
theorem kw_355 : Cond.code yX4_addScene cX4_addScene 6 (some .int) ∈ wALL := tk1 (i := 193) rfl rfl
theorem kw_356 : Cond.methodLink RL 73 yX4_days ∈ wALL := tk2 (i := 206) rfl rfl
theorem kw_357 : Cond.instanceMethod yX4_days ∈ wALL := tk2 (i := 207) rfl rfl
theorem kw_358 : Cond.selects RX4 yX4_days yX4_days ∈ wALL := tk2 (i := 208) rfl rfl
theorem kw_359 : Cond.code yX4_days cX4_days 1 (some .int) ∈ wALL := tk2 (i := 209) rfl rfl
theorem kw_360 : Cond.methodLink RL 76 yX4_fee ∈ wALL := tk3 (i := 90) rfl rfl
theorem kw_361 : Cond.instanceMethod yX4_fee ∈ wALL := tk3 (i := 91) rfl rfl
theorem kw_362 : Cond.selects RX4 yX4_fee yX4_fee ∈ wALL := tk3 (i := 92) rfl rfl
theorem kw_363 : Cond.code yX4_fee cX4_fee 1 (some .int) ∈ wALL := tk3 (i := 93) rfl rfl
theorem kw_364 : Cond.methodLink RL 79 yX4_costs ∈ wALL := tk3 (i := 94) rfl rfl
theorem kw_365 : Cond.instanceMethod yX4_costs ∈ wALL := tk3 (i := 95) rfl rfl
theorem kw_366 : Cond.selects RX4 yX4_costs yX4_costs ∈ wALL := tk3 (i := 96) rfl rfl
theorem kw_367 : Cond.code yX4_costs cX4_costs 1 (some .int) ∈ wALL := tk3 (i := 97) rfl rfl
theorem kw_368 : Cond.methodLink RL 82 yX4_house ∈ wALL := tk3 (i := 98) rfl rfl
theorem kw_369 : Cond.instanceMethod yX4_house ∈ wALL := tk3 (i := 99) rfl rfl
theorem kw_370 : Cond.selects RX4 yX4_house yX4_house ∈ wALL := tk3 (i := 100) rfl rfl
theorem kw_371 : Cond.code yX4_house cX4_house 1 (some .int) ∈ wALL := tk3 (i := 101) rfl rfl
theorem kw_372 : Cond.constant RL 85 (2147483647) ∈ wALL := tk3 (i := 102) rfl rfl
theorem kw_373 : Cond.constant RL 86 (100001) ∈ wALL := tk3 (i := 103) rfl rfl
theorem kw_374 : Cond.codeWith yL_act cL_act 6 (some .int) [(0, 259, 260, 63), (0, 259, 265, 65), (0, 259, 270, 67)] ∈ wALL := tk3 (i := 6) rfl rfl
theorem kw_375 : Cond.methodLink RL 87 yL_act ∈ wALL := tk3 (i := 4) rfl rfl
theorem kw_376 : Cond.static yL_act ∈ wALL := tk3 (i := 5) rfl rfl
theorem kw_377 : Cond.initialized RL ∈ wALL := tk1 (i := 0) rfl rfl
theorem kw_378 : Cond.codeWith yL_scene cL_scene 7 (some .int) [(0, 11, 12, 65), (0, 11, 17, 67)] ∈ wALL := tk3 (i := 107) rfl rfl
theorem kw_379 : Cond.methodLink RL 94 yL_scene ∈ wALL := tk3 (i := 105) rfl rfl
theorem kw_380 : Cond.static yL_scene ∈ wALL := tk3 (i := 106) rfl rfl
theorem kw_381 : Cond.constant RL 93 (1000001) ∈ wALL := tk3 (i := 104) rfl rfl
theorem kw_382 : Cond.methodLink RL 98 yX4_init ∈ wALL := tk1 (i := 16) rfl rfl
theorem kw_383 : Cond.instanceMethod yX4_init ∈ wALL := tk1 (i := 17) rfl rfl
theorem kw_384 : Cond.code yX4_init cX4_init 1 none ∈ wALL := tk1 (i := 18) rfl rfl
theorem kw_385 : Cond.classLink RL 8 RX4 ∈ wALL := tk1 (i := 14) rfl rfl
theorem kw_386 : Cond.methodLink RL 99 yX4_today ∈ wALL := tk2 (i := 198) rfl rfl
theorem kw_387 : Cond.instanceMethod yX4_today ∈ wALL := tk2 (i := 199) rfl rfl
theorem kw_388 : Cond.selects RX4 yX4_today yX4_today ∈ wALL := tk2 (i := 200) rfl rfl
theorem kw_389 : Cond.code yX4_today cX4_today 1 (some .int) ∈ wALL := tk2 (i := 201) rfl rfl
theorem kw_390 : Cond.methodLink RL 102 yX4_shot ∈ wALL := tk2 (i := 202) rfl rfl
theorem kw_391 : Cond.instanceMethod yX4_shot ∈ wALL := tk2 (i := 203) rfl rfl
theorem kw_392 : Cond.selects RX4 yX4_shot yX4_shot ∈ wALL := tk2 (i := 204) rfl rfl
theorem kw_393 : Cond.code yX4_shot cX4_shot 1 (some .int) ∈ wALL := tk2 (i := 205) rfl rfl
theorem kw_394 : Cond.methodLink RL 105 yL_plan ∈ wALL := tk3 (i := 111) rfl rfl
theorem kw_395 : Cond.static yL_plan ∈ wALL := tk3 (i := 112) rfl rfl
theorem kw_396 : Cond.code yL_plan cL_plan 5 (some .boolean) ∈ wALL := tk3 (i := 113) rfl rfl
theorem kw_397 : Cond.methodLink RL 109 yL_refuses ∈ wALL := tk3 (i := 87) rfl rfl
theorem kw_398 : Cond.static yL_refuses ∈ wALL := tk3 (i := 88) rfl rfl
theorem kw_399 : Cond.code yL_refuses cL_refuses 17 (some .boolean) ∈ wALL := tk3 (i := 89) rfl rfl
theorem kw_400 : Cond.methodLink RL 112 yX4_open ∈ wALL := tk3 (i := 114) rfl rfl
theorem kw_401 : Cond.instanceMethod yX4_open ∈ wALL := tk3 (i := 115) rfl rfl
theorem kw_402 : Cond.selects RX4 yX4_open yX4_open ∈ wALL := tk3 (i := 116) rfl rfl
theorem kw_403 : Cond.code yX4_open cX4_open 1 (some .int) ∈ wALL := tk3 (i := 117) rfl rfl
theorem kw_404 : Cond.methodLink RL 115 yX4_hold ∈ wALL := tk3 (i := 118) rfl rfl
theorem kw_405 : Cond.instanceMethod yX4_hold ∈ wALL := tk3 (i := 119) rfl rfl
theorem kw_406 : Cond.selects RX4 yX4_hold yX4_hold ∈ wALL := tk3 (i := 120) rfl rfl
theorem kw_407 : Cond.code yX4_hold cX4_hold 3 (some .boolean) ∈ wALL := tk3 (i := 121) rfl rfl
theorem kw_408 : Cond.constant RL 119 (100000) ∈ wALL := tk3 (i := 125) rfl rfl
theorem kw_409 : Cond.constant RL 120 (1000000) ∈ wALL := tk3 (i := 126) rfl rfl
theorem kw_410 : Cond.constant RL 121 (1100000) ∈ wALL := tk3 (i := 127) rfl rfl
theorem kw_411 : Cond.constant RL 122 (200000) ∈ wALL := tk3 (i := 128) rfl rfl
theorem kw_412 : Cond.methodLink RL 123 yL_house ∈ wALL := tk3 (i := 108) rfl rfl
theorem kw_413 : Cond.static yL_house ∈ wALL := tk3 (i := 109) rfl rfl
theorem kw_414 : Cond.code yL_house cL_house 1 (some .boolean) ∈ wALL := tk3 (i := 110) rfl rfl
theorem kw_415 : Cond.methodLink RL 126 yL_plans ∈ wALL := tk3 (i := 122) rfl rfl
theorem kw_416 : Cond.static yL_plans ∈ wALL := tk3 (i := 123) rfl rfl
theorem kw_417 : Cond.code yL_plans cL_plans 6 (some .boolean) ∈ wALL := tk3 (i := 124) rfl rfl
theorem kw_418 : Cond.instantiable RX4 7 ∈ wALL := tk1 (i := 15) rfl rfl
theorem cs_L_60 : csV RL RX4 60 yX4_got cX4_got 2 (some .int) 1 := ⟨kw_285, kw_286, kw_287, kw_4, kw_288, by decide +kernel⟩
theorem cs_L_57 : csV RL RX4 57 yX4_openOf cX4_openOf 2 (some .int) 1 := ⟨kw_289, kw_290, kw_291, kw_4, kw_292, by decide +kernel⟩
theorem cs_L_54 : csV RL RX4 54 yX4_left cX4_left 2 (some .int) 1 := ⟨kw_293, kw_294, kw_295, kw_4, kw_296, by decide +kernel⟩
theorem cs_L_51 : csV RL RX4 51 yX4_begins cX4_begins 2 (some .int) 1 := ⟨kw_297, kw_298, kw_299, kw_4, kw_300, by decide +kernel⟩
theorem cs_L_48 : csV RL RX4 48 yX4_planned cX4_planned 2 (some .int) 1 := ⟨kw_301, kw_302, kw_303, kw_4, kw_304, by decide +kernel⟩
theorem cs_L_44 : csV RL RX4 44 yX4_daysByAll cX4_daysByAll 1 (some .int) 0 := ⟨kw_305, kw_306, kw_307, kw_4, kw_308, by decide +kernel⟩
theorem cs_L_41 : csV RL RX4 41 yX4_income cX4_income 3 (some .int) 1 := ⟨kw_309, kw_310, kw_311, kw_4, kw_312, by decide +kernel⟩
theorem cs_L_37 : csV RL RX4 37 yX4_part cX4_part 4 (some .int) 3 := ⟨kw_313, kw_314, kw_315, kw_4, kw_316, by decide +kernel⟩
theorem cs_L_34 : csV RL RX4 34 yX4_loan cX4_loan 3 (some .int) 2 := ⟨kw_317, kw_318, kw_319, kw_4, kw_320, by decide +kernel⟩
theorem cs_L_31 : csV RL RX4 31 yX4_bill cX4_bill 3 (some .int) 2 := ⟨kw_321, kw_322, kw_323, kw_4, kw_324, by decide +kernel⟩
theorem cs_L_27 : csV RL RX4 27 yX4_grant cX4_grant 2 (some .int) 1 := ⟨kw_325, kw_326, kw_327, kw_4, kw_328, by decide +kernel⟩
theorem cs_L_24 : csV RL RX4 24 yX4_approve cX4_approve 3 (some .int) 2 := ⟨kw_329, kw_330, kw_331, kw_4, kw_332, by decide +kernel⟩
theorem cs_L_16 : csV RL RX4 16 yX4_setRates cX4_setRates 4 (some .int) 2 := ⟨kw_333, kw_334, kw_335, kw_4, kw_336, by decide +kernel⟩
theorem cs_L_20 : csV RL RX4 20 yX4_shoot cX4_shoot 6 (some .int) 1 := ⟨kw_337, kw_338, kw_339, kw_4, kw_340, by decide +kernel⟩
theorem cs_L_13 : csV RL RX4 13 yX4_setChild cX4_setChild 4 (some .boolean) 2 := ⟨kw_341, kw_342, kw_343, kw_4, kw_344, by decide +kernel⟩
theorem cs_L_7 : csV RL RX4 7 yX4_setOut cX4_setOut 4 (some .boolean) 2 := ⟨kw_345, kw_346, kw_347, kw_4, kw_348, by decide +kernel⟩
theorem cs_L_69 : csV RL RX4 69 yX4_addScene cX4_addScene 6 (some .int) 5 := ⟨kw_352, kw_353, kw_354, kw_4, kw_355, by decide +kernel⟩
theorem cs_L_73 : csV RL RX4 73 yX4_days cX4_days 1 (some .int) 0 := ⟨kw_356, kw_357, kw_358, kw_4, kw_359, by decide +kernel⟩
theorem cs_L_76 : csV RL RX4 76 yX4_fee cX4_fee 1 (some .int) 0 := ⟨kw_360, kw_361, kw_362, kw_4, kw_363, by decide +kernel⟩
theorem cs_L_79 : csV RL RX4 79 yX4_costs cX4_costs 1 (some .int) 0 := ⟨kw_364, kw_365, kw_366, kw_4, kw_367, by decide +kernel⟩
theorem cs_L_82 : csV RL RX4 82 yX4_house cX4_house 1 (some .int) 0 := ⟨kw_368, kw_369, kw_370, kw_4, kw_371, by decide +kernel⟩
theorem cs_L_87 : csH RL 87 yL_act cL_act 6 [(0, 259, 260, 63), (0, 259, 265, 65), (0, 259, 270, 67)] 5 := ⟨kw_375, kw_376, kw_377, kw_374, by decide +kernel⟩
theorem cs_L_94 : csH RL 94 yL_scene cL_scene 7 [(0, 11, 12, 65), (0, 11, 17, 67)] 6 := ⟨kw_379, kw_380, kw_377, kw_378, by decide +kernel⟩
theorem cs_L_98 : csJ RL 98 yX4_init cX4_init 1 := ⟨kw_382, kw_383, kw_4, kw_384, rfl, by decide +kernel⟩
theorem cs_L_99 : csV RL RX4 99 yX4_today cX4_today 1 (some .int) 0 := ⟨kw_386, kw_387, kw_388, kw_4, kw_389, by decide +kernel⟩
theorem cs_L_102 : csV RL RX4 102 yX4_shot cX4_shot 1 (some .int) 0 := ⟨kw_390, kw_391, kw_392, kw_4, kw_393, by decide +kernel⟩
theorem cs_L_105 : csS RL 105 yL_plan cL_plan 5 (some .boolean) 5 := ⟨kw_394, kw_395, kw_377, kw_396, by decide +kernel⟩
theorem cs_L_109 : csS RL 109 yL_refuses cL_refuses 17 (some .boolean) 5 := ⟨kw_397, kw_398, kw_377, kw_399, by decide +kernel⟩
theorem cs_L_112 : csV RL RX4 112 yX4_open cX4_open 1 (some .int) 0 := ⟨kw_400, kw_401, kw_402, kw_4, kw_403, by decide +kernel⟩
theorem cs_L_115 : csV RL RX4 115 yX4_hold cX4_hold 3 (some .boolean) 1 := ⟨kw_404, kw_405, kw_406, kw_4, kw_407, by decide +kernel⟩
theorem cs_L_123 : csS RL 123 yL_house cL_house 1 (some .boolean) 0 := ⟨kw_412, kw_413, kw_377, kw_414, by decide +kernel⟩
theorem cs_L_126 : csS RL 126 yL_plans cL_plans 6 (some .boolean) 0 := ⟨kw_415, kw_416, kw_377, kw_417, by decide +kernel⟩
set_option maxHeartbeats 4000000 in
set_option maxRecDepth 100000 in
theorem ww_mk {p : Program} {l : Launch} {e : Env} {R : Room} {s : State} {m : MethodId} {args : Array Value} {below : List Frame} {meth : Method} {c : Code} {cells slots : Nat} {Q : State → Prop} {D : va_G} {A0 : Nat → Prop} {nL : Nat} {cc : ByteArray} {pc : Nat} {lv : List (Nat × Value)} {st : List Value} {cA : ClassId} (hx : p.tables.exec = Jvm.exec) (hb : c.code = cc) (hml : c.maxLocals = nL) (hown : s.vm.findClass RL = some m.cls) (hts : ∀ w ∈ wALL, w.before args s = true) (hK : va_K D vwCl [(cA, .int)] s) (hN : NWs s) (hA : ∀ q, s.heap.size ≤ q → A0 q) (hD : va_D A0 []) {ik ic : Nat} (k1 : Cond.classLink RL ik RX4 ∈ wALL) (kJ : csJ RL ic yX4_init cX4_init 1) (hcs : cells + 22 ≤ R.cells ∧ slots + 188 ≤ R.slots) (d0 : decode cc pc = .ok (.new ik, 3)) (d3 : decode cc (pc + 3) = .ok (.dup, 1)) (d4 : decode cc (pc + 4) = .ok (.invokespecial ic, 3)) (hR : 3 + 1 ≤ R.frames ∧ 8 + (1 + 11) + 120 ≤ R.locals) (hW : ((.ref 0 :: st).map fun v => v.category).sum ≤ 8)
    (kk : ∀ q : Nat → Nat, (∀ τ : SS, va_D A0 (WC q cA τ)) → WW p l e R s m args below meth c D vwCl A0 nL (cells + 22) (slots + 188) Q (WC q cA sC0) (pc + 7) lv (.ref (q 0) :: st)) : WW p l e R s m args below meth c D vwCl A0 nL cells slots Q [] pc lv st := by
  refine ww_new (C := RX4) (T := TX4) (N := 7) hx hb hown hts hK hA hD inA4 tyX4 tyX4_ok k1 kw_418 kw_4 rfl [.null, .null, .null, .null, .int 0, .int 0, .int 0] (by decide +kernel) (by have := hcs.1; omega) (by have := hcs.2; omega) d0 (fun hc => [(hc, .inr (4, [.null, .null, .null, .null, .int 0, .int 0, .int 0]))]) (fun _ => rfl) (fun hc hD => ?_)
  refine ww_dup hx hb d3 rfl ?_
  refine ww_callJ hx hb hml hown hts hK hN hA [] (m_X4_init hc) kJ hR ⟨by have := hcs.1; omega, by have := hcs.2; omega⟩ rfl hD hW d4 (fun w1 hw1 hD => ?_)
  obtain ⟨ac0, ac1, ac2, ac3, ac4, ac5, ac6, ac7, ac8, ac9, ac10, ac11, ac12, ac13, ac14, ac15, ac16, ac17, ac18, ac19, ac20, rfl⟩ := hw1
  refine ww_eq (ws1 := [(hc, .inr (4, [.ref ac1, .ref ac0, .ref ac11, .ref ac13, .int 100, .int 50, .int 0])), (ac0, .inr (2, [.ref ac1, .ref ac7, .ref ac8, .ref ac9, .ref ac10, .int 0, .int 0, .int 0])), (ac1, .inr (3, [.ref ac2, .ref ac3, .ref ac4, .ref ac5, .ref ac6, .int 0, .int 0, .int 0, .int 0])), (ac2, .inl (cA, 8, .inl (fun _ => 0))), (ac3, .inl (cA, 8, .inl (fun _ => 0))), (ac4, .inl (cA, 8, .inl (fun _ => 0))), (ac5, .inl (cA, 8, .inl (fun _ => 0))), (ac6, .inl (cA, 8, .inl (fun _ => 0))), (ac7, .inl (cA, 8, .inl (fun _ => 0))), (ac8, .inl (cA, 8, .inl (fun _ => 0))), (ac9, .inl (cA, 8, .inl (fun _ => 0))), (ac10, .inl (cA, 8, .inl (fun _ => 0))), (ac11, .inr (0, [.ref ac12, .int 0, .int 0, .int 0])), (ac12, .inl (cA, 4, .inl (fun _ => 0))), (ac13, .inr (1, [.ref ac14, .ref ac15, .ref ac16, .ref ac17, .ref ac18, .ref ac19, .ref ac20, .int 0, .int 0, .int 0])), (ac14, .inl (cA, 10, .inl (fun _ => 0))), (ac15, .inl (cA, 10, .inl (fun _ => 0))), (ac16, .inl (cA, 12, .inl (fun _ => 0))), (ac17, .inl (cA, 12, .inl (fun _ => 0))), (ac18, .inl (cA, 12, .inl (fun _ => 0))), (ac19, .inl (cA, 12, .inl (fun _ => 0))), (ac20, .inl (cA, 6, .inl (fun _ => 0)))]) rfl ?_
  have hD : va_D _ [(hc, .inr (4, [.ref ac1, .ref ac0, .ref ac11, .ref ac13, .int 100, .int 50, .int 0])), (ac0, .inr (2, [.ref ac1, .ref ac7, .ref ac8, .ref ac9, .ref ac10, .int 0, .int 0, .int 0])), (ac1, .inr (3, [.ref ac2, .ref ac3, .ref ac4, .ref ac5, .ref ac6, .int 0, .int 0, .int 0, .int 0])), (ac2, .inl (cA, 8, .inl (fun _ => 0))), (ac3, .inl (cA, 8, .inl (fun _ => 0))), (ac4, .inl (cA, 8, .inl (fun _ => 0))), (ac5, .inl (cA, 8, .inl (fun _ => 0))), (ac6, .inl (cA, 8, .inl (fun _ => 0))), (ac7, .inl (cA, 8, .inl (fun _ => 0))), (ac8, .inl (cA, 8, .inl (fun _ => 0))), (ac9, .inl (cA, 8, .inl (fun _ => 0))), (ac10, .inl (cA, 8, .inl (fun _ => 0))), (ac11, .inr (0, [.ref ac12, .int 0, .int 0, .int 0])), (ac12, .inl (cA, 4, .inl (fun _ => 0))), (ac13, .inr (1, [.ref ac14, .ref ac15, .ref ac16, .ref ac17, .ref ac18, .ref ac19, .ref ac20, .int 0, .int 0, .int 0])), (ac14, .inl (cA, 10, .inl (fun _ => 0))), (ac15, .inl (cA, 10, .inl (fun _ => 0))), (ac16, .inl (cA, 12, .inl (fun _ => 0))), (ac17, .inl (cA, 12, .inl (fun _ => 0))), (ac18, .inl (cA, 12, .inl (fun _ => 0))), (ac19, .inl (cA, 12, .inl (fun _ => 0))), (ac20, .inl (cA, 6, .inl (fun _ => 0)))] := hD
  obtain ⟨q, hq⟩ : ∃ z : Nat → Nat, z = (fun k => ([hc, ac0, ac1, ac11, ac13, ac2, ac3, ac4, ac5, ac6, ac7, ac8, ac9, ac10, ac12, ac14, ac15, ac16, ac17, ac18, ac19, ac20] : List Nat).getD k 0) := ⟨_, rfl⟩
  have hD1 : va_D A0 (WC q cA sC0) := hD.sub [0, 1, 2, 12, 14, 3, 4, 5, 6, 7, 8, 9, 10, 11, 13, 15, 16, 17, 18, 19, 20, 21] (by decide +kernel) (by subst hq; rfl)
  refine ww_perm (ws1 := WC q cA sC0) [0, 1, 2, 12, 14, 3, 4, 5, 6, 7, 8, 9, 10, 11, 13, 15, 16, 17, 18, 19, 20, 21] (by subst hq; rfl) ?_
  have e1 : hc = q 0 := by subst hq; rfl
  rw [e1]
  exact kk q (fun τ => hD1.adr rfl)
