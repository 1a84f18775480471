section
-- ===== PART A: goes FIRST, ahead of the names: the tables' words, and 'selects' of the private methods out of them =====
/-- a private method of a class that the tables say can be made, by its rows of tables_1 -/
def lw_okq (q : MethodName × Nat) : Prop := (q.1.cls ≠ "java/lang/invoke/MethodHandle" ∧ q.1.cls ≠ "java/lang/invoke/VarHandle") ∧ Cond.instantiable q.1.cls q.2 ∈ tables_1 ∧ Cond.privateMethod q.1 ∈ tables_1 ∧ Cond.instanceMethod q.1 ∈ tables_1
theorem lw_p0 : lw_okq (⟨"java/lang/Throwable", "fillInStackTrace", "(I)Ljava/lang/Throwable;"⟩, 6) := ⟨⟨by decide +kernel, by decide +kernel⟩, List.mem_of_getElem? (i := 240) (by decide +kernel), List.mem_of_getElem? (i := 238) (by decide +kernel), List.mem_of_getElem? (i := 239) (by decide +kernel)⟩
def lw_privs_1 : List (MethodName × Nat) := [(⟨"java/lang/Throwable", "fillInStackTrace", "(I)Ljava/lang/Throwable;"⟩, 6)]
theorem lw_r1 : ∀ q ∈ lw_privs_1, lw_okq q := List.forall_mem_cons.mpr ⟨lw_p0, fun _ h => absurd h List.not_mem_nil⟩
def lw_privs : List (MethodName × Nat) := lw_privs_1
def lw_tbl : List Cond := k2_sels lw_privs ++ tables_1
theorem lw_privs_ok : ∀ q ∈ lw_privs, lw_okq q := lw_r1
-- ===== end of PART A; then your names; then what follows =====
end
section
/-! ===== BEGIN words of one list among another's, by their places ===== -/
theorem goodIn_r {big : List Cond} (ws : List Cond) (ps : List Nat) (hp : ws = ps.filterMap (fun i => big[i]?)) (h : ws.all goodWord = true) : GoodIn big ws := by
  intro w hw
  have h1 := List.all_eq_true.mp h w hw
  rw [hp] at hw
  obtain ⟨i, -, hi⟩ := List.mem_filterMap.mp hw
  have hm : w ∈ big := by first | exact List.mem_of_getElem? hi | exact List.getElem?_mem hi
  exact ⟨hm, good_of_word h1⟩
theorem goodIn_app {big a b : List Cond} (ha : GoodIn big a) (hb : GoodIn big b) : GoodIn big (a ++ b) := fun w h => (List.mem_append.mp h).elim (ha w) (hb w)
theorem goodIn_ca {big a b : List Cond} {c : Cond} (ha : GoodIn big (c :: a)) (hb : GoodIn big b) : GoodIn big (c :: (a ++ b)) := fun w h => (List.mem_cons.mp h).elim (fun e => ha w (List.mem_cons.mpr (Or.inl e))) (fun h => (List.mem_append.mp h).elim (fun h => ha w (List.mem_cons.mpr (Or.inr h))) (hb w))
theorem goodIn_sub {big ws : List Cond} (hm : ∀ w ∈ ws, w ∈ big) (h : ws.all goodWord = true) : GoodIn big ws := fun w hw => ⟨hm w hw, good_of_word (List.all_eq_true.mp h w hw)⟩
/-! ===== END ===== -/

/-! ===== BEGIN exceptions that leave a method, and their catching by the caller (launches without stack traces) ===== -/
section VXA
/-! The laws vx_back, vx_callV, vx_callS, vx_callSW, vx_throw0, vx_throwS follow proofs of the library, with one case more: JvmDerived/Free/Laws.lean (Back.of_free), Shelf42/LK1.lean (callV, callS), Shelf/KitTraced.lean (throwNew0V, throwNewS). -/
/-- where a method has thrown q: the class by its name, the cell, what was written, the world -/
def vx_T (XC : String → State → State → Prop) (st : State) (q : Addr) (t : State) (mc ms : Nat) (free : Addr → Prop) : Prop :=
  ∃ (E : String) (ce : Cell) (L : List Loc), XC E st t ∧ t.heap[q]? = some ce ∧ ce.vm = .none ∧ st.vm.findClass E = some ce.cls ∧ st.WarmedH t.vm ∧ st.sameButNew ({ t with vm := st.vm } : State) L mc ms ∧ ∀ z ∈ L, free z.base
def vx_Q (Qc : Array Value → State → Outcome → State → Prop) (XC : String → State → State → Prop) (mc ms : Nat) (free : Addr → Prop) : Array Value → State → Outcome → State → Prop := fun a st o t =>
  (Qc a st o t ∧ ∃ L, FrameEnd st o t L mc ms ∧ ∀ q ∈ L, free q.base) ∨ ∃ q, o = .threw q ∧ vx_T XC st q t mc ms free
/-- a callee that returns or throws -/
def vx_Met (l : Launch) (y : MethodName) (ws : List Cond) (rm : Room) (Pc : Array Value → State → Prop) (Qc : Array Value → State → Outcome → State → Prop) (XC : String → State → State → Prop) (mc ms : Nat) (free : Addr → Prop) : Prop :=
  MetFree l y (headSpec ws rm) Pc (fun _ _ _ _ _ => True) (vx_Q Qc XC mc ms free)
def vx_Post (XC : String → State → State → Prop) (mc ms : Nat) (free : Addr → Prop) : Pt → Array Value → Addr → Pt → Prop := fun A a q B =>
  ∃ (g : JFrame) (mk : MethodId) (t : State) (L : List Loc) (E : String) (ce : Cell), B.U.heap = t.heap ∧ B.U.vm = t.vm ∧ XC E (A.U.calling g mk a) t ∧ t.heap[q]? = some ce ∧ ce.vm = .none ∧ A.U.vm.findClass E = some ce.cls ∧ B.locs = A.locs ++ L ∧ (∀ z ∈ L, free z.base) ∧ B.cells = A.cells + mc ∧ B.slots = A.slots + ms
def vx_Back (l : Launch) (R : Room) (p : Program) (e : Env) (below : List Frame) (s : State) (sargs : Array Value) (y : MethodName) (len W9 : Nat)
    (Pre : Pt → Array Value → Prop) (Post : Pt → Array Value → Option Value → Pt → Prop) (PostX : Pt → Array Value → Addr → Pt → Prop) : Prop :=
  ∀ (m : MethodId) (meth : Method) (c : Code) (A : Pt) (g : JFrame) (ig : Instr) (mk : MethodId) (a : Array Value),
    Stand p l e R s m sargs below meth c A.U A.locs A.cells A.slots → g.method = m → g.locals.size = c.maxLocals → decode c.code g.pc = .ok (ig, len) →
    2 * g.monitorRoom + (g.stack.map fun v => v.category).sum ≤ W9 → A.U.methodNamed? y = some mk → Pre A a →
    (∃ (v : Option Value) (B : Pt), Stand p l e R s m sargs below meth c B.U B.locs B.cells B.slots ∧ Post A a v B ∧
      Steps p.tables e below (doInvoke e (A.U.setTop g) [] mk a).1 (B.U.setTop { g with pc := g.pc + len, stack := v.toList ++ g.stack })) ∨
    (∃ (q : Addr) (B : Pt), Stand p l e R s m sargs below meth c B.U B.locs B.cells B.slots ∧ PostX A a q B ∧
      Steps p.tables e below (doInvoke e (A.U.setTop g) [] mk a).1 ((B.U.setTop g).pushFrame (.throwing q)))
section Payer
variable {l : Launch} {R : Room} {p : Program} {e : Env} {below : List Frame} {s : State} {sargs : Array Value} {y : MethodName} {len W9 : Nat}
theorem vx_back {ws : List Cond} {rm : Room} {Pc : Array Value → State → Prop} {Qc : Array Value → State → Outcome → State → Prop} {XC : String → State → State → Prop} {mc ms : Nat} {free : Addr → Prop} {bytes : ByteArray} {maxL : Nat} {ret : Option FieldType}
    (hM : vx_Met l y ws rm Pc Qc XC mc ms free) (hblind : FrameBlind Pc) (hrc : rm.cells = mc) (hrs : rm.slots = ms)
    (hframes : rm.frames + 1 ≤ R.frames) (hlocals : W9 + (maxL + 11) + rm.locals ≤ R.locals)
    (hws : ∀ w ∈ ws, ∀ a' U, s.WarmedH U.vm → w.before a' U = true) (hcode : Cond.code y bytes maxL ret ∈ ws) (hinit : ∀ a' U, s.WarmedH U.vm → (Cond.initialized y.cls).before a' U = true) :
    vx_Back l R p e below s sargs y len W9 (PreOf R mc ms Pc) (PostOf Qc mc ms free) (vx_Post XC mc ms free) := by
  intro m meth c A g ig mk a X hg hsize hdg hW hn hp
  have h1 : (headSpec ws rm).pre.before a A.U = true := atoms_intro fun w hw => hws w hw _ _ X.warmed
  have h2 : (Cond.code y bytes maxL ret).before a A.U = true := hws _ hcode _ _ X.warmed
  have h3 : (Cond.initialized y.cls).before a A.U = true := hinit _ _ X.warmed
  have h4 : A.cells + (headSpec ws rm).room.cells ≤ R.cells := by rw [show (headSpec ws rm).room.cells = mc from hrc]; exact hp.1
  have h5 : A.slots + (headSpec ws rm).room.slots ≤ R.slots := by rw [show (headSpec ws rm).room.slots = ms from hrs]; exact hp.2.1
  have hPc : Pc a (A.U.calling g mk a) := hblind _ _ _ _ hp.2.2
  obtain ⟨U, Ls, c0, s0⟩ := A
  dsimp only [Pt.U, Pt.locs, Pt.cells, Pt.slots] at h1 h2 h3 h4 h5 X hn hPc ⊢
  obtain ⟨methY, cY, hmY, hcY, -, hlY, -, -, -, -⟩ := Cond.code_spec hn h2
  obtain ⟨kY, hkY, -⟩ := className_of_methodNamed hn
  have hinitY : kY.init = .initialized := Cond.initialized_spec (findClass_of_methodNamed hn) hkY h3
  have h : At U g.method c below := by rw [hg]; exact X.here
  have hlocals9 : W9 + (maxL + 11) + (headSpec ws rm).room.locals ≤ R.locals := hlocals
  have happ : (headSpec ws rm).appliesLoose y e.platform (U.calling g mk a) = true :=
    Spec.appliesLoose_calling (g := g) h hdg hn hkY hinitY
      (X.room_calling (g := g) (R' := (headSpec ws rm).room) hsize hmY hcY hframes (by rw [hlY]; omega) h4 h5) h1
  obtain ⟨mid, hmid⟩ := h.above
  have hfr : (U.setTop g).frames = (.java g :: mid) ++ below := by rw [State.frames_setTop' g h.top, hmid]; rfl
  obtain ⟨o, s₂, hsteps, -, hend, hq⟩ := Steps.callFree hM p X.admits X.cas X.clock (acts := []) hfr happ hPc trivial
  have hq' : vx_Q Qc XC mc ms free a (U.calling g mk a) o s₂ := hq
  rw [State.frames_setTop' g h.top] at hend
  obtain ⟨g₀, hg0⟩ := Option.isSome_iff_exists.mp h.top
  obtain ⟨r, hr⟩ := State.topJava?_eq_some.mp hg0
  have hr' : (({ U with heap := s₂.heap, slotsUsed := s₂.slotsUsed } : State).setVm s₂.vm).frames = .java g₀ :: r := hr
  rcases hq' with ⟨hqc, L, hfe, hL⟩ | ⟨q, rfl, E, ce, L, hx, hce, hcv, hcl, hW₂, hsm, hL⟩
  · obtain ⟨⟨v, rfl⟩, hW₂, e2, q2, q3, q4, q5, q6⟩ := id hfe
    have e3 : s₂ = ({ (U.calling g mk a).setFrames s₂.frames with heap := s₂.heap, slotsUsed := s₂.slotsUsed } : State).setVm s₂.vm := by
      have : s₂ = ({ s₂ with vm := (U.calling g mk a).vm } : State).setVm s₂.vm := rfl
      rw [e2] at this
      exact this
    obtain ⟨c₂, i₂, len₂, hc₂, hd₂, hf₂⟩ := hend
    have hW' : U.WarmedH s₂.vm := hW₂
    have hcc : c₂ = c := by
      have h1 : s₂.code? g.method = U.code? g.method := by
        rw [State.code?_eq, State.code?_eq, hW'.alike.method?]
      exact Option.some.inj (hc₂.symm.trans (h1.trans h.code))
    subst hcc
    have hlen : len₂ = len := by rw [hdg] at hd₂; cases hd₂; rfl
    subst hlen
    have hs₂ : s₂ = (({ U with heap := s₂.heap, slotsUsed := s₂.slotsUsed } : State).setVm s₂.vm).setTop { g with pc := g.pc + len₂, stack := v.toList ++ g.stack } := by
      refine e3.trans ?_
      rw [hf₂, State.calling_eq h.top, State.setFrames_setFrames, State.setTop_of_frames _ hr', hr]
      rfl
    have hsame : U.sameButNew ({ U with heap := s₂.heap, slotsUsed := s₂.slotsUsed } : State) L mc ms := by
      refine ⟨?_, q2, q3, q4, q5, q6⟩
      obtain ⟨t, ht, -⟩ := State.frames_cons hr
      show ({ U with heap := s₂.heap, slotsUsed := s₂.slotsUsed } : State) = { U.setFrames U.frames with heap := s₂.heap, slotsUsed := s₂.slotsUsed }
      rw [State.setFrames_self ht]
    subst hg
    refine Or.inl ⟨v, ⟨(({ U with heap := s₂.heap, slotsUsed := s₂.slotsUsed } : State).setVm s₂.vm), Ls ++ L, c0 + mc, s0 + ms⟩,
      ⟨X.admits, X.cas, X.clock, X.frames, X.room, X.hears, X.method, X.code, (X.here.setHeapUsed s₂.heap s₂.slotsUsed).setVm hW'.alike, X.tail, State.WarmedH.trans X.warmed hW', X.limits, X.bytes, X.same.trans (hsame.setVm s.vm)⟩,
      ⟨g, mk, s₂, L, rfl, rfl, hqc, rfl, hL, rfl, rfl⟩, ?_⟩
    show Steps p.tables e below _ ((({ U with heap := s₂.heap, slotsUsed := s₂.slotsUsed } : State).setVm s₂.vm).setTop { g with pc := g.pc + len₂, stack := v.toList ++ g.stack })
    rw [← hs₂]
    exact hsteps
  · obtain ⟨e2, q2, q3, q4, q5, q6⟩ := id hsm
    have e3 : s₂ = ({ (U.calling g mk a).setFrames s₂.frames with heap := s₂.heap, slotsUsed := s₂.slotsUsed } : State).setVm s₂.vm := by
      have : s₂ = ({ s₂ with vm := (U.calling g mk a).vm } : State).setVm s₂.vm := rfl
      rw [e2] at this
      exact this
    have hf₂ : s₂.frames = .throwing q :: .java g :: U.frames.tail := hend
    have hW' : U.WarmedH s₂.vm := hW₂
    have hs₂ : s₂ = ((({ U with heap := s₂.heap, slotsUsed := s₂.slotsUsed } : State).setVm s₂.vm).setTop g).pushFrame (.throwing q) := by
      refine e3.trans ?_
      rw [hf₂, State.calling_eq h.top, State.setFrames_setFrames, State.pushFrame, State.frames_setTop _ hr', State.setTop_of_frames _ hr', State.setFrames_setFrames, hr]
      rfl
    have hsame : U.sameButNew ({ U with heap := s₂.heap, slotsUsed := s₂.slotsUsed } : State) L mc ms := by
      refine ⟨?_, q2, q3, q4, q5, q6⟩
      obtain ⟨t, ht, -⟩ := State.frames_cons hr
      show ({ U with heap := s₂.heap, slotsUsed := s₂.slotsUsed } : State) = { U.setFrames U.frames with heap := s₂.heap, slotsUsed := s₂.slotsUsed }
      rw [State.setFrames_self ht]
    subst hg
    refine Or.inr ⟨q, ⟨(({ U with heap := s₂.heap, slotsUsed := s₂.slotsUsed } : State).setVm s₂.vm), Ls ++ L, c0 + mc, s0 + ms⟩,
      ⟨X.admits, X.cas, X.clock, X.frames, X.room, X.hears, X.method, X.code, (X.here.setHeapUsed s₂.heap s₂.slotsUsed).setVm hW'.alike, X.tail, State.WarmedH.trans X.warmed hW', X.limits, X.bytes, X.same.trans (hsame.setVm s.vm)⟩,
      ⟨g, mk, s₂, L, E, ce, rfl, rfl, hx, hce, hcv, hcl, rfl, hL, rfl, rfl⟩, ?_⟩
    show Steps p.tables e below _ (((({ U with heap := s₂.heap, slotsUsed := s₂.slotsUsed } : State).setVm s₂.vm).setTop g).pushFrame (.throwing q))
    rw [← hs₂]
    exact hsteps
end Payer
section Calls
variable {p : Program} {l : Launch} {e : Env} {R : Room} {s : State} {m : MethodId} {args : Array Value} {below : List Frame} {meth : Method} {c : Code} {T : State} {locs : List Loc} {cells slots : Nat}
theorem vx_callV (X : Stand p l e R s m args below meth c T locs cells slots) (hexec : p.tables.exec = Jvm.exec) {own C : String} {index : Nat} {y : MethodName} {bytes : ByteArray} {maxL : Nat} {ret : Option FieldType}
    (hown : s.vm.findClass own = some m.cls) (hlink : (Cond.methodLink own index y).before args s = true) (hinst : (Cond.instanceMethod y).before args s = true) (hsel : (Cond.selects C y y).before args s = true)
    (hcode : (Cond.code y bytes maxL ret).before args s = true) (hy : y.cls ≠ "java/lang/invoke/MethodHandle" ∧ y.cls ≠ "java/lang/invoke/VarHandle")
    {W9 : Nat} {Pre : Pt → Array Value → Prop} {Post : Pt → Array Value → Option Value → Pt → Prop} {PostX : Pt → Array Value → Addr → Pt → Prop} (hK : vx_Back l R p e below s args y 3 W9 Pre Post PostX)
    {b : Addr} {cellB : Cell} (hcell : T.heap[b]? = some cellB) (hobj : cellB.vm.isStatics = false) (hcls : s.vm.findClass C = some cellB.cls)
    {g : JFrame} (hg : g.method = m) (hsize : g.locals.size = c.maxLocals) {argsL rest : List Value} (hlen : ∀ sig, parseMethodDescriptor y.desc = some sig → argsL.length = sig.parameters.length)
    (hstack : g.stack = argsL.reverse ++ .ref b :: rest) (hW : 2 * g.monitorRoom + (rest.map fun v => v.category).sum ≤ W9) (hdg : decode c.code g.pc = .ok (.invokevirtual index, 3))
    (hpre : ∀ vm₁, s.WarmedH vm₁ → Pre ⟨T.setVm vm₁, locs, cells, slots⟩ (Value.ref b :: argsL).toArray) :
    (∃ (v : Option Value) (vm₁ : Vm) (B : Pt), s.WarmedH vm₁ ∧ Stand p l e R s m args below meth c B.U B.locs B.cells B.slots ∧ Post ⟨T.setVm vm₁, locs, cells, slots⟩ (Value.ref b :: argsL).toArray v B ∧
      ∀ target, Steps p.tables e below (B.U.setTop { g with pc := g.pc + 3, stack := v.toList ++ rest }) target → Steps p.tables e below (T.setTop g) target) ∨
    (∃ (q : Addr) (vm₁ : Vm) (B : Pt), s.WarmedH vm₁ ∧ Stand p l e R s m args below meth c B.U B.locs B.cells B.slots ∧ PostX ⟨T.setVm vm₁, locs, cells, slots⟩ (Value.ref b :: argsL).toArray q B ∧
      Steps p.tables e below (T.setTop g) ((B.U.setTop { g with stack := rest }).pushFrame (.throwing q))) := by
  obtain ⟨mk, methM, hnamed, hmethM, hstM, habM⟩ := Cond.instanceMethod_spec hinst
  obtain ⟨methM', cM, hmethM', -, -, -, -, -, -, hsigM⟩ := Cond.code_spec hnamed hcode
  cases hmethM.symm.trans hmethM'
  obtain ⟨c2, r2, m2, q1, q2, q3, q4, kP, hkP, hkPi⟩ := Cond.selects_spec hsel
  cases hcls.symm.trans q1
  cases (State.methodFound?_of_named hnamed hy).symm.trans q2
  cases hnamed.symm.trans q3
  have hselP : selectMethod e.platform s.vm cellB.cls mk = .method mk := by rw [Launch.admits_selectMethod X.admits]; exact q4
  obtain ⟨vm₁, X₁, hstep₁⟩ := X.invokevirtual hexec hown hlink hnamed hmethM hstM hkP hkPi hy (a := b) (cell := cellB) hcell
    (fun z h => by rw [h] at hobj; cases hobj) hselP hmethM habM hkP hkPi (g := g) hg (argsL := argsL) (rest := rest) (hlen _ hsigM) hstack hdg
  rcases hK m meth c ⟨T.setVm vm₁, locs, cells, slots⟩ { g with stack := rest } (.invokevirtual index) mk (Value.ref b :: argsL).toArray X₁ hg hsize hdg hW (X₁.named hnamed) (hpre vm₁ X₁.warmed) with ⟨v, B, X', hpost, hsteps⟩ | ⟨q, B, X', hpost, hsteps⟩
  · exact Or.inl ⟨v, vm₁, B, X₁.warmed, X', hpost, fun target h => hstep₁ _ fun acts => by rw [doInvoke_state]; exact hsteps.trans h⟩
  · exact Or.inr ⟨q, vm₁, B, X₁.warmed, X', hpost, hstep₁ _ fun acts => by rw [doInvoke_state]; exact hsteps⟩
theorem vx_callS (X : Stand p l e R s m args below meth c T locs cells slots) (hexec : p.tables.exec = Jvm.exec) {own : String} {index : Nat} {y : MethodName} {bytes : ByteArray} {maxL : Nat} {ret : Option FieldType}
    (hown : s.vm.findClass own = some m.cls) (hlink : (Cond.methodLink own index y).before args s = true) (hstat : (Cond.static y).before args s = true) (hinit : (Cond.initialized y.cls).before args s = true)
    (hcode : (Cond.code y bytes maxL ret).before args s = true) (hy : y.cls ≠ "java/lang/invoke/MethodHandle" ∧ y.cls ≠ "java/lang/invoke/VarHandle")
    {W9 : Nat} {Pre : Pt → Array Value → Prop} {Post : Pt → Array Value → Option Value → Pt → Prop} {PostX : Pt → Array Value → Addr → Pt → Prop} (hK : vx_Back l R p e below s args y 3 W9 Pre Post PostX)
    {g : JFrame} (hg : g.method = m) (hsize : g.locals.size = c.maxLocals) {argsL rest : List Value} (hlen : ∀ sig, parseMethodDescriptor y.desc = some sig → argsL.length = sig.parameters.length)
    (hstack : g.stack = argsL.reverse ++ rest) (hW : 2 * g.monitorRoom + (rest.map fun v => v.category).sum ≤ W9) (hdg : decode c.code g.pc = .ok (.invokestatic index, 3))
    (hpre : ∀ vm₁, s.WarmedH vm₁ → Pre ⟨T.setVm vm₁, locs, cells, slots⟩ argsL.toArray) :
    (∃ (v : Option Value) (vm₁ : Vm) (B : Pt), s.WarmedH vm₁ ∧ Stand p l e R s m args below meth c B.U B.locs B.cells B.slots ∧ Post ⟨T.setVm vm₁, locs, cells, slots⟩ argsL.toArray v B ∧
      ∀ target, Steps p.tables e below (B.U.setTop { g with pc := g.pc + 3, stack := v.toList ++ rest }) target → Steps p.tables e below (T.setTop g) target) ∨
    (∃ (q : Addr) (vm₁ : Vm) (B : Pt), s.WarmedH vm₁ ∧ Stand p l e R s m args below meth c B.U B.locs B.cells B.slots ∧ PostX ⟨T.setVm vm₁, locs, cells, slots⟩ argsL.toArray q B ∧
      Steps p.tables e below (T.setTop g) ((B.U.setTop { g with stack := rest }).pushFrame (.throwing q))) := by
  obtain ⟨mk, hnamed⟩ := Cond.code_named hcode
  obtain ⟨methM, cM, hmethM, -, -, -, -, -, -, hsigM⟩ := Cond.code_spec hnamed hcode
  have hstatic : methM.isStatic = true := Cond.static_spec hnamed hmethM hstat
  obtain ⟨kP, hkP, -⟩ := className_of_methodNamed hnamed
  have hinitP : kP.init = .initialized := Cond.initialized_spec (findClass_of_methodNamed hnamed) hkP hinit
  obtain ⟨vm₁, X₁, hstep₁⟩ := X.invokestatic hexec hown hlink hnamed hmethM hstatic hkP hinitP hy (g := g) hg (argsL := argsL) (rest := rest) (hlen _ hsigM) hstack hdg
  rcases hK m meth c ⟨T.setVm vm₁, locs, cells, slots⟩ { g with stack := rest } (.invokestatic index) mk argsL.toArray X₁ hg hsize hdg hW (X₁.named hnamed) (hpre vm₁ X₁.warmed) with ⟨v, B, X', hpost, hsteps⟩ | ⟨q, B, X', hpost, hsteps⟩
  · exact Or.inl ⟨v, vm₁, B, X₁.warmed, X', hpost, fun target h => hstep₁ _ fun acts => by rw [doInvoke_state]; exact hsteps.trans h⟩
  · exact Or.inr ⟨q, vm₁, B, X₁.warmed, X', hpost, hstep₁ _ fun acts => by rw [doInvoke_state]; exact hsteps⟩
end Calls
theorem vx_cls {s : State} {T : State} {vm₁ : Vm} {E : String} {k : ClassId} (hW : s.WarmedH vm₁) (h : (T.setVm vm₁).vm.findClass E = some k) : s.vm.findClass E = some k := by
  have h1 : vm₁.findClass E = some k := h
  rw [hW.alike.findClass] at h1
  exact h1
/-- the method's frame g, with q thrown over it -/
def vx_W (p : Program) (l : Launch) (e : Env) (R : Room) (s : State) (m : MethodId) (args : Array Value) (below : List Frame) (meth : Method) (c : Code) (H : Heap) (locs : List Loc) (cells slots : Nat) (Q : State → Prop) (g : JFrame) (q : Addr) : Prop :=
  ∀ T : State, T.heap = H → Stand p l e R s m args below meth c T locs cells slots → ∃ t, Steps p.tables e below ((T.setTop g).pushFrame (.throwing q)) t ∧ Q t
def vx_Run (p : Program) (l : Launch) (e : Env) (R : Room) (s : State) (m : MethodId) (args : Array Value) (below : List Frame) (meth : Method) (c : Code) (H : Heap) (locs : List Loc) (cells slots mc ms : Nat) (g : JFrame) (rest : List Value) (Qa : State → Outcome → State → Prop) (XC : String → State → State → Prop) (free : Addr → Prop) : Prop :=
  ∀ T : State, T.heap = H → Stand p l e R s m args below meth c T locs cells slots →
    (∃ (v : Option Value) (st₀ t T' : State) (L : List Loc), st₀.heap = H ∧ Stand p l e R s m args below meth c T' (locs ++ L) (cells + mc) (slots + ms) ∧ (∀ q ∈ L, free q.base) ∧ T'.heap = t.heap ∧ T'.vm = t.vm ∧ Qa st₀ (.returned v) t ∧
      Goes p e below T g T' { g with pc := g.pc + 3, stack := v.toList ++ rest }) ∨
    (∃ (q : Addr) (st₀ t T' : State) (L : List Loc) (E : String) (ce : Cell), st₀.heap = H ∧ Stand p l e R s m args below meth c T' (locs ++ L) (cells + mc) (slots + ms) ∧ (∀ z ∈ L, free z.base) ∧ T'.heap = t.heap ∧ T'.vm = t.vm ∧ XC E st₀ t ∧ t.heap[q]? = some ce ∧ ce.vm = .none ∧ s.vm.findClass E = some ce.cls ∧
      Steps p.tables e below (T.setTop g) ((T'.setTop { g with stack := rest }).pushFrame (.throwing q)))
def vx_X {S : Type} (px : S → Prop) (B : String → S → State → Prop) (A : Nat → Prop) : String → State → State → Prop := fun E st t => ∃ u : S, px u ∧ B E u t ∧ va_F A st t
section Runs
variable {p : Program} {l : Launch} {e : Env} {R : Room} {s : State} {m : MethodId} {args : Array Value} {below : List Frame} {meth : Method} {c : Code} {H : Heap} {locs : List Loc} {cells slots : Nat}
variable {y : MethodName} {bytes cc : ByteArray} {maxL nL mc ms n index : Nat} {ret : Option FieldType} {ws : List Cond} {rm : Room} {Pc : Array Value → State → Prop} {Qc : Array Value → State → Outcome → State → Prop} {XC : String → State → State → Prop} {free : Addr → Prop} {Ts : List Cond} {own C : String} {b : Addr} {As rest : List Value} {g : JFrame}
theorem vx_callBack (cb : CallB R s args own index y bytes maxL ret ws rm mc ms n) (hM : vx_Met l y ws rm Pc Qc XC mc ms free) (hbl : FrameBlind Pc) : vx_Back l R p e below s args y 3 8 (PreOf R mc ms Pc) (PostOf Qc mc ms free) (vx_Post XC mc ms free) := by
  obtain ⟨hrc, hrs, hfr, hlo, hws, hcw, -, hini, -⟩ := cb
  exact vx_back (bytes := bytes) (maxL := maxL) (ret := ret) hM hbl hrc hrs hfr hlo hws hcw (fun a' U hW => word_at hW (Or.inl (by first | rfl | simp [Cond.onTables, Cond.keeps, Cond.steady])) hini)
theorem vx_runV (S : CallFix p m c cc nL s args Ts own) (hM : vx_Met l y ws rm Pc Qc XC mc ms free) (cw : CallW R s args own C index y bytes maxL ret ws rm mc ms n) (hp : PreV s H C b Pc As)
    (hg : g.method = m) (hn : As.length = n) (hsize : g.locals.size = nL) (hstack : g.stack = As.reverse ++ .ref b :: rest) (hW : 2 * g.monitorRoom + (rest.map fun v => v.category).sum ≤ 8) (hdg : decode cc g.pc = .ok (.invokevirtual index, 3)) (hf : cells + mc ≤ R.cells ∧ slots + ms ≤ R.slots) :
    vx_Run p l e R s m args below meth c H locs cells slots mc ms g rest (Qc (Value.ref b :: As).toArray) XC free := by
  have hK : vx_Back l R p e below s args y 3 8 (PreOf R mc ms Pc) (PostOf Qc mc ms free) (vx_Post XC mc ms free) := vx_callBack cw.1 hM hp.1
  obtain ⟨⟨-, -, -, -, -, -, hcode, -, hy, hlen, hl⟩, hin, hse⟩ := cw
  obtain ⟨hx, hb, hml, ho, -⟩ := S
  obtain ⟨-, ⟨cellB, hcB, hoB, hclB⟩, hPc⟩ := hp
  intro T hT X
  rcases vx_callV X hx (C := C) (bytes := bytes) (maxL := maxL) (ret := ret) ho hl hin hse hcode hy hK (by rw [hT]; exact hcB) hoB hclB hg (hsize.trans hml.symm) (argsL := As) (rest := rest) (fun sig h => hn.trans (hlen sig h)) hstack hW (by rw [hb]; exact hdg)
    (fun vm₁ hW₁ => ⟨hf.1, hf.2, hPc (T.setVm vm₁) hT hW₁⟩) with ⟨v, vm₁, ⟨U', l2, c2, s2⟩, hW₁, X', ⟨g', mk, t, L, e1, e2, hq, h1, hL, h2, h3⟩, st⟩ | ⟨q, vm₁, ⟨U', l2, c2, s2⟩, hW₁, X', ⟨g', mk, t, L, E, ce, e1, e2, hq, hce, hcv, hcl, h1, hL, h2, h3⟩, st⟩
  · dsimp only [Pt.U, Pt.locs, Pt.cells, Pt.slots] at X' e1 e2 h1 h2 h3 st
    subst h1; subst h2; subst h3
    exact Or.inl ⟨v, (T.setVm vm₁).calling g' mk (Value.ref b :: As).toArray, t, U', L, hT, X', hL, e1, e2, hq, st⟩
  · dsimp only [Pt.U, Pt.locs, Pt.cells, Pt.slots] at X' e1 e2 h1 h2 h3 st hcl
    subst h1; subst h2; subst h3
    exact Or.inr ⟨q, (T.setVm vm₁).calling g' mk (Value.ref b :: As).toArray, t, U', L, E, ce, hT, X', hL, e1, e2, hq, hce, hcv, vx_cls hW₁ hcl, st⟩
theorem vx_runS (S : CallFix p m c cc nL s args Ts own) (hM : vx_Met l y ws rm Pc Qc XC mc ms free) (cw : CallB R s args own index y bytes maxL ret ws rm mc ms n ∧ (Cond.static y).before args s = true) (hp : PreS s H Pc As)
    (hg : g.method = m) (hn : As.length = n) (hsize : g.locals.size = nL) (hstack : g.stack = As.reverse ++ rest) (hW : 2 * g.monitorRoom + (rest.map fun v => v.category).sum ≤ 8) (hdg : decode cc g.pc = .ok (.invokestatic index, 3)) (hf : cells + mc ≤ R.cells ∧ slots + ms ≤ R.slots) :
    vx_Run p l e R s m args below meth c H locs cells slots mc ms g rest (Qc As.toArray) XC free := by
  have hK : vx_Back l R p e below s args y 3 8 (PreOf R mc ms Pc) (PostOf Qc mc ms free) (vx_Post XC mc ms free) := vx_callBack cw.1 hM hp.1
  obtain ⟨⟨-, -, -, -, -, -, hcode, hini, hy, hlen, hl⟩, hstt⟩ := cw
  obtain ⟨hx, hb, hml, ho, -⟩ := S
  intro T hT X
  rcases vx_callS X hx (bytes := bytes) (maxL := maxL) (ret := ret) ho hl hstt hini hcode hy hK hg (hsize.trans hml.symm) (argsL := As) (rest := rest) (fun sig h => hn.trans (hlen sig h)) hstack hW (by rw [hb]; exact hdg)
    (fun vm₁ hW₁ => ⟨hf.1, hf.2, hp.2 (T.setVm vm₁) hT hW₁⟩) with ⟨v, vm₁, ⟨U', l2, c2, s2⟩, hW₁, X', ⟨g', mk, t, L, e1, e2, hq, h1, hL, h2, h3⟩, st⟩ | ⟨q, vm₁, ⟨U', l2, c2, s2⟩, hW₁, X', ⟨g', mk, t, L, E, ce, e1, e2, hq, hce, hcv, hcl, h1, hL, h2, h3⟩, st⟩
  · dsimp only [Pt.U, Pt.locs, Pt.cells, Pt.slots] at X' e1 e2 h1 h2 h3 st
    subst h1; subst h2; subst h3
    exact Or.inl ⟨v, (T.setVm vm₁).calling g' mk As.toArray, t, U', L, hT, X', hL, e1, e2, hq, st⟩
  · dsimp only [Pt.U, Pt.locs, Pt.cells, Pt.slots] at X' e1 e2 h1 h2 h3 st hcl
    subst h1; subst h2; subst h3
    exact Or.inr ⟨q, (T.setVm vm₁).calling g' mk As.toArray, t, U', L, E, ce, hT, X', hL, e1, e2, hq, hce, hcv, vx_cls hW₁ hcl, st⟩
end Runs
section Rows
variable {p : Program} {l : Launch} {e : Env} {R : Room} {s : State} {m : MethodId} {args : Array Value} {below : List Frame} {meth : Method} {c : Code} {H : Heap} {locs : List Loc} {cells slots : Nat} {Q : State → Prop}
variable {mc ms : Nat} {free : Addr → Prop} {A0 A1 : Nat → Prop} {H0 : Heap} {a : Array Value} {pc : Nat} {ls : Array Slot} {st0 rest : List Value}
theorem vx_keep {st₀ t T' : State} {L : List Loc} (h0 : st₀.heap = H) (e1 : T'.heap = t.heap) (hS : va_S A0 H0 H locs) (hA : ∀ q, q < H.size → A1 q → A0 q) (hf : ∀ q, free q → A0 q) (hL : ∀ q ∈ L, free q.base) (hF : va_F A1 st₀ t) :
    H.size ≤ T'.heap.size ∧ (∀ q : Nat, q < H.size → ¬ A1 q → T'.heap[q]? = H[q]?) ∧ va_S A0 H0 T'.heap (locs ++ L) := by
  obtain ⟨hz, hk⟩ := hF
  rw [h0] at hz hk
  exact ⟨by rw [e1]; exact hz, fun q h1 h2 => by rw [e1]; exact hk q h1 h2,
    ⟨Nat.le_trans hS.1 (by rw [e1]; exact hz), fun q h1 h2 => by rw [e1, hk q (Nat.lt_of_lt_of_le h1 hS.1) (fun z => h2 (hA q (Nat.lt_of_lt_of_le h1 hS.1) z))]; exact hS.2.1 q h1 h2, fun q hq => by
      rcases List.mem_append.mp hq with h | h
      · exact hS.2.2 q h
      · exact hf _ (hL q h)⟩⟩
theorem vx_calli {S SX : Type} {post : Int32 → S → Prop} {px : SX → Prop} {B : S → State → Prop} {BX : String → SX → State → Prop} {AX : Nat → Prop} (hr : vx_Run p l e R s m args below meth c H locs cells slots mc ms (F0 m pc ls st0) rest (va_Qi post B A1 a) (vx_X px BX AX) free) (hS : va_S A0 H0 H locs) (hA : ∀ q, q < H.size → A1 q → A0 q) (hf : ∀ q, free q → A0 q) (hAX : ∀ q, q < H.size → AX q → A0 q)
    (kx : ∀ (E : String) (ce : Cell) (q9 : Addr) (u : SX) (t : State) (H1 : Heap) (locs1 : List Loc), t.heap = H1 → s.vm.Alike t.vm → px u → BX E u t → H.size ≤ H1.size → (∀ q : Nat, q < H.size → ¬ AX q → H1[q]? = H[q]?) → va_S A0 H0 H1 locs1 → H1[q9]? = some ce → ce.vm = .none → s.vm.findClass E = some ce.cls → vx_W p l e R s m args below meth c H1 locs1 (cells + mc) (slots + ms) Q (F0 m pc ls rest) q9)
    (kk : ∀ (r : Int32) (u : S) (t : State) (H1 : Heap) (locs1 : List Loc), t.heap = H1 → s.vm.Alike t.vm → post r u → B u t → H.size ≤ H1.size → (∀ q : Nat, q < H.size → ¬ A1 q → H1[q]? = H[q]?) → va_S A0 H0 H1 locs1 → W p l e R s m args below meth c H1 locs1 (cells + mc) (slots + ms) Q (F0 m (pc + 3) ls (.int r :: rest))) : W p l e R s m args below meth c H locs cells slots Q (F0 m pc ls st0) := by
  intro T hT X
  rcases hr T hT X with ⟨v, st₀, t, T', L, h0, X', hL, e1, e2, ⟨⟨r, u, hv, hp, hb⟩, hF⟩, st⟩ | ⟨q, st₀, t, T', L, E, ce, h0, X', hL, e1, e2, ⟨u, hp, hb, hF⟩, hce, hcv, hcl, st⟩
  · cases hv
    obtain ⟨k1, k2, k3⟩ := vx_keep h0 e1 hS hA hf hL hF
    obtain ⟨t2, a1, b1⟩ := kk r u t T'.heap (locs ++ L) e1.symm (by rw [← e2]; exact X'.warmed.alike) hp hb k1 k2 k3 T' rfl X'
    exact ⟨t2, st t2 a1, b1⟩
  · obtain ⟨k1, k2, k3⟩ := vx_keep h0 e1 hS hAX hf hL hF
    obtain ⟨t2, a1, b1⟩ := kx E ce q u t T'.heap (locs ++ L) e1.symm (by rw [← e2]; exact X'.warmed.alike) hp hb k1 k2 k3 (by rw [e1]; exact hce) hcv hcl T' rfl X'
    exact ⟨t2, st.trans a1, b1⟩
theorem vx_calll {S SX : Type} {post : Int64 → S → Prop} {px : SX → Prop} {B : S → State → Prop} {BX : String → SX → State → Prop} {AX : Nat → Prop} (hr : vx_Run p l e R s m args below meth c H locs cells slots mc ms (F0 m pc ls st0) rest (va_Ql post B A1 a) (vx_X px BX AX) free) (hS : va_S A0 H0 H locs) (hA : ∀ q, q < H.size → A1 q → A0 q) (hf : ∀ q, free q → A0 q) (hAX : ∀ q, q < H.size → AX q → A0 q)
    (kx : ∀ (E : String) (ce : Cell) (q9 : Addr) (u : SX) (t : State) (H1 : Heap) (locs1 : List Loc), t.heap = H1 → s.vm.Alike t.vm → px u → BX E u t → H.size ≤ H1.size → (∀ q : Nat, q < H.size → ¬ AX q → H1[q]? = H[q]?) → va_S A0 H0 H1 locs1 → H1[q9]? = some ce → ce.vm = .none → s.vm.findClass E = some ce.cls → vx_W p l e R s m args below meth c H1 locs1 (cells + mc) (slots + ms) Q (F0 m pc ls rest) q9)
    (kk : ∀ (r : Int64) (u : S) (t : State) (H1 : Heap) (locs1 : List Loc), t.heap = H1 → s.vm.Alike t.vm → post r u → B u t → H.size ≤ H1.size → (∀ q : Nat, q < H.size → ¬ A1 q → H1[q]? = H[q]?) → va_S A0 H0 H1 locs1 → W p l e R s m args below meth c H1 locs1 (cells + mc) (slots + ms) Q (F0 m (pc + 3) ls (.long r :: rest))) : W p l e R s m args below meth c H locs cells slots Q (F0 m pc ls st0) := by
  intro T hT X
  rcases hr T hT X with ⟨v, st₀, t, T', L, h0, X', hL, e1, e2, ⟨⟨r, u, hv, hp, hb⟩, hF⟩, st⟩ | ⟨q, st₀, t, T', L, E, ce, h0, X', hL, e1, e2, ⟨u, hp, hb, hF⟩, hce, hcv, hcl, st⟩
  · cases hv
    obtain ⟨k1, k2, k3⟩ := vx_keep h0 e1 hS hA hf hL hF
    obtain ⟨t2, a1, b1⟩ := kk r u t T'.heap (locs ++ L) e1.symm (by rw [← e2]; exact X'.warmed.alike) hp hb k1 k2 k3 T' rfl X'
    exact ⟨t2, st t2 a1, b1⟩
  · obtain ⟨k1, k2, k3⟩ := vx_keep h0 e1 hS hAX hf hL hF
    obtain ⟨t2, a1, b1⟩ := kx E ce q u t T'.heap (locs ++ L) e1.symm (by rw [← e2]; exact X'.warmed.alike) hp hb k1 k2 k3 (by rw [e1]; exact hce) hcv hcl T' rfl X'
    exact ⟨t2, st.trans a1, b1⟩
theorem vx_callf {S SX : Type} {post : UInt32 → S → Prop} {px : SX → Prop} {B : S → State → Prop} {BX : String → SX → State → Prop} {AX : Nat → Prop} (hr : vx_Run p l e R s m args below meth c H locs cells slots mc ms (F0 m pc ls st0) rest (va_Qf post B A1 a) (vx_X px BX AX) free) (hS : va_S A0 H0 H locs) (hA : ∀ q, q < H.size → A1 q → A0 q) (hf : ∀ q, free q → A0 q) (hAX : ∀ q, q < H.size → AX q → A0 q)
    (kx : ∀ (E : String) (ce : Cell) (q9 : Addr) (u : SX) (t : State) (H1 : Heap) (locs1 : List Loc), t.heap = H1 → s.vm.Alike t.vm → px u → BX E u t → H.size ≤ H1.size → (∀ q : Nat, q < H.size → ¬ AX q → H1[q]? = H[q]?) → va_S A0 H0 H1 locs1 → H1[q9]? = some ce → ce.vm = .none → s.vm.findClass E = some ce.cls → vx_W p l e R s m args below meth c H1 locs1 (cells + mc) (slots + ms) Q (F0 m pc ls rest) q9)
    (kk : ∀ (r : UInt32) (u : S) (t : State) (H1 : Heap) (locs1 : List Loc), t.heap = H1 → s.vm.Alike t.vm → post r u → B u t → H.size ≤ H1.size → (∀ q : Nat, q < H.size → ¬ A1 q → H1[q]? = H[q]?) → va_S A0 H0 H1 locs1 → W p l e R s m args below meth c H1 locs1 (cells + mc) (slots + ms) Q (F0 m (pc + 3) ls (.float r :: rest))) : W p l e R s m args below meth c H locs cells slots Q (F0 m pc ls st0) := by
  intro T hT X
  rcases hr T hT X with ⟨v, st₀, t, T', L, h0, X', hL, e1, e2, ⟨⟨r, u, hv, hp, hb⟩, hF⟩, st⟩ | ⟨q, st₀, t, T', L, E, ce, h0, X', hL, e1, e2, ⟨u, hp, hb, hF⟩, hce, hcv, hcl, st⟩
  · cases hv
    obtain ⟨k1, k2, k3⟩ := vx_keep h0 e1 hS hA hf hL hF
    obtain ⟨t2, a1, b1⟩ := kk r u t T'.heap (locs ++ L) e1.symm (by rw [← e2]; exact X'.warmed.alike) hp hb k1 k2 k3 T' rfl X'
    exact ⟨t2, st t2 a1, b1⟩
  · obtain ⟨k1, k2, k3⟩ := vx_keep h0 e1 hS hAX hf hL hF
    obtain ⟨t2, a1, b1⟩ := kx E ce q u t T'.heap (locs ++ L) e1.symm (by rw [← e2]; exact X'.warmed.alike) hp hb k1 k2 k3 (by rw [e1]; exact hce) hcv hcl T' rfl X'
    exact ⟨t2, st.trans a1, b1⟩
theorem vx_calld {S SX : Type} {post : UInt64 → S → Prop} {px : SX → Prop} {B : S → State → Prop} {BX : String → SX → State → Prop} {AX : Nat → Prop} (hr : vx_Run p l e R s m args below meth c H locs cells slots mc ms (F0 m pc ls st0) rest (va_Qd post B A1 a) (vx_X px BX AX) free) (hS : va_S A0 H0 H locs) (hA : ∀ q, q < H.size → A1 q → A0 q) (hf : ∀ q, free q → A0 q) (hAX : ∀ q, q < H.size → AX q → A0 q)
    (kx : ∀ (E : String) (ce : Cell) (q9 : Addr) (u : SX) (t : State) (H1 : Heap) (locs1 : List Loc), t.heap = H1 → s.vm.Alike t.vm → px u → BX E u t → H.size ≤ H1.size → (∀ q : Nat, q < H.size → ¬ AX q → H1[q]? = H[q]?) → va_S A0 H0 H1 locs1 → H1[q9]? = some ce → ce.vm = .none → s.vm.findClass E = some ce.cls → vx_W p l e R s m args below meth c H1 locs1 (cells + mc) (slots + ms) Q (F0 m pc ls rest) q9)
    (kk : ∀ (r : UInt64) (u : S) (t : State) (H1 : Heap) (locs1 : List Loc), t.heap = H1 → s.vm.Alike t.vm → post r u → B u t → H.size ≤ H1.size → (∀ q : Nat, q < H.size → ¬ A1 q → H1[q]? = H[q]?) → va_S A0 H0 H1 locs1 → W p l e R s m args below meth c H1 locs1 (cells + mc) (slots + ms) Q (F0 m (pc + 3) ls (.double r :: rest))) : W p l e R s m args below meth c H locs cells slots Q (F0 m pc ls st0) := by
  intro T hT X
  rcases hr T hT X with ⟨v, st₀, t, T', L, h0, X', hL, e1, e2, ⟨⟨r, u, hv, hp, hb⟩, hF⟩, st⟩ | ⟨q, st₀, t, T', L, E, ce, h0, X', hL, e1, e2, ⟨u, hp, hb, hF⟩, hce, hcv, hcl, st⟩
  · cases hv
    obtain ⟨k1, k2, k3⟩ := vx_keep h0 e1 hS hA hf hL hF
    obtain ⟨t2, a1, b1⟩ := kk r u t T'.heap (locs ++ L) e1.symm (by rw [← e2]; exact X'.warmed.alike) hp hb k1 k2 k3 T' rfl X'
    exact ⟨t2, st t2 a1, b1⟩
  · obtain ⟨k1, k2, k3⟩ := vx_keep h0 e1 hS hAX hf hL hF
    obtain ⟨t2, a1, b1⟩ := kx E ce q u t T'.heap (locs ++ L) e1.symm (by rw [← e2]; exact X'.warmed.alike) hp hb k1 k2 k3 (by rw [e1]; exact hce) hcv hcl T' rfl X'
    exact ⟨t2, st.trans a1, b1⟩
theorem vx_callv {S SX : Type} {post : S → Prop} {px : SX → Prop} {B : S → State → Prop} {BX : String → SX → State → Prop} {AX : Nat → Prop} (hr : vx_Run p l e R s m args below meth c H locs cells slots mc ms (F0 m pc ls st0) rest (va_Qv post B A1 a) (vx_X px BX AX) free) (hS : va_S A0 H0 H locs) (hA : ∀ q, q < H.size → A1 q → A0 q) (hf : ∀ q, free q → A0 q) (hAX : ∀ q, q < H.size → AX q → A0 q)
    (kx : ∀ (E : String) (ce : Cell) (q9 : Addr) (u : SX) (t : State) (H1 : Heap) (locs1 : List Loc), t.heap = H1 → s.vm.Alike t.vm → px u → BX E u t → H.size ≤ H1.size → (∀ q : Nat, q < H.size → ¬ AX q → H1[q]? = H[q]?) → va_S A0 H0 H1 locs1 → H1[q9]? = some ce → ce.vm = .none → s.vm.findClass E = some ce.cls → vx_W p l e R s m args below meth c H1 locs1 (cells + mc) (slots + ms) Q (F0 m pc ls rest) q9)
    (kk : ∀ (u : S) (t : State) (H1 : Heap) (locs1 : List Loc), t.heap = H1 → s.vm.Alike t.vm → post u → B u t → H.size ≤ H1.size → (∀ q : Nat, q < H.size → ¬ A1 q → H1[q]? = H[q]?) → va_S A0 H0 H1 locs1 → W p l e R s m args below meth c H1 locs1 (cells + mc) (slots + ms) Q (F0 m (pc + 3) ls (rest))) : W p l e R s m args below meth c H locs cells slots Q (F0 m pc ls st0) := by
  intro T hT X
  rcases hr T hT X with ⟨v, st₀, t, T', L, h0, X', hL, e1, e2, ⟨⟨u, hv, hp, hb⟩, hF⟩, st⟩ | ⟨q, st₀, t, T', L, E, ce, h0, X', hL, e1, e2, ⟨u, hp, hb, hF⟩, hce, hcv, hcl, st⟩
  · cases hv
    obtain ⟨k1, k2, k3⟩ := vx_keep h0 e1 hS hA hf hL hF
    obtain ⟨t2, a1, b1⟩ := kk u t T'.heap (locs ++ L) e1.symm (by rw [← e2]; exact X'.warmed.alike) hp hb k1 k2 k3 T' rfl X'
    exact ⟨t2, st t2 a1, b1⟩
  · obtain ⟨k1, k2, k3⟩ := vx_keep h0 e1 hS hAX hf hL hF
    obtain ⟨t2, a1, b1⟩ := kx E ce q u t T'.heap (locs ++ L) e1.symm (by rw [← e2]; exact X'.warmed.alike) hp hb k1 k2 k3 (by rw [e1]; exact hce) hcv hcl T' rfl X'
    exact ⟨t2, st.trans a1, b1⟩
/-- caught by the row x of this method's table; the rows ahead don't take it -/
theorem vx_catch {own name : String} {E : String} {ce : Cell} {q : Addr} (hown : s.vm.findClass own = some m.cls) (pre : List ExceptionTableEntry) (x : ExceptionTableEntry) (suf : List ExceptionTableEntry) (hsplit : c.exceptionTable.toList = pre ++ x :: suf)
    (hpass : ∀ z ∈ pre, covers z pc = false ∨ (z.catchType ≠ 0 ∧ ∃ nm : String, (Cond.classLink own z.catchType nm).before args s = true ∧ va_Nc E nm s)) (hx : covers x pc = true) (h0 : x.catchType ≠ 0)
    (hlink : (Cond.classLink own x.catchType name).before args s = true) (hcast : (Cond.castable E name).before args s = true) (hcell : H[q]? = some ce) (hv : ce.vm = .none) (hcl : s.vm.findClass E = some ce.cls)
    (kk : W p l e R s m args below meth c H locs cells slots Q (F0 m x.handlerPc ls [.ref q])) : vx_W p l e R s m args below meth c H locs cells slots Q (F0 m pc ls rest) q := by
  intro T hT X
  have hpl : e.platform.magicAccessors = ({} : Platform).magicAccessors := by rw [X.admits.platform]
  obtain ⟨c3, c4, hc3, hc4, hasg⟩ := Cond.castable_spec hcast
  cases Option.some.inj (hc3.symm.trans hcl)
  obtain ⟨c5, hc5, hcl5⟩ := Cond.classLink_spec hown hlink e.platform hpl
  cases Option.some.inj (hc4.symm.trans hc5)
  obtain ⟨vm', X', st⟩ := X.thenCaughtThrough q (g := F0 m pc ls rest) rfl (Steps.refl _) (by rw [hT]; exact hcell) (by rw [hv]; rfl) (by obtain ⟨k9, h9, -⟩ := Vm.findClass_spec hcl; exact ⟨k9, h9⟩) pre x suf hsplit
    (fun z hz => by
      rcases hpass z hz with h | ⟨hz0, nm, hl1, hn1⟩
      · exact Or.inl h
      · obtain ⟨c6, hc6, hcl6⟩ := Cond.classLink_spec hown hl1 e.platform hpl
        obtain ⟨a8, b8, h1, h2, h3⟩ := hn1
        cases Option.some.inj (h1.symm.trans hcl)
        cases Option.some.inj (h2.symm.trans hc6)
        exact Or.inr ⟨hz0, _, hcl6, h3⟩) hx (Or.inr ⟨h0, c4, hcl5, hasg⟩)
  obtain ⟨t, a1, b1⟩ := kk (T.setVm vm') hT X'
  exact ⟨t, st.trans a1, b1⟩
end Rows
section Ends
variable {p : Program} {l : Launch} {e : Env} {R : Room} {s : State} {m : MethodId} {args : Array Value} {below : List Frame} {meth : Method} {c : Code} {H : Heap} {locs : List Loc} {cells slots : Nat} {Q : State → Prop}
variable {mc ms : Nat} {free : Addr → Prop} {A0 A1 : Nat → Prop} {H0 : Heap} {a : Array Value} {ls : Array Slot} {st0 rest : List Value}
variable {Qc : Array Value → State → Outcome → State → Prop} {XC : String → State → State → Prop}
/-- what a body that may throw owes at its end -/
def vx_MQ (below : List Frame) (Qc : Array Value → State → Outcome → State → Prop) (XC : String → State → State → Prop) (a : Array Value) (s : State) (mc ms : Nat) (free : Addr → Prop) : State → Prop := fun t =>
  ∃ o, t.status = .running ∧ Ended t below o ∧ vx_Q Qc XC mc ms free a s o t
theorem vx_ret {g : JFrame} {mc ms : Nat} (k : W p l e R s m args below meth c H locs cells slots (MQ below Qc args s mc ms free) g) : W p l e R s m args below meth c H locs cells slots (vx_MQ below Qc XC args s mc ms free) g := by
  intro T hT X
  obtain ⟨t, a1, o, b1, b2, b3, b4⟩ := k T hT X
  exact ⟨t, a1, o, b1, b2, Or.inl ⟨b3, b4⟩⟩
/-- not caught here: it goes on to the caller -/
theorem vx_widen {g : JFrame} {q : Addr} {k n : Nat} (h1 : cells ≤ k) (h2 : slots ≤ n) (kk : vx_W p l e R s m args below meth c H locs k n Q g q) : vx_W p l e R s m args below meth c H locs cells slots Q g q := fun T hT X => kk T hT (stand_widen X h1 h2)
theorem vx_out {pc : Nat} {E : String} {ce : Cell} {q : Addr} {mc ms : Nat} (hout : ∀ x ∈ c.exceptionTable.toList, covers x pc = false) (hlocks : meth.locks = false) (hcell : H[q]? = some ce) (hv : ce.vm = .none) (hcl : s.vm.findClass E = some ce.cls)
    (hx : ∀ t : State, t.heap = H → s.vm.Alike t.vm → XC E s t) (hf : ∀ z ∈ locs, free z.base) (hc : cells ≤ mc) (hs : slots ≤ ms) :
    vx_W p l e R s m args below meth c H locs cells slots (vx_MQ below Qc XC args s mc ms free) (F0 m pc ls rest) q := by
  intro T hT X
  obtain ⟨st1, hrun, hend, hW, hsm⟩ := X.leaveThrown q (g := F0 m pc ls rest) rfl rfl rfl hout hlocks
  have hcell9 : (T.setFrames (.throwing q :: below)).heap[q]? = some ce := by
    show T.heap[q]? = some ce
    rw [hT]; exact hcell
  exact ⟨_, st1, .threw q, hrun, hend, Or.inr ⟨q, rfl, E, ce, locs, hx _ hT hW.alike, hcell9, hv, hcl, hW, hsm.mono hc hs, hf⟩⟩
theorem vx_frame {U : State} {k n : Nat} (h : s.sameButNew ({ U with vm := s.vm } : State) locs k n) : s.heap.size ≤ U.heap.size ∧ ∀ q : Nat, q < s.heap.size → (∀ z ∈ locs, z.base ≠ q) → U.heap[q]? = s.heap[q]? := by
  obtain ⟨-, h2, -, -, -, h6⟩ := h
  refine ⟨h2, fun q hq hz => ?_⟩
  obtain ⟨c9, e1, e2, e3, e4⟩ := h6 q _ (Array.getElem?_eq_getElem hq)
  have hs : c9.slots = (s.heap[q]).slots := Array.ext_getElem? fun i => e4 i fun hm => hz _ hm rfl
  have h9 : c9 = s.heap[q] := by
    rw [hs] at e2
    exact e2
  have e5 : U.heap[q]? = some c9 := e1
  rw [e5, h9, Array.getElem?_eq_getElem hq]
/-- the words of a throw but the four that speak of the heap -/
def vx_no (w : Cond) : Bool := decide (w ≠ .isRef (.static Bundle.tN "UNASSIGNED_STACK" Bundle.steD)) && decide (w ≠ .isRef (.static Bundle.tN "SUPPRESSED_SENTINEL" Bundle.listD)) && decide (w ≠ .laysStatic Bundle.tN "UNASSIGNED_STACK" Bundle.steD) && decide (w ≠ .laysStatic Bundle.tN "SUPPRESSED_SENTINEL" Bundle.listD)
def vx_at0 (own : String) (ic : Nat) (X : String) (names : List String) : List Cond := (Bundle.ownAtoms0 own ic X names).filter vx_no
def vx_atS (own : String) (ic : Nat) (X : String) (names : List String) : List Cond := (Bundle.ownAtoms own ic X names).filter vx_no
/-- a word that the tables alone decide, or a good one -/
def vx_ot (w : Cond) : Bool := w.onTables || goodWord w
theorem vx_ot_at {args a' : Array Value} {s U : State} {w : Cond} (hW : s.WarmedH U.vm) (hvm : s.vm = U.vm) (hg : vx_ot w = true) (h : w.before args s = true) : w.before a' U = true := by
  simp only [vx_ot, Bool.or_eq_true] at hg
  rcases hg with hg | hg
  · exact va_tabs hg hvm h
  · exact word_at hW (good_of_word hg) h
/-- a list's words: the good ones out of the method's own list, the others by premises of their own -/
theorem vx_hat {args : Array Value} {s : State} {L B : List Cond} (h1 : ∀ w ∈ L.filter goodWord, w.before args s = true) (h2 : ∀ w ∈ L.filter (fun w => !goodWord w), w ∈ B) (h3 : ∀ w ∈ B, w.before args s = true) : ∀ w ∈ L, w.before args s = true := by
  intro w hw
  by_cases g : goodWord w = true
  · exact h1 w (List.mem_filter.mpr ⟨hw, g⟩)
  · refine h3 w (h2 w (List.mem_filter.mpr ⟨hw, ?_⟩))
    show (!goodWord w) = true
    cases hgw : goodWord w
    · rfl
    · exact absurd hgw g
theorem vx_c {args : Array Value} {s : State} {w : Cond} {B : List Cond} (h : w.before args s = true) (t : ∀ w ∈ B, w.before args s = true) : ∀ w' ∈ w :: B, w'.before args s = true := fun w' h' => (List.mem_cons.mp h').elim (fun e => by rw [e]; exact h) (t w')
theorem vx_n {args : Array Value} {s : State} : ∀ w ∈ ([] : List Cond), w.before args s = true := fun _ h => nomatch h
theorem vx_own {args : Array Value} {s : State} {L : List Cond} (h1 : ∀ w ∈ L.filter vx_no, w.before args s = true)
    (hU : (Cond.isRef (.static Bundle.tN "UNASSIGNED_STACK" Bundle.steD)).before args s = true) (hN : (Cond.isRef (.static Bundle.tN "SUPPRESSED_SENTINEL" Bundle.listD)).before args s = true)
    (lU : (Cond.laysStatic Bundle.tN "UNASSIGNED_STACK" Bundle.steD).before args s = true) (lN : (Cond.laysStatic Bundle.tN "SUPPRESSED_SENTINEL" Bundle.listD).before args s = true) : ∀ w ∈ L, w.before args s = true := by
  intro w hw
  by_cases e1 : w = .isRef (.static Bundle.tN "UNASSIGNED_STACK" Bundle.steD)
  · rw [e1]; exact hU
  · by_cases e2 : w = .isRef (.static Bundle.tN "SUPPRESSED_SENTINEL" Bundle.listD)
    · rw [e2]; exact hN
    · by_cases e3 : w = .laysStatic Bundle.tN "UNASSIGNED_STACK" Bundle.steD
      · rw [e3]; exact lU
      · by_cases e4 : w = .laysStatic Bundle.tN "SUPPRESSED_SENTINEL" Bundle.listD
        · rw [e4]; exact lN
        · exact h1 w (List.mem_filter.mpr ⟨hw, by unfold vx_no; rw [decide_eq_true e1, decide_eq_true e2, decide_eq_true e3, decide_eq_true e4]; rfl⟩)
/-- where a static field lies, its class's statics cell in H -/
def vx_L (C n d : String) (A : Nat → Prop) (U : State) (H : Heap) : Prop := ∃ (c : ClassId) (k : Class) (i : Nat) (f : Field) (a : Nat) (cell : Cell), U.vm.findClass C = some c ∧ U.fieldFound? C n d = some (c, k, i, f) ∧ f.isStatic = true ∧ k.statics = some a ∧ H[a]? = some cell ∧ cell.vm.isStatics = true ∧ cell.cls = c ∧ f.slot < cell.slots.size ∧ k.staticTypes[f.slot]? = some f.type ∧ ¬ A a
theorem vx_L.moved {C n d : String} {A : Nat → Prop} {u U : State} {H : Heap} (hvm : u.vm.Alike U.vm) (h : vx_L C n d A u H) : vx_L C n d A U H := by
  obtain ⟨c, k, i, f, a, cell, h1, h2, h3, h4, h5, h6, h7, h8, h9, h10⟩ := h
  obtain ⟨k', hi', he⟩ := State.fieldFound?_setVm hvm h2
  exact ⟨c, k', i, f, a, cell, by rw [hvm.findClass]; exact h1, hi', h3, by rw [he]; exact h4, h5, h6, h7, h8, by rw [he]; exact h9, h10⟩
theorem vx_L.kept {C n d : String} {A : Nat → Prop} {U : State} {H H1 : Heap} (h : vx_L C n d A U H) (hq : ∀ a : Nat, a < H.size → ¬ A a → H1[a]? = H[a]?) : vx_L C n d A U H1 := by
  obtain ⟨c, k, i, f, a, cell, h1, h2, h3, h4, h5, h6, h7, h8, h9, h10⟩ := h
  exact ⟨c, k, i, f, a, cell, h1, h2, h3, h4, by rw [hq a (Array.getElem?_eq_some_iff.mp h5).1 h10]; exact h5, h6, h7, h8, h9, h10⟩
theorem vx_L.narrow {C n d : String} {A B : Nat → Prop} {U : State} {H : Heap} (h : vx_L C n d A U H) (hAB : ∀ q, B q → A q) : vx_L C n d B U H := by
  obtain ⟨c, k, i, f, a, cell, h1, h2, h3, h4, h5, h6, h7, h8, h9, h10⟩ := h
  exact ⟨c, k, i, f, a, cell, h1, h2, h3, h4, h5, h6, h7, h8, h9, fun z => h10 (hAB _ z)⟩
theorem vx_L.word {C n d : String} {A : Nat → Prop} {s : State} {args : Array Value} (h : vx_L C n d A s s.heap) : (Cond.laysStatic C n d).before args s = true := by
  obtain ⟨c, k, i, f, a, cell, h1, h2, h3, h4, h5, h6, h7, h8, h9, -⟩ := h
  show (Cond.laysStatic C n d).holds args s none s [] = true
  exact Cond.laysStatic_of h1 h2 h3 h4 h5 h6 h7 h8 h9
/-- .. and what it holds: null or some reference -/
def vx_Zq (C n d : String) (A : Nat → Prop) (U : State) (H : Heap) : Prop := va_Zq C n d A U H ∧ vx_L C n d A U H
theorem vx_Zq.moved {C n d : String} {A : Nat → Prop} {u U : State} {H : Heap} (hvm : u.vm.Alike U.vm) (h : vx_Zq C n d A u H) : vx_Zq C n d A U H := ⟨va_Zq.moved hvm h.1, vx_L.moved hvm h.2⟩
theorem vx_Zq.kept {C n d : String} {A : Nat → Prop} {U : State} {H H1 : Heap} (h : vx_Zq C n d A U H) (hq : ∀ a : Nat, a < H.size → ¬ A a → H1[a]? = H[a]?) : vx_Zq C n d A U H1 := ⟨va_Zq.kept h.1 hq, vx_L.kept h.2 hq⟩
theorem vx_Zq.narrow {C n d : String} {A B : Nat → Prop} {U : State} {H : Heap} (h : vx_Zq C n d A U H) (hAB : ∀ q, B q → A q) : vx_Zq C n d B U H := ⟨va_Zq.narrow h.1 hAB, vx_L.narrow h.2 hAB⟩
theorem vx_Zqof {args : Array Value} {s : State} {C n d : String} {A : Nat → Prop} (hl : (Cond.laysStatic C n d).before args s = true) (hini : (Cond.initialized C).before args s = true) (h : (Cond.isRef (.static C n d)).before args s = true) (hA : ∀ a : Nat, a < s.heap.size → ¬ A a) : vx_Zq C n d A s s.heap := by
  refine ⟨va_Zqof hl hini h hA, ?_⟩
  obtain ⟨c, k, i, f, a, cell, h1, h2, h3, h4, h5, h6, h7, h8, h9⟩ := Cond.laysStatic_spec hl
  exact ⟨c, k, i, f, a, cell, h1, h2, h3, h4, h5, h6, h7, h8, h9, hA a (Array.getElem?_eq_some_iff.mp h5).1⟩
theorem vx_isRef {C n d : String} {v : Value} {A : Nat → Prop} {s : State} {args : Array Value} (h : va_Z C n d v A s s.heap) (hv : v.isRef = true) : (Cond.isRef (.static C n d)).before args s = true := by
  obtain ⟨cf, kf, fi, f, a, cell, h1, h2, h3, h4, h5, h6, h7, -⟩ := h
  have he : (Term.static C n d).eval args s none [] s = some v := by
    simp [Term.eval, State.fieldNamed?, h1, h2, h4, h5, h6, h7]
  simp only [Cond.before, Cond.holds, Cond.value, he]
  cases v <;> simp_all [Value.isRef]
theorem vx_isRefq {C n d : String} {A : Nat → Prop} {s : State} {args : Array Value} (h : va_Zq C n d A s s.heap) : (Cond.isRef (.static C n d)).before args s = true := by
  rcases h with h | ⟨t, h⟩
  · exact vx_isRef h rfl
  · exact vx_isRef h rfl
/-- the same frame, seen from here: as if the method were called anew in this heap -/
theorem vx_rebase {T : State} (X : Stand p l e R s m args below meth c T locs cells slots) {R' : Room} (hf : R'.frames ≤ R.frames) (hl : R'.locals ≤ R.locals) (hc : cells + R'.cells ≤ R.cells) (hs : slots + R'.slots ≤ R.slots) :
    Stand p l e R' ((T.setVm s.vm).setFrames (.invoking m args :: below)) m args below meth c T [] 0 0 := by
  have htop : (T.setVm s.vm).topJava?.isSome := X.here.top
  have hF : ((T.setVm s.vm).setFrames (.invoking m args :: below)).frames = .invoking m args :: below := State.frames_setFrames _ (State.cur_lt_of_top htop)
  obtain ⟨g₀, hg0⟩ := Option.isSome_iff_exists.mp htop
  obtain ⟨r, hr⟩ := State.topJava?_eq_some.mp hg0
  have hl9 : e.platform.stackLimits (T.setVm s.vm).me = e.platform.stackLimits s.me := X.limits
  have hb9 : (T.setVm s.vm).me.stackBytes = s.me.stackBytes := X.bytes
  refine ⟨X.admits, X.cas, X.clock, hF, ?_, X.hears, X.method, X.code, X.here, X.tail, X.warmed, ?_, ?_, ?_⟩
  · have h := X.room
    have hU : ((T.setVm s.vm).setFrames (.invoking m args :: below)).localsInUse = s.localsInUse := by
      rw [State.localsInUse_invoking hF (meth := meth) (c := c) X.method X.code, State.localsInUse_invoking X.frames X.method X.code]
    simp only [State.hasRoom, Bool.and_eq_true, decide_eq_true_eq] at h ⊢
    obtain ⟨⟨⟨⟨h1, h2, h3, h4, h5, h6⟩, h7⟩, h8⟩, h9⟩ := h
    rw [X.frames, List.length_cons] at h2 h3
    have q1 := X.heapSize
    have q2 := X.used
    simp only [hF, hU, List.length_cons, State.stackLimits_setFrames, State.stackBytes_setFrames, hl9, hb9]
    refine ⟨⟨⟨⟨by omega, by omega, by omega, by omega, by omega, h6⟩, ?_⟩, ?_⟩, X.book⟩
    · show T.heap.size + R'.cells ≤ e.platform.maxCells
      omega
    · show T.slotsUsed + R'.slots ≤ e.platform.maxSlots
      omega
  · rw [State.stackLimits_setFrames]; rfl
  · rw [State.stackBytes_setFrames]; rfl
  · refine ⟨?_, Nat.le_refl _, Nat.le_refl _, ?_, ?_, fun a c9 h9 => ⟨c9, h9, rfl, rfl, fun _ _ => rfl⟩⟩
    · obtain ⟨t, ht, -⟩ := State.frames_cons hr
      show T.setVm s.vm = { ((T.setVm s.vm).setFrames (.invoking m args :: below)).setFrames (T.setVm s.vm).frames with heap := T.heap, slotsUsed := T.slotsUsed }
      rw [State.setFrames_setFrames, State.setFrames_self ht]
      rfl
    · show T.slotsUsed = T.slotsUsed + ((T.heap.toList.drop T.heap.size).map (·.slots.size)).sum
      rw [List.drop_eq_nil_of_le (Nat.le_of_eq Array.length_toList)]
      rfl
    · show ((T.heap.toList.drop T.heap.size).map (·.slots.size)).sum ≤ 0
      rw [List.drop_eq_nil_of_le (Nat.le_of_eq Array.length_toList)]
      exact Nat.le_refl _
/-- 'throw new E()': new; dup; invokespecial; athrow -/
theorem vx_throw0 {cc : ByteArray} {pc : Nat} (hexec : p.tables.exec = Jvm.exec) (hb : c.code = cc) (hl : l.stackTraces = false) {own cls : String} {names : List String} {ik ic mc ms : Nat} {A : Nat → Prop}
    (hown : s.vm.findClass own = some m.cls) (hcls : Bundle.fit cls = true) (hnames : ∀ n ∈ names, Bundle.fit n = true)
    (hk : (Cond.classLink own ik cls).before args s = true) (hini : (Cond.initialized cls).before args s = true) (hat : ∀ w ∈ vx_at0 own ic cls names, w.before args s = true)
    (hgood : ∀ w ∈ Cond.classLink own ik cls :: Cond.initialized cls :: vx_at0 own ic cls names, vx_ot w = true)
    (hU : vx_Zq Bundle.tN "UNASSIGNED_STACK" Bundle.steD A s s.heap) (hN : vx_Zq Bundle.tN "SUPPRESSED_SENTINEL" Bundle.listD A s s.heap) (hS : va_S A s.heap H locs) (hsize : ls.size = c.maxLocals)
    (d0 : decode cc pc = .ok (.new ik, 3)) (d3 : decode cc (pc + 3) = .ok (.dup, 1)) (d4 : decode cc (pc + 4) = .ok (.invokespecial ic, 3)) (d7 : decode cc (pc + 7) = .ok (.athrow, 1))
    (hout : ∀ x ∈ c.exceptionTable.toList, covers x (pc + 7) = false)
    (hRframes : names.length + 3 < R.frames) (hRlocals : (rest.map fun v => v.category).sum + (13 * (names.length + 1) + 42) ≤ R.locals) (hRcells : cells + 1 ≤ R.cells) (hRslots : slots + 6 ≤ R.slots) (hlocks : meth.locks = false)
    (hx : ∀ t : State, s.vm.Alike t.vm → H.size ≤ t.heap.size → (∀ q : Nat, q < H.size → t.heap[q]? = H[q]?) → XC cls s t)
    (hf : ∀ z ∈ locs, free z.base) (hc : cells + 1 ≤ mc) (hs : slots + 6 ≤ ms) :
    W p l e R s m args below meth c H locs cells slots (vx_MQ below Qc XC args s mc ms free) (F0 m pc ls rest) := by
  intro T hT X
  have htr : e.platform.stackTraces = false := (show e.platform.stackTraces = l.stackTraces by rw [X.admits.platform]).trans hl
  have Y := vx_rebase X (R' := { frames := R.frames, locals := R.locals, cells := 1, slots := 6 }) (Nat.le_refl _) (Nat.le_refl _) hRcells hRslots
  obtain ⟨s', hA⟩ : ∃ z, z = (T.setVm s.vm).setFrames (.invoking m args :: below) := ⟨_, rfl⟩
  rw [← hA] at Y
  have hvm : s'.vm = s.vm := by rw [hA]; rfl
  have hhp : s'.heap = H := by rw [hA]; exact hT
  have hW0 : s.WarmedH s'.vm := by rw [hvm]; exact State.WarmedH.refl s
  have hat' : ∀ w ∈ vx_at0 own ic cls names, w.before args s' = true := fun w hw => vx_ot_at hW0 hvm.symm (hgood w (List.mem_cons_of_mem _ (List.mem_cons_of_mem _ hw))) (hat w hw)
  have hk' : (Cond.classLink own ik cls).before args s' = true := vx_ot_at hW0 hvm.symm (hgood _ List.mem_cons_self) hk
  have hini' : (Cond.initialized cls).before args s' = true := vx_ot_at hW0 hvm.symm (hgood _ (List.mem_cons_of_mem _ List.mem_cons_self)) hini
  have hU' : vx_Zq Bundle.tN "UNASSIGNED_STACK" Bundle.steD A s' s'.heap := by rw [hhp]; exact vx_Zq.moved hW0.alike (hU.kept hS.2.1)
  have hN' : vx_Zq Bundle.tN "SUPPRESSED_SENTINEL" Bundle.listD A s' s'.heap := by rw [hhp]; exact vx_Zq.moved hW0.alike (hN.kept hS.2.1)
  have h : ∀ w ∈ Bundle.ownAtoms0 own ic cls names, w.before args s' = true := vx_own hat' (vx_isRefq hU'.1) (vx_isRefq hN'.1) hU'.2.word hN'.2.word
  have hown' : s'.vm.findClass own = some m.cls := by rw [hvm]; exact hown
  have hins : (Cond.instantiable cls 6).before args s' = true := h _ (by simp [Bundle.ownAtoms0])
  obtain ⟨vm₁, cX, kX, hfX, hkX, -, -, X₁, st1⟩ := Y.newCold hexec (own := own) (C := cls) (index := ik) (n := 6) hown' hk' hins hini'
    (g := F0 m pc ls rest) rfl (by rw [hb]; exact d0) (Nat.le_refl _) (Nat.le_refl _)
  generalize hT1 : (T.setVm vm₁).pushCell { cls := cX, slots := kX.instanceTypes.map defaultValue, vm := .none } = T1 at X₁ st1
  have hcat : (Value.ref T.heap.size).category = 1 := rfl
  have hcellA : T1.heap[T.heap.size]? = some (freshCell cX kX) := by rw [← hT1]; exact State.heap_pushCell_size _ _
  have d3' : decode c.code (pc + 3) = .ok (.dup, 1) := by rw [hb]; exact d3
  obtain ⟨U, hsteps, hrun, hend, hW, hsame, ce, hce, hO⟩ := X₁.ctorThrow0 hexec htr (own := own) (cls := cls) (names := names) (ic := ic) hown' hcls hnames h (fun x hx => nomatch hx) hfX hkX hcellA (by rw [hhp, hT]; exact Nat.le_refl _)
    (g := { method := m, pc := pc + 4, locals := ls, stack := .ref T.heap.size :: .ref T.heap.size :: rest, locked := none }) rfl hsize rfl rfl (rest := rest) rfl
    (by rw [hb]; exact d4) (by rw [hb]; exact d7) hout hRframes (by simp only [List.map_cons, List.sum_cons, hcat]; omega) hlocks
  obtain ⟨f1, f2⟩ := vx_frame hsame
  rw [hhp] at f1 f2
  have hWs : s.WarmedH U.vm := State.WarmedH.trans hW0 hW
  have hcl : s.vm.findClass cls = some ce.cls := by
    have h9 := hO.cls
    rw [hvm] at h9
    exact h9
  have hall : s.sameButNew ({ U with vm := s.vm } : State) locs mc ms := by
    subst hA
    obtain ⟨e1, e2⟩ := hsame
    rw [State.setFrames_setFrames] at e1
    have h2 : (T.setVm s.vm).sameButNew ({ U with vm := s.vm } : State) [] (0 + 1) (0 + 6) := ⟨e1, e2⟩
    have h3 := X.same.trans h2
    rw [List.append_nil] at h3
    exact h3.mono hc hs
  refine ⟨U, ?_, .threw T.heap.size, hrun, hend, Or.inr ⟨T.heap.size, rfl, cls, ce, locs, hx U hWs.alike f1 (fun q hq => f2 q hq (fun z hz => nomatch hz)), hce, hO.vm, hcl, hWs, hall, hf⟩⟩
  refine st1 _ ?_
  show Steps p.tables e below (T1.setTop { method := m, pc := pc + 3, locals := ls, stack := .ref T.heap.size :: rest, locked := none }) _
  jvm_step X₁.here [X₁.here.top, hexec, d3', Value.category]
  exact hsteps
/-- 'throw new E("text")': new; dup; ldc; invokespecial; athrow -/
theorem vx_throwS {cc : ByteArray} {pc : Nat} (hexec : p.tables.exec = Jvm.exec) (hb : c.code = cc) (hl : l.stackTraces = false) {own cls text : String} {names : List String} {ik is ic mc ms sa : Nat} {A : Nat → Prop}
    (hown : s.vm.findClass own = some m.cls) (hcls : Bundle.fit cls = true) (hnames : ∀ n ∈ names, Bundle.fit n = true)
    (hk : (Cond.classLink own ik cls).before args s = true) (hini : (Cond.initialized cls).before args s = true) (hstr : vk_R own is text sa s) (hat : ∀ w ∈ vx_atS own ic cls names, w.before args s = true)
    (hgood : ∀ w ∈ Cond.classLink own ik cls :: Cond.initialized cls :: vx_atS own ic cls names, vx_ot w = true)
    (hU : vx_Zq Bundle.tN "UNASSIGNED_STACK" Bundle.steD A s s.heap) (hN : vx_Zq Bundle.tN "SUPPRESSED_SENTINEL" Bundle.listD A s s.heap) (hS : va_S A s.heap H locs) (hsize : ls.size = c.maxLocals)
    (d0 : decode cc pc = .ok (.new ik, 3)) (d3 : decode cc (pc + 3) = .ok (.dup, 1)) (d4 : decode cc (pc + 4) = .ok (.ldc is, 2)) (d6 : decode cc (pc + 6) = .ok (.invokespecial ic, 3)) (d9 : decode cc (pc + 9) = .ok (.athrow, 1))
    (hout : ∀ x ∈ c.exceptionTable.toList, covers x (pc + 9) = false)
    (hRframes : names.length + 3 < R.frames) (hRlocals : (rest.map fun v => v.category).sum + (13 * (names.length + 1) + 43) ≤ R.locals) (hRcells : cells + 1 ≤ R.cells) (hRslots : slots + 6 ≤ R.slots) (hlocks : meth.locks = false)
    (hx : ∀ t : State, s.vm.Alike t.vm → H.size ≤ t.heap.size → (∀ q : Nat, q < H.size → t.heap[q]? = H[q]?) → XC cls s t)
    (hf : ∀ z ∈ locs, free z.base) (hc : cells + 1 ≤ mc) (hs : slots + 6 ≤ ms) :
    W p l e R s m args below meth c H locs cells slots (vx_MQ below Qc XC args s mc ms free) (F0 m pc ls rest) := by
  intro T hT X
  have htr : e.platform.stackTraces = false := (show e.platform.stackTraces = l.stackTraces by rw [X.admits.platform]).trans hl
  have Y := vx_rebase X (R' := { frames := R.frames, locals := R.locals, cells := 1, slots := 6 }) (Nat.le_refl _) (Nat.le_refl _) hRcells hRslots
  obtain ⟨s', hA⟩ : ∃ z, z = (T.setVm s.vm).setFrames (.invoking m args :: below) := ⟨_, rfl⟩
  rw [← hA] at Y
  have hvm : s'.vm = s.vm := by rw [hA]; rfl
  have hhp : s'.heap = H := by rw [hA]; exact hT
  have hW0 : s.WarmedH s'.vm := by rw [hvm]; exact State.WarmedH.refl s
  have hat' : ∀ w ∈ vx_atS own ic cls names, w.before args s' = true := fun w hw => vx_ot_at hW0 hvm.symm (hgood w (List.mem_cons_of_mem _ (List.mem_cons_of_mem _ hw))) (hat w hw)
  have hk' : (Cond.classLink own ik cls).before args s' = true := vx_ot_at hW0 hvm.symm (hgood _ List.mem_cons_self) hk
  have hini' : (Cond.initialized cls).before args s' = true := vx_ot_at hW0 hvm.symm (hgood _ (List.mem_cons_of_mem _ List.mem_cons_self)) hini
  have hU' : vx_Zq Bundle.tN "UNASSIGNED_STACK" Bundle.steD A s' s'.heap := by rw [hhp]; exact vx_Zq.moved hW0.alike (hU.kept hS.2.1)
  have hN' : vx_Zq Bundle.tN "SUPPRESSED_SENTINEL" Bundle.listD A s' s'.heap := by rw [hhp]; exact vx_Zq.moved hW0.alike (hN.kept hS.2.1)
  have h : ∀ w ∈ Bundle.ownAtoms own ic cls names, w.before args s' = true := vx_own hat' (vx_isRefq hU'.1) (vx_isRefq hN'.1) hU'.2.word hN'.2.word
  have hown' : s'.vm.findClass own = some m.cls := by rw [hvm]; exact hown
  have hins : (Cond.instantiable cls 6).before args s' = true := h _ (by simp [Bundle.ownAtoms])
  obtain ⟨vm₁, cX, kX, hfX, hkX, -, -, X₁, st1⟩ := Y.newCold hexec (own := own) (C := cls) (index := ik) (n := 6) hown' hk' hins hini'
    (g := F0 m pc ls rest) rfl (by rw [hb]; exact d0) (Nat.le_refl _) (Nat.le_refl _)
  generalize hT1 : (T.setVm vm₁).pushCell { cls := cX, slots := kX.instanceTypes.map defaultValue, vm := .none } = T1 at X₁ st1
  have hcat : (Value.ref T.heap.size).category = 1 := rfl
  have hcellA : T1.heap[T.heap.size]? = some (freshCell cX kX) := by rw [← hT1]; exact State.heap_pushCell_size _ _
  have d3' : decode c.code (pc + 3) = .ok (.dup, 1) := by rw [hb]; exact d3
  have d4' : decode c.code (pc + 4) = .ok (.ldc is, 2) := by rw [hb]; exact d4
  have hstr' : vk_R own is text sa s' := vk_R.warm hW0 hstr
  obtain ⟨U, hsteps, hrun, hend, hW, hsame, ce, hce, hO⟩ := X₁.ctorThrowS hexec htr (own := own) (cls := cls) (names := names) (ic := ic) hown' hcls hnames h (fun x hx => nomatch hx) hfX hkX hcellA (by rw [hhp, hT]; exact Nat.le_refl _) (msg := .ref sa) rfl
    (g := { method := m, pc := pc + 6, locals := ls, stack := .ref sa :: .ref T.heap.size :: .ref T.heap.size :: rest, locked := none }) rfl hsize rfl rfl (rest := rest) rfl
    (by rw [hb]; exact d6) (by rw [hb]; exact d9) hout hRframes (by simp only [List.map_cons, List.sum_cons, hcat]; omega) hlocks
  obtain ⟨f1, f2⟩ := vx_frame hsame
  rw [hhp] at f1 f2
  have hWs : s.WarmedH U.vm := State.WarmedH.trans hW0 hW
  have hcl : s.vm.findClass cls = some ce.cls := by
    have h9 := hO.cls
    rw [hvm] at h9
    exact h9
  have hall : s.sameButNew ({ U with vm := s.vm } : State) locs mc ms := by
    subst hA
    obtain ⟨e1, e2⟩ := hsame
    rw [State.setFrames_setFrames] at e1
    have h2 : (T.setVm s.vm).sameButNew ({ U with vm := s.vm } : State) [] (0 + 1) (0 + 6) := ⟨e1, e2⟩
    have h3 := X.same.trans h2
    rw [List.append_nil] at h3
    exact h3.mono hc hs
  refine ⟨U, ?_, .threw T.heap.size, hrun, hend, Or.inr ⟨T.heap.size, rfl, cls, ce, locs, hx U hWs.alike f1 (fun q hq => f2 q hq (fun z hz => nomatch hz)), hce, hO.vm, hcl, hWs, hall, hf⟩⟩
  refine st1 _ ?_
  show Steps p.tables e below (T1.setTop { method := m, pc := pc + 3, locals := ls, stack := .ref T.heap.size :: rest, locked := none }) _
  jvm_step X₁.here [X₁.here.top, hexec, d3', Value.category]
  exact X₁.ldcString hexec (own := own) (text := text) (index := is) (a := sa) hown' hstr'.1 hstr'.2
    (g := { method := m, pc := pc + 4, locals := ls, stack := .ref T.heap.size :: .ref T.heap.size :: rest, locked := none }) rfl d4' _ hsteps
/-- 'throw new E("text")', the text by a wide index -/
theorem vx_throwSW {cc : ByteArray} {pc : Nat} (hexec : p.tables.exec = Jvm.exec) (hb : c.code = cc) (hl : l.stackTraces = false) {own cls text : String} {names : List String} {ik is ic mc ms sa : Nat} {A : Nat → Prop}
    (hown : s.vm.findClass own = some m.cls) (hcls : Bundle.fit cls = true) (hnames : ∀ n ∈ names, Bundle.fit n = true)
    (hk : (Cond.classLink own ik cls).before args s = true) (hini : (Cond.initialized cls).before args s = true) (hstr : vk_R own is text sa s) (hat : ∀ w ∈ vx_atS own ic cls names, w.before args s = true)
    (hgood : ∀ w ∈ Cond.classLink own ik cls :: Cond.initialized cls :: vx_atS own ic cls names, vx_ot w = true)
    (hU : vx_Zq Bundle.tN "UNASSIGNED_STACK" Bundle.steD A s s.heap) (hN : vx_Zq Bundle.tN "SUPPRESSED_SENTINEL" Bundle.listD A s s.heap) (hS : va_S A s.heap H locs) (hsize : ls.size = c.maxLocals)
    (d0 : decode cc pc = .ok (.new ik, 3)) (d3 : decode cc (pc + 3) = .ok (.dup, 1)) (d4 : decode cc (pc + 4) = .ok (.ldc_w is, 3)) (d7 : decode cc (pc + 7) = .ok (.invokespecial ic, 3)) (d10 : decode cc (pc + 10) = .ok (.athrow, 1))
    (hout : ∀ x ∈ c.exceptionTable.toList, covers x (pc + 10) = false)
    (hRframes : names.length + 3 < R.frames) (hRlocals : (rest.map fun v => v.category).sum + (13 * (names.length + 1) + 43) ≤ R.locals) (hRcells : cells + 1 ≤ R.cells) (hRslots : slots + 6 ≤ R.slots) (hlocks : meth.locks = false)
    (hx : ∀ t : State, s.vm.Alike t.vm → H.size ≤ t.heap.size → (∀ q : Nat, q < H.size → t.heap[q]? = H[q]?) → XC cls s t)
    (hf : ∀ z ∈ locs, free z.base) (hc : cells + 1 ≤ mc) (hs : slots + 6 ≤ ms) :
    W p l e R s m args below meth c H locs cells slots (vx_MQ below Qc XC args s mc ms free) (F0 m pc ls rest) := by
  intro T hT X
  have htr : e.platform.stackTraces = false := (show e.platform.stackTraces = l.stackTraces by rw [X.admits.platform]).trans hl
  have Y := vx_rebase X (R' := { frames := R.frames, locals := R.locals, cells := 1, slots := 6 }) (Nat.le_refl _) (Nat.le_refl _) hRcells hRslots
  obtain ⟨s', hA⟩ : ∃ z, z = (T.setVm s.vm).setFrames (.invoking m args :: below) := ⟨_, rfl⟩
  rw [← hA] at Y
  have hvm : s'.vm = s.vm := by rw [hA]; rfl
  have hhp : s'.heap = H := by rw [hA]; exact hT
  have hW0 : s.WarmedH s'.vm := by rw [hvm]; exact State.WarmedH.refl s
  have hat' : ∀ w ∈ vx_atS own ic cls names, w.before args s' = true := fun w hw => vx_ot_at hW0 hvm.symm (hgood w (List.mem_cons_of_mem _ (List.mem_cons_of_mem _ hw))) (hat w hw)
  have hk' : (Cond.classLink own ik cls).before args s' = true := vx_ot_at hW0 hvm.symm (hgood _ List.mem_cons_self) hk
  have hini' : (Cond.initialized cls).before args s' = true := vx_ot_at hW0 hvm.symm (hgood _ (List.mem_cons_of_mem _ List.mem_cons_self)) hini
  have hU' : vx_Zq Bundle.tN "UNASSIGNED_STACK" Bundle.steD A s' s'.heap := by rw [hhp]; exact vx_Zq.moved hW0.alike (hU.kept hS.2.1)
  have hN' : vx_Zq Bundle.tN "SUPPRESSED_SENTINEL" Bundle.listD A s' s'.heap := by rw [hhp]; exact vx_Zq.moved hW0.alike (hN.kept hS.2.1)
  have h : ∀ w ∈ Bundle.ownAtoms own ic cls names, w.before args s' = true := vx_own hat' (vx_isRefq hU'.1) (vx_isRefq hN'.1) hU'.2.word hN'.2.word
  have hown' : s'.vm.findClass own = some m.cls := by rw [hvm]; exact hown
  have hins : (Cond.instantiable cls 6).before args s' = true := h _ (by simp [Bundle.ownAtoms])
  obtain ⟨vm₁, cX, kX, hfX, hkX, -, -, X₁, st1⟩ := Y.newCold hexec (own := own) (C := cls) (index := ik) (n := 6) hown' hk' hins hini'
    (g := F0 m pc ls rest) rfl (by rw [hb]; exact d0) (Nat.le_refl _) (Nat.le_refl _)
  generalize hT1 : (T.setVm vm₁).pushCell { cls := cX, slots := kX.instanceTypes.map defaultValue, vm := .none } = T1 at X₁ st1
  have hcat : (Value.ref T.heap.size).category = 1 := rfl
  have hcellA : T1.heap[T.heap.size]? = some (freshCell cX kX) := by rw [← hT1]; exact State.heap_pushCell_size _ _
  have d3' : decode c.code (pc + 3) = .ok (.dup, 1) := by rw [hb]; exact d3
  have d4' : decode c.code (pc + 4) = .ok (.ldc_w is, 3) := by rw [hb]; exact d4
  have hstr' : vk_R own is text sa s' := vk_R.warm hW0 hstr
  obtain ⟨U, hsteps, hrun, hend, hW, hsame, ce, hce, hO⟩ := X₁.ctorThrowS hexec htr (own := own) (cls := cls) (names := names) (ic := ic) hown' hcls hnames h (fun x hx => nomatch hx) hfX hkX hcellA (by rw [hhp, hT]; exact Nat.le_refl _) (msg := .ref sa) rfl
    (g := { method := m, pc := pc + 7, locals := ls, stack := .ref sa :: .ref T.heap.size :: .ref T.heap.size :: rest, locked := none }) rfl hsize rfl rfl (rest := rest) rfl
    (by rw [hb]; exact d7) (by rw [hb]; exact d10) hout hRframes (by simp only [List.map_cons, List.sum_cons, hcat]; omega) hlocks
  obtain ⟨f1, f2⟩ := vx_frame hsame
  rw [hhp] at f1 f2
  have hWs : s.WarmedH U.vm := State.WarmedH.trans hW0 hW
  have hcl : s.vm.findClass cls = some ce.cls := by
    have h9 := hO.cls
    rw [hvm] at h9
    exact h9
  have hall : s.sameButNew ({ U with vm := s.vm } : State) locs mc ms := by
    subst hA
    obtain ⟨e1, e2⟩ := hsame
    rw [State.setFrames_setFrames] at e1
    have h2 : (T.setVm s.vm).sameButNew ({ U with vm := s.vm } : State) [] (0 + 1) (0 + 6) := ⟨e1, e2⟩
    have h3 := X.same.trans h2
    rw [List.append_nil] at h3
    exact h3.mono hc hs
  refine ⟨U, ?_, .threw T.heap.size, hrun, hend, Or.inr ⟨T.heap.size, rfl, cls, ce, locs, hx U hWs.alike f1 (fun q hq => f2 q hq (fun z hz => nomatch hz)), hce, hO.vm, hcl, hWs, hall, hf⟩⟩
  refine st1 _ ?_
  show Steps p.tables e below (T1.setTop { method := m, pc := pc + 3, locals := ls, stack := .ref T.heap.size :: rest, locked := none }) _
  jvm_step X₁.here [X₁.here.top, hexec, d3', Value.category]
  exact X₁.ldcStringW hexec (own := own) (text := text) (index := is) (a := sa) hown' hstr'.1 hstr'.2
    (g := { method := m, pc := pc + 4, locals := ls, stack := .ref T.heap.size :: .ref T.heap.size :: rest, locked := none }) rfl d4' _ hsteps
end Ends
section Bodies
variable {l : Launch}
theorem vx_ofW {y : MethodName} {ws ws' : List Cond} {rm : Room} {Pc : Array Value → State → Prop} {Qc : Array Value → State → Outcome → State → Prop} {XC : String → State → State → Prop} {mc ms : Nat} {free : Addr → Prop} {cc : ByteArray} {maxL : Nat} {ret : Option FieldType}
    (hy : plainName y.cls = true) (hw : ws = Cond.code y cc maxL ret :: ws')
    (body : ∀ p e s m args below meth c s₁, BodyLoose p l y (headSpec ws rm) cc maxL ret e s m args below meth c s₁ → c.maxLocals = maxL → (∀ x ∈ c.exceptionTable.toList, False) → Pc args s →
      W p l e (headSpec ws rm).room s m args below meth c s.heap [] 0 0 (vx_MQ below Qc XC args s mc ms free) (entryFrame m args maxL)) : vx_Met l y ws rm Pc Qc XC mc ms free := by
  refine MetFree.of_bodyS (code := cc) (maxLocals := maxL) (ret := ret) hy ?_ ?_
  · intro args s m h hn
    obtain ⟨meth, c, h1, h2, h3, h4, h5, h6, -, -⟩ := Cond.code_spec hn (atoms_spec (ws := ws) h _ (by rw [hw]; exact List.mem_cons_self))
    exact ⟨meth, c, h1, h2, h3, h4, h5, h6⟩
  · intro p e s m args below meth c s₁ B hml hP _
    have hh0 : s₁.heap = s.heap := by rw [B.state]; rfl
    have ht : ∀ x ∈ c.exceptionTable.toList, False := by
      obtain ⟨meth9, c9, h1, h2, -, -, -, -, h7, -⟩ := Cond.code_spec B.named (atoms_spec (ws := ws) B.pre _ (by rw [hw]; exact List.mem_cons_self))
      cases Option.some.inj (h1.symm.trans B.method)
      cases Option.some.inj (h2.symm.trans (Stand.of_body B).code)
      intro x hx
      rw [Array.isEmpty_iff.mp h7] at hx
      cases hx
    obtain ⟨t, a1, o, b1, b2, b3⟩ := body p e s m args below meth c s₁ B hml ht hP s₁ hh0 (Stand.of_body B)
    exact ⟨t, o, a1, b1, b2, b3⟩
/-- the table of a body with handlers -/
theorem vx_table {p : Program} {x y : MethodName} {S : Spec} {cc bytes : ByteArray} {maxL maxL' : Nat} {ret ret' : Option FieldType} {e : Env} {s s₁ : State} {m : MethodId} {args : Array Value} {below : List Frame} {meth : Method} {c : Code} {hh : List (Nat × Nat × Nat × Nat)}
    (B : BodyLoose p l y S cc maxL ret e s m args below meth c s₁) (h : (Cond.codeWith y bytes maxL' ret' hh).before args s = true) : c.exceptionTable.toList = tableOf hh := by
  obtain ⟨m9, meth9, c9, hn9, h1, h2, -, -, h6, -⟩ := Cond.codeWith_spec h
  cases Option.some.inj (hn9.symm.trans B.named)
  cases Option.some.inj (h1.symm.trans B.method)
  cases Option.some.inj (h2.symm.trans (Stand.of_body B).code)
  rw [← h6, table_eq]
end Bodies
end VXA
/-! ===== END ===== -/
/-! ===== BEGIN a static call of a method with an exception table ===== -/
section VXS
variable {p : Program} {l : Launch} {e : Env} {R : Room} {s : State} {m : MethodId} {args : Array Value} {below : List Frame} {meth : Method} {c : Code} {T : State} {H : Heap} {locs : List Loc} {cells slots : Nat}
abbrev vx_CSW (R : Room) (s : State) (args : Array Value) (own : String) (index : Nat) (y : MethodName) (bytes : ByteArray) (maxL : Nat) (ret : Option FieldType) (hh : List (Nat × Nat × Nat × Nat)) (ws : List Cond) (rm : Room) (mc ms n : Nat) : Prop :=
  (rm.cells = mc ∧ rm.slots = ms ∧ rm.frames + 1 ≤ R.frames ∧ 8 + (maxL + 11) + rm.locals ≤ R.locals ∧ (∀ w ∈ ws, ∀ (a' : Array Value) (U : State), s.WarmedH U.vm → w.before a' U = true) ∧ Cond.codeWith y bytes maxL ret hh ∈ ws) ∧
  (Cond.codeWith y bytes maxL ret hh).before args s = true ∧ (Cond.initialized y.cls).before args s = true ∧ (y.cls ≠ "java/lang/invoke/MethodHandle" ∧ y.cls ≠ "java/lang/invoke/VarHandle") ∧
  (∀ sig, parseMethodDescriptor y.desc = some sig → n = sig.parameters.length) ∧ (Cond.methodLink own index y).before args s = true ∧ (Cond.static y).before args s = true
theorem vx_cwSW {own : String} {index maxL mc ms : Nat} {y : MethodName} {bytes : ByteArray} {ret : Option FieldType} {hh : List (Nat × Nat × Nat × Nat)} {Ts ws ws' : List Cond} {rm : Room} (n : Nat) (ht : ∀ w ∈ Ts, w.before args s = true) (hT : GoodIn Ts (va_wsS own index y ws)) (hw : ws = Cond.codeWith y bytes maxL ret hh :: ws') (hrc : rm.cells = mc) (hrs : rm.slots = ms)
    (hd : y.cls ≠ "java/lang/invoke/MethodHandle" ∧ y.cls ≠ "java/lang/invoke/VarHandle" ∧ (parseMethodDescriptor y.desc).map (fun d => d.parameters.length) = some n) (hR : rm.frames + 1 ≤ R.frames ∧ 8 + (maxL + 11) + rm.locals ≤ R.locals) :
    vx_CSW R s args own index y bytes maxL ret hh ws rm mc ms n := by
  have ok : ∀ w ∈ va_wsS own index y ws, w.before args s = true := fun w h => ht w (hT w h).1
  have hG : GoodIn Ts ws := fun w h => hT w (by unfold va_wsS; exact List.mem_append_right _ h)
  have hc : Cond.codeWith y bytes maxL ret hh ∈ ws := by rw [hw]; exact List.mem_cons_self
  refine ⟨⟨hrc, hrs, hR.1, hR.2, pay_in ht hG, hc⟩, ht _ (hG _ hc).1, ok _ (by simp [va_wsS]), ⟨hd.1, hd.2.1⟩, fun sig h => ?_, ok _ (by simp [va_wsS]), ok _ (by simp [va_wsS])⟩
  have h2 := hd.2.2
  rw [h] at h2
  exact (Option.some.inj h2).symm
theorem vx_callSW (X : Stand p l e R s m args below meth c T locs cells slots) (hexec : p.tables.exec = Jvm.exec) {own : String} {index : Nat} {y : MethodName} {bytes : ByteArray} {maxL : Nat} {ret : Option FieldType} {hh : List (Nat × Nat × Nat × Nat)}
    (hown : s.vm.findClass own = some m.cls) (hlink : (Cond.methodLink own index y).before args s = true) (hstat : (Cond.static y).before args s = true) (hinit : (Cond.initialized y.cls).before args s = true)
    (hcode : (Cond.codeWith y bytes maxL ret hh).before args s = true) (hy : y.cls ≠ "java/lang/invoke/MethodHandle" ∧ y.cls ≠ "java/lang/invoke/VarHandle")
    {W9 : Nat} {Pre : Pt → Array Value → Prop} {Post : Pt → Array Value → Option Value → Pt → Prop} (hK : Back l R p e below s args y 3 W9 Pre Post)
    {g : JFrame} (hg : g.method = m) (hsize : g.locals.size = c.maxLocals) {argsL rest : List Value} (hlen : ∀ sig, parseMethodDescriptor y.desc = some sig → argsL.length = sig.parameters.length)
    (hstack : g.stack = argsL.reverse ++ rest) (hW : 2 * g.monitorRoom + (rest.map fun v => v.category).sum ≤ W9) (hdg : decode c.code g.pc = .ok (.invokestatic index, 3))
    (hpre : ∀ vm₁, s.WarmedH vm₁ → Pre ⟨T.setVm vm₁, locs, cells, slots⟩ argsL.toArray) :
    ∃ (v : Option Value) (vm₁ : Vm) (B : Pt), s.WarmedH vm₁ ∧ Stand p l e R s m args below meth c B.U B.locs B.cells B.slots ∧ Post ⟨T.setVm vm₁, locs, cells, slots⟩ argsL.toArray v B ∧
      ∀ target, Steps p.tables e below (B.U.setTop { g with pc := g.pc + 3, stack := v.toList ++ rest }) target → Steps p.tables e below (T.setTop g) target := by
  obtain ⟨mk, methM, cM, hnamed, hmethM, -, -, -, -, -, -, hsigM⟩ := Cond.codeWith_spec hcode
  have hstatic : methM.isStatic = true := Cond.static_spec hnamed hmethM hstat
  obtain ⟨kP, hkP, -⟩ := className_of_methodNamed hnamed
  have hinitP : kP.init = .initialized := Cond.initialized_spec (findClass_of_methodNamed hnamed) hkP hinit
  obtain ⟨vm₁, X₁, hstep₁⟩ := X.invokestatic hexec hown hlink hnamed hmethM hstatic hkP hinitP hy (g := g) hg (argsL := argsL) (rest := rest) (hlen _ hsigM) hstack hdg
  obtain ⟨v, B, X', hpost, hsteps⟩ := hK m meth c ⟨T.setVm vm₁, locs, cells, slots⟩ { g with stack := rest } (.invokestatic index) mk argsL.toArray X₁ hg hsize hdg hW (X₁.named hnamed) (hpre vm₁ X₁.warmed)
  exact ⟨v, vm₁, B, X₁.warmed, X', hpost, fun target h => hstep₁ _ fun acts => by rw [doInvoke_state]; exact hsteps.trans h⟩
theorem vx_runSW {y : MethodName} {bytes cc : ByteArray} {maxL nL mc ms n index : Nat} {ret : Option FieldType} {hh : List (Nat × Nat × Nat × Nat)} {ws : List Cond} {rm : Room} {Pc : Array Value → State → Prop} {Qc : Array Value → State → Outcome → State → Prop} {free : Addr → Prop} {Ts : List Cond} {own : String} {As rest : List Value} {g : JFrame}
    (S : CallFix p m c cc nL s args Ts own) (hM : Met l y ws rm Pc Qc mc ms free) (cw : vx_CSW R s args own index y bytes maxL ret hh ws rm mc ms n) (hp : PreS s H Pc As)
    (hg : g.method = m) (hn : As.length = n) (hsize : g.locals.size = nL) (hstack : g.stack = As.reverse ++ rest) (hW : 2 * g.monitorRoom + (rest.map fun v => v.category).sum ≤ 8) (hdg : decode cc g.pc = .ok (.invokestatic index, 3)) (hf : cells + mc ≤ R.cells ∧ slots + ms ≤ R.slots) :
    va_Run p l e R s m args below meth c H locs cells slots mc ms g rest (Qc As.toArray) (free) := by
  obtain ⟨⟨hrc, hrs, hfr, hlo, hws, hcw⟩, hcode, hini, hy, hlen, hl, hstt⟩ := cw
  have hK : Back l R p e below s args y 3 8 (PreOf R mc ms Pc) (PostOf Qc mc ms free) := va_backW (hh := hh) (bytes := bytes) (maxL := maxL) (ret := ret) hM hp.1 hrc hrs hfr hlo hws hcw (fun a' U hW => word_at hW (Or.inl (by first | rfl | simp [Cond.onTables, Cond.keeps, Cond.steady])) hini)
  obtain ⟨hx, hb, hml, ho, -⟩ := S
  intro T hT X
  obtain ⟨v, vm₁, ⟨U', l2, c2, s2⟩, hW₁, X', ⟨g', mk, t, L, e1, e2, hq, h1, hL, h2, h3⟩, st⟩ := vx_callSW X hx (hh := hh) (bytes := bytes) (maxL := maxL) (ret := ret) ho hl hstt hini hcode hy hK hg (hsize.trans hml.symm) (argsL := As) (rest := rest) (fun sig h => hn.trans (hlen sig h)) hstack hW (by rw [hb]; exact hdg)
    (fun vm₁ hW₁ => ⟨hf.1, hf.2, hp.2 (T.setVm vm₁) hT hW₁⟩)
  dsimp only [Pt.U, Pt.locs, Pt.cells, Pt.slots] at X' e1 e2 h1 h2 h3 st
  subst h1; subst h2; subst h3
  exact ⟨v, (T.setVm vm₁).calling g' mk As.toArray, t, U', L, hT, X', hL, e1, e2, hq, st⟩
/-- not caught here, past rows that name other classes: it goes on to the caller -/
theorem vx_outP {p : Program} {l : Launch} {e : Env} {R : Room} {s : State} {m : MethodId} {args : Array Value} {below : List Frame} {meth : Method} {c : Code} {H : Heap} {locs : List Loc} {cells slots : Nat} {free : Addr → Prop} {ls : Array Slot} {rest : List Value} {Qc : Array Value → State → Outcome → State → Prop} {XC : String → State → State → Prop}
    {pc : Nat} {own E : String} {ce : Cell} {q : Addr} {mc ms : Nat} (hown : s.vm.findClass own = some m.cls) (hlocks : meth.locks = false)
    (hpass : ∀ z ∈ c.exceptionTable.toList, covers z pc = false ∨ (z.catchType ≠ 0 ∧ ∃ nm : String, (Cond.classLink own z.catchType nm).before args s = true ∧ va_Nc E nm s)) (hcell : H[q]? = some ce) (hv : ce.vm = .none) (hcl : s.vm.findClass E = some ce.cls)
    (hx : ∀ t : State, t.heap = H → s.vm.Alike t.vm → XC E s t) (hf : ∀ z ∈ locs, free z.base) (hc : cells ≤ mc) (hs : slots ≤ ms) :
    vx_W p l e R s m args below meth c H locs cells slots (vx_MQ below Qc XC args s mc ms free) (F0 m pc ls rest) q := by
  intro T hT X
  have hpl : e.platform.magicAccessors = ({} : Platform).magicAccessors := by rw [X.admits.platform]
  obtain ⟨vm', hW', X', st⟩ := X.outThrough hlocks q (g := F0 m pc ls rest) rfl rfl rfl (cell := ce) (by rw [hT]; exact hcell) (by rw [hv]; rfl)
    (by obtain ⟨k9, h9, -⟩ := Vm.findClass_spec hcl; exact ⟨k9, h9⟩) (fun z hz => by
      rcases hpass z hz with h | ⟨hz0, nm, hl1, hn1⟩
      · exact Or.inl h
      · obtain ⟨c6, hc6, hcl6⟩ := Cond.classLink_spec hown hl1 e.platform hpl
        obtain ⟨a8, b8, h1, h2, h3⟩ := hn1
        cases Option.some.inj (h1.symm.trans hcl)
        cases Option.some.inj (h2.symm.trans hc6)
        exact Or.inr ⟨hz0, _, hcl6, h3⟩)
  obtain ⟨g₀, hfr⟩ := X'.frames_eq
  have hcell9 : ((T.setVm vm').setFrames (.throwing q :: below)).heap[q]? = some ce := by
    show T.heap[q]? = some ce
    rw [hT]; exact hcell
  have hend : Ended ((T.setVm vm').setFrames (.throwing q :: below)) below (.threw q) := State.frames_setFrames _ (State.cur_lt_of_frames hfr)
  refine ⟨(T.setVm vm').setFrames (.throwing q :: below), ?_, .threw q, X'.here.running, hend, Or.inr ⟨q, rfl, E, ce, locs, hx _ hT (X'.ends _).1.alike, hcell9, hv, hcl, (X'.ends _).1, (X'.ends _).2.mono hc hs, hf⟩⟩
  rw [X.pushThrowing_eq]
  exact st
/-- a thing of a world lies in the heap -/
theorem vx_lt {D : va_G} {cl : List vw_C} {ws : va_W} {H1 : Heap} (h : va_P D cl ws H1) {k : Nat} {q : Nat × va_E} (hk : ws[k]? = some q) : q.1 < H1.size := (h k q hk).lt
end VXS
/-! ===== END ===== -/
/-! ===== BEGIN methods with a table of their own: called by a name, returning or throwing ===== -/
section VXH
/-! vx_backW, vx_callVX, vx_callSX, vx_callVW, vx_runVW, vx_runVX, vx_runSX, vx_ofWH follow the same proofs as their sisters above (Free/Laws.lean, Shelf42/LK1.lean); vx_outP calls Shelf42/NT130.lean (outThrough). -/
section
variable {l : Launch} {R : Room} {p : Program} {e : Env} {below : List Frame} {s : State} {sargs : Array Value} {y : MethodName} {len W9 : Nat}
theorem vx_backW {ws : List Cond} {rm : Room} {Pc : Array Value → State → Prop} {Qc : Array Value → State → Outcome → State → Prop} {XC : String → State → State → Prop} {mc ms : Nat} {free : Addr → Prop} {bytes : ByteArray} {maxL : Nat} {ret : Option FieldType} {hh : List (Nat × Nat × Nat × Nat)}
    (hM : vx_Met l y ws rm Pc Qc XC mc ms free) (hblind : FrameBlind Pc) (hrc : rm.cells = mc) (hrs : rm.slots = ms)
    (hframes : rm.frames + 1 ≤ R.frames) (hlocals : W9 + (maxL + 11) + rm.locals ≤ R.locals)
    (hws : ∀ w ∈ ws, ∀ a' U, s.WarmedH U.vm → w.before a' U = true) (hcode : Cond.codeWith y bytes maxL ret hh ∈ ws) (hinit : ∀ a' U, s.WarmedH U.vm → (Cond.initialized y.cls).before a' U = true) :
    vx_Back l R p e below s sargs y len W9 (PreOf R mc ms Pc) (PostOf Qc mc ms free) (vx_Post XC mc ms free) := by
  intro m meth c A g ig mk a X hg hsize hdg hW hn hp
  have h1 : (headSpec ws rm).pre.before a A.U = true := atoms_intro fun w hw => hws w hw _ _ X.warmed
  have h2 : (Cond.codeWith y bytes maxL ret hh).before a A.U = true := hws _ hcode _ _ X.warmed
  have h3 : (Cond.initialized y.cls).before a A.U = true := hinit _ _ X.warmed
  have h4 : A.cells + (headSpec ws rm).room.cells ≤ R.cells := by rw [show (headSpec ws rm).room.cells = mc from hrc]; exact hp.1
  have h5 : A.slots + (headSpec ws rm).room.slots ≤ R.slots := by rw [show (headSpec ws rm).room.slots = ms from hrs]; exact hp.2.1
  have hPc : Pc a (A.U.calling g mk a) := hblind _ _ _ _ hp.2.2
  obtain ⟨U, Ls, c0, s0⟩ := A
  dsimp only [Pt.U, Pt.locs, Pt.cells, Pt.slots] at h1 h2 h3 h4 h5 X hn hPc ⊢
  obtain ⟨m9, methY, cY, hn9, hmY, hcY, -, hlY, -⟩ := Cond.codeWith_spec h2
  cases Option.some.inj (hn9.symm.trans hn)
  obtain ⟨kY, hkY, -⟩ := className_of_methodNamed hn
  have hinitY : kY.init = .initialized := Cond.initialized_spec (findClass_of_methodNamed hn) hkY h3
  have h : At U g.method c below := by rw [hg]; exact X.here
  have hlocals9 : W9 + (maxL + 11) + (headSpec ws rm).room.locals ≤ R.locals := hlocals
  have happ : (headSpec ws rm).appliesLoose y e.platform (U.calling g mk a) = true :=
    Spec.appliesLoose_calling (g := g) h hdg hn hkY hinitY
      (X.room_calling (g := g) (R' := (headSpec ws rm).room) hsize hmY hcY hframes (by rw [hlY]; omega) h4 h5) h1
  obtain ⟨mid, hmid⟩ := h.above
  have hfr : (U.setTop g).frames = (.java g :: mid) ++ below := by rw [State.frames_setTop' g h.top, hmid]; rfl
  obtain ⟨o, s₂, hsteps, -, hend, hq⟩ := Steps.callFree hM p X.admits X.cas X.clock (acts := []) hfr happ hPc trivial
  have hq' : vx_Q Qc XC mc ms free a (U.calling g mk a) o s₂ := hq
  rw [State.frames_setTop' g h.top] at hend
  obtain ⟨g₀, hg0⟩ := Option.isSome_iff_exists.mp h.top
  obtain ⟨r, hr⟩ := State.topJava?_eq_some.mp hg0
  have hr' : (({ U with heap := s₂.heap, slotsUsed := s₂.slotsUsed } : State).setVm s₂.vm).frames = .java g₀ :: r := hr
  rcases hq' with ⟨hqc, L, hfe, hL⟩ | ⟨q, rfl, E, ce, L, hx, hce, hcv, hcl, hW₂, hsm, hL⟩
  · obtain ⟨⟨v, rfl⟩, hW₂, e2, q2, q3, q4, q5, q6⟩ := id hfe
    have e3 : s₂ = ({ (U.calling g mk a).setFrames s₂.frames with heap := s₂.heap, slotsUsed := s₂.slotsUsed } : State).setVm s₂.vm := by
      have : s₂ = ({ s₂ with vm := (U.calling g mk a).vm } : State).setVm s₂.vm := rfl
      rw [e2] at this
      exact this
    obtain ⟨c₂, i₂, len₂, hc₂, hd₂, hf₂⟩ := hend
    have hW' : U.WarmedH s₂.vm := hW₂
    have hcc : c₂ = c := by
      have h1 : s₂.code? g.method = U.code? g.method := by
        rw [State.code?_eq, State.code?_eq, hW'.alike.method?]
      exact Option.some.inj (hc₂.symm.trans (h1.trans h.code))
    subst hcc
    have hlen : len₂ = len := by rw [hdg] at hd₂; cases hd₂; rfl
    subst hlen
    have hs₂ : s₂ = (({ U with heap := s₂.heap, slotsUsed := s₂.slotsUsed } : State).setVm s₂.vm).setTop { g with pc := g.pc + len₂, stack := v.toList ++ g.stack } := by
      refine e3.trans ?_
      rw [hf₂, State.calling_eq h.top, State.setFrames_setFrames, State.setTop_of_frames _ hr', hr]
      rfl
    have hsame : U.sameButNew ({ U with heap := s₂.heap, slotsUsed := s₂.slotsUsed } : State) L mc ms := by
      refine ⟨?_, q2, q3, q4, q5, q6⟩
      obtain ⟨t, ht, -⟩ := State.frames_cons hr
      show ({ U with heap := s₂.heap, slotsUsed := s₂.slotsUsed } : State) = { U.setFrames U.frames with heap := s₂.heap, slotsUsed := s₂.slotsUsed }
      rw [State.setFrames_self ht]
    subst hg
    refine Or.inl ⟨v, ⟨(({ U with heap := s₂.heap, slotsUsed := s₂.slotsUsed } : State).setVm s₂.vm), Ls ++ L, c0 + mc, s0 + ms⟩,
      ⟨X.admits, X.cas, X.clock, X.frames, X.room, X.hears, X.method, X.code, (X.here.setHeapUsed s₂.heap s₂.slotsUsed).setVm hW'.alike, X.tail, State.WarmedH.trans X.warmed hW', X.limits, X.bytes, X.same.trans (hsame.setVm s.vm)⟩,
      ⟨g, mk, s₂, L, rfl, rfl, hqc, rfl, hL, rfl, rfl⟩, ?_⟩
    show Steps p.tables e below _ ((({ U with heap := s₂.heap, slotsUsed := s₂.slotsUsed } : State).setVm s₂.vm).setTop { g with pc := g.pc + len₂, stack := v.toList ++ g.stack })
    rw [← hs₂]
    exact hsteps
  · obtain ⟨e2, q2, q3, q4, q5, q6⟩ := id hsm
    have e3 : s₂ = ({ (U.calling g mk a).setFrames s₂.frames with heap := s₂.heap, slotsUsed := s₂.slotsUsed } : State).setVm s₂.vm := by
      have : s₂ = ({ s₂ with vm := (U.calling g mk a).vm } : State).setVm s₂.vm := rfl
      rw [e2] at this
      exact this
    have hf₂ : s₂.frames = .throwing q :: .java g :: U.frames.tail := hend
    have hW' : U.WarmedH s₂.vm := hW₂
    have hs₂ : s₂ = ((({ U with heap := s₂.heap, slotsUsed := s₂.slotsUsed } : State).setVm s₂.vm).setTop g).pushFrame (.throwing q) := by
      refine e3.trans ?_
      rw [hf₂, State.calling_eq h.top, State.setFrames_setFrames, State.pushFrame, State.frames_setTop _ hr', State.setTop_of_frames _ hr', State.setFrames_setFrames, hr]
      rfl
    have hsame : U.sameButNew ({ U with heap := s₂.heap, slotsUsed := s₂.slotsUsed } : State) L mc ms := by
      refine ⟨?_, q2, q3, q4, q5, q6⟩
      obtain ⟨t, ht, -⟩ := State.frames_cons hr
      show ({ U with heap := s₂.heap, slotsUsed := s₂.slotsUsed } : State) = { U.setFrames U.frames with heap := s₂.heap, slotsUsed := s₂.slotsUsed }
      rw [State.setFrames_self ht]
    subst hg
    refine Or.inr ⟨q, ⟨(({ U with heap := s₂.heap, slotsUsed := s₂.slotsUsed } : State).setVm s₂.vm), Ls ++ L, c0 + mc, s0 + ms⟩,
      ⟨X.admits, X.cas, X.clock, X.frames, X.room, X.hears, X.method, X.code, (X.here.setHeapUsed s₂.heap s₂.slotsUsed).setVm hW'.alike, X.tail, State.WarmedH.trans X.warmed hW', X.limits, X.bytes, X.same.trans (hsame.setVm s.vm)⟩,
      ⟨g, mk, s₂, L, E, ce, rfl, rfl, hx, hce, hcv, hcl, rfl, hL, rfl, rfl⟩, ?_⟩
    show Steps p.tables e below _ (((({ U with heap := s₂.heap, slotsUsed := s₂.slotsUsed } : State).setVm s₂.vm).setTop g).pushFrame (.throwing q))
    rw [← hs₂]
    exact hsteps
end
variable {p : Program} {l : Launch} {e : Env} {R : Room} {s : State} {m : MethodId} {args : Array Value} {below : List Frame} {meth : Method} {c : Code} {T : State} {H : Heap} {locs : List Loc} {cells slots : Nat}
theorem vx_callVX (X : Stand p l e R s m args below meth c T locs cells slots) (hexec : p.tables.exec = Jvm.exec) {own C : String} {index : Nat} {y : MethodName} {bytes : ByteArray} {maxL : Nat} {ret : Option FieldType} {hh : List (Nat × Nat × Nat × Nat)}
    (hown : s.vm.findClass own = some m.cls) (hlink : (Cond.methodLink own index y).before args s = true) (hinst : (Cond.instanceMethod y).before args s = true) (hsel : (Cond.selects C y y).before args s = true)
    (hcode : (Cond.codeWith y bytes maxL ret hh).before args s = true) (hy : y.cls ≠ "java/lang/invoke/MethodHandle" ∧ y.cls ≠ "java/lang/invoke/VarHandle")
    {W9 : Nat} {Pre : Pt → Array Value → Prop} {Post : Pt → Array Value → Option Value → Pt → Prop} {PostX : Pt → Array Value → Addr → Pt → Prop} (hK : vx_Back l R p e below s args y 3 W9 Pre Post PostX)
    {b : Addr} {cellB : Cell} (hcell : T.heap[b]? = some cellB) (hobj : cellB.vm.isStatics = false) (hcls : s.vm.findClass C = some cellB.cls)
    {g : JFrame} (hg : g.method = m) (hsize : g.locals.size = c.maxLocals) {argsL rest : List Value} (hlen : ∀ sig, parseMethodDescriptor y.desc = some sig → argsL.length = sig.parameters.length)
    (hstack : g.stack = argsL.reverse ++ .ref b :: rest) (hW : 2 * g.monitorRoom + (rest.map fun v => v.category).sum ≤ W9) (hdg : decode c.code g.pc = .ok (.invokevirtual index, 3))
    (hpre : ∀ vm₁, s.WarmedH vm₁ → Pre ⟨T.setVm vm₁, locs, cells, slots⟩ (Value.ref b :: argsL).toArray) :
    (∃ (v : Option Value) (vm₁ : Vm) (B : Pt), s.WarmedH vm₁ ∧ Stand p l e R s m args below meth c B.U B.locs B.cells B.slots ∧ Post ⟨T.setVm vm₁, locs, cells, slots⟩ (Value.ref b :: argsL).toArray v B ∧
      ∀ target, Steps p.tables e below (B.U.setTop { g with pc := g.pc + 3, stack := v.toList ++ rest }) target → Steps p.tables e below (T.setTop g) target) ∨
    (∃ (q : Addr) (vm₁ : Vm) (B : Pt), s.WarmedH vm₁ ∧ Stand p l e R s m args below meth c B.U B.locs B.cells B.slots ∧ PostX ⟨T.setVm vm₁, locs, cells, slots⟩ (Value.ref b :: argsL).toArray q B ∧
      Steps p.tables e below (T.setTop g) ((B.U.setTop { g with stack := rest }).pushFrame (.throwing q))) := by
  obtain ⟨mk, methM, hnamed, hmethM, hstM, habM⟩ := Cond.instanceMethod_spec hinst
  obtain ⟨m8, methM', cM, hn8, hmethM', -, -, -, -, -, -, hsigM⟩ := Cond.codeWith_spec hcode
  cases Option.some.inj (hn8.symm.trans hnamed)
  cases hmethM.symm.trans hmethM'
  obtain ⟨c2, r2, m2, q1, q2, q3, q4, kP, hkP, hkPi⟩ := Cond.selects_spec hsel
  cases hcls.symm.trans q1
  cases (State.methodFound?_of_named hnamed hy).symm.trans q2
  cases hnamed.symm.trans q3
  have hselP : selectMethod e.platform s.vm cellB.cls mk = .method mk := by rw [Launch.admits_selectMethod X.admits]; exact q4
  obtain ⟨vm₁, X₁, hstep₁⟩ := X.invokevirtual hexec hown hlink hnamed hmethM hstM hkP hkPi hy (a := b) (cell := cellB) hcell
    (fun z h => by rw [h] at hobj; cases hobj) hselP hmethM habM hkP hkPi (g := g) hg (argsL := argsL) (rest := rest) (hlen _ hsigM) hstack hdg
  rcases hK m meth c ⟨T.setVm vm₁, locs, cells, slots⟩ { g with stack := rest } (.invokevirtual index) mk (Value.ref b :: argsL).toArray X₁ hg hsize hdg hW (X₁.named hnamed) (hpre vm₁ X₁.warmed) with ⟨v, B, X', hpost, hsteps⟩ | ⟨q, B, X', hpost, hsteps⟩
  · exact Or.inl ⟨v, vm₁, B, X₁.warmed, X', hpost, fun target h => hstep₁ _ fun acts => by rw [doInvoke_state]; exact hsteps.trans h⟩
  · exact Or.inr ⟨q, vm₁, B, X₁.warmed, X', hpost, hstep₁ _ fun acts => by rw [doInvoke_state]; exact hsteps⟩
theorem vx_callSX (X : Stand p l e R s m args below meth c T locs cells slots) (hexec : p.tables.exec = Jvm.exec) {own : String} {index : Nat} {y : MethodName} {bytes : ByteArray} {maxL : Nat} {ret : Option FieldType} {hh : List (Nat × Nat × Nat × Nat)}
    (hown : s.vm.findClass own = some m.cls) (hlink : (Cond.methodLink own index y).before args s = true) (hstat : (Cond.static y).before args s = true) (hinit : (Cond.initialized y.cls).before args s = true)
    (hcode : (Cond.codeWith y bytes maxL ret hh).before args s = true) (hy : y.cls ≠ "java/lang/invoke/MethodHandle" ∧ y.cls ≠ "java/lang/invoke/VarHandle")
    {W9 : Nat} {Pre : Pt → Array Value → Prop} {Post : Pt → Array Value → Option Value → Pt → Prop} {PostX : Pt → Array Value → Addr → Pt → Prop} (hK : vx_Back l R p e below s args y 3 W9 Pre Post PostX)
    {g : JFrame} (hg : g.method = m) (hsize : g.locals.size = c.maxLocals) {argsL rest : List Value} (hlen : ∀ sig, parseMethodDescriptor y.desc = some sig → argsL.length = sig.parameters.length)
    (hstack : g.stack = argsL.reverse ++ rest) (hW : 2 * g.monitorRoom + (rest.map fun v => v.category).sum ≤ W9) (hdg : decode c.code g.pc = .ok (.invokestatic index, 3))
    (hpre : ∀ vm₁, s.WarmedH vm₁ → Pre ⟨T.setVm vm₁, locs, cells, slots⟩ argsL.toArray) :
    (∃ (v : Option Value) (vm₁ : Vm) (B : Pt), s.WarmedH vm₁ ∧ Stand p l e R s m args below meth c B.U B.locs B.cells B.slots ∧ Post ⟨T.setVm vm₁, locs, cells, slots⟩ argsL.toArray v B ∧
      ∀ target, Steps p.tables e below (B.U.setTop { g with pc := g.pc + 3, stack := v.toList ++ rest }) target → Steps p.tables e below (T.setTop g) target) ∨
    (∃ (q : Addr) (vm₁ : Vm) (B : Pt), s.WarmedH vm₁ ∧ Stand p l e R s m args below meth c B.U B.locs B.cells B.slots ∧ PostX ⟨T.setVm vm₁, locs, cells, slots⟩ argsL.toArray q B ∧
      Steps p.tables e below (T.setTop g) ((B.U.setTop { g with stack := rest }).pushFrame (.throwing q))) := by
  obtain ⟨mk, methM, cM, hnamed, hmethM, -, -, -, -, -, -, hsigM⟩ := Cond.codeWith_spec hcode
  have hstatic : methM.isStatic = true := Cond.static_spec hnamed hmethM hstat
  obtain ⟨kP, hkP, -⟩ := className_of_methodNamed hnamed
  have hinitP : kP.init = .initialized := Cond.initialized_spec (findClass_of_methodNamed hnamed) hkP hinit
  obtain ⟨vm₁, X₁, hstep₁⟩ := X.invokestatic hexec hown hlink hnamed hmethM hstatic hkP hinitP hy (g := g) hg (argsL := argsL) (rest := rest) (hlen _ hsigM) hstack hdg
  rcases hK m meth c ⟨T.setVm vm₁, locs, cells, slots⟩ { g with stack := rest } (.invokestatic index) mk argsL.toArray X₁ hg hsize hdg hW (X₁.named hnamed) (hpre vm₁ X₁.warmed) with ⟨v, B, X', hpost, hsteps⟩ | ⟨q, B, X', hpost, hsteps⟩
  · exact Or.inl ⟨v, vm₁, B, X₁.warmed, X', hpost, fun target h => hstep₁ _ fun acts => by rw [doInvoke_state]; exact hsteps.trans h⟩
  · exact Or.inr ⟨q, vm₁, B, X₁.warmed, X', hpost, hstep₁ _ fun acts => by rw [doInvoke_state]; exact hsteps⟩
theorem vx_callVW (X : Stand p l e R s m args below meth c T locs cells slots) (hexec : p.tables.exec = Jvm.exec) {own C : String} {index : Nat} {y : MethodName} {bytes : ByteArray} {maxL : Nat} {ret : Option FieldType} {hh : List (Nat × Nat × Nat × Nat)}
    (hown : s.vm.findClass own = some m.cls) (hlink : (Cond.methodLink own index y).before args s = true) (hinst : (Cond.instanceMethod y).before args s = true) (hsel : (Cond.selects C y y).before args s = true)
    (hcode : (Cond.codeWith y bytes maxL ret hh).before args s = true) (hy : y.cls ≠ "java/lang/invoke/MethodHandle" ∧ y.cls ≠ "java/lang/invoke/VarHandle")
    {W9 : Nat} {Pre : Pt → Array Value → Prop} {Post : Pt → Array Value → Option Value → Pt → Prop} (hK : Back l R p e below s args y 3 W9 Pre Post)
    {b : Addr} {cellB : Cell} (hcell : T.heap[b]? = some cellB) (hobj : cellB.vm.isStatics = false) (hcls : s.vm.findClass C = some cellB.cls)
    {g : JFrame} (hg : g.method = m) (hsize : g.locals.size = c.maxLocals) {argsL rest : List Value} (hlen : ∀ sig, parseMethodDescriptor y.desc = some sig → argsL.length = sig.parameters.length)
    (hstack : g.stack = argsL.reverse ++ .ref b :: rest) (hW : 2 * g.monitorRoom + (rest.map fun v => v.category).sum ≤ W9) (hdg : decode c.code g.pc = .ok (.invokevirtual index, 3))
    (hpre : ∀ vm₁, s.WarmedH vm₁ → Pre ⟨T.setVm vm₁, locs, cells, slots⟩ (Value.ref b :: argsL).toArray) :
    ∃ (v : Option Value) (vm₁ : Vm) (B : Pt), s.WarmedH vm₁ ∧ Stand p l e R s m args below meth c B.U B.locs B.cells B.slots ∧ Post ⟨T.setVm vm₁, locs, cells, slots⟩ (Value.ref b :: argsL).toArray v B ∧
      ∀ target, Steps p.tables e below (B.U.setTop { g with pc := g.pc + 3, stack := v.toList ++ rest }) target → Steps p.tables e below (T.setTop g) target := by
  obtain ⟨mk, methM, hnamed, hmethM, hstM, habM⟩ := Cond.instanceMethod_spec hinst
  obtain ⟨m8, methM', cM, hn8, hmethM', -, -, -, -, -, -, hsigM⟩ := Cond.codeWith_spec hcode
  cases Option.some.inj (hn8.symm.trans hnamed)
  cases hmethM.symm.trans hmethM'
  obtain ⟨c2, r2, m2, q1, q2, q3, q4, kP, hkP, hkPi⟩ := Cond.selects_spec hsel
  cases hcls.symm.trans q1
  cases (State.methodFound?_of_named hnamed hy).symm.trans q2
  cases hnamed.symm.trans q3
  have hselP : selectMethod e.platform s.vm cellB.cls mk = .method mk := by rw [Launch.admits_selectMethod X.admits]; exact q4
  obtain ⟨vm₁, X₁, hstep₁⟩ := X.invokevirtual hexec hown hlink hnamed hmethM hstM hkP hkPi hy (a := b) (cell := cellB) hcell
    (fun z h => by rw [h] at hobj; cases hobj) hselP hmethM habM hkP hkPi (g := g) hg (argsL := argsL) (rest := rest) (hlen _ hsigM) hstack hdg
  obtain ⟨v, B, X', hpost, hsteps⟩ := hK m meth c ⟨T.setVm vm₁, locs, cells, slots⟩ { g with stack := rest } (.invokevirtual index) mk (Value.ref b :: argsL).toArray X₁ hg hsize hdg hW (X₁.named hnamed) (hpre vm₁ X₁.warmed)
  exact ⟨v, vm₁, B, X₁.warmed, X', hpost, fun target h => hstep₁ _ fun acts => by rw [doInvoke_state]; exact hsteps.trans h⟩
abbrev vx_CVW (R : Room) (s : State) (args : Array Value) (own C : String) (index : Nat) (y : MethodName) (bytes : ByteArray) (maxL : Nat) (ret : Option FieldType) (hh : List (Nat × Nat × Nat × Nat)) (ws : List Cond) (rm : Room) (mc ms n : Nat) : Prop :=
  (rm.cells = mc ∧ rm.slots = ms ∧ rm.frames + 1 ≤ R.frames ∧ 8 + (maxL + 11) + rm.locals ≤ R.locals ∧ (∀ w ∈ ws, ∀ (a' : Array Value) (U : State), s.WarmedH U.vm → w.before a' U = true) ∧ Cond.codeWith y bytes maxL ret hh ∈ ws) ∧
  (Cond.codeWith y bytes maxL ret hh).before args s = true ∧ (Cond.initialized y.cls).before args s = true ∧ (y.cls ≠ "java/lang/invoke/MethodHandle" ∧ y.cls ≠ "java/lang/invoke/VarHandle") ∧
  (∀ sig, parseMethodDescriptor y.desc = some sig → n = sig.parameters.length) ∧ (Cond.methodLink own index y).before args s = true ∧ (Cond.instanceMethod y).before args s = true ∧ (Cond.selects C y y).before args s = true
theorem vx_cwVW {own C : String} {index maxL mc ms : Nat} {y : MethodName} {bytes : ByteArray} {ret : Option FieldType} {hh : List (Nat × Nat × Nat × Nat)} {Ts ws ws' : List Cond} {rm : Room} (n : Nat) (ht : ∀ w ∈ Ts, w.before args s = true) (hT : GoodIn Ts (wsV own index C y ws)) (hw : ws = Cond.codeWith y bytes maxL ret hh :: ws') (hrc : rm.cells = mc) (hrs : rm.slots = ms)
    (hd : y.cls = C ∧ y.cls ≠ "java/lang/invoke/MethodHandle" ∧ y.cls ≠ "java/lang/invoke/VarHandle" ∧ (parseMethodDescriptor y.desc).map (fun d => d.parameters.length) = some n) (hR : rm.frames + 1 ≤ R.frames ∧ 8 + (maxL + 11) + rm.locals ≤ R.locals) :
    vx_CVW R s args own C index y bytes maxL ret hh ws rm mc ms n := by
  obtain ⟨hC, hd⟩ := hd
  subst hC
  have ok : ∀ w ∈ wsV own index y.cls y ws, w.before args s = true := fun w h => ht w (hT w h).1
  have hG : GoodIn Ts ws := fun w h => hT w (by unfold wsV; exact List.mem_append_right _ h)
  have hc : Cond.codeWith y bytes maxL ret hh ∈ ws := by rw [hw]; exact List.mem_cons_self
  refine ⟨⟨hrc, hrs, hR.1, hR.2, pay_in ht hG, hc⟩, ht _ (hG _ hc).1, ok _ (by simp [wsV]), ⟨hd.1, hd.2.1⟩, fun sig h => ?_, ok _ (by simp [wsV]), ok _ (by simp [wsV]), ok _ (by simp [wsV])⟩
  have h2 := hd.2.2
  rw [h] at h2
  exact (Option.some.inj h2).symm
theorem vx_runVW {y : MethodName} {bytes cc : ByteArray} {maxL nL mc ms n index : Nat} {ret : Option FieldType} {hh : List (Nat × Nat × Nat × Nat)} {ws : List Cond} {rm : Room} {Pc : Array Value → State → Prop} {Qc : Array Value → State → Outcome → State → Prop} {free : Addr → Prop} {Ts : List Cond} {own C : String} {b : Addr} {As rest : List Value} {g : JFrame}
    (S : CallFix p m c cc nL s args Ts own) (hM : Met l y ws rm Pc Qc mc ms free) (cw : vx_CVW R s args own C index y bytes maxL ret hh ws rm mc ms n) (hp : PreV s H C b Pc As)
    (hg : g.method = m) (hn : As.length = n) (hsize : g.locals.size = nL) (hstack : g.stack = As.reverse ++ .ref b :: rest) (hW : 2 * g.monitorRoom + (rest.map fun v => v.category).sum ≤ 8) (hdg : decode cc g.pc = .ok (.invokevirtual index, 3)) (hf : cells + mc ≤ R.cells ∧ slots + ms ≤ R.slots) :
    va_Run p l e R s m args below meth c H locs cells slots mc ms g rest (Qc (Value.ref b :: As).toArray) free := by
  obtain ⟨⟨hrc, hrs, hfr, hlo, hws, hcw⟩, hcode, hini, hy, hlen, hl, hin, hse⟩ := cw
  have hK : Back l R p e below s args y 3 8 (PreOf R mc ms Pc) (PostOf Qc mc ms free) := va_backW (hh := hh) (bytes := bytes) (maxL := maxL) (ret := ret) hM hp.1 hrc hrs hfr hlo hws hcw (fun a' U hW => word_at hW (Or.inl (by first | rfl | simp [Cond.onTables, Cond.keeps, Cond.steady])) hini)
  obtain ⟨hx, hb, hml, ho, -⟩ := S
  obtain ⟨-, ⟨cellB, hcB, hoB, hclB⟩, hPc⟩ := hp
  intro T hT X
  obtain ⟨v, vm₁, ⟨U', l2, c2, s2⟩, hW₁, X', ⟨g', mk, t, L, e1, e2, hq, h1, hL, h2, h3⟩, st⟩ := vx_callVW X hx (C := C) (hh := hh) (bytes := bytes) (maxL := maxL) (ret := ret) ho hl hin hse hcode hy hK (by rw [hT]; exact hcB) hoB hclB hg (hsize.trans hml.symm) (argsL := As) (rest := rest) (fun sig h => hn.trans (hlen sig h)) hstack hW (by rw [hb]; exact hdg)
    (fun vm₁ hW₁ => ⟨hf.1, hf.2, hPc (T.setVm vm₁) hT hW₁⟩)
  dsimp only [Pt.U, Pt.locs, Pt.cells, Pt.slots] at X' e1 e2 h1 h2 h3 st
  subst h1; subst h2; subst h3
  exact ⟨v, (T.setVm vm₁).calling g' mk (Value.ref b :: As).toArray, t, U', L, hT, X', hL, e1, e2, hq, st⟩
section
variable {y : MethodName} {bytes cc : ByteArray} {maxL nL mc ms n index : Nat} {ret : Option FieldType} {ws : List Cond} {rm : Room} {Pc : Array Value → State → Prop} {Qc : Array Value → State → Outcome → State → Prop} {XC : String → State → State → Prop} {free : Addr → Prop} {Ts : List Cond} {own C : String} {b : Addr} {As rest : List Value} {g : JFrame}
theorem vx_runVX {hh : List (Nat × Nat × Nat × Nat)} (S : CallFix p m c cc nL s args Ts own) (hM : vx_Met l y ws rm Pc Qc XC mc ms free) (cw : vx_CVW R s args own C index y bytes maxL ret hh ws rm mc ms n) (hp : PreV s H C b Pc As)
    (hg : g.method = m) (hn : As.length = n) (hsize : g.locals.size = nL) (hstack : g.stack = As.reverse ++ .ref b :: rest) (hW : 2 * g.monitorRoom + (rest.map fun v => v.category).sum ≤ 8) (hdg : decode cc g.pc = .ok (.invokevirtual index, 3)) (hf : cells + mc ≤ R.cells ∧ slots + ms ≤ R.slots) :
    vx_Run p l e R s m args below meth c H locs cells slots mc ms g rest (Qc (Value.ref b :: As).toArray) XC free := by
  obtain ⟨⟨hrc, hrs, hfr, hlo, hws, hcw⟩, hcode, hini, hy, hlen, hl, hin, hse⟩ := cw
  have hK : vx_Back l R p e below s args y 3 8 (PreOf R mc ms Pc) (PostOf Qc mc ms free) (vx_Post XC mc ms free) := vx_backW (hh := hh) (bytes := bytes) (maxL := maxL) (ret := ret) hM hp.1 hrc hrs hfr hlo hws hcw (fun a' U hW => word_at hW (Or.inl (by first | rfl | simp [Cond.onTables, Cond.keeps, Cond.steady])) hini)
  obtain ⟨hx, hb, hml, ho, -⟩ := S
  obtain ⟨-, ⟨cellB, hcB, hoB, hclB⟩, hPc⟩ := hp
  intro T hT X
  rcases vx_callVX X hx (C := C) (hh := hh) (bytes := bytes) (maxL := maxL) (ret := ret) ho hl hin hse hcode hy hK (by rw [hT]; exact hcB) hoB hclB hg (hsize.trans hml.symm) (argsL := As) (rest := rest) (fun sig h => hn.trans (hlen sig h)) hstack hW (by rw [hb]; exact hdg)
    (fun vm₁ hW₁ => ⟨hf.1, hf.2, hPc (T.setVm vm₁) hT hW₁⟩) with ⟨v, vm₁, ⟨U', l2, c2, s2⟩, hW₁, X', ⟨g', mk, t, L, e1, e2, hq, h1, hL, h2, h3⟩, st⟩ | ⟨q, vm₁, ⟨U', l2, c2, s2⟩, hW₁, X', ⟨g', mk, t, L, E, ce, e1, e2, hq, hce, hcv, hcl, h1, hL, h2, h3⟩, st⟩
  · dsimp only [Pt.U, Pt.locs, Pt.cells, Pt.slots] at X' e1 e2 h1 h2 h3 st
    subst h1; subst h2; subst h3
    exact Or.inl ⟨v, (T.setVm vm₁).calling g' mk (Value.ref b :: As).toArray, t, U', L, hT, X', hL, e1, e2, hq, st⟩
  · dsimp only [Pt.U, Pt.locs, Pt.cells, Pt.slots] at X' e1 e2 h1 h2 h3 st hcl
    subst h1; subst h2; subst h3
    exact Or.inr ⟨q, (T.setVm vm₁).calling g' mk (Value.ref b :: As).toArray, t, U', L, E, ce, hT, X', hL, e1, e2, hq, hce, hcv, vx_cls hW₁ hcl, st⟩
theorem vx_runSX {hh : List (Nat × Nat × Nat × Nat)} (S : CallFix p m c cc nL s args Ts own) (hM : vx_Met l y ws rm Pc Qc XC mc ms free) (cw : vx_CSW R s args own index y bytes maxL ret hh ws rm mc ms n) (hp : PreS s H Pc As)
    (hg : g.method = m) (hn : As.length = n) (hsize : g.locals.size = nL) (hstack : g.stack = As.reverse ++ rest) (hW : 2 * g.monitorRoom + (rest.map fun v => v.category).sum ≤ 8) (hdg : decode cc g.pc = .ok (.invokestatic index, 3)) (hf : cells + mc ≤ R.cells ∧ slots + ms ≤ R.slots) :
    vx_Run p l e R s m args below meth c H locs cells slots mc ms g rest (Qc As.toArray) XC free := by
  obtain ⟨⟨hrc, hrs, hfr, hlo, hws, hcw⟩, hcode, hini, hy, hlen, hl, hstt⟩ := cw
  have hK : vx_Back l R p e below s args y 3 8 (PreOf R mc ms Pc) (PostOf Qc mc ms free) (vx_Post XC mc ms free) := vx_backW (hh := hh) (bytes := bytes) (maxL := maxL) (ret := ret) hM hp.1 hrc hrs hfr hlo hws hcw (fun a' U hW => word_at hW (Or.inl (by first | rfl | simp [Cond.onTables, Cond.keeps, Cond.steady])) hini)
  obtain ⟨hx, hb, hml, ho, -⟩ := S
  intro T hT X
  rcases vx_callSX X hx (hh := hh) (bytes := bytes) (maxL := maxL) (ret := ret) ho hl hstt hini hcode hy hK hg (hsize.trans hml.symm) (argsL := As) (rest := rest) (fun sig h => hn.trans (hlen sig h)) hstack hW (by rw [hb]; exact hdg)
    (fun vm₁ hW₁ => ⟨hf.1, hf.2, hp.2 (T.setVm vm₁) hT hW₁⟩) with ⟨v, vm₁, ⟨U', l2, c2, s2⟩, hW₁, X', ⟨g', mk, t, L, e1, e2, hq, h1, hL, h2, h3⟩, st⟩ | ⟨q, vm₁, ⟨U', l2, c2, s2⟩, hW₁, X', ⟨g', mk, t, L, E, ce, e1, e2, hq, hce, hcv, hcl, h1, hL, h2, h3⟩, st⟩
  · dsimp only [Pt.U, Pt.locs, Pt.cells, Pt.slots] at X' e1 e2 h1 h2 h3 st
    subst h1; subst h2; subst h3
    exact Or.inl ⟨v, (T.setVm vm₁).calling g' mk As.toArray, t, U', L, hT, X', hL, e1, e2, hq, st⟩
  · dsimp only [Pt.U, Pt.locs, Pt.cells, Pt.slots] at X' e1 e2 h1 h2 h3 st hcl
    subst h1; subst h2; subst h3
    exact Or.inr ⟨q, (T.setVm vm₁).calling g' mk As.toArray, t, U', L, E, ce, hT, X', hL, e1, e2, hq, hce, hcv, vx_cls hW₁ hcl, st⟩
end
end VXH
theorem vx_ofWH {l : Launch} {y : MethodName} {ws ws' : List Cond} {rm : Room} {Pc : Array Value → State → Prop} {Qc : Array Value → State → Outcome → State → Prop} {XC : String → State → State → Prop} {mc ms : Nat} {free : Addr → Prop} {cc : ByteArray} {maxL : Nat} {ret : Option FieldType} {hh : List (Nat × Nat × Nat × Nat)}
    (hy : plainName y.cls = true) (hw : ws = Cond.codeWith y cc maxL ret hh :: ws')
    (body : ∀ p e s m args below meth c s₁, BodyLoose p l y (headSpec ws rm) cc maxL ret e s m args below meth c s₁ → c.maxLocals = maxL → Pc args s →
      W p l e (headSpec ws rm).room s m args below meth c s.heap [] 0 0 (vx_MQ below Qc XC args s mc ms free) (entryFrame m args maxL)) : vx_Met l y ws rm Pc Qc XC mc ms free := by
  refine MetFree.of_bodyS (code := cc) (maxLocals := maxL) (ret := ret) hy ?_ ?_
  · intro args s m h hn
    obtain ⟨m9, meth, c, hn9, h1, h2, h3, h4, -, h5, h6, -⟩ := Cond.codeWith_spec (atoms_spec (ws := ws) h _ (by rw [hw]; exact List.mem_cons_self))
    cases hn.symm.trans hn9
    exact ⟨meth, c, h1, h2, h3, h4, h5, h6⟩
  · intro p e s m args below meth c s₁ B hml hP _
    have hh0 : s₁.heap = s.heap := by rw [B.state]; rfl
    obtain ⟨t, a1, o, b1, b2, b3⟩ := body p e s m args below meth c s₁ B hml hP s₁ hh0 (Stand.of_body B)
    exact ⟨t, o, a1, b1, b2, b3⟩
/-! ===== END ===== -/

def RX0 : String := "Scripthouse$Budget"
def TX0 : u_T := fun k => match k with
  | 0 => ("Scripthouse$Budget", "lines", "[I", true)
  | 1 => ("Scripthouse$Budget", "fee", "I", false)
  | 2 => ("Scripthouse$Budget", "costs", "I", false)
  | _ => ("Scripthouse$Budget", "unreturned", "I", false)
def tyX0 : Nat → FieldType := fun k => match k with
  | 0 => .array .int
  | 1 => .int
  | 2 => .int
  | _ => .int
abbrev wsX00 : List Cond := u_ws RX0 TX0 4
theorem nmX0 : ∀ a, a < 4 → ∀ b, b < 4 → a ≠ b → (TX0 a).2.1 ≠ (TX0 b).2.1 := by decide +kernel
theorem tyX0_ok : ∀ k, k < 4 → parseFieldDescriptor (TX0 k).2.2.1 = some (tyX0 k) := by decide +kernel
abbrev cX0_init : ByteArray := prog_2_method_1_code
def yX0_init : MethodName := ⟨RX0, "<init>", "()V"⟩
abbrev cX0_lackOf : ByteArray := prog_2_method_2_code
def yX0_lackOf : MethodName := ⟨RX0, "lackOf", "(II)I"⟩
abbrev cX0_pay : ByteArray := prog_2_method_3_code
def yX0_pay : MethodName := ⟨RX0, "pay", "(II)I"⟩
abbrev cX0_payBack : ByteArray := prog_2_method_4_code
def yX0_payBack : MethodName := ⟨RX0, "payBack", "(I)I"⟩
def RX1 : String := "Scripthouse$Layers"
def TX1 : u_T := fun k => match k with
  | 0 => ("Scripthouse$Layers", "lenders", "[I", true)
  | 1 => ("Scripthouse$Layers", "loanOpen", "[I", true)
  | 2 => ("Scripthouse$Layers", "wholes", "[I", true)
  | 3 => ("Scripthouse$Layers", "holders", "[I", true)
  | 4 => ("Scripthouse$Layers", "percents", "[I", true)
  | 5 => ("Scripthouse$Layers", "shares", "[I", true)
  | 6 => ("Scripthouse$Layers", "gains", "[I", true)
  | 7 => ("Scripthouse$Layers", "loans", "I", false)
  | 8 => ("Scripthouse$Layers", "parts", "I", false)
  | _ => ("Scripthouse$Layers", "houseGain", "I", false)
def tyX1 : Nat → FieldType := fun k => match k with
  | 0 => .array .int
  | 1 => .array .int
  | 2 => .array .int
  | 3 => .array .int
  | 4 => .array .int
  | 5 => .array .int
  | 6 => .array .int
  | 7 => .int
  | 8 => .int
  | _ => .int
abbrev wsX10 : List Cond := u_ws RX1 TX1 10
theorem nmX1 : ∀ a, a < 10 → ∀ b, b < 10 → a ≠ b → (TX1 a).2.1 ≠ (TX1 b).2.1 := by decide +kernel
theorem tyX1_ok : ∀ k, k < 10 → parseFieldDescriptor (TX1 k).2.2.1 = some (tyX1 k) := by decide +kernel
abbrev cX1_init : ByteArray := prog_3_method_1_code
def yX1_init : MethodName := ⟨RX1, "<init>", "()V"⟩
abbrev cX1_appendLoan : ByteArray := prog_3_method_2_code
def yX1_appendLoan : MethodName := ⟨RX1, "appendLoan", "(II)I"⟩
abbrev cX1_appendPart : ByteArray := prog_3_method_3_code
def yX1_appendPart : MethodName := ⟨RX1, "appendPart", "(III)I"⟩
abbrev cX1_percentOf : ByteArray := prog_3_method_4_code
def yX1_percentOf : MethodName := ⟨RX1, "percentOf", "(I)I"⟩
abbrev cX1_payBackLoans : ByteArray := prog_3_method_5_code
def yX1_payBackLoans : MethodName := ⟨RX1, "payBackLoans", "(I)I"⟩
abbrev cX1_share : ByteArray := prog_3_method_6_code
def yX1_share : MethodName := ⟨RX1, "share", "(I)V"⟩
def RX2 : String := "Scripthouse$Planner"
def TX2 : u_T := fun k => match k with
  | 0 => ("Scripthouse$Planner", "scenes", "LScripthouse$Scenes;", true)
  | 1 => ("Scripthouse$Planner", "order", "[I", true)
  | 2 => ("Scripthouse$Planner", "begin", "[I", true)
  | 3 => ("Scripthouse$Planner", "bestOrder", "[I", true)
  | 4 => ("Scripthouse$Planner", "bestBegin", "[I", true)
  | 5 => ("Scripthouse$Planner", "bestDays", "I", false)
  | 6 => ("Scripthouse$Planner", "today", "I", false)
  | _ => ("Scripthouse$Planner", "isMade", "Z", false)
def tyX2 : Nat → FieldType := fun k => match k with
  | 0 => .object "Scripthouse$Scenes"
  | 1 => .array .int
  | 2 => .array .int
  | 3 => .array .int
  | 4 => .array .int
  | 5 => .int
  | 6 => .int
  | _ => .boolean
abbrev wsX20 : List Cond := u_ws RX2 TX2 8
theorem nmX2 : ∀ a, a < 8 → ∀ b, b < 8 → a ≠ b → (TX2 a).2.1 ≠ (TX2 b).2.1 := by decide +kernel
theorem tyX2_ok : ∀ k, k < 8 → parseFieldDescriptor (TX2 k).2.2.1 = some (tyX2 k) := by decide +kernel
abbrev cX2_init : ByteArray := prog_4_method_1_code
def yX2_init : MethodName := ⟨RX2, "<init>", "()V"⟩
abbrev cX2_forget : ByteArray := prog_4_method_2_code
def yX2_forget : MethodName := ⟨RX2, "forget", "()V"⟩
abbrev cX2_makePlan : ByteArray := prog_4_method_3_code
def yX2_makePlan : MethodName := ⟨RX2, "makePlan", "()V"⟩
abbrev cX2_fewestDays : ByteArray := prog_4_method_4_code
def yX2_fewestDays : MethodName := ⟨RX2, "fewestDays", "()I"⟩
abbrev cX2_shootable : ByteArray := prog_4_method_5_code
def yX2_shootable : MethodName := ⟨RX2, "shootable", "(Z)I"⟩
abbrev cX2_endDay : ByteArray := prog_4_method_6_code
def yX2_endDay : MethodName := ⟨RX2, "endDay", "(I)V"⟩
abbrev cX2_tryOrders : ByteArray := prog_4_method_7_code
def yX2_tryOrders : MethodName := ⟨RX2, "tryOrders", "(LScripthouse$Planner;II)V"⟩
abbrev cX2_fewestOfAll : ByteArray := prog_4_method_8_code
def yX2_fewestOfAll : MethodName := ⟨RX2, "fewestOfAll", "(LScripthouse$Planner;II)I"⟩
abbrev cX2_keepIfBetter : ByteArray := prog_4_method_9_code
def yX2_keepIfBetter : MethodName := ⟨RX2, "keepIfBetter", "(I)V"⟩
abbrev cX2_daysUpTo : ByteArray := prog_4_method_10_code
def yX2_daysUpTo : MethodName := ⟨RX2, "daysUpTo", "(I)I"⟩
abbrev cX2_canBeBetter : ByteArray := prog_4_method_11_code
def yX2_canBeBetter : MethodName := ⟨RX2, "canBeBetter", "(II)Z"⟩
abbrev cX2_hasRoom : ByteArray := prog_4_method_12_code
def yX2_hasRoom : MethodName := ⟨RX2, "hasRoom", "(III)Z"⟩
abbrev cX2_hasRoomForChildren : ByteArray := prog_4_method_13_code
def yX2_hasRoomForChildren : MethodName := ⟨RX2, "hasRoomForChildren", "(IIII)Z"⟩
abbrev cX2_hoursIn : ByteArray := prog_4_method_14_code
def yX2_hoursIn : MethodName := ⟨RX2, "hoursIn", "(II)I"⟩
abbrev cX2_place : ByteArray := prog_4_method_15_code
def yX2_place : MethodName := ⟨RX2, "place", "(III)V"⟩
abbrev cX2_endsInTime : ByteArray := prog_4_method_16_code
def yX2_endsInTime : MethodName := ⟨RX2, "endsInTime", "(III)Z"⟩
abbrev cX2_beginFrom : ByteArray := prog_4_method_17_code
def yX2_beginFrom : MethodName := ⟨RX2, "beginFrom", "(IIII)I"⟩
abbrev cX2_isFitForChildren : ByteArray := prog_4_method_18_code
def yX2_isFitForChildren : MethodName := ⟨RX2, "isFitForChildren", "(III)Z"⟩
abbrev cX2_hoursFor : ByteArray := prog_4_method_19_code
def yX2_hoursFor : MethodName := ⟨RX2, "hoursFor", "(II)I"⟩
abbrev cX2_placedOn : ByteArray := prog_4_method_20_code
def yX2_placedOn : MethodName := ⟨RX2, "placedOn", "(II)I"⟩
abbrev cX2_endOf : ByteArray := prog_4_method_21_code
def yX2_endOf : MethodName := ⟨RX2, "endOf", "(I)I"⟩
abbrev cX2_dayOf : ByteArray := prog_4_method_22_code
def yX2_dayOf : MethodName := ⟨RX2, "dayOf", "(I)I"⟩
abbrev cX2_startOf : ByteArray := prog_4_method_23_code
def yX2_startOf : MethodName := ⟨RX2, "startOf", "(I)I"⟩
def RX3 : String := "Scripthouse$Scenes"
def TX3 : u_T := fun k => match k with
  | 0 => ("Scripthouse$Scenes", "hours", "[I", true)
  | 1 => ("Scripthouse$Scenes", "places", "[I", true)
  | 2 => ("Scripthouse$Scenes", "players", "[I", true)
  | 3 => ("Scripthouse$Scenes", "lights", "[I", true)
  | 4 => ("Scripthouse$Scenes", "aheads", "[I", true)
  | 5 => ("Scripthouse$Scenes", "count", "I", false)
  | 6 => ("Scripthouse$Scenes", "done", "I", false)
  | 7 => ("Scripthouse$Scenes", "outdoors", "I", false)
  | _ => ("Scripthouse$Scenes", "children", "I", false)
def tyX3 : Nat → FieldType := fun k => match k with
  | 0 => .array .int
  | 1 => .array .int
  | 2 => .array .int
  | 3 => .array .int
  | 4 => .array .int
  | 5 => .int
  | 6 => .int
  | 7 => .int
  | _ => .int
abbrev wsX30 : List Cond := u_ws RX3 TX3 9
theorem nmX3 : ∀ a, a < 9 → ∀ b, b < 9 → a ≠ b → (TX3 a).2.1 ≠ (TX3 b).2.1 := by decide +kernel
theorem tyX3_ok : ∀ k, k < 9 → parseFieldDescriptor (TX3 k).2.2.1 = some (tyX3 k) := by decide +kernel
abbrev cX3_init : ByteArray := prog_5_method_1_code
def yX3_init : MethodName := ⟨RX3, "<init>", "()V"⟩
abbrev cX3_append : ByteArray := prog_5_method_2_code
def yX3_append : MethodName := ⟨RX3, "append", "(IIIII)I"⟩
abbrev cX3_everyScene : ByteArray := prog_5_method_3_code
def yX3_everyScene : MethodName := ⟨RX3, "everyScene", "()I"⟩
abbrev cX3_countOpen : ByteArray := prog_5_method_4_code
def yX3_countOpen : MethodName := ⟨RX3, "countOpen", "()I"⟩
abbrev cX3_hoursOf : ByteArray := prog_5_method_5_code
def yX3_hoursOf : MethodName := ⟨RX3, "hoursOf", "(I)I"⟩
abbrev cX3_isFree : ByteArray := prog_5_method_6_code
def yX3_isFree : MethodName := ⟨RX3, "isFree", "(II)Z"⟩
abbrev cX3_canFollow : ByteArray := prog_5_method_7_code
def yX3_canFollow : MethodName := ⟨RX3, "canFollow", "(II)Z"⟩
abbrev cX3_isOutdoors : ByteArray := prog_5_method_8_code
def yX3_isOutdoors : MethodName := ⟨RX3, "isOutdoors", "(I)Z"⟩
def RX4 : String := "Scripthouse"
def TX4 : u_T := fun k => match k with
  | 0 => ("Scripthouse", "scenes", "LScripthouse$Scenes;", true)
  | 1 => ("Scripthouse", "planner", "LScripthouse$Planner;", true)
  | 2 => ("Scripthouse", "budget", "LScripthouse$Budget;", true)
  | 3 => ("Scripthouse", "layers", "LScripthouse$Layers;", true)
  | 4 => ("Scripthouse", "rate", "I", false)
  | 5 => ("Scripthouse", "cover", "I", false)
  | _ => ("Scripthouse", "isCovered", "Z", false)
def tyX4 : Nat → FieldType := fun k => match k with
  | 0 => .object "Scripthouse$Scenes"
  | 1 => .object "Scripthouse$Planner"
  | 2 => .object "Scripthouse$Budget"
  | 3 => .object "Scripthouse$Layers"
  | 4 => .int
  | 5 => .int
  | _ => .boolean
abbrev wsX40 : List Cond := u_ws RX4 TX4 7
theorem nmX4 : ∀ a, a < 7 → ∀ b, b < 7 → a ≠ b → (TX4 a).2.1 ≠ (TX4 b).2.1 := by decide +kernel
theorem tyX4_ok : ∀ k, k < 7 → parseFieldDescriptor (TX4 k).2.2.1 = some (tyX4 k) := by decide +kernel
abbrev cX4_init : ByteArray := prog_1_method_1_code
def yX4_init : MethodName := ⟨RX4, "<init>", "()V"⟩
abbrev cX4_addScene : ByteArray := prog_1_method_2_code
def yX4_addScene : MethodName := ⟨RX4, "addScene", "(IIIII)I"⟩
abbrev cX4_setOut : ByteArray := prog_1_method_3_code
def yX4_setOut : MethodName := ⟨RX4, "setOut", "(IZ)Z"⟩
abbrev cX4_setChild : ByteArray := prog_1_method_4_code
def yX4_setChild : MethodName := ⟨RX4, "setChild", "(IZ)Z"⟩
abbrev cX4_setRates : ByteArray := prog_1_method_5_code
def yX4_setRates : MethodName := ⟨RX4, "setRates", "(II)I"⟩
abbrev cX4_hold : ByteArray := prog_1_method_6_code
def yX4_hold : MethodName := ⟨RX4, "hold", "(Z)Z"⟩
abbrev cX4_shoot : ByteArray := prog_1_method_7_code
def yX4_shoot : MethodName := ⟨RX4, "shoot", "(Z)I"⟩
abbrev cX4_approve : ByteArray := prog_1_method_8_code
def yX4_approve : MethodName := ⟨RX4, "approve", "(II)I"⟩
abbrev cX4_grant : ByteArray := prog_1_method_9_code
def yX4_grant : MethodName := ⟨RX4, "grant", "(I)I"⟩
abbrev cX4_bill : ByteArray := prog_1_method_10_code
def yX4_bill : MethodName := ⟨RX4, "bill", "(II)I"⟩
abbrev cX4_loan : ByteArray := prog_1_method_11_code
def yX4_loan : MethodName := ⟨RX4, "loan", "(II)I"⟩
abbrev cX4_part : ByteArray := prog_1_method_12_code
def yX4_part : MethodName := ⟨RX4, "part", "(III)I"⟩
abbrev cX4_income : ByteArray := prog_1_method_13_code
def yX4_income : MethodName := ⟨RX4, "income", "(I)I"⟩
abbrev cX4_today : ByteArray := prog_1_method_14_code
def yX4_today : MethodName := ⟨RX4, "today", "()I"⟩
abbrev cX4_shot : ByteArray := prog_1_method_15_code
def yX4_shot : MethodName := ⟨RX4, "shot", "()I"⟩
abbrev cX4_days : ByteArray := prog_1_method_16_code
def yX4_days : MethodName := ⟨RX4, "days", "()I"⟩
abbrev cX4_daysByAll : ByteArray := prog_1_method_17_code
def yX4_daysByAll : MethodName := ⟨RX4, "daysByAll", "()I"⟩
abbrev cX4_planned : ByteArray := prog_1_method_18_code
def yX4_planned : MethodName := ⟨RX4, "planned", "(I)I"⟩
abbrev cX4_begins : ByteArray := prog_1_method_19_code
def yX4_begins : MethodName := ⟨RX4, "begins", "(I)I"⟩
abbrev cX4_left : ByteArray := prog_1_method_20_code
def yX4_left : MethodName := ⟨RX4, "left", "(I)I"⟩
abbrev cX4_fee : ByteArray := prog_1_method_21_code
def yX4_fee : MethodName := ⟨RX4, "fee", "()I"⟩
abbrev cX4_costs : ByteArray := prog_1_method_22_code
def yX4_costs : MethodName := ⟨RX4, "costs", "()I"⟩
abbrev cX4_open : ByteArray := prog_1_method_23_code
def yX4_open : MethodName := ⟨RX4, "open", "()I"⟩
abbrev cX4_openOf : ByteArray := prog_1_method_24_code
def yX4_openOf : MethodName := ⟨RX4, "openOf", "(I)I"⟩
abbrev cX4_got : ByteArray := prog_1_method_25_code
def yX4_got : MethodName := ⟨RX4, "got", "(I)I"⟩
abbrev cX4_house : ByteArray := prog_1_method_26_code
def yX4_house : MethodName := ⟨RX4, "house", "()I"⟩
abbrev cX4_isWithin : ByteArray := prog_1_method_27_code
def yX4_isWithin : MethodName := ⟨RX4, "isWithin", "(III)Z"⟩
abbrev cX4_at : ByteArray := prog_1_method_28_code
def yX4_at : MethodName := ⟨RX4, "at", "([II)I"⟩
abbrev cX4_put : ByteArray := prog_1_method_29_code
def yX4_put : MethodName := ⟨RX4, "put", "([III)V"⟩
abbrev cX4_add : ByteArray := prog_1_method_30_code
def yX4_add : MethodName := ⟨RX4, "add", "([III)V"⟩
abbrev cX4_isIn : ByteArray := prog_1_method_31_code
def yX4_isIn : MethodName := ⟨RX4, "isIn", "(II)Z"⟩
abbrev cX4_with : ByteArray := prog_1_method_32_code
def yX4_with : MethodName := ⟨RX4, "with", "(IIZ)I"⟩
def RX5 : String := "ScripthouseModel"
def TX5 : u_T := fun k => match k with
  | _ => ("", "", "", false)
def tyX5 : Nat → FieldType := fun k => match k with
  | _ => .int
abbrev wsX50 : List Cond := u_ws RX5 TX5 0
theorem nmX5 : ∀ a, a < 0 → ∀ b, b < 0 → a ≠ b → (TX5 a).2.1 ≠ (TX5 b).2.1 := by decide +kernel
theorem tyX5_ok : ∀ k, k < 0 → parseFieldDescriptor (TX5 k).2.2.1 = some (tyX5 k) := by decide +kernel
def RJ6 : String := "java/lang/Integer"
def TJ6 : u_T := fun k => match k with
  | _ => ("", "", "", false)
def tyJ6 : Nat → FieldType := fun k => match k with
  | _ => .int
abbrev wsJ60 : List Cond := u_ws RJ6 TJ6 0
theorem tyJ6_ok : ∀ k, k < 0 → parseFieldDescriptor (TJ6 k).2.2.1 = some (tyJ6 k) := by decide +kernel
abbrev cJ6_bitCount_0f7a4 : ByteArray := prog_12_method_49_code
def yJ6_bitCount_0f7a4 : MethodName := ⟨RJ6, "bitCount", "(I)I"⟩
def RJ9 : String := "java/lang/Math"
def TJ9 : u_T := fun k => match k with
  | _ => ("", "", "", false)
def tyJ9 : Nat → FieldType := fun k => match k with
  | _ => .int
abbrev wsJ90 : List Cond := u_ws RJ9 TJ9 0
theorem tyJ9_ok : ∀ k, k < 0 → parseFieldDescriptor (TJ9 k).2.2.1 = some (tyJ9 k) := by decide +kernel
abbrev cJ9_max_7cf53 : ByteArray := prog_13_method_65_code
def yJ9_max_7cf53 : MethodName := ⟨RJ9, "max", "(II)I"⟩
abbrev cJ9_min_7cf53 : ByteArray := prog_13_method_69_code
def yJ9_min_7cf53 : MethodName := ⟨RJ9, "min", "(II)I"⟩
def RL : String := "ScripthouseLaw"
abbrev cL_act : ByteArray := method_2_code
def yL_act : MethodName := ⟨RL, "act", "(LScripthouse;IIII)I"⟩
abbrev cL_scene : ByteArray := method_3_code
def yL_scene : MethodName := ⟨RL, "scene", "(LScripthouse;IIIII)I"⟩
abbrev cL_refuses : ByteArray := method_4_code
def yL_refuses : MethodName := ⟨RL, "refuses", "(LScripthouse;IIII)Z"⟩
abbrev cL_plan : ByteArray := method_5_code
def yL_plan : MethodName := ⟨RL, "plan", "(LScripthouse;IIII)Z"⟩
abbrev cL_house : ByteArray := method_6_code
def yL_house : MethodName := ⟨RL, "house", "()Z"⟩
abbrev cL_plans : ByteArray := method_7_code
def yL_plans : MethodName := ⟨RL, "plans", "()Z"⟩
abbrev cL_law : ByteArray := code
def yL_law : MethodName := ⟨RL, "law", "([I)Z"⟩
abbrev vwCl : List vw_C := [(RX0, TX0, 4), (RX1, TX1, 10), (RX2, TX2, 8), (RX3, TX3, 9), (RX4, TX4, 7)]
/-- the good words of the tables -/
def wALL : List Cond := lw_tbl.filter goodWord
theorem tk0 {w : Cond} {i : Nat} (h : (k2_sels lw_privs)[i]? = some w) (hg : goodWord w = true) : w ∈ wALL := List.mem_filter.mpr ⟨List.mem_append_left _ (List.mem_of_getElem? h), hg⟩
theorem tk1 {w : Cond} {i : Nat} (h : tables_1_1[i]? = some w) (hg : goodWord w = true) : w ∈ wALL := List.mem_filter.mpr ⟨List.mem_append_right _ (List.mem_append_left _ (List.mem_of_getElem? h)), hg⟩
theorem tk2 {w : Cond} {i : Nat} (h : tables_1_2[i]? = some w) (hg : goodWord w = true) : w ∈ wALL := List.mem_filter.mpr ⟨List.mem_append_right _ (List.mem_append_right _ (List.mem_append_left _ (List.mem_of_getElem? h))), hg⟩
theorem tk3 {w : Cond} {i : Nat} (h : tables_1_3[i]? = some w) (hg : goodWord w = true) : w ∈ wALL := List.mem_filter.mpr ⟨List.mem_append_right _ (List.mem_append_right _ (List.mem_append_right _ (List.mem_of_getElem? h))), hg⟩
theorem wALL_tbl : ∀ w ∈ wALL, w ∈ lw_tbl := fun _ h => (List.mem_filter.mp h).1
theorem all_good : ∀ w ∈ wALL, goodWord w = true := fun _ h => (List.mem_filter.mp h).2
end
section
theorem dX0_init_0 : decode cX0_init 0 = .ok (.aload_n 0, 1) := by decide +kernel
theorem dX0_init_1 : decode cX0_init 1 = .ok (.invokespecial 3, 3) := by decide +kernel
theorem dX0_init_4 : decode cX0_init 4 = .ok (.aload_n 0, 1) := by decide +kernel
theorem dX0_init_5 : decode cX0_init 5 = .ok (.iconst 4, 1) := by decide +kernel
theorem dX0_init_6 : decode cX0_init 6 = .ok (.newarray .int, 2) := by decide +kernel
theorem dX0_init_8 : decode cX0_init 8 = .ok (.putfield 9, 3) := by decide +kernel
theorem dX0_init_11 : decode cX0_init 11 = .ok (.return_, 1) := by decide +kernel
theorem dX0_lackOf_0 : decode cX0_lackOf 0 = .ok (.iconst 0, 1) := by decide +kernel
theorem dX0_lackOf_1 : decode cX0_lackOf 1 = .ok (.iload_n 2, 1) := by decide +kernel
theorem dX0_lackOf_2 : decode cX0_lackOf 2 = .ok (.aload_n 0, 1) := by decide +kernel
theorem dX0_lackOf_3 : decode cX0_lackOf 3 = .ok (.getfield 9, 3) := by decide +kernel
theorem dX0_lackOf_6 : decode cX0_lackOf 6 = .ok (.iload_n 1, 1) := by decide +kernel
theorem dX0_lackOf_7 : decode cX0_lackOf 7 = .ok (.invokestatic 15, 3) := by decide +kernel
theorem dX0_lackOf_10 : decode cX0_lackOf 10 = .ok (.isub, 1) := by decide +kernel
theorem dX0_lackOf_11 : decode cX0_lackOf 11 = .ok (.invokestatic 19, 3) := by decide +kernel
theorem dX0_lackOf_14 : decode cX0_lackOf 14 = .ok (.ireturn, 1) := by decide +kernel
theorem dX0_pay_0 : decode cX0_pay 0 = .ok (.aload_n 0, 1) := by decide +kernel
theorem dX0_pay_1 : decode cX0_pay 1 = .ok (.iload_n 1, 1) := by decide +kernel
theorem dX0_pay_2 : decode cX0_pay 2 = .ok (.iload_n 2, 1) := by decide +kernel
theorem dX0_pay_3 : decode cX0_pay 3 = .ok (.invokevirtual 25, 3) := by decide +kernel
theorem dX0_pay_6 : decode cX0_pay 6 = .ok (.istore_n 3, 1) := by decide +kernel
theorem dX0_pay_7 : decode cX0_pay 7 = .ok (.aload_n 0, 1) := by decide +kernel
theorem dX0_pay_8 : decode cX0_pay 8 = .ok (.getfield 9, 3) := by decide +kernel
theorem dX0_pay_11 : decode cX0_pay 11 = .ok (.iload_n 1, 1) := by decide +kernel
theorem dX0_pay_12 : decode cX0_pay 12 = .ok (.iload_n 3, 1) := by decide +kernel
theorem dX0_pay_13 : decode cX0_pay 13 = .ok (.iload_n 2, 1) := by decide +kernel
theorem dX0_pay_14 : decode cX0_pay 14 = .ok (.isub, 1) := by decide +kernel
theorem dX0_pay_15 : decode cX0_pay 15 = .ok (.invokestatic 28, 3) := by decide +kernel
theorem dX0_pay_18 : decode cX0_pay 18 = .ok (.aload_n 0, 1) := by decide +kernel
theorem dX0_pay_19 : decode cX0_pay 19 = .ok (.dup, 1) := by decide +kernel
theorem dX0_pay_20 : decode cX0_pay 20 = .ok (.getfield 32, 3) := by decide +kernel
theorem dX0_pay_23 : decode cX0_pay 23 = .ok (.iload_n 3, 1) := by decide +kernel
theorem dX0_pay_24 : decode cX0_pay 24 = .ok (.isub, 1) := by decide +kernel
theorem dX0_pay_25 : decode cX0_pay 25 = .ok (.putfield 32, 3) := by decide +kernel
theorem dX0_pay_28 : decode cX0_pay 28 = .ok (.aload_n 0, 1) := by decide +kernel
theorem dX0_pay_29 : decode cX0_pay 29 = .ok (.dup, 1) := by decide +kernel
theorem dX0_pay_30 : decode cX0_pay 30 = .ok (.getfield 36, 3) := by decide +kernel
theorem dX0_pay_33 : decode cX0_pay 33 = .ok (.iload_n 2, 1) := by decide +kernel
theorem dX0_pay_34 : decode cX0_pay 34 = .ok (.iadd, 1) := by decide +kernel
theorem dX0_pay_35 : decode cX0_pay 35 = .ok (.putfield 36, 3) := by decide +kernel
theorem dX0_pay_38 : decode cX0_pay 38 = .ok (.aload_n 0, 1) := by decide +kernel
theorem dX0_pay_39 : decode cX0_pay 39 = .ok (.dup, 1) := by decide +kernel
theorem dX0_pay_40 : decode cX0_pay 40 = .ok (.getfield 39, 3) := by decide +kernel
theorem dX0_pay_43 : decode cX0_pay 43 = .ok (.iload_n 2, 1) := by decide +kernel
theorem dX0_pay_44 : decode cX0_pay 44 = .ok (.iadd, 1) := by decide +kernel
theorem dX0_pay_45 : decode cX0_pay 45 = .ok (.putfield 39, 3) := by decide +kernel
theorem dX0_pay_48 : decode cX0_pay 48 = .ok (.iload_n 3, 1) := by decide +kernel
theorem dX0_pay_49 : decode cX0_pay 49 = .ok (.ireturn, 1) := by decide +kernel
theorem dX0_payBack_0 : decode cX0_payBack 0 = .ok (.iload_n 1, 1) := by decide +kernel
theorem dX0_payBack_1 : decode cX0_payBack 1 = .ok (.aload_n 0, 1) := by decide +kernel
theorem dX0_payBack_2 : decode cX0_payBack 2 = .ok (.getfield 39, 3) := by decide +kernel
theorem dX0_payBack_5 : decode cX0_payBack 5 = .ok (.invokestatic 42, 3) := by decide +kernel
theorem dX0_payBack_8 : decode cX0_payBack 8 = .ok (.istore_n 2, 1) := by decide +kernel
theorem dX0_payBack_9 : decode cX0_payBack 9 = .ok (.aload_n 0, 1) := by decide +kernel
theorem dX0_payBack_10 : decode cX0_payBack 10 = .ok (.dup, 1) := by decide +kernel
theorem dX0_payBack_11 : decode cX0_payBack 11 = .ok (.getfield 39, 3) := by decide +kernel
theorem dX0_payBack_14 : decode cX0_payBack 14 = .ok (.iload_n 2, 1) := by decide +kernel
theorem dX0_payBack_15 : decode cX0_payBack 15 = .ok (.isub, 1) := by decide +kernel
theorem dX0_payBack_16 : decode cX0_payBack 16 = .ok (.putfield 39, 3) := by decide +kernel
theorem dX0_payBack_19 : decode cX0_payBack 19 = .ok (.iload_n 1, 1) := by decide +kernel
theorem dX0_payBack_20 : decode cX0_payBack 20 = .ok (.iload_n 2, 1) := by decide +kernel
theorem dX0_payBack_21 : decode cX0_payBack 21 = .ok (.isub, 1) := by decide +kernel
theorem dX0_payBack_22 : decode cX0_payBack 22 = .ok (.ireturn, 1) := by decide +kernel
theorem dX1_init_0 : decode cX1_init 0 = .ok (.aload_n 0, 1) := by decide +kernel
theorem dX1_init_1 : decode cX1_init 1 = .ok (.invokespecial 3, 3) := by decide +kernel
theorem dX1_init_4 : decode cX1_init 4 = .ok (.aload_n 0, 1) := by decide +kernel
theorem dX1_init_5 : decode cX1_init 5 = .ok (.bipush 10, 2) := by decide +kernel
theorem dX1_init_7 : decode cX1_init 7 = .ok (.newarray .int, 2) := by decide +kernel
theorem dX1_init_9 : decode cX1_init 9 = .ok (.putfield 9, 3) := by decide +kernel
theorem dX1_init_12 : decode cX1_init 12 = .ok (.aload_n 0, 1) := by decide +kernel
theorem dX1_init_13 : decode cX1_init 13 = .ok (.bipush 10, 2) := by decide +kernel
theorem dX1_init_15 : decode cX1_init 15 = .ok (.newarray .int, 2) := by decide +kernel
theorem dX1_init_17 : decode cX1_init 17 = .ok (.putfield 15, 3) := by decide +kernel
theorem dX1_init_20 : decode cX1_init 20 = .ok (.aload_n 0, 1) := by decide +kernel
theorem dX1_init_21 : decode cX1_init 21 = .ok (.bipush 12, 2) := by decide +kernel
theorem dX1_init_23 : decode cX1_init 23 = .ok (.newarray .int, 2) := by decide +kernel
theorem dX1_init_25 : decode cX1_init 25 = .ok (.putfield 18, 3) := by decide +kernel
theorem dX1_init_28 : decode cX1_init 28 = .ok (.aload_n 0, 1) := by decide +kernel
theorem dX1_init_29 : decode cX1_init 29 = .ok (.bipush 12, 2) := by decide +kernel
theorem dX1_init_31 : decode cX1_init 31 = .ok (.newarray .int, 2) := by decide +kernel
theorem dX1_init_33 : decode cX1_init 33 = .ok (.putfield 21, 3) := by decide +kernel
theorem dX1_init_36 : decode cX1_init 36 = .ok (.aload_n 0, 1) := by decide +kernel
theorem dX1_init_37 : decode cX1_init 37 = .ok (.bipush 12, 2) := by decide +kernel
theorem dX1_init_39 : decode cX1_init 39 = .ok (.newarray .int, 2) := by decide +kernel
theorem dX1_init_41 : decode cX1_init 41 = .ok (.putfield 24, 3) := by decide +kernel
theorem dX1_init_44 : decode cX1_init 44 = .ok (.aload_n 0, 1) := by decide +kernel
theorem dX1_init_45 : decode cX1_init 45 = .ok (.bipush 12, 2) := by decide +kernel
theorem dX1_init_47 : decode cX1_init 47 = .ok (.newarray .int, 2) := by decide +kernel
theorem dX1_init_49 : decode cX1_init 49 = .ok (.putfield 27, 3) := by decide +kernel
theorem dX1_init_52 : decode cX1_init 52 = .ok (.aload_n 0, 1) := by decide +kernel
theorem dX1_init_53 : decode cX1_init 53 = .ok (.bipush 6, 2) := by decide +kernel
theorem dX1_init_55 : decode cX1_init 55 = .ok (.newarray .int, 2) := by decide +kernel
theorem dX1_init_57 : decode cX1_init 57 = .ok (.putfield 30, 3) := by decide +kernel
theorem dX1_init_60 : decode cX1_init 60 = .ok (.return_, 1) := by decide +kernel
theorem dX1_appendLoan_0 : decode cX1_appendLoan 0 = .ok (.aload_n 0, 1) := by decide +kernel
theorem dX1_appendLoan_1 : decode cX1_appendLoan 1 = .ok (.getfield 9, 3) := by decide +kernel
theorem dX1_appendLoan_4 : decode cX1_appendLoan 4 = .ok (.aload_n 0, 1) := by decide +kernel
theorem dX1_appendLoan_5 : decode cX1_appendLoan 5 = .ok (.getfield 33, 3) := by decide +kernel
theorem dX1_appendLoan_8 : decode cX1_appendLoan 8 = .ok (.iload_n 1, 1) := by decide +kernel
theorem dX1_appendLoan_9 : decode cX1_appendLoan 9 = .ok (.invokestatic 37, 3) := by decide +kernel
theorem dX1_appendLoan_12 : decode cX1_appendLoan 12 = .ok (.aload_n 0, 1) := by decide +kernel
theorem dX1_appendLoan_13 : decode cX1_appendLoan 13 = .ok (.getfield 15, 3) := by decide +kernel
theorem dX1_appendLoan_16 : decode cX1_appendLoan 16 = .ok (.aload_n 0, 1) := by decide +kernel
theorem dX1_appendLoan_17 : decode cX1_appendLoan 17 = .ok (.getfield 33, 3) := by decide +kernel
theorem dX1_appendLoan_20 : decode cX1_appendLoan 20 = .ok (.iload_n 2, 1) := by decide +kernel
theorem dX1_appendLoan_21 : decode cX1_appendLoan 21 = .ok (.invokestatic 37, 3) := by decide +kernel
theorem dX1_appendLoan_24 : decode cX1_appendLoan 24 = .ok (.aload_n 0, 1) := by decide +kernel
theorem dX1_appendLoan_25 : decode cX1_appendLoan 25 = .ok (.dup, 1) := by decide +kernel
theorem dX1_appendLoan_26 : decode cX1_appendLoan 26 = .ok (.getfield 33, 3) := by decide +kernel
theorem dX1_appendLoan_29 : decode cX1_appendLoan 29 = .ok (.iconst 1, 1) := by decide +kernel
theorem dX1_appendLoan_30 : decode cX1_appendLoan 30 = .ok (.iadd, 1) := by decide +kernel
theorem dX1_appendLoan_31 : decode cX1_appendLoan 31 = .ok (.putfield 33, 3) := by decide +kernel
theorem dX1_appendLoan_34 : decode cX1_appendLoan 34 = .ok (.aload_n 0, 1) := by decide +kernel
theorem dX1_appendLoan_35 : decode cX1_appendLoan 35 = .ok (.getfield 33, 3) := by decide +kernel
theorem dX1_appendLoan_38 : decode cX1_appendLoan 38 = .ok (.iconst 1, 1) := by decide +kernel
theorem dX1_appendLoan_39 : decode cX1_appendLoan 39 = .ok (.isub, 1) := by decide +kernel
theorem dX1_appendLoan_40 : decode cX1_appendLoan 40 = .ok (.ireturn, 1) := by decide +kernel
theorem dX1_appendPart_0 : decode cX1_appendPart 0 = .ok (.aload_n 0, 1) := by decide +kernel
theorem dX1_appendPart_1 : decode cX1_appendPart 1 = .ok (.getfield 18, 3) := by decide +kernel
theorem dX1_appendPart_4 : decode cX1_appendPart 4 = .ok (.aload_n 0, 1) := by decide +kernel
theorem dX1_appendPart_5 : decode cX1_appendPart 5 = .ok (.getfield 41, 3) := by decide +kernel
theorem dX1_appendPart_8 : decode cX1_appendPart 8 = .ok (.iload_n 1, 1) := by decide +kernel
theorem dX1_appendPart_9 : decode cX1_appendPart 9 = .ok (.invokestatic 37, 3) := by decide +kernel
theorem dX1_appendPart_12 : decode cX1_appendPart 12 = .ok (.aload_n 0, 1) := by decide +kernel
theorem dX1_appendPart_13 : decode cX1_appendPart 13 = .ok (.getfield 21, 3) := by decide +kernel
theorem dX1_appendPart_16 : decode cX1_appendPart 16 = .ok (.aload_n 0, 1) := by decide +kernel
theorem dX1_appendPart_17 : decode cX1_appendPart 17 = .ok (.getfield 41, 3) := by decide +kernel
theorem dX1_appendPart_20 : decode cX1_appendPart 20 = .ok (.iload_n 2, 1) := by decide +kernel
theorem dX1_appendPart_21 : decode cX1_appendPart 21 = .ok (.invokestatic 37, 3) := by decide +kernel
theorem dX1_appendPart_24 : decode cX1_appendPart 24 = .ok (.aload_n 0, 1) := by decide +kernel
theorem dX1_appendPart_25 : decode cX1_appendPart 25 = .ok (.getfield 24, 3) := by decide +kernel
theorem dX1_appendPart_28 : decode cX1_appendPart 28 = .ok (.aload_n 0, 1) := by decide +kernel
theorem dX1_appendPart_29 : decode cX1_appendPart 29 = .ok (.getfield 41, 3) := by decide +kernel
theorem dX1_appendPart_32 : decode cX1_appendPart 32 = .ok (.iload_n 3, 1) := by decide +kernel
theorem dX1_appendPart_33 : decode cX1_appendPart 33 = .ok (.invokestatic 37, 3) := by decide +kernel
theorem dX1_appendPart_36 : decode cX1_appendPart 36 = .ok (.aload_n 0, 1) := by decide +kernel
theorem dX1_appendPart_37 : decode cX1_appendPart 37 = .ok (.dup, 1) := by decide +kernel
theorem dX1_appendPart_38 : decode cX1_appendPart 38 = .ok (.getfield 41, 3) := by decide +kernel
theorem dX1_appendPart_41 : decode cX1_appendPart 41 = .ok (.iconst 1, 1) := by decide +kernel
theorem dX1_appendPart_42 : decode cX1_appendPart 42 = .ok (.iadd, 1) := by decide +kernel
theorem dX1_appendPart_43 : decode cX1_appendPart 43 = .ok (.putfield 41, 3) := by decide +kernel
theorem dX1_appendPart_46 : decode cX1_appendPart 46 = .ok (.aload_n 0, 1) := by decide +kernel
theorem dX1_appendPart_47 : decode cX1_appendPart 47 = .ok (.getfield 41, 3) := by decide +kernel
theorem dX1_appendPart_50 : decode cX1_appendPart 50 = .ok (.iconst 1, 1) := by decide +kernel
theorem dX1_appendPart_51 : decode cX1_appendPart 51 = .ok (.isub, 1) := by decide +kernel
theorem dX1_appendPart_52 : decode cX1_appendPart 52 = .ok (.ireturn, 1) := by decide +kernel
theorem dX1_percentOf_0 : decode cX1_percentOf 0 = .ok (.iconst 0, 1) := by decide +kernel
theorem dX1_percentOf_1 : decode cX1_percentOf 1 = .ok (.istore_n 2, 1) := by decide +kernel
theorem dX1_percentOf_2 : decode cX1_percentOf 2 = .ok (.iconst 0, 1) := by decide +kernel
theorem dX1_percentOf_3 : decode cX1_percentOf 3 = .ok (.istore_n 3, 1) := by decide +kernel
theorem dX1_percentOf_4 : decode cX1_percentOf 4 = .ok (.iload_n 3, 1) := by decide +kernel
theorem dX1_percentOf_5 : decode cX1_percentOf 5 = .ok (.aload_n 0, 1) := by decide +kernel
theorem dX1_percentOf_6 : decode cX1_percentOf 6 = .ok (.getfield 41, 3) := by decide +kernel
theorem dX1_percentOf_9 : decode cX1_percentOf 9 = .ok (.if_icmp .ge 32, 3) := by decide +kernel
theorem dX1_percentOf_12 : decode cX1_percentOf 12 = .ok (.aload_n 0, 1) := by decide +kernel
theorem dX1_percentOf_13 : decode cX1_percentOf 13 = .ok (.getfield 18, 3) := by decide +kernel
theorem dX1_percentOf_16 : decode cX1_percentOf 16 = .ok (.iload_n 3, 1) := by decide +kernel
theorem dX1_percentOf_17 : decode cX1_percentOf 17 = .ok (.invokestatic 44, 3) := by decide +kernel
theorem dX1_percentOf_20 : decode cX1_percentOf 20 = .ok (.iload_n 1, 1) := by decide +kernel
theorem dX1_percentOf_21 : decode cX1_percentOf 21 = .ok (.if_icmp .ne 14, 3) := by decide +kernel
theorem dX1_percentOf_24 : decode cX1_percentOf 24 = .ok (.iload_n 2, 1) := by decide +kernel
theorem dX1_percentOf_25 : decode cX1_percentOf 25 = .ok (.aload_n 0, 1) := by decide +kernel
theorem dX1_percentOf_26 : decode cX1_percentOf 26 = .ok (.getfield 24, 3) := by decide +kernel
theorem dX1_percentOf_29 : decode cX1_percentOf 29 = .ok (.iload_n 3, 1) := by decide +kernel
theorem dX1_percentOf_30 : decode cX1_percentOf 30 = .ok (.invokestatic 44, 3) := by decide +kernel
theorem dX1_percentOf_33 : decode cX1_percentOf 33 = .ok (.iadd, 1) := by decide +kernel
theorem dX1_percentOf_34 : decode cX1_percentOf 34 = .ok (.istore_n 2, 1) := by decide +kernel
theorem dX1_percentOf_35 : decode cX1_percentOf 35 = .ok (.iinc 3 1, 3) := by decide +kernel
theorem dX1_percentOf_38 : decode cX1_percentOf 38 = .ok (.goto (-34), 3) := by decide +kernel
theorem dX1_percentOf_41 : decode cX1_percentOf 41 = .ok (.iload_n 2, 1) := by decide +kernel
theorem dX1_percentOf_42 : decode cX1_percentOf 42 = .ok (.ireturn, 1) := by decide +kernel
theorem dX1_payBackLoans_0 : decode cX1_payBackLoans 0 = .ok (.iload_n 1, 1) := by decide +kernel
theorem dX1_payBackLoans_1 : decode cX1_payBackLoans 1 = .ok (.istore_n 2, 1) := by decide +kernel
theorem dX1_payBackLoans_2 : decode cX1_payBackLoans 2 = .ok (.iconst 0, 1) := by decide +kernel
theorem dX1_payBackLoans_3 : decode cX1_payBackLoans 3 = .ok (.istore_n 3, 1) := by decide +kernel
theorem dX1_payBackLoans_4 : decode cX1_payBackLoans 4 = .ok (.iload_n 3, 1) := by decide +kernel
theorem dX1_payBackLoans_5 : decode cX1_payBackLoans 5 = .ok (.aload_n 0, 1) := by decide +kernel
theorem dX1_payBackLoans_6 : decode cX1_payBackLoans 6 = .ok (.getfield 33, 3) := by decide +kernel
theorem dX1_payBackLoans_9 : decode cX1_payBackLoans 9 = .ok (.if_icmp .ge 56, 3) := by decide +kernel
theorem dX1_payBackLoans_12 : decode cX1_payBackLoans 12 = .ok (.iload_n 2, 1) := by decide +kernel
theorem dX1_payBackLoans_13 : decode cX1_payBackLoans 13 = .ok (.aload_n 0, 1) := by decide +kernel
theorem dX1_payBackLoans_14 : decode cX1_payBackLoans 14 = .ok (.getfield 15, 3) := by decide +kernel
theorem dX1_payBackLoans_17 : decode cX1_payBackLoans 17 = .ok (.iload_n 3, 1) := by decide +kernel
theorem dX1_payBackLoans_18 : decode cX1_payBackLoans 18 = .ok (.invokestatic 44, 3) := by decide +kernel
theorem dX1_payBackLoans_21 : decode cX1_payBackLoans 21 = .ok (.invokestatic 48, 3) := by decide +kernel
theorem dX1_payBackLoans_24 : decode cX1_payBackLoans 24 = .ok (.istore 4, 2) := by decide +kernel
theorem dX1_payBackLoans_26 : decode cX1_payBackLoans 26 = .ok (.aload_n 0, 1) := by decide +kernel
theorem dX1_payBackLoans_27 : decode cX1_payBackLoans 27 = .ok (.getfield 15, 3) := by decide +kernel
theorem dX1_payBackLoans_30 : decode cX1_payBackLoans 30 = .ok (.iload_n 3, 1) := by decide +kernel
theorem dX1_payBackLoans_31 : decode cX1_payBackLoans 31 = .ok (.iload 4, 2) := by decide +kernel
theorem dX1_payBackLoans_33 : decode cX1_payBackLoans 33 = .ok (.ineg, 1) := by decide +kernel
theorem dX1_payBackLoans_34 : decode cX1_payBackLoans 34 = .ok (.invokestatic 54, 3) := by decide +kernel
theorem dX1_payBackLoans_37 : decode cX1_payBackLoans 37 = .ok (.aload_n 0, 1) := by decide +kernel
theorem dX1_payBackLoans_38 : decode cX1_payBackLoans 38 = .ok (.getfield 30, 3) := by decide +kernel
theorem dX1_payBackLoans_41 : decode cX1_payBackLoans 41 = .ok (.aload_n 0, 1) := by decide +kernel
theorem dX1_payBackLoans_42 : decode cX1_payBackLoans 42 = .ok (.getfield 9, 3) := by decide +kernel
theorem dX1_payBackLoans_45 : decode cX1_payBackLoans 45 = .ok (.iload_n 3, 1) := by decide +kernel
theorem dX1_payBackLoans_46 : decode cX1_payBackLoans 46 = .ok (.invokestatic 44, 3) := by decide +kernel
theorem dX1_payBackLoans_49 : decode cX1_payBackLoans 49 = .ok (.iload 4, 2) := by decide +kernel
theorem dX1_payBackLoans_51 : decode cX1_payBackLoans 51 = .ok (.invokestatic 54, 3) := by decide +kernel
theorem dX1_payBackLoans_54 : decode cX1_payBackLoans 54 = .ok (.iload_n 2, 1) := by decide +kernel
theorem dX1_payBackLoans_55 : decode cX1_payBackLoans 55 = .ok (.iload 4, 2) := by decide +kernel
theorem dX1_payBackLoans_57 : decode cX1_payBackLoans 57 = .ok (.isub, 1) := by decide +kernel
theorem dX1_payBackLoans_58 : decode cX1_payBackLoans 58 = .ok (.istore_n 2, 1) := by decide +kernel
theorem dX1_payBackLoans_59 : decode cX1_payBackLoans 59 = .ok (.iinc 3 1, 3) := by decide +kernel
theorem dX1_payBackLoans_62 : decode cX1_payBackLoans 62 = .ok (.goto (-58), 3) := by decide +kernel
theorem dX1_payBackLoans_65 : decode cX1_payBackLoans 65 = .ok (.iload_n 2, 1) := by decide +kernel
theorem dX1_payBackLoans_66 : decode cX1_payBackLoans 66 = .ok (.ireturn, 1) := by decide +kernel
theorem dX1_share_0 : decode cX1_share 0 = .ok (.iload_n 1, 1) := by decide +kernel
theorem dX1_share_1 : decode cX1_share 1 = .ok (.istore_n 2, 1) := by decide +kernel
theorem dX1_share_2 : decode cX1_share 2 = .ok (.iconst 0, 1) := by decide +kernel
theorem dX1_share_3 : decode cX1_share 3 = .ok (.istore_n 3, 1) := by decide +kernel
theorem dX1_share_4 : decode cX1_share 4 = .ok (.iload_n 3, 1) := by decide +kernel
theorem dX1_share_5 : decode cX1_share 5 = .ok (.aload_n 0, 1) := by decide +kernel
theorem dX1_share_6 : decode cX1_share 6 = .ok (.getfield 41, 3) := by decide +kernel
theorem dX1_share_9 : decode cX1_share 9 = .ok (.if_icmp .ge 112, 3) := by decide +kernel
theorem dX1_share_12 : decode cX1_share 12 = .ok (.aload_n 0, 1) := by decide +kernel
theorem dX1_share_13 : decode cX1_share 13 = .ok (.getfield 18, 3) := by decide +kernel
theorem dX1_share_16 : decode cX1_share 16 = .ok (.iload_n 3, 1) := by decide +kernel
theorem dX1_share_17 : decode cX1_share 17 = .ok (.invokestatic 44, 3) := by decide +kernel
theorem dX1_share_20 : decode cX1_share 20 = .ok (.istore 4, 2) := by decide +kernel
theorem dX1_share_22 : decode cX1_share 22 = .ok (.iload 4, 2) := by decide +kernel
theorem dX1_share_24 : decode cX1_share 24 = .ok (.iconst (-1), 1) := by decide +kernel
theorem dX1_share_25 : decode cX1_share 25 = .ok (.if_icmp .ne 7, 3) := by decide +kernel
theorem dX1_share_28 : decode cX1_share 28 = .ok (.iload_n 1, 1) := by decide +kernel
theorem dX1_share_29 : decode cX1_share 29 = .ok (.goto 12, 3) := by decide +kernel
theorem dX1_share_32 : decode cX1_share 32 = .ok (.aload_n 0, 1) := by decide +kernel
theorem dX1_share_33 : decode cX1_share 33 = .ok (.getfield 27, 3) := by decide +kernel
theorem dX1_share_36 : decode cX1_share 36 = .ok (.iload 4, 2) := by decide +kernel
theorem dX1_share_38 : decode cX1_share 38 = .ok (.invokestatic 44, 3) := by decide +kernel
theorem dX1_share_41 : decode cX1_share 41 = .ok (.aload_n 0, 1) := by decide +kernel
theorem dX1_share_42 : decode cX1_share 42 = .ok (.getfield 24, 3) := by decide +kernel
theorem dX1_share_45 : decode cX1_share 45 = .ok (.iload_n 3, 1) := by decide +kernel
theorem dX1_share_46 : decode cX1_share 46 = .ok (.invokestatic 44, 3) := by decide +kernel
theorem dX1_share_49 : decode cX1_share 49 = .ok (.imul, 1) := by decide +kernel
theorem dX1_share_50 : decode cX1_share 50 = .ok (.bipush 100, 2) := by decide +kernel
theorem dX1_share_52 : decode cX1_share 52 = .ok (.idiv, 1) := by decide +kernel
theorem dX1_share_53 : decode cX1_share 53 = .ok (.istore 5, 2) := by decide +kernel
theorem dX1_share_55 : decode cX1_share 55 = .ok (.aload_n 0, 1) := by decide +kernel
theorem dX1_share_56 : decode cX1_share 56 = .ok (.getfield 27, 3) := by decide +kernel
theorem dX1_share_59 : decode cX1_share 59 = .ok (.iload_n 3, 1) := by decide +kernel
theorem dX1_share_60 : decode cX1_share 60 = .ok (.iload 5, 2) := by decide +kernel
theorem dX1_share_62 : decode cX1_share 62 = .ok (.invokestatic 37, 3) := by decide +kernel
theorem dX1_share_65 : decode cX1_share 65 = .ok (.aload_n 0, 1) := by decide +kernel
theorem dX1_share_66 : decode cX1_share 66 = .ok (.getfield 30, 3) := by decide +kernel
theorem dX1_share_69 : decode cX1_share 69 = .ok (.aload_n 0, 1) := by decide +kernel
theorem dX1_share_70 : decode cX1_share 70 = .ok (.getfield 21, 3) := by decide +kernel
theorem dX1_share_73 : decode cX1_share 73 = .ok (.iload_n 3, 1) := by decide +kernel
theorem dX1_share_74 : decode cX1_share 74 = .ok (.invokestatic 44, 3) := by decide +kernel
theorem dX1_share_77 : decode cX1_share 77 = .ok (.iload 5, 2) := by decide +kernel
theorem dX1_share_79 : decode cX1_share 79 = .ok (.invokestatic 54, 3) := by decide +kernel
theorem dX1_share_82 : decode cX1_share 82 = .ok (.iload 4, 2) := by decide +kernel
theorem dX1_share_84 : decode cX1_share 84 = .ok (.iconst (-1), 1) := by decide +kernel
theorem dX1_share_85 : decode cX1_share 85 = .ok (.if_icmp .ne 11, 3) := by decide +kernel
theorem dX1_share_88 : decode cX1_share 88 = .ok (.iload_n 2, 1) := by decide +kernel
theorem dX1_share_89 : decode cX1_share 89 = .ok (.iload 5, 2) := by decide +kernel
theorem dX1_share_91 : decode cX1_share 91 = .ok (.isub, 1) := by decide +kernel
theorem dX1_share_92 : decode cX1_share 92 = .ok (.istore_n 2, 1) := by decide +kernel
theorem dX1_share_93 : decode cX1_share 93 = .ok (.goto 22, 3) := by decide +kernel
theorem dX1_share_96 : decode cX1_share 96 = .ok (.aload_n 0, 1) := by decide +kernel
theorem dX1_share_97 : decode cX1_share 97 = .ok (.getfield 30, 3) := by decide +kernel
theorem dX1_share_100 : decode cX1_share 100 = .ok (.aload_n 0, 1) := by decide +kernel
theorem dX1_share_101 : decode cX1_share 101 = .ok (.getfield 21, 3) := by decide +kernel
theorem dX1_share_104 : decode cX1_share 104 = .ok (.iload 4, 2) := by decide +kernel
theorem dX1_share_106 : decode cX1_share 106 = .ok (.invokestatic 44, 3) := by decide +kernel
theorem dX1_share_109 : decode cX1_share 109 = .ok (.iload 5, 2) := by decide +kernel
theorem dX1_share_111 : decode cX1_share 111 = .ok (.ineg, 1) := by decide +kernel
theorem dX1_share_112 : decode cX1_share 112 = .ok (.invokestatic 54, 3) := by decide +kernel
theorem dX1_share_115 : decode cX1_share 115 = .ok (.iinc 3 1, 3) := by decide +kernel
theorem dX1_share_118 : decode cX1_share 118 = .ok (.goto (-114), 3) := by decide +kernel
theorem dX1_share_121 : decode cX1_share 121 = .ok (.aload_n 0, 1) := by decide +kernel
theorem dX1_share_122 : decode cX1_share 122 = .ok (.dup, 1) := by decide +kernel
theorem dX1_share_123 : decode cX1_share 123 = .ok (.getfield 57, 3) := by decide +kernel
theorem dX1_share_126 : decode cX1_share 126 = .ok (.iload_n 2, 1) := by decide +kernel
theorem dX1_share_127 : decode cX1_share 127 = .ok (.iadd, 1) := by decide +kernel
theorem dX1_share_128 : decode cX1_share 128 = .ok (.putfield 57, 3) := by decide +kernel
theorem dX1_share_131 : decode cX1_share 131 = .ok (.return_, 1) := by decide +kernel
theorem dX2_init_0 : decode cX2_init 0 = .ok (.aload_n 0, 1) := by decide +kernel
theorem dX2_init_1 : decode cX2_init 1 = .ok (.invokespecial 3, 3) := by decide +kernel
theorem dX2_init_4 : decode cX2_init 4 = .ok (.aload_n 0, 1) := by decide +kernel
theorem dX2_init_5 : decode cX2_init 5 = .ok (.new 9, 3) := by decide +kernel
theorem dX2_init_8 : decode cX2_init 8 = .ok (.dup, 1) := by decide +kernel
theorem dX2_init_9 : decode cX2_init 9 = .ok (.invokespecial 11, 3) := by decide +kernel
theorem dX2_init_12 : decode cX2_init 12 = .ok (.putfield 12, 3) := by decide +kernel
theorem dX2_init_15 : decode cX2_init 15 = .ok (.aload_n 0, 1) := by decide +kernel
theorem dX2_init_16 : decode cX2_init 16 = .ok (.bipush 8, 2) := by decide +kernel
theorem dX2_init_18 : decode cX2_init 18 = .ok (.newarray .int, 2) := by decide +kernel
theorem dX2_init_20 : decode cX2_init 20 = .ok (.putfield 18, 3) := by decide +kernel
theorem dX2_init_23 : decode cX2_init 23 = .ok (.aload_n 0, 1) := by decide +kernel
theorem dX2_init_24 : decode cX2_init 24 = .ok (.bipush 8, 2) := by decide +kernel
theorem dX2_init_26 : decode cX2_init 26 = .ok (.newarray .int, 2) := by decide +kernel
theorem dX2_init_28 : decode cX2_init 28 = .ok (.putfield 22, 3) := by decide +kernel
theorem dX2_init_31 : decode cX2_init 31 = .ok (.aload_n 0, 1) := by decide +kernel
theorem dX2_init_32 : decode cX2_init 32 = .ok (.bipush 8, 2) := by decide +kernel
theorem dX2_init_34 : decode cX2_init 34 = .ok (.newarray .int, 2) := by decide +kernel
theorem dX2_init_36 : decode cX2_init 36 = .ok (.putfield 25, 3) := by decide +kernel
theorem dX2_init_39 : decode cX2_init 39 = .ok (.aload_n 0, 1) := by decide +kernel
theorem dX2_init_40 : decode cX2_init 40 = .ok (.bipush 8, 2) := by decide +kernel
theorem dX2_init_42 : decode cX2_init 42 = .ok (.newarray .int, 2) := by decide +kernel
theorem dX2_init_44 : decode cX2_init 44 = .ok (.putfield 28, 3) := by decide +kernel
theorem dX2_init_47 : decode cX2_init 47 = .ok (.return_, 1) := by decide +kernel
theorem dX2_forget_0 : decode cX2_forget 0 = .ok (.aload_n 0, 1) := by decide +kernel
theorem dX2_forget_1 : decode cX2_forget 1 = .ok (.iconst 0, 1) := by decide +kernel
theorem dX2_forget_2 : decode cX2_forget 2 = .ok (.putfield 31, 3) := by decide +kernel
theorem dX2_forget_5 : decode cX2_forget 5 = .ok (.return_, 1) := by decide +kernel
theorem dX2_makePlan_0 : decode cX2_makePlan 0 = .ok (.aload_n 0, 1) := by decide +kernel
theorem dX2_makePlan_1 : decode cX2_makePlan 1 = .ok (.getfield 31, 3) := by decide +kernel
theorem dX2_makePlan_4 : decode cX2_makePlan 4 = .ok (.ifCond .ne 26, 3) := by decide +kernel
theorem dX2_makePlan_7 : decode cX2_makePlan 7 = .ok (.aload_n 0, 1) := by decide +kernel
theorem dX2_makePlan_8 : decode cX2_makePlan 8 = .ok (.bipush 9, 2) := by decide +kernel
theorem dX2_makePlan_10 : decode cX2_makePlan 10 = .ok (.putfield 35, 3) := by decide +kernel
theorem dX2_makePlan_13 : decode cX2_makePlan 13 = .ok (.aload_n 0, 1) := by decide +kernel
theorem dX2_makePlan_14 : decode cX2_makePlan 14 = .ok (.iconst 0, 1) := by decide +kernel
theorem dX2_makePlan_15 : decode cX2_makePlan 15 = .ok (.aload_n 0, 1) := by decide +kernel
theorem dX2_makePlan_16 : decode cX2_makePlan 16 = .ok (.getfield 12, 3) := by decide +kernel
theorem dX2_makePlan_19 : decode cX2_makePlan 19 = .ok (.getfield 39, 3) := by decide +kernel
theorem dX2_makePlan_22 : decode cX2_makePlan 22 = .ok (.invokestatic 42, 3) := by decide +kernel
theorem dX2_makePlan_25 : decode cX2_makePlan 25 = .ok (.aload_n 0, 1) := by decide +kernel
theorem dX2_makePlan_26 : decode cX2_makePlan 26 = .ok (.iconst 1, 1) := by decide +kernel
theorem dX2_makePlan_27 : decode cX2_makePlan 27 = .ok (.putfield 31, 3) := by decide +kernel
theorem dX2_makePlan_30 : decode cX2_makePlan 30 = .ok (.return_, 1) := by decide +kernel
theorem dX2_fewestDays_0 : decode cX2_fewestDays 0 = .ok (.aload_n 0, 1) := by decide +kernel
theorem dX2_fewestDays_1 : decode cX2_fewestDays 1 = .ok (.iconst 0, 1) := by decide +kernel
theorem dX2_fewestDays_2 : decode cX2_fewestDays 2 = .ok (.aload_n 0, 1) := by decide +kernel
theorem dX2_fewestDays_3 : decode cX2_fewestDays 3 = .ok (.getfield 12, 3) := by decide +kernel
theorem dX2_fewestDays_6 : decode cX2_fewestDays 6 = .ok (.getfield 39, 3) := by decide +kernel
theorem dX2_fewestDays_9 : decode cX2_fewestDays 9 = .ok (.invokestatic 46, 3) := by decide +kernel
theorem dX2_fewestDays_12 : decode cX2_fewestDays 12 = .ok (.ireturn, 1) := by decide +kernel
theorem dX2_shootable_0 : decode cX2_shootable 0 = .ok (.iconst 0, 1) := by decide +kernel
theorem dX2_shootable_1 : decode cX2_shootable 1 = .ok (.istore_n 2, 1) := by decide +kernel
theorem dX2_shootable_2 : decode cX2_shootable 2 = .ok (.iconst 0, 1) := by decide +kernel
theorem dX2_shootable_3 : decode cX2_shootable 3 = .ok (.istore_n 3, 1) := by decide +kernel
theorem dX2_shootable_4 : decode cX2_shootable 4 = .ok (.iload_n 3, 1) := by decide +kernel
theorem dX2_shootable_5 : decode cX2_shootable 5 = .ok (.aload_n 0, 1) := by decide +kernel
theorem dX2_shootable_6 : decode cX2_shootable 6 = .ok (.getfield 12, 3) := by decide +kernel
theorem dX2_shootable_9 : decode cX2_shootable 9 = .ok (.invokevirtual 50, 3) := by decide +kernel
theorem dX2_shootable_12 : decode cX2_shootable 12 = .ok (.if_icmp .ge 83, 3) := by decide +kernel
theorem dX2_shootable_15 : decode cX2_shootable 15 = .ok (.aload_n 0, 1) := by decide +kernel
theorem dX2_shootable_16 : decode cX2_shootable 16 = .ok (.getfield 25, 3) := by decide +kernel
theorem dX2_shootable_19 : decode cX2_shootable 19 = .ok (.iload_n 3, 1) := by decide +kernel
theorem dX2_shootable_20 : decode cX2_shootable 20 = .ok (.invokestatic 54, 3) := by decide +kernel
theorem dX2_shootable_23 : decode cX2_shootable 23 = .ok (.istore 4, 2) := by decide +kernel
theorem dX2_shootable_25 : decode cX2_shootable 25 = .ok (.aload_n 0, 1) := by decide +kernel
theorem dX2_shootable_26 : decode cX2_shootable 26 = .ok (.getfield 28, 3) := by decide +kernel
theorem dX2_shootable_29 : decode cX2_shootable 29 = .ok (.iload 4, 2) := by decide +kernel
theorem dX2_shootable_31 : decode cX2_shootable 31 = .ok (.invokestatic 54, 3) := by decide +kernel
theorem dX2_shootable_34 : decode cX2_shootable 34 = .ok (.invokestatic 58, 3) := by decide +kernel
theorem dX2_shootable_37 : decode cX2_shootable 37 = .ok (.aload_n 0, 1) := by decide +kernel
theorem dX2_shootable_38 : decode cX2_shootable 38 = .ok (.getfield 62, 3) := by decide +kernel
theorem dX2_shootable_41 : decode cX2_shootable 41 = .ok (.if_icmp .ne 48, 3) := by decide +kernel
theorem dX2_shootable_44 : decode cX2_shootable 44 = .ok (.iload_n 1, 1) := by decide +kernel
theorem dX2_shootable_45 : decode cX2_shootable 45 = .ok (.ifCond .eq 15, 3) := by decide +kernel
theorem dX2_shootable_48 : decode cX2_shootable 48 = .ok (.aload_n 0, 1) := by decide +kernel
theorem dX2_shootable_49 : decode cX2_shootable 49 = .ok (.getfield 12, 3) := by decide +kernel
theorem dX2_shootable_52 : decode cX2_shootable 52 = .ok (.iload 4, 2) := by decide +kernel
theorem dX2_shootable_54 : decode cX2_shootable 54 = .ok (.invokevirtual 65, 3) := by decide +kernel
theorem dX2_shootable_57 : decode cX2_shootable 57 = .ok (.ifCond .ne 32, 3) := by decide +kernel
theorem dX2_shootable_60 : decode cX2_shootable 60 = .ok (.aload_n 0, 1) := by decide +kernel
theorem dX2_shootable_61 : decode cX2_shootable 61 = .ok (.getfield 12, 3) := by decide +kernel
theorem dX2_shootable_64 : decode cX2_shootable 64 = .ok (.iload 4, 2) := by decide +kernel
theorem dX2_shootable_66 : decode cX2_shootable 66 = .ok (.aload_n 0, 1) := by decide +kernel
theorem dX2_shootable_67 : decode cX2_shootable 67 = .ok (.getfield 12, 3) := by decide +kernel
theorem dX2_shootable_70 : decode cX2_shootable 70 = .ok (.getfield 39, 3) := by decide +kernel
theorem dX2_shootable_73 : decode cX2_shootable 73 = .ok (.iload_n 2, 1) := by decide +kernel
theorem dX2_shootable_74 : decode cX2_shootable 74 = .ok (.ior, 1) := by decide +kernel
theorem dX2_shootable_75 : decode cX2_shootable 75 = .ok (.invokevirtual 69, 3) := by decide +kernel
theorem dX2_shootable_78 : decode cX2_shootable 78 = .ok (.ifCond .eq 11, 3) := by decide +kernel
theorem dX2_shootable_81 : decode cX2_shootable 81 = .ok (.iload_n 2, 1) := by decide +kernel
theorem dX2_shootable_82 : decode cX2_shootable 82 = .ok (.iload 4, 2) := by decide +kernel
theorem dX2_shootable_84 : decode cX2_shootable 84 = .ok (.iconst 1, 1) := by decide +kernel
theorem dX2_shootable_85 : decode cX2_shootable 85 = .ok (.invokestatic 73, 3) := by decide +kernel
theorem dX2_shootable_88 : decode cX2_shootable 88 = .ok (.istore_n 2, 1) := by decide +kernel
theorem dX2_shootable_89 : decode cX2_shootable 89 = .ok (.iinc 3 1, 3) := by decide +kernel
theorem dX2_shootable_92 : decode cX2_shootable 92 = .ok (.goto (-88), 3) := by decide +kernel
theorem dX2_shootable_95 : decode cX2_shootable 95 = .ok (.iload_n 2, 1) := by decide +kernel
theorem dX2_shootable_96 : decode cX2_shootable 96 = .ok (.ireturn, 1) := by decide +kernel
theorem dX2_endDay_0 : decode cX2_endDay 0 = .ok (.iconst 0, 1) := by decide +kernel
theorem dX2_endDay_1 : decode cX2_endDay 1 = .ok (.istore_n 2, 1) := by decide +kernel
theorem dX2_endDay_2 : decode cX2_endDay 2 = .ok (.iload_n 2, 1) := by decide +kernel
theorem dX2_endDay_3 : decode cX2_endDay 3 = .ok (.aload_n 0, 1) := by decide +kernel
theorem dX2_endDay_4 : decode cX2_endDay 4 = .ok (.getfield 12, 3) := by decide +kernel
theorem dX2_endDay_7 : decode cX2_endDay 7 = .ok (.getfield 77, 3) := by decide +kernel
theorem dX2_endDay_10 : decode cX2_endDay 10 = .ok (.if_icmp .ge 33, 3) := by decide +kernel
theorem dX2_endDay_13 : decode cX2_endDay 13 = .ok (.iload_n 1, 1) := by decide +kernel
theorem dX2_endDay_14 : decode cX2_endDay 14 = .ok (.iload_n 2, 1) := by decide +kernel
theorem dX2_endDay_15 : decode cX2_endDay 15 = .ok (.invokestatic 80, 3) := by decide +kernel
theorem dX2_endDay_18 : decode cX2_endDay 18 = .ok (.ifCond .eq 19, 3) := by decide +kernel
theorem dX2_endDay_21 : decode cX2_endDay 21 = .ok (.aload_n 0, 1) := by decide +kernel
theorem dX2_endDay_22 : decode cX2_endDay 22 = .ok (.getfield 22, 3) := by decide +kernel
theorem dX2_endDay_25 : decode cX2_endDay 25 = .ok (.iload_n 2, 1) := by decide +kernel
theorem dX2_endDay_26 : decode cX2_endDay 26 = .ok (.aload_n 0, 1) := by decide +kernel
theorem dX2_endDay_27 : decode cX2_endDay 27 = .ok (.getfield 28, 3) := by decide +kernel
theorem dX2_endDay_30 : decode cX2_endDay 30 = .ok (.iload_n 2, 1) := by decide +kernel
theorem dX2_endDay_31 : decode cX2_endDay 31 = .ok (.invokestatic 54, 3) := by decide +kernel
theorem dX2_endDay_34 : decode cX2_endDay 34 = .ok (.invokestatic 83, 3) := by decide +kernel
theorem dX2_endDay_37 : decode cX2_endDay 37 = .ok (.iinc 2 1, 3) := by decide +kernel
theorem dX2_endDay_40 : decode cX2_endDay 40 = .ok (.goto (-38), 3) := by decide +kernel
theorem dX2_endDay_43 : decode cX2_endDay 43 = .ok (.aload_n 0, 1) := by decide +kernel
theorem dX2_endDay_44 : decode cX2_endDay 44 = .ok (.getfield 12, 3) := by decide +kernel
theorem dX2_endDay_47 : decode cX2_endDay 47 = .ok (.dup, 1) := by decide +kernel
theorem dX2_endDay_48 : decode cX2_endDay 48 = .ok (.getfield 39, 3) := by decide +kernel
theorem dX2_endDay_51 : decode cX2_endDay 51 = .ok (.iload_n 1, 1) := by decide +kernel
theorem dX2_endDay_52 : decode cX2_endDay 52 = .ok (.ior, 1) := by decide +kernel
theorem dX2_endDay_53 : decode cX2_endDay 53 = .ok (.putfield 39, 3) := by decide +kernel
theorem dX2_endDay_56 : decode cX2_endDay 56 = .ok (.aload_n 0, 1) := by decide +kernel
theorem dX2_endDay_57 : decode cX2_endDay 57 = .ok (.dup, 1) := by decide +kernel
theorem dX2_endDay_58 : decode cX2_endDay 58 = .ok (.getfield 62, 3) := by decide +kernel
theorem dX2_endDay_61 : decode cX2_endDay 61 = .ok (.iconst 1, 1) := by decide +kernel
theorem dX2_endDay_62 : decode cX2_endDay 62 = .ok (.iadd, 1) := by decide +kernel
theorem dX2_endDay_63 : decode cX2_endDay 63 = .ok (.putfield 62, 3) := by decide +kernel
theorem dX2_endDay_66 : decode cX2_endDay 66 = .ok (.aload_n 0, 1) := by decide +kernel
theorem dX2_endDay_67 : decode cX2_endDay 67 = .ok (.invokevirtual 87, 3) := by decide +kernel
theorem dX2_endDay_70 : decode cX2_endDay 70 = .ok (.return_, 1) := by decide +kernel
theorem dX2_tryOrders_0 : decode cX2_tryOrders 0 = .ok (.iload_n 2, 1) := by decide +kernel
theorem dX2_tryOrders_1 : decode cX2_tryOrders 1 = .ok (.aload_n 0, 1) := by decide +kernel
theorem dX2_tryOrders_2 : decode cX2_tryOrders 2 = .ok (.getfield 12, 3) := by decide +kernel
theorem dX2_tryOrders_5 : decode cX2_tryOrders 5 = .ok (.invokevirtual 90, 3) := by decide +kernel
theorem dX2_tryOrders_8 : decode cX2_tryOrders 8 = .ok (.if_icmp .eq 9, 3) := by decide +kernel
theorem dX2_tryOrders_11 : decode cX2_tryOrders 11 = .ok (.iload_n 1, 1) := by decide +kernel
theorem dX2_tryOrders_12 : decode cX2_tryOrders 12 = .ok (.bipush 8, 2) := by decide +kernel
theorem dX2_tryOrders_14 : decode cX2_tryOrders 14 = .ok (.if_icmp .lt 9, 3) := by decide +kernel
theorem dX2_tryOrders_17 : decode cX2_tryOrders 17 = .ok (.aload_n 0, 1) := by decide +kernel
theorem dX2_tryOrders_18 : decode cX2_tryOrders 18 = .ok (.iload_n 1, 1) := by decide +kernel
theorem dX2_tryOrders_19 : decode cX2_tryOrders 19 = .ok (.invokevirtual 93, 3) := by decide +kernel
theorem dX2_tryOrders_22 : decode cX2_tryOrders 22 = .ok (.return_, 1) := by decide +kernel
theorem dX2_tryOrders_23 : decode cX2_tryOrders 23 = .ok (.iconst 0, 1) := by decide +kernel
theorem dX2_tryOrders_24 : decode cX2_tryOrders 24 = .ok (.istore_n 3, 1) := by decide +kernel
theorem dX2_tryOrders_25 : decode cX2_tryOrders 25 = .ok (.iload_n 3, 1) := by decide +kernel
theorem dX2_tryOrders_26 : decode cX2_tryOrders 26 = .ok (.aload_n 0, 1) := by decide +kernel
theorem dX2_tryOrders_27 : decode cX2_tryOrders 27 = .ok (.getfield 12, 3) := by decide +kernel
theorem dX2_tryOrders_30 : decode cX2_tryOrders 30 = .ok (.getfield 77, 3) := by decide +kernel
theorem dX2_tryOrders_33 : decode cX2_tryOrders 33 = .ok (.if_icmp .ge 57, 3) := by decide +kernel
theorem dX2_tryOrders_36 : decode cX2_tryOrders 36 = .ok (.aload_n 0, 1) := by decide +kernel
theorem dX2_tryOrders_37 : decode cX2_tryOrders 37 = .ok (.getfield 12, 3) := by decide +kernel
theorem dX2_tryOrders_40 : decode cX2_tryOrders 40 = .ok (.iload_n 3, 1) := by decide +kernel
theorem dX2_tryOrders_41 : decode cX2_tryOrders 41 = .ok (.iload_n 2, 1) := by decide +kernel
theorem dX2_tryOrders_42 : decode cX2_tryOrders 42 = .ok (.invokevirtual 97, 3) := by decide +kernel
theorem dX2_tryOrders_45 : decode cX2_tryOrders 45 = .ok (.ifCond .eq 39, 3) := by decide +kernel
theorem dX2_tryOrders_48 : decode cX2_tryOrders 48 = .ok (.aload_n 0, 1) := by decide +kernel
theorem dX2_tryOrders_49 : decode cX2_tryOrders 49 = .ok (.iload_n 3, 1) := by decide +kernel
theorem dX2_tryOrders_50 : decode cX2_tryOrders 50 = .ok (.iload_n 1, 1) := by decide +kernel
theorem dX2_tryOrders_51 : decode cX2_tryOrders 51 = .ok (.iload_n 2, 1) := by decide +kernel
theorem dX2_tryOrders_52 : decode cX2_tryOrders 52 = .ok (.invokevirtual 100, 3) := by decide +kernel
theorem dX2_tryOrders_55 : decode cX2_tryOrders 55 = .ok (.iload_n 2, 1) := by decide +kernel
theorem dX2_tryOrders_56 : decode cX2_tryOrders 56 = .ok (.iload_n 3, 1) := by decide +kernel
theorem dX2_tryOrders_57 : decode cX2_tryOrders 57 = .ok (.iconst 1, 1) := by decide +kernel
theorem dX2_tryOrders_58 : decode cX2_tryOrders 58 = .ok (.invokestatic 73, 3) := by decide +kernel
theorem dX2_tryOrders_61 : decode cX2_tryOrders 61 = .ok (.istore 4, 2) := by decide +kernel
theorem dX2_tryOrders_63 : decode cX2_tryOrders 63 = .ok (.aload_n 0, 1) := by decide +kernel
theorem dX2_tryOrders_64 : decode cX2_tryOrders 64 = .ok (.iload_n 1, 1) := by decide +kernel
theorem dX2_tryOrders_65 : decode cX2_tryOrders 65 = .ok (.iconst 1, 1) := by decide +kernel
theorem dX2_tryOrders_66 : decode cX2_tryOrders 66 = .ok (.iadd, 1) := by decide +kernel
theorem dX2_tryOrders_67 : decode cX2_tryOrders 67 = .ok (.iload 4, 2) := by decide +kernel
theorem dX2_tryOrders_69 : decode cX2_tryOrders 69 = .ok (.invokevirtual 104, 3) := by decide +kernel
theorem dX2_tryOrders_72 : decode cX2_tryOrders 72 = .ok (.ifCond .eq 12, 3) := by decide +kernel
theorem dX2_tryOrders_75 : decode cX2_tryOrders 75 = .ok (.aload_n 0, 1) := by decide +kernel
theorem dX2_tryOrders_76 : decode cX2_tryOrders 76 = .ok (.iload_n 1, 1) := by decide +kernel
theorem dX2_tryOrders_77 : decode cX2_tryOrders 77 = .ok (.iconst 1, 1) := by decide +kernel
theorem dX2_tryOrders_78 : decode cX2_tryOrders 78 = .ok (.iadd, 1) := by decide +kernel
theorem dX2_tryOrders_79 : decode cX2_tryOrders 79 = .ok (.iload 4, 2) := by decide +kernel
theorem dX2_tryOrders_81 : decode cX2_tryOrders 81 = .ok (.invokestatic 42, 3) := by decide +kernel
theorem dX2_tryOrders_84 : decode cX2_tryOrders 84 = .ok (.iinc 3 1, 3) := by decide +kernel
theorem dX2_tryOrders_87 : decode cX2_tryOrders 87 = .ok (.goto (-62), 3) := by decide +kernel
theorem dX2_tryOrders_90 : decode cX2_tryOrders 90 = .ok (.return_, 1) := by decide +kernel
theorem dX2_fewestOfAll_0 : decode cX2_fewestOfAll 0 = .ok (.iload_n 2, 1) := by decide +kernel
theorem dX2_fewestOfAll_1 : decode cX2_fewestOfAll 1 = .ok (.aload_n 0, 1) := by decide +kernel
theorem dX2_fewestOfAll_2 : decode cX2_fewestOfAll 2 = .ok (.getfield 12, 3) := by decide +kernel
theorem dX2_fewestOfAll_5 : decode cX2_fewestOfAll 5 = .ok (.invokevirtual 90, 3) := by decide +kernel
theorem dX2_fewestOfAll_8 : decode cX2_fewestOfAll 8 = .ok (.if_icmp .eq 9, 3) := by decide +kernel
theorem dX2_fewestOfAll_11 : decode cX2_fewestOfAll 11 = .ok (.iload_n 1, 1) := by decide +kernel
theorem dX2_fewestOfAll_12 : decode cX2_fewestOfAll 12 = .ok (.bipush 8, 2) := by decide +kernel
theorem dX2_fewestOfAll_14 : decode cX2_fewestOfAll 14 = .ok (.if_icmp .lt 9, 3) := by decide +kernel
theorem dX2_fewestOfAll_17 : decode cX2_fewestOfAll 17 = .ok (.aload_n 0, 1) := by decide +kernel
theorem dX2_fewestOfAll_18 : decode cX2_fewestOfAll 18 = .ok (.iload_n 1, 1) := by decide +kernel
theorem dX2_fewestOfAll_19 : decode cX2_fewestOfAll 19 = .ok (.invokevirtual 107, 3) := by decide +kernel
theorem dX2_fewestOfAll_22 : decode cX2_fewestOfAll 22 = .ok (.ireturn, 1) := by decide +kernel
theorem dX2_fewestOfAll_23 : decode cX2_fewestOfAll 23 = .ok (.bipush 9, 2) := by decide +kernel
theorem dX2_fewestOfAll_25 : decode cX2_fewestOfAll 25 = .ok (.istore_n 3, 1) := by decide +kernel
theorem dX2_fewestOfAll_26 : decode cX2_fewestOfAll 26 = .ok (.iconst 0, 1) := by decide +kernel
theorem dX2_fewestOfAll_27 : decode cX2_fewestOfAll 27 = .ok (.istore 4, 2) := by decide +kernel
theorem dX2_fewestOfAll_29 : decode cX2_fewestOfAll 29 = .ok (.iload 4, 2) := by decide +kernel
theorem dX2_fewestOfAll_31 : decode cX2_fewestOfAll 31 = .ok (.aload_n 0, 1) := by decide +kernel
theorem dX2_fewestOfAll_32 : decode cX2_fewestOfAll 32 = .ok (.getfield 12, 3) := by decide +kernel
theorem dX2_fewestOfAll_35 : decode cX2_fewestOfAll 35 = .ok (.getfield 77, 3) := by decide +kernel
theorem dX2_fewestOfAll_38 : decode cX2_fewestOfAll 38 = .ok (.if_icmp .ge 49, 3) := by decide +kernel
theorem dX2_fewestOfAll_41 : decode cX2_fewestOfAll 41 = .ok (.aload_n 0, 1) := by decide +kernel
theorem dX2_fewestOfAll_42 : decode cX2_fewestOfAll 42 = .ok (.getfield 12, 3) := by decide +kernel
theorem dX2_fewestOfAll_45 : decode cX2_fewestOfAll 45 = .ok (.iload 4, 2) := by decide +kernel
theorem dX2_fewestOfAll_47 : decode cX2_fewestOfAll 47 = .ok (.iload_n 2, 1) := by decide +kernel
theorem dX2_fewestOfAll_48 : decode cX2_fewestOfAll 48 = .ok (.invokevirtual 97, 3) := by decide +kernel
theorem dX2_fewestOfAll_51 : decode cX2_fewestOfAll 51 = .ok (.ifCond .eq 30, 3) := by decide +kernel
theorem dX2_fewestOfAll_54 : decode cX2_fewestOfAll 54 = .ok (.aload_n 0, 1) := by decide +kernel
theorem dX2_fewestOfAll_55 : decode cX2_fewestOfAll 55 = .ok (.iload 4, 2) := by decide +kernel
theorem dX2_fewestOfAll_57 : decode cX2_fewestOfAll 57 = .ok (.iload_n 1, 1) := by decide +kernel
theorem dX2_fewestOfAll_58 : decode cX2_fewestOfAll 58 = .ok (.iload_n 2, 1) := by decide +kernel
theorem dX2_fewestOfAll_59 : decode cX2_fewestOfAll 59 = .ok (.invokevirtual 100, 3) := by decide +kernel
theorem dX2_fewestOfAll_62 : decode cX2_fewestOfAll 62 = .ok (.iload_n 3, 1) := by decide +kernel
theorem dX2_fewestOfAll_63 : decode cX2_fewestOfAll 63 = .ok (.aload_n 0, 1) := by decide +kernel
theorem dX2_fewestOfAll_64 : decode cX2_fewestOfAll 64 = .ok (.iload_n 1, 1) := by decide +kernel
theorem dX2_fewestOfAll_65 : decode cX2_fewestOfAll 65 = .ok (.iconst 1, 1) := by decide +kernel
theorem dX2_fewestOfAll_66 : decode cX2_fewestOfAll 66 = .ok (.iadd, 1) := by decide +kernel
theorem dX2_fewestOfAll_67 : decode cX2_fewestOfAll 67 = .ok (.iload_n 2, 1) := by decide +kernel
theorem dX2_fewestOfAll_68 : decode cX2_fewestOfAll 68 = .ok (.iload 4, 2) := by decide +kernel
theorem dX2_fewestOfAll_70 : decode cX2_fewestOfAll 70 = .ok (.iconst 1, 1) := by decide +kernel
theorem dX2_fewestOfAll_71 : decode cX2_fewestOfAll 71 = .ok (.invokestatic 73, 3) := by decide +kernel
theorem dX2_fewestOfAll_74 : decode cX2_fewestOfAll 74 = .ok (.invokestatic 46, 3) := by decide +kernel
theorem dX2_fewestOfAll_77 : decode cX2_fewestOfAll 77 = .ok (.invokestatic 110, 3) := by decide +kernel
theorem dX2_fewestOfAll_80 : decode cX2_fewestOfAll 80 = .ok (.istore_n 3, 1) := by decide +kernel
theorem dX2_fewestOfAll_81 : decode cX2_fewestOfAll 81 = .ok (.iinc 4 1, 3) := by decide +kernel
theorem dX2_fewestOfAll_84 : decode cX2_fewestOfAll 84 = .ok (.goto (-55), 3) := by decide +kernel
theorem dX2_fewestOfAll_87 : decode cX2_fewestOfAll 87 = .ok (.iload_n 3, 1) := by decide +kernel
theorem dX2_fewestOfAll_88 : decode cX2_fewestOfAll 88 = .ok (.ireturn, 1) := by decide +kernel
theorem dX2_keepIfBetter_0 : decode cX2_keepIfBetter 0 = .ok (.aload_n 0, 1) := by decide +kernel
theorem dX2_keepIfBetter_1 : decode cX2_keepIfBetter 1 = .ok (.iload_n 1, 1) := by decide +kernel
theorem dX2_keepIfBetter_2 : decode cX2_keepIfBetter 2 = .ok (.invokevirtual 107, 3) := by decide +kernel
theorem dX2_keepIfBetter_5 : decode cX2_keepIfBetter 5 = .ok (.aload_n 0, 1) := by decide +kernel
theorem dX2_keepIfBetter_6 : decode cX2_keepIfBetter 6 = .ok (.getfield 35, 3) := by decide +kernel
theorem dX2_keepIfBetter_9 : decode cX2_keepIfBetter 9 = .ok (.if_icmp .lt 4, 3) := by decide +kernel
theorem dX2_keepIfBetter_12 : decode cX2_keepIfBetter 12 = .ok (.return_, 1) := by decide +kernel
theorem dX2_keepIfBetter_13 : decode cX2_keepIfBetter 13 = .ok (.aload_n 0, 1) := by decide +kernel
theorem dX2_keepIfBetter_14 : decode cX2_keepIfBetter 14 = .ok (.aload_n 0, 1) := by decide +kernel
theorem dX2_keepIfBetter_15 : decode cX2_keepIfBetter 15 = .ok (.iload_n 1, 1) := by decide +kernel
theorem dX2_keepIfBetter_16 : decode cX2_keepIfBetter 16 = .ok (.invokevirtual 107, 3) := by decide +kernel
theorem dX2_keepIfBetter_19 : decode cX2_keepIfBetter 19 = .ok (.putfield 35, 3) := by decide +kernel
theorem dX2_keepIfBetter_22 : decode cX2_keepIfBetter 22 = .ok (.iconst 0, 1) := by decide +kernel
theorem dX2_keepIfBetter_23 : decode cX2_keepIfBetter 23 = .ok (.istore_n 2, 1) := by decide +kernel
theorem dX2_keepIfBetter_24 : decode cX2_keepIfBetter 24 = .ok (.iload_n 2, 1) := by decide +kernel
theorem dX2_keepIfBetter_25 : decode cX2_keepIfBetter 25 = .ok (.bipush 8, 2) := by decide +kernel
theorem dX2_keepIfBetter_27 : decode cX2_keepIfBetter 27 = .ok (.if_icmp .ge 41, 3) := by decide +kernel
theorem dX2_keepIfBetter_30 : decode cX2_keepIfBetter 30 = .ok (.aload_n 0, 1) := by decide +kernel
theorem dX2_keepIfBetter_31 : decode cX2_keepIfBetter 31 = .ok (.getfield 25, 3) := by decide +kernel
theorem dX2_keepIfBetter_34 : decode cX2_keepIfBetter 34 = .ok (.iload_n 2, 1) := by decide +kernel
theorem dX2_keepIfBetter_35 : decode cX2_keepIfBetter 35 = .ok (.aload_n 0, 1) := by decide +kernel
theorem dX2_keepIfBetter_36 : decode cX2_keepIfBetter 36 = .ok (.getfield 18, 3) := by decide +kernel
theorem dX2_keepIfBetter_39 : decode cX2_keepIfBetter 39 = .ok (.iload_n 2, 1) := by decide +kernel
theorem dX2_keepIfBetter_40 : decode cX2_keepIfBetter 40 = .ok (.invokestatic 54, 3) := by decide +kernel
theorem dX2_keepIfBetter_43 : decode cX2_keepIfBetter 43 = .ok (.invokestatic 83, 3) := by decide +kernel
theorem dX2_keepIfBetter_46 : decode cX2_keepIfBetter 46 = .ok (.aload_n 0, 1) := by decide +kernel
theorem dX2_keepIfBetter_47 : decode cX2_keepIfBetter 47 = .ok (.getfield 28, 3) := by decide +kernel
theorem dX2_keepIfBetter_50 : decode cX2_keepIfBetter 50 = .ok (.iload_n 2, 1) := by decide +kernel
theorem dX2_keepIfBetter_51 : decode cX2_keepIfBetter 51 = .ok (.aload_n 0, 1) := by decide +kernel
theorem dX2_keepIfBetter_52 : decode cX2_keepIfBetter 52 = .ok (.getfield 22, 3) := by decide +kernel
theorem dX2_keepIfBetter_55 : decode cX2_keepIfBetter 55 = .ok (.iload_n 2, 1) := by decide +kernel
theorem dX2_keepIfBetter_56 : decode cX2_keepIfBetter 56 = .ok (.invokestatic 54, 3) := by decide +kernel
theorem dX2_keepIfBetter_59 : decode cX2_keepIfBetter 59 = .ok (.invokestatic 83, 3) := by decide +kernel
theorem dX2_keepIfBetter_62 : decode cX2_keepIfBetter 62 = .ok (.iinc 2 1, 3) := by decide +kernel
theorem dX2_keepIfBetter_65 : decode cX2_keepIfBetter 65 = .ok (.goto (-41), 3) := by decide +kernel
theorem dX2_keepIfBetter_68 : decode cX2_keepIfBetter 68 = .ok (.return_, 1) := by decide +kernel
theorem dX2_daysUpTo_0 : decode cX2_daysUpTo 0 = .ok (.iload_n 1, 1) := by decide +kernel
theorem dX2_daysUpTo_1 : decode cX2_daysUpTo 1 = .ok (.ifCond .ne 7, 3) := by decide +kernel
theorem dX2_daysUpTo_4 : decode cX2_daysUpTo 4 = .ok (.iconst 0, 1) := by decide +kernel
theorem dX2_daysUpTo_5 : decode cX2_daysUpTo 5 = .ok (.goto 30, 3) := by decide +kernel
theorem dX2_daysUpTo_8 : decode cX2_daysUpTo 8 = .ok (.aload_n 0, 1) := by decide +kernel
theorem dX2_daysUpTo_9 : decode cX2_daysUpTo 9 = .ok (.getfield 22, 3) := by decide +kernel
theorem dX2_daysUpTo_12 : decode cX2_daysUpTo 12 = .ok (.aload_n 0, 1) := by decide +kernel
theorem dX2_daysUpTo_13 : decode cX2_daysUpTo 13 = .ok (.getfield 18, 3) := by decide +kernel
theorem dX2_daysUpTo_16 : decode cX2_daysUpTo 16 = .ok (.iload_n 1, 1) := by decide +kernel
theorem dX2_daysUpTo_17 : decode cX2_daysUpTo 17 = .ok (.iconst 1, 1) := by decide +kernel
theorem dX2_daysUpTo_18 : decode cX2_daysUpTo 18 = .ok (.isub, 1) := by decide +kernel
theorem dX2_daysUpTo_19 : decode cX2_daysUpTo 19 = .ok (.invokestatic 54, 3) := by decide +kernel
theorem dX2_daysUpTo_22 : decode cX2_daysUpTo 22 = .ok (.invokestatic 54, 3) := by decide +kernel
theorem dX2_daysUpTo_25 : decode cX2_daysUpTo 25 = .ok (.invokestatic 58, 3) := by decide +kernel
theorem dX2_daysUpTo_28 : decode cX2_daysUpTo 28 = .ok (.aload_n 0, 1) := by decide +kernel
theorem dX2_daysUpTo_29 : decode cX2_daysUpTo 29 = .ok (.getfield 62, 3) := by decide +kernel
theorem dX2_daysUpTo_32 : decode cX2_daysUpTo 32 = .ok (.isub, 1) := by decide +kernel
theorem dX2_daysUpTo_33 : decode cX2_daysUpTo 33 = .ok (.iconst 1, 1) := by decide +kernel
theorem dX2_daysUpTo_34 : decode cX2_daysUpTo 34 = .ok (.iadd, 1) := by decide +kernel
theorem dX2_daysUpTo_35 : decode cX2_daysUpTo 35 = .ok (.ireturn, 1) := by decide +kernel
theorem dX2_canBeBetter_0 : decode cX2_canBeBetter 0 = .ok (.aload_n 0, 1) := by decide +kernel
theorem dX2_canBeBetter_1 : decode cX2_canBeBetter 1 = .ok (.getfield 35, 3) := by decide +kernel
theorem dX2_canBeBetter_4 : decode cX2_canBeBetter 4 = .ok (.iconst 1, 1) := by decide +kernel
theorem dX2_canBeBetter_5 : decode cX2_canBeBetter 5 = .ok (.isub, 1) := by decide +kernel
theorem dX2_canBeBetter_6 : decode cX2_canBeBetter 6 = .ok (.aload_n 0, 1) := by decide +kernel
theorem dX2_canBeBetter_7 : decode cX2_canBeBetter 7 = .ok (.iload_n 1, 1) := by decide +kernel
theorem dX2_canBeBetter_8 : decode cX2_canBeBetter 8 = .ok (.invokevirtual 107, 3) := by decide +kernel
theorem dX2_canBeBetter_11 : decode cX2_canBeBetter 11 = .ok (.isub, 1) := by decide +kernel
theorem dX2_canBeBetter_12 : decode cX2_canBeBetter 12 = .ok (.istore_n 3, 1) := by decide +kernel
theorem dX2_canBeBetter_13 : decode cX2_canBeBetter 13 = .ok (.aload_n 0, 1) := by decide +kernel
theorem dX2_canBeBetter_14 : decode cX2_canBeBetter 14 = .ok (.getfield 18, 3) := by decide +kernel
theorem dX2_canBeBetter_17 : decode cX2_canBeBetter 17 = .ok (.iload_n 1, 1) := by decide +kernel
theorem dX2_canBeBetter_18 : decode cX2_canBeBetter 18 = .ok (.iconst 1, 1) := by decide +kernel
theorem dX2_canBeBetter_19 : decode cX2_canBeBetter 19 = .ok (.isub, 1) := by decide +kernel
theorem dX2_canBeBetter_20 : decode cX2_canBeBetter 20 = .ok (.invokestatic 54, 3) := by decide +kernel
theorem dX2_canBeBetter_23 : decode cX2_canBeBetter 23 = .ok (.istore 4, 2) := by decide +kernel
theorem dX2_canBeBetter_25 : decode cX2_canBeBetter 25 = .ok (.aload_n 0, 1) := by decide +kernel
theorem dX2_canBeBetter_26 : decode cX2_canBeBetter 26 = .ok (.getfield 12, 3) := by decide +kernel
theorem dX2_canBeBetter_29 : decode cX2_canBeBetter 29 = .ok (.invokevirtual 90, 3) := by decide +kernel
theorem dX2_canBeBetter_32 : decode cX2_canBeBetter 32 = .ok (.iload_n 2, 1) := by decide +kernel
theorem dX2_canBeBetter_33 : decode cX2_canBeBetter 33 = .ok (.iconst (-1), 1) := by decide +kernel
theorem dX2_canBeBetter_34 : decode cX2_canBeBetter 34 = .ok (.ixor, 1) := by decide +kernel
theorem dX2_canBeBetter_35 : decode cX2_canBeBetter 35 = .ok (.iand, 1) := by decide +kernel
theorem dX2_canBeBetter_36 : decode cX2_canBeBetter 36 = .ok (.istore 5, 2) := by decide +kernel
theorem dX2_canBeBetter_38 : decode cX2_canBeBetter 38 = .ok (.iload_n 3, 1) := by decide +kernel
theorem dX2_canBeBetter_39 : decode cX2_canBeBetter 39 = .ok (.ifCond .lt 32, 3) := by decide +kernel
theorem dX2_canBeBetter_42 : decode cX2_canBeBetter 42 = .ok (.aload_n 0, 1) := by decide +kernel
theorem dX2_canBeBetter_43 : decode cX2_canBeBetter 43 = .ok (.iload 5, 2) := by decide +kernel
theorem dX2_canBeBetter_45 : decode cX2_canBeBetter 45 = .ok (.iload 4, 2) := by decide +kernel
theorem dX2_canBeBetter_47 : decode cX2_canBeBetter 47 = .ok (.iload_n 3, 1) := by decide +kernel
theorem dX2_canBeBetter_48 : decode cX2_canBeBetter 48 = .ok (.invokevirtual 116, 3) := by decide +kernel
theorem dX2_canBeBetter_51 : decode cX2_canBeBetter 51 = .ok (.ifCond .eq 20, 3) := by decide +kernel
theorem dX2_canBeBetter_54 : decode cX2_canBeBetter 54 = .ok (.aload_n 0, 1) := by decide +kernel
theorem dX2_canBeBetter_55 : decode cX2_canBeBetter 55 = .ok (.iload 5, 2) := by decide +kernel
theorem dX2_canBeBetter_57 : decode cX2_canBeBetter 57 = .ok (.iload_n 2, 1) := by decide +kernel
theorem dX2_canBeBetter_58 : decode cX2_canBeBetter 58 = .ok (.iload 4, 2) := by decide +kernel
theorem dX2_canBeBetter_60 : decode cX2_canBeBetter 60 = .ok (.iload_n 3, 1) := by decide +kernel
theorem dX2_canBeBetter_61 : decode cX2_canBeBetter 61 = .ok (.invokevirtual 120, 3) := by decide +kernel
theorem dX2_canBeBetter_64 : decode cX2_canBeBetter 64 = .ok (.ifCond .eq 7, 3) := by decide +kernel
theorem dX2_canBeBetter_67 : decode cX2_canBeBetter 67 = .ok (.iconst 1, 1) := by decide +kernel
theorem dX2_canBeBetter_68 : decode cX2_canBeBetter 68 = .ok (.goto 4, 3) := by decide +kernel
theorem dX2_canBeBetter_71 : decode cX2_canBeBetter 71 = .ok (.iconst 0, 1) := by decide +kernel
theorem dX2_canBeBetter_72 : decode cX2_canBeBetter 72 = .ok (.ireturn, 1) := by decide +kernel
theorem dX2_hasRoom_0 : decode cX2_hasRoom 0 = .ok (.aload_n 0, 1) := by decide +kernel
theorem dX2_hasRoom_1 : decode cX2_hasRoom 1 = .ok (.iload_n 2, 1) := by decide +kernel
theorem dX2_hasRoom_2 : decode cX2_hasRoom 2 = .ok (.invokevirtual 124, 3) := by decide +kernel
theorem dX2_hasRoom_5 : decode cX2_hasRoom 5 = .ok (.bipush 24, 2) := by decide +kernel
theorem dX2_hasRoom_7 : decode cX2_hasRoom 7 = .ok (.aload_n 0, 1) := by decide +kernel
theorem dX2_hasRoom_8 : decode cX2_hasRoom 8 = .ok (.getfield 22, 3) := by decide +kernel
theorem dX2_hasRoom_11 : decode cX2_hasRoom 11 = .ok (.iload_n 2, 1) := by decide +kernel
theorem dX2_hasRoom_12 : decode cX2_hasRoom 12 = .ok (.invokestatic 54, 3) := by decide +kernel
theorem dX2_hasRoom_15 : decode cX2_hasRoom 15 = .ok (.invokestatic 58, 3) := by decide +kernel
theorem dX2_hasRoom_18 : decode cX2_hasRoom 18 = .ok (.imul, 1) := by decide +kernel
theorem dX2_hasRoom_19 : decode cX2_hasRoom 19 = .ok (.isub, 1) := by decide +kernel
theorem dX2_hasRoom_20 : decode cX2_hasRoom 20 = .ok (.istore 4, 2) := by decide +kernel
theorem dX2_hasRoom_22 : decode cX2_hasRoom 22 = .ok (.aload_n 0, 1) := by decide +kernel
theorem dX2_hasRoom_23 : decode cX2_hasRoom 23 = .ok (.getfield 12, 3) := by decide +kernel
theorem dX2_hasRoom_26 : decode cX2_hasRoom 26 = .ok (.iload_n 1, 1) := by decide +kernel
theorem dX2_hasRoom_27 : decode cX2_hasRoom 27 = .ok (.invokevirtual 127, 3) := by decide +kernel
theorem dX2_hasRoom_30 : decode cX2_hasRoom 30 = .ok (.bipush 24, 2) := by decide +kernel
theorem dX2_hasRoom_32 : decode cX2_hasRoom 32 = .ok (.iload 4, 2) := by decide +kernel
theorem dX2_hasRoom_34 : decode cX2_hasRoom 34 = .ok (.isub, 1) := by decide +kernel
theorem dX2_hasRoom_35 : decode cX2_hasRoom 35 = .ok (.iload_n 3, 1) := by decide +kernel
theorem dX2_hasRoom_36 : decode cX2_hasRoom 36 = .ok (.bipush 16, 2) := by decide +kernel
theorem dX2_hasRoom_38 : decode cX2_hasRoom 38 = .ok (.imul, 1) := by decide +kernel
theorem dX2_hasRoom_39 : decode cX2_hasRoom 39 = .ok (.iadd, 1) := by decide +kernel
theorem dX2_hasRoom_40 : decode cX2_hasRoom 40 = .ok (.if_icmp .gt 54, 3) := by decide +kernel
theorem dX2_hasRoom_43 : decode cX2_hasRoom 43 = .ok (.aload_n 0, 1) := by decide +kernel
theorem dX2_hasRoom_44 : decode cX2_hasRoom 44 = .ok (.iload_n 1, 1) := by decide +kernel
theorem dX2_hasRoom_45 : decode cX2_hasRoom 45 = .ok (.iconst 1, 1) := by decide +kernel
theorem dX2_hasRoom_46 : decode cX2_hasRoom 46 = .ok (.invokevirtual 130, 3) := by decide +kernel
theorem dX2_hasRoom_49 : decode cX2_hasRoom 49 = .ok (.iconst 0, 1) := by decide +kernel
theorem dX2_hasRoom_50 : decode cX2_hasRoom 50 = .ok (.bipush 18, 2) := by decide +kernel
theorem dX2_hasRoom_52 : decode cX2_hasRoom 52 = .ok (.iload 4, 2) := by decide +kernel
theorem dX2_hasRoom_54 : decode cX2_hasRoom 54 = .ok (.isub, 1) := by decide +kernel
theorem dX2_hasRoom_55 : decode cX2_hasRoom 55 = .ok (.invokestatic 133, 3) := by decide +kernel
theorem dX2_hasRoom_58 : decode cX2_hasRoom 58 = .ok (.iload_n 3, 1) := by decide +kernel
theorem dX2_hasRoom_59 : decode cX2_hasRoom 59 = .ok (.bipush 10, 2) := by decide +kernel
theorem dX2_hasRoom_61 : decode cX2_hasRoom 61 = .ok (.imul, 1) := by decide +kernel
theorem dX2_hasRoom_62 : decode cX2_hasRoom 62 = .ok (.iadd, 1) := by decide +kernel
theorem dX2_hasRoom_63 : decode cX2_hasRoom 63 = .ok (.if_icmp .gt 31, 3) := by decide +kernel
theorem dX2_hasRoom_66 : decode cX2_hasRoom 66 = .ok (.aload_n 0, 1) := by decide +kernel
theorem dX2_hasRoom_67 : decode cX2_hasRoom 67 = .ok (.iload_n 1, 1) := by decide +kernel
theorem dX2_hasRoom_68 : decode cX2_hasRoom 68 = .ok (.iconst 2, 1) := by decide +kernel
theorem dX2_hasRoom_69 : decode cX2_hasRoom 69 = .ok (.invokevirtual 130, 3) := by decide +kernel
theorem dX2_hasRoom_72 : decode cX2_hasRoom 72 = .ok (.bipush 24, 2) := by decide +kernel
theorem dX2_hasRoom_74 : decode cX2_hasRoom 74 = .ok (.bipush 18, 2) := by decide +kernel
theorem dX2_hasRoom_76 : decode cX2_hasRoom 76 = .ok (.iload 4, 2) := by decide +kernel
theorem dX2_hasRoom_78 : decode cX2_hasRoom 78 = .ok (.invokestatic 133, 3) := by decide +kernel
theorem dX2_hasRoom_81 : decode cX2_hasRoom 81 = .ok (.isub, 1) := by decide +kernel
theorem dX2_hasRoom_82 : decode cX2_hasRoom 82 = .ok (.iload_n 3, 1) := by decide +kernel
theorem dX2_hasRoom_83 : decode cX2_hasRoom 83 = .ok (.bipush 6, 2) := by decide +kernel
theorem dX2_hasRoom_85 : decode cX2_hasRoom 85 = .ok (.imul, 1) := by decide +kernel
theorem dX2_hasRoom_86 : decode cX2_hasRoom 86 = .ok (.iadd, 1) := by decide +kernel
theorem dX2_hasRoom_87 : decode cX2_hasRoom 87 = .ok (.if_icmp .gt 7, 3) := by decide +kernel
theorem dX2_hasRoom_90 : decode cX2_hasRoom 90 = .ok (.iconst 1, 1) := by decide +kernel
theorem dX2_hasRoom_91 : decode cX2_hasRoom 91 = .ok (.goto 4, 3) := by decide +kernel
theorem dX2_hasRoom_94 : decode cX2_hasRoom 94 = .ok (.iconst 0, 1) := by decide +kernel
theorem dX2_hasRoom_95 : decode cX2_hasRoom 95 = .ok (.ireturn, 1) := by decide +kernel
theorem dX2_hasRoomForChildren_0 : decode cX2_hasRoomForChildren 0 = .ok (.aload_n 0, 1) := by decide +kernel
theorem dX2_hasRoomForChildren_1 : decode cX2_hasRoomForChildren 1 = .ok (.getfield 22, 3) := by decide +kernel
theorem dX2_hasRoomForChildren_4 : decode cX2_hasRoomForChildren 4 = .ok (.iload_n 3, 1) := by decide +kernel
theorem dX2_hasRoomForChildren_5 : decode cX2_hasRoomForChildren 5 = .ok (.invokestatic 54, 3) := by decide +kernel
theorem dX2_hasRoomForChildren_8 : decode cX2_hasRoomForChildren 8 = .ok (.invokestatic 58, 3) := by decide +kernel
theorem dX2_hasRoomForChildren_11 : decode cX2_hasRoomForChildren 11 = .ok (.istore 5, 2) := by decide +kernel
theorem dX2_hasRoomForChildren_13 : decode cX2_hasRoomForChildren 13 = .ok (.iconst 0, 1) := by decide +kernel
theorem dX2_hasRoomForChildren_14 : decode cX2_hasRoomForChildren 14 = .ok (.istore 6, 2) := by decide +kernel
theorem dX2_hasRoomForChildren_16 : decode cX2_hasRoomForChildren 16 = .ok (.iload 6, 2) := by decide +kernel
theorem dX2_hasRoomForChildren_18 : decode cX2_hasRoomForChildren 18 = .ok (.bipush 6, 2) := by decide +kernel
theorem dX2_hasRoomForChildren_20 : decode cX2_hasRoomForChildren 20 = .ok (.if_icmp .ge 57, 3) := by decide +kernel
theorem dX2_hasRoomForChildren_23 : decode cX2_hasRoomForChildren 23 = .ok (.aload_n 0, 1) := by decide +kernel
theorem dX2_hasRoomForChildren_24 : decode cX2_hasRoomForChildren 24 = .ok (.getfield 12, 3) := by decide +kernel
theorem dX2_hasRoomForChildren_27 : decode cX2_hasRoomForChildren 27 = .ok (.getfield 136, 3) := by decide +kernel
theorem dX2_hasRoomForChildren_30 : decode cX2_hasRoomForChildren 30 = .ok (.iload 6, 2) := by decide +kernel
theorem dX2_hasRoomForChildren_32 : decode cX2_hasRoomForChildren 32 = .ok (.invokestatic 80, 3) := by decide +kernel
theorem dX2_hasRoomForChildren_35 : decode cX2_hasRoomForChildren 35 = .ok (.ifCond .eq 36, 3) := by decide +kernel
theorem dX2_hasRoomForChildren_38 : decode cX2_hasRoomForChildren 38 = .ok (.aload_n 0, 1) := by decide +kernel
theorem dX2_hasRoomForChildren_39 : decode cX2_hasRoomForChildren 39 = .ok (.iload 6, 2) := by decide +kernel
theorem dX2_hasRoomForChildren_41 : decode cX2_hasRoomForChildren 41 = .ok (.iload_n 1, 1) := by decide +kernel
theorem dX2_hasRoomForChildren_42 : decode cX2_hasRoomForChildren 42 = .ok (.invokevirtual 139, 3) := by decide +kernel
theorem dX2_hasRoomForChildren_45 : decode cX2_hasRoomForChildren 45 = .ok (.bipush 6, 2) := by decide +kernel
theorem dX2_hasRoomForChildren_47 : decode cX2_hasRoomForChildren 47 = .ok (.iload 4, 2) := by decide +kernel
theorem dX2_hasRoomForChildren_49 : decode cX2_hasRoomForChildren 49 = .ok (.iconst 1, 1) := by decide +kernel
theorem dX2_hasRoomForChildren_50 : decode cX2_hasRoomForChildren 50 = .ok (.iadd, 1) := by decide +kernel
theorem dX2_hasRoomForChildren_51 : decode cX2_hasRoomForChildren 51 = .ok (.imul, 1) := by decide +kernel
theorem dX2_hasRoomForChildren_52 : decode cX2_hasRoomForChildren 52 = .ok (.aload_n 0, 1) := by decide +kernel
theorem dX2_hasRoomForChildren_53 : decode cX2_hasRoomForChildren 53 = .ok (.iload 6, 2) := by decide +kernel
theorem dX2_hasRoomForChildren_55 : decode cX2_hasRoomForChildren 55 = .ok (.aload_n 0, 1) := by decide +kernel
theorem dX2_hasRoomForChildren_56 : decode cX2_hasRoomForChildren 56 = .ok (.iload 5, 2) := by decide +kernel
theorem dX2_hasRoomForChildren_58 : decode cX2_hasRoomForChildren 58 = .ok (.iload_n 2, 1) := by decide +kernel
theorem dX2_hasRoomForChildren_59 : decode cX2_hasRoomForChildren 59 = .ok (.invokevirtual 142, 3) := by decide +kernel
theorem dX2_hasRoomForChildren_62 : decode cX2_hasRoomForChildren 62 = .ok (.invokevirtual 139, 3) := by decide +kernel
theorem dX2_hasRoomForChildren_65 : decode cX2_hasRoomForChildren 65 = .ok (.isub, 1) := by decide +kernel
theorem dX2_hasRoomForChildren_66 : decode cX2_hasRoomForChildren 66 = .ok (.if_icmp .le 5, 3) := by decide +kernel
theorem dX2_hasRoomForChildren_69 : decode cX2_hasRoomForChildren 69 = .ok (.iconst 0, 1) := by decide +kernel
theorem dX2_hasRoomForChildren_70 : decode cX2_hasRoomForChildren 70 = .ok (.ireturn, 1) := by decide +kernel
theorem dX2_hasRoomForChildren_71 : decode cX2_hasRoomForChildren 71 = .ok (.iinc 6 1, 3) := by decide +kernel
theorem dX2_hasRoomForChildren_74 : decode cX2_hasRoomForChildren 74 = .ok (.goto (-58), 3) := by decide +kernel
theorem dX2_hasRoomForChildren_77 : decode cX2_hasRoomForChildren 77 = .ok (.iconst 1, 1) := by decide +kernel
theorem dX2_hasRoomForChildren_78 : decode cX2_hasRoomForChildren 78 = .ok (.ireturn, 1) := by decide +kernel
theorem dX2_hoursIn_0 : decode cX2_hoursIn 0 = .ok (.iconst 0, 1) := by decide +kernel
theorem dX2_hoursIn_1 : decode cX2_hoursIn 1 = .ok (.istore_n 3, 1) := by decide +kernel
theorem dX2_hoursIn_2 : decode cX2_hoursIn 2 = .ok (.iconst 0, 1) := by decide +kernel
theorem dX2_hoursIn_3 : decode cX2_hoursIn 3 = .ok (.istore 4, 2) := by decide +kernel
theorem dX2_hoursIn_5 : decode cX2_hoursIn 5 = .ok (.iload 4, 2) := by decide +kernel
theorem dX2_hoursIn_7 : decode cX2_hoursIn 7 = .ok (.aload_n 0, 1) := by decide +kernel
theorem dX2_hoursIn_8 : decode cX2_hoursIn 8 = .ok (.getfield 12, 3) := by decide +kernel
theorem dX2_hoursIn_11 : decode cX2_hoursIn 11 = .ok (.getfield 77, 3) := by decide +kernel
theorem dX2_hoursIn_14 : decode cX2_hoursIn 14 = .ok (.if_icmp .ge 49, 3) := by decide +kernel
theorem dX2_hoursIn_17 : decode cX2_hoursIn 17 = .ok (.iload_n 1, 1) := by decide +kernel
theorem dX2_hoursIn_18 : decode cX2_hoursIn 18 = .ok (.iload 4, 2) := by decide +kernel
theorem dX2_hoursIn_20 : decode cX2_hoursIn 20 = .ok (.invokestatic 80, 3) := by decide +kernel
theorem dX2_hoursIn_23 : decode cX2_hoursIn 23 = .ok (.ifCond .eq 34, 3) := by decide +kernel
theorem dX2_hoursIn_26 : decode cX2_hoursIn 26 = .ok (.aload_n 0, 1) := by decide +kernel
theorem dX2_hoursIn_27 : decode cX2_hoursIn 27 = .ok (.getfield 12, 3) := by decide +kernel
theorem dX2_hoursIn_30 : decode cX2_hoursIn 30 = .ok (.getfield 145, 3) := by decide +kernel
theorem dX2_hoursIn_33 : decode cX2_hoursIn 33 = .ok (.iload 4, 2) := by decide +kernel
theorem dX2_hoursIn_35 : decode cX2_hoursIn 35 = .ok (.invokestatic 54, 3) := by decide +kernel
theorem dX2_hoursIn_38 : decode cX2_hoursIn 38 = .ok (.iload_n 2, 1) := by decide +kernel
theorem dX2_hoursIn_39 : decode cX2_hoursIn 39 = .ok (.if_icmp .ne 18, 3) := by decide +kernel
theorem dX2_hoursIn_42 : decode cX2_hoursIn 42 = .ok (.iload_n 3, 1) := by decide +kernel
theorem dX2_hoursIn_43 : decode cX2_hoursIn 43 = .ok (.aload_n 0, 1) := by decide +kernel
theorem dX2_hoursIn_44 : decode cX2_hoursIn 44 = .ok (.getfield 12, 3) := by decide +kernel
theorem dX2_hoursIn_47 : decode cX2_hoursIn 47 = .ok (.getfield 148, 3) := by decide +kernel
theorem dX2_hoursIn_50 : decode cX2_hoursIn 50 = .ok (.iload 4, 2) := by decide +kernel
theorem dX2_hoursIn_52 : decode cX2_hoursIn 52 = .ok (.invokestatic 54, 3) := by decide +kernel
theorem dX2_hoursIn_55 : decode cX2_hoursIn 55 = .ok (.iadd, 1) := by decide +kernel
theorem dX2_hoursIn_56 : decode cX2_hoursIn 56 = .ok (.istore_n 3, 1) := by decide +kernel
theorem dX2_hoursIn_57 : decode cX2_hoursIn 57 = .ok (.iinc 4 1, 3) := by decide +kernel
theorem dX2_hoursIn_60 : decode cX2_hoursIn 60 = .ok (.goto (-55), 3) := by decide +kernel
theorem dX2_hoursIn_63 : decode cX2_hoursIn 63 = .ok (.iload_n 3, 1) := by decide +kernel
theorem dX2_hoursIn_64 : decode cX2_hoursIn 64 = .ok (.ireturn, 1) := by decide +kernel
theorem dX2_place_0 : decode cX2_place 0 = .ok (.aload_n 0, 1) := by decide +kernel
theorem dX2_place_1 : decode cX2_place 1 = .ok (.getfield 62, 3) := by decide +kernel
theorem dX2_place_4 : decode cX2_place 4 = .ok (.istore 4, 2) := by decide +kernel
theorem dX2_place_6 : decode cX2_place 6 = .ok (.iload 4, 2) := by decide +kernel
theorem dX2_place_8 : decode cX2_place 8 = .ok (.invokestatic 151, 3) := by decide +kernel
theorem dX2_place_11 : decode cX2_place 11 = .ok (.istore 5, 2) := by decide +kernel
theorem dX2_place_13 : decode cX2_place 13 = .ok (.iload_n 2, 1) := by decide +kernel
theorem dX2_place_14 : decode cX2_place 14 = .ok (.ifCond .le 69, 3) := by decide +kernel
theorem dX2_place_17 : decode cX2_place 17 = .ok (.aload_n 0, 1) := by decide +kernel
theorem dX2_place_18 : decode cX2_place 18 = .ok (.getfield 18, 3) := by decide +kernel
theorem dX2_place_21 : decode cX2_place 21 = .ok (.iload_n 2, 1) := by decide +kernel
theorem dX2_place_22 : decode cX2_place 22 = .ok (.iconst 1, 1) := by decide +kernel
theorem dX2_place_23 : decode cX2_place 23 = .ok (.isub, 1) := by decide +kernel
theorem dX2_place_24 : decode cX2_place 24 = .ok (.invokestatic 54, 3) := by decide +kernel
theorem dX2_place_27 : decode cX2_place 27 = .ok (.istore 6, 2) := by decide +kernel
theorem dX2_place_29 : decode cX2_place 29 = .ok (.aload_n 0, 1) := by decide +kernel
theorem dX2_place_30 : decode cX2_place 30 = .ok (.getfield 22, 3) := by decide +kernel
theorem dX2_place_33 : decode cX2_place 33 = .ok (.iload 6, 2) := by decide +kernel
theorem dX2_place_35 : decode cX2_place 35 = .ok (.invokestatic 54, 3) := by decide +kernel
theorem dX2_place_38 : decode cX2_place 38 = .ok (.invokestatic 58, 3) := by decide +kernel
theorem dX2_place_41 : decode cX2_place 41 = .ok (.istore 4, 2) := by decide +kernel
theorem dX2_place_43 : decode cX2_place 43 = .ok (.aload_n 0, 1) := by decide +kernel
theorem dX2_place_44 : decode cX2_place 44 = .ok (.iload 6, 2) := by decide +kernel
theorem dX2_place_46 : decode cX2_place 46 = .ok (.invokevirtual 124, 3) := by decide +kernel
theorem dX2_place_49 : decode cX2_place 49 = .ok (.aload_n 0, 1) := by decide +kernel
theorem dX2_place_50 : decode cX2_place 50 = .ok (.getfield 12, 3) := by decide +kernel
theorem dX2_place_53 : decode cX2_place 53 = .ok (.getfield 154, 3) := by decide +kernel
theorem dX2_place_56 : decode cX2_place 56 = .ok (.iload 6, 2) := by decide +kernel
theorem dX2_place_58 : decode cX2_place 58 = .ok (.invokestatic 54, 3) := by decide +kernel
theorem dX2_place_61 : decode cX2_place 61 = .ok (.aload_n 0, 1) := by decide +kernel
theorem dX2_place_62 : decode cX2_place 62 = .ok (.getfield 12, 3) := by decide +kernel
theorem dX2_place_65 : decode cX2_place 65 = .ok (.getfield 154, 3) := by decide +kernel
theorem dX2_place_68 : decode cX2_place 68 = .ok (.iload_n 1, 1) := by decide +kernel
theorem dX2_place_69 : decode cX2_place 69 = .ok (.invokestatic 54, 3) := by decide +kernel
theorem dX2_place_72 : decode cX2_place 72 = .ok (.if_icmp .ne 7, 3) := by decide +kernel
theorem dX2_place_75 : decode cX2_place 75 = .ok (.iconst 0, 1) := by decide +kernel
theorem dX2_place_76 : decode cX2_place 76 = .ok (.goto 4, 3) := by decide +kernel
theorem dX2_place_79 : decode cX2_place 79 = .ok (.iconst 1, 1) := by decide +kernel
theorem dX2_place_80 : decode cX2_place 80 = .ok (.iadd, 1) := by decide +kernel
theorem dX2_place_81 : decode cX2_place 81 = .ok (.istore 5, 2) := by decide +kernel
theorem dX2_place_83 : decode cX2_place 83 = .ok (.aload_n 0, 1) := by decide +kernel
theorem dX2_place_84 : decode cX2_place 84 = .ok (.iload 5, 2) := by decide +kernel
theorem dX2_place_86 : decode cX2_place 86 = .ok (.iload_n 1, 1) := by decide +kernel
theorem dX2_place_87 : decode cX2_place 87 = .ok (.iload 4, 2) := by decide +kernel
theorem dX2_place_89 : decode cX2_place 89 = .ok (.iload_n 3, 1) := by decide +kernel
theorem dX2_place_90 : decode cX2_place 90 = .ok (.invokevirtual 157, 3) := by decide +kernel
theorem dX2_place_93 : decode cX2_place 93 = .ok (.istore 5, 2) := by decide +kernel
theorem dX2_place_95 : decode cX2_place 95 = .ok (.aload_n 0, 1) := by decide +kernel
theorem dX2_place_96 : decode cX2_place 96 = .ok (.iload_n 1, 1) := by decide +kernel
theorem dX2_place_97 : decode cX2_place 97 = .ok (.iload 5, 2) := by decide +kernel
theorem dX2_place_99 : decode cX2_place 99 = .ok (.iload 4, 2) := by decide +kernel
theorem dX2_place_101 : decode cX2_place 101 = .ok (.invokevirtual 161, 3) := by decide +kernel
theorem dX2_place_104 : decode cX2_place 104 = .ok (.ifCond .eq 14, 3) := by decide +kernel
theorem dX2_place_107 : decode cX2_place 107 = .ok (.aload_n 0, 1) := by decide +kernel
theorem dX2_place_108 : decode cX2_place 108 = .ok (.iload_n 1, 1) := by decide +kernel
theorem dX2_place_109 : decode cX2_place 109 = .ok (.iload 4, 2) := by decide +kernel
theorem dX2_place_111 : decode cX2_place 111 = .ok (.iload_n 3, 1) := by decide +kernel
theorem dX2_place_112 : decode cX2_place 112 = .ok (.invokevirtual 164, 3) := by decide +kernel
theorem dX2_place_115 : decode cX2_place 115 = .ok (.ifCond .ne 21, 3) := by decide +kernel
theorem dX2_place_118 : decode cX2_place 118 = .ok (.iinc 4 1, 3) := by decide +kernel
theorem dX2_place_121 : decode cX2_place 121 = .ok (.aload_n 0, 1) := by decide +kernel
theorem dX2_place_122 : decode cX2_place 122 = .ok (.iload 4, 2) := by decide +kernel
theorem dX2_place_124 : decode cX2_place 124 = .ok (.invokestatic 151, 3) := by decide +kernel
theorem dX2_place_127 : decode cX2_place 127 = .ok (.iload_n 1, 1) := by decide +kernel
theorem dX2_place_128 : decode cX2_place 128 = .ok (.iload 4, 2) := by decide +kernel
theorem dX2_place_130 : decode cX2_place 130 = .ok (.iload_n 3, 1) := by decide +kernel
theorem dX2_place_131 : decode cX2_place 131 = .ok (.invokevirtual 157, 3) := by decide +kernel
theorem dX2_place_134 : decode cX2_place 134 = .ok (.istore 5, 2) := by decide +kernel
theorem dX2_place_136 : decode cX2_place 136 = .ok (.aload_n 0, 1) := by decide +kernel
theorem dX2_place_137 : decode cX2_place 137 = .ok (.getfield 18, 3) := by decide +kernel
theorem dX2_place_140 : decode cX2_place 140 = .ok (.iload_n 2, 1) := by decide +kernel
theorem dX2_place_141 : decode cX2_place 141 = .ok (.iload_n 1, 1) := by decide +kernel
theorem dX2_place_142 : decode cX2_place 142 = .ok (.invokestatic 83, 3) := by decide +kernel
theorem dX2_place_145 : decode cX2_place 145 = .ok (.aload_n 0, 1) := by decide +kernel
theorem dX2_place_146 : decode cX2_place 146 = .ok (.getfield 22, 3) := by decide +kernel
theorem dX2_place_149 : decode cX2_place 149 = .ok (.iload_n 1, 1) := by decide +kernel
theorem dX2_place_150 : decode cX2_place 150 = .ok (.iload 5, 2) := by decide +kernel
theorem dX2_place_152 : decode cX2_place 152 = .ok (.invokestatic 83, 3) := by decide +kernel
theorem dX2_place_155 : decode cX2_place 155 = .ok (.return_, 1) := by decide +kernel
theorem dX2_endsInTime_0 : decode cX2_endsInTime 0 = .ok (.aload_n 0, 1) := by decide +kernel
theorem dX2_endsInTime_1 : decode cX2_endsInTime 1 = .ok (.getfield 12, 3) := by decide +kernel
theorem dX2_endsInTime_4 : decode cX2_endsInTime 4 = .ok (.getfield 145, 3) := by decide +kernel
theorem dX2_endsInTime_7 : decode cX2_endsInTime 7 = .ok (.iload_n 1, 1) := by decide +kernel
theorem dX2_endsInTime_8 : decode cX2_endsInTime 8 = .ok (.invokestatic 54, 3) := by decide +kernel
theorem dX2_endsInTime_11 : decode cX2_endsInTime 11 = .ok (.iconst 1, 1) := by decide +kernel
theorem dX2_endsInTime_12 : decode cX2_endsInTime 12 = .ok (.if_icmp .ne 8, 3) := by decide +kernel
theorem dX2_endsInTime_15 : decode cX2_endsInTime 15 = .ok (.bipush 18, 2) := by decide +kernel
theorem dX2_endsInTime_17 : decode cX2_endsInTime 17 = .ok (.goto 5, 3) := by decide +kernel
theorem dX2_endsInTime_20 : decode cX2_endsInTime 20 = .ok (.bipush 24, 2) := by decide +kernel
theorem dX2_endsInTime_22 : decode cX2_endsInTime 22 = .ok (.istore 4, 2) := by decide +kernel
theorem dX2_endsInTime_24 : decode cX2_endsInTime 24 = .ok (.iload_n 2, 1) := by decide +kernel
theorem dX2_endsInTime_25 : decode cX2_endsInTime 25 = .ok (.aload_n 0, 1) := by decide +kernel
theorem dX2_endsInTime_26 : decode cX2_endsInTime 26 = .ok (.getfield 12, 3) := by decide +kernel
theorem dX2_endsInTime_29 : decode cX2_endsInTime 29 = .ok (.getfield 148, 3) := by decide +kernel
theorem dX2_endsInTime_32 : decode cX2_endsInTime 32 = .ok (.iload_n 1, 1) := by decide +kernel
theorem dX2_endsInTime_33 : decode cX2_endsInTime 33 = .ok (.invokestatic 54, 3) := by decide +kernel
theorem dX2_endsInTime_36 : decode cX2_endsInTime 36 = .ok (.iadd, 1) := by decide +kernel
theorem dX2_endsInTime_37 : decode cX2_endsInTime 37 = .ok (.bipush 24, 2) := by decide +kernel
theorem dX2_endsInTime_39 : decode cX2_endsInTime 39 = .ok (.iload_n 3, 1) := by decide +kernel
theorem dX2_endsInTime_40 : decode cX2_endsInTime 40 = .ok (.imul, 1) := by decide +kernel
theorem dX2_endsInTime_41 : decode cX2_endsInTime 41 = .ok (.iload 4, 2) := by decide +kernel
theorem dX2_endsInTime_43 : decode cX2_endsInTime 43 = .ok (.iadd, 1) := by decide +kernel
theorem dX2_endsInTime_44 : decode cX2_endsInTime 44 = .ok (.if_icmp .gt 7, 3) := by decide +kernel
theorem dX2_endsInTime_47 : decode cX2_endsInTime 47 = .ok (.iconst 1, 1) := by decide +kernel
theorem dX2_endsInTime_48 : decode cX2_endsInTime 48 = .ok (.goto 4, 3) := by decide +kernel
theorem dX2_endsInTime_51 : decode cX2_endsInTime 51 = .ok (.iconst 0, 1) := by decide +kernel
theorem dX2_endsInTime_52 : decode cX2_endsInTime 52 = .ok (.ireturn, 1) := by decide +kernel
theorem dX2_beginFrom_0 : decode cX2_beginFrom 0 = .ok (.bipush 24, 2) := by decide +kernel
theorem dX2_beginFrom_2 : decode cX2_beginFrom 2 = .ok (.iload_n 3, 1) := by decide +kernel
theorem dX2_beginFrom_3 : decode cX2_beginFrom 3 = .ok (.imul, 1) := by decide +kernel
theorem dX2_beginFrom_4 : decode cX2_beginFrom 4 = .ok (.aload_n 0, 1) := by decide +kernel
theorem dX2_beginFrom_5 : decode cX2_beginFrom 5 = .ok (.getfield 12, 3) := by decide +kernel
theorem dX2_beginFrom_8 : decode cX2_beginFrom 8 = .ok (.getfield 145, 3) := by decide +kernel
theorem dX2_beginFrom_11 : decode cX2_beginFrom 11 = .ok (.iload_n 2, 1) := by decide +kernel
theorem dX2_beginFrom_12 : decode cX2_beginFrom 12 = .ok (.invokestatic 54, 3) := by decide +kernel
theorem dX2_beginFrom_15 : decode cX2_beginFrom 15 = .ok (.iconst 2, 1) := by decide +kernel
theorem dX2_beginFrom_16 : decode cX2_beginFrom 16 = .ok (.if_icmp .ne 8, 3) := by decide +kernel
theorem dX2_beginFrom_19 : decode cX2_beginFrom 19 = .ok (.bipush 18, 2) := by decide +kernel
theorem dX2_beginFrom_21 : decode cX2_beginFrom 21 = .ok (.goto 5, 3) := by decide +kernel
theorem dX2_beginFrom_24 : decode cX2_beginFrom 24 = .ok (.bipush 8, 2) := by decide +kernel
theorem dX2_beginFrom_26 : decode cX2_beginFrom 26 = .ok (.iadd, 1) := by decide +kernel
theorem dX2_beginFrom_27 : decode cX2_beginFrom 27 = .ok (.istore 5, 2) := by decide +kernel
theorem dX2_beginFrom_29 : decode cX2_beginFrom 29 = .ok (.iload_n 1, 1) := by decide +kernel
theorem dX2_beginFrom_30 : decode cX2_beginFrom 30 = .ok (.iload 5, 2) := by decide +kernel
theorem dX2_beginFrom_32 : decode cX2_beginFrom 32 = .ok (.invokestatic 133, 3) := by decide +kernel
theorem dX2_beginFrom_35 : decode cX2_beginFrom 35 = .ok (.istore 6, 2) := by decide +kernel
theorem dX2_beginFrom_37 : decode cX2_beginFrom 37 = .ok (.iconst 0, 1) := by decide +kernel
theorem dX2_beginFrom_38 : decode cX2_beginFrom 38 = .ok (.istore 7, 2) := by decide +kernel
theorem dX2_beginFrom_40 : decode cX2_beginFrom 40 = .ok (.iload 7, 2) := by decide +kernel
theorem dX2_beginFrom_42 : decode cX2_beginFrom 42 = .ok (.aload_n 0, 1) := by decide +kernel
theorem dX2_beginFrom_43 : decode cX2_beginFrom 43 = .ok (.getfield 12, 3) := by decide +kernel
theorem dX2_beginFrom_46 : decode cX2_beginFrom 46 = .ok (.getfield 77, 3) := by decide +kernel
theorem dX2_beginFrom_49 : decode cX2_beginFrom 49 = .ok (.if_icmp .ge 78, 3) := by decide +kernel
theorem dX2_beginFrom_52 : decode cX2_beginFrom 52 = .ok (.iload 4, 2) := by decide +kernel
theorem dX2_beginFrom_54 : decode cX2_beginFrom 54 = .ok (.iload 7, 2) := by decide +kernel
theorem dX2_beginFrom_56 : decode cX2_beginFrom 56 = .ok (.invokestatic 80, 3) := by decide +kernel
theorem dX2_beginFrom_59 : decode cX2_beginFrom 59 = .ok (.ifCond .eq 62, 3) := by decide +kernel
theorem dX2_beginFrom_62 : decode cX2_beginFrom 62 = .ok (.aload_n 0, 1) := by decide +kernel
theorem dX2_beginFrom_63 : decode cX2_beginFrom 63 = .ok (.getfield 12, 3) := by decide +kernel
theorem dX2_beginFrom_66 : decode cX2_beginFrom 66 = .ok (.getfield 167, 3) := by decide +kernel
theorem dX2_beginFrom_69 : decode cX2_beginFrom 69 = .ok (.iload 7, 2) := by decide +kernel
theorem dX2_beginFrom_71 : decode cX2_beginFrom 71 = .ok (.invokestatic 54, 3) := by decide +kernel
theorem dX2_beginFrom_74 : decode cX2_beginFrom 74 = .ok (.aload_n 0, 1) := by decide +kernel
theorem dX2_beginFrom_75 : decode cX2_beginFrom 75 = .ok (.getfield 12, 3) := by decide +kernel
theorem dX2_beginFrom_78 : decode cX2_beginFrom 78 = .ok (.getfield 167, 3) := by decide +kernel
theorem dX2_beginFrom_81 : decode cX2_beginFrom 81 = .ok (.iload_n 2, 1) := by decide +kernel
theorem dX2_beginFrom_82 : decode cX2_beginFrom 82 = .ok (.invokestatic 54, 3) := by decide +kernel
theorem dX2_beginFrom_85 : decode cX2_beginFrom 85 = .ok (.iand, 1) := by decide +kernel
theorem dX2_beginFrom_86 : decode cX2_beginFrom 86 = .ok (.ifCond .eq 35, 3) := by decide +kernel
theorem dX2_beginFrom_89 : decode cX2_beginFrom 89 = .ok (.aload_n 0, 1) := by decide +kernel
theorem dX2_beginFrom_90 : decode cX2_beginFrom 90 = .ok (.getfield 22, 3) := by decide +kernel
theorem dX2_beginFrom_93 : decode cX2_beginFrom 93 = .ok (.iload 7, 2) := by decide +kernel
theorem dX2_beginFrom_95 : decode cX2_beginFrom 95 = .ok (.invokestatic 54, 3) := by decide +kernel
theorem dX2_beginFrom_98 : decode cX2_beginFrom 98 = .ok (.invokestatic 58, 3) := by decide +kernel
theorem dX2_beginFrom_101 : decode cX2_beginFrom 101 = .ok (.iload_n 3, 1) := by decide +kernel
theorem dX2_beginFrom_102 : decode cX2_beginFrom 102 = .ok (.if_icmp .ge 19, 3) := by decide +kernel
theorem dX2_beginFrom_105 : decode cX2_beginFrom 105 = .ok (.iload 6, 2) := by decide +kernel
theorem dX2_beginFrom_107 : decode cX2_beginFrom 107 = .ok (.aload_n 0, 1) := by decide +kernel
theorem dX2_beginFrom_108 : decode cX2_beginFrom 108 = .ok (.iload 7, 2) := by decide +kernel
theorem dX2_beginFrom_110 : decode cX2_beginFrom 110 = .ok (.invokevirtual 124, 3) := by decide +kernel
theorem dX2_beginFrom_113 : decode cX2_beginFrom 113 = .ok (.bipush 11, 2) := by decide +kernel
theorem dX2_beginFrom_115 : decode cX2_beginFrom 115 = .ok (.iadd, 1) := by decide +kernel
theorem dX2_beginFrom_116 : decode cX2_beginFrom 116 = .ok (.invokestatic 133, 3) := by decide +kernel
theorem dX2_beginFrom_119 : decode cX2_beginFrom 119 = .ok (.istore 6, 2) := by decide +kernel
theorem dX2_beginFrom_121 : decode cX2_beginFrom 121 = .ok (.iinc 7 1, 3) := by decide +kernel
theorem dX2_beginFrom_124 : decode cX2_beginFrom 124 = .ok (.goto (-84), 3) := by decide +kernel
theorem dX2_beginFrom_127 : decode cX2_beginFrom 127 = .ok (.iload 6, 2) := by decide +kernel
theorem dX2_beginFrom_129 : decode cX2_beginFrom 129 = .ok (.ireturn, 1) := by decide +kernel
theorem dX2_isFitForChildren_0 : decode cX2_isFitForChildren 0 = .ok (.aload_n 0, 1) := by decide +kernel
theorem dX2_isFitForChildren_1 : decode cX2_isFitForChildren 1 = .ok (.getfield 12, 3) := by decide +kernel
theorem dX2_isFitForChildren_4 : decode cX2_isFitForChildren 4 = .ok (.getfield 136, 3) := by decide +kernel
theorem dX2_isFitForChildren_7 : decode cX2_isFitForChildren 7 = .ok (.aload_n 0, 1) := by decide +kernel
theorem dX2_isFitForChildren_8 : decode cX2_isFitForChildren 8 = .ok (.getfield 12, 3) := by decide +kernel
theorem dX2_isFitForChildren_11 : decode cX2_isFitForChildren 11 = .ok (.getfield 167, 3) := by decide +kernel
theorem dX2_isFitForChildren_14 : decode cX2_isFitForChildren 14 = .ok (.iload_n 1, 1) := by decide +kernel
theorem dX2_isFitForChildren_15 : decode cX2_isFitForChildren 15 = .ok (.invokestatic 54, 3) := by decide +kernel
theorem dX2_isFitForChildren_18 : decode cX2_isFitForChildren 18 = .ok (.iand, 1) := by decide +kernel
theorem dX2_isFitForChildren_19 : decode cX2_isFitForChildren 19 = .ok (.istore 4, 2) := by decide +kernel
theorem dX2_isFitForChildren_21 : decode cX2_isFitForChildren 21 = .ok (.iconst 0, 1) := by decide +kernel
theorem dX2_isFitForChildren_22 : decode cX2_isFitForChildren 22 = .ok (.istore 5, 2) := by decide +kernel
theorem dX2_isFitForChildren_24 : decode cX2_isFitForChildren 24 = .ok (.iload 5, 2) := by decide +kernel
theorem dX2_isFitForChildren_26 : decode cX2_isFitForChildren 26 = .ok (.bipush 6, 2) := by decide +kernel
theorem dX2_isFitForChildren_28 : decode cX2_isFitForChildren 28 = .ok (.if_icmp .ge 50, 3) := by decide +kernel
theorem dX2_isFitForChildren_31 : decode cX2_isFitForChildren 31 = .ok (.iload 4, 2) := by decide +kernel
theorem dX2_isFitForChildren_33 : decode cX2_isFitForChildren 33 = .ok (.iload 5, 2) := by decide +kernel
theorem dX2_isFitForChildren_35 : decode cX2_isFitForChildren 35 = .ok (.invokestatic 80, 3) := by decide +kernel
theorem dX2_isFitForChildren_38 : decode cX2_isFitForChildren 38 = .ok (.ifCond .eq 34, 3) := by decide +kernel
theorem dX2_isFitForChildren_41 : decode cX2_isFitForChildren 41 = .ok (.aload_n 0, 1) := by decide +kernel
theorem dX2_isFitForChildren_42 : decode cX2_isFitForChildren 42 = .ok (.iload 5, 2) := by decide +kernel
theorem dX2_isFitForChildren_44 : decode cX2_isFitForChildren 44 = .ok (.aload_n 0, 1) := by decide +kernel
theorem dX2_isFitForChildren_45 : decode cX2_isFitForChildren 45 = .ok (.iload_n 2, 1) := by decide +kernel
theorem dX2_isFitForChildren_46 : decode cX2_isFitForChildren 46 = .ok (.iload_n 3, 1) := by decide +kernel
theorem dX2_isFitForChildren_47 : decode cX2_isFitForChildren 47 = .ok (.invokevirtual 142, 3) := by decide +kernel
theorem dX2_isFitForChildren_50 : decode cX2_isFitForChildren 50 = .ok (.invokevirtual 139, 3) := by decide +kernel
theorem dX2_isFitForChildren_53 : decode cX2_isFitForChildren 53 = .ok (.aload_n 0, 1) := by decide +kernel
theorem dX2_isFitForChildren_54 : decode cX2_isFitForChildren 54 = .ok (.getfield 12, 3) := by decide +kernel
theorem dX2_isFitForChildren_57 : decode cX2_isFitForChildren 57 = .ok (.getfield 148, 3) := by decide +kernel
theorem dX2_isFitForChildren_60 : decode cX2_isFitForChildren 60 = .ok (.iload_n 1, 1) := by decide +kernel
theorem dX2_isFitForChildren_61 : decode cX2_isFitForChildren 61 = .ok (.invokestatic 54, 3) := by decide +kernel
theorem dX2_isFitForChildren_64 : decode cX2_isFitForChildren 64 = .ok (.iadd, 1) := by decide +kernel
theorem dX2_isFitForChildren_65 : decode cX2_isFitForChildren 65 = .ok (.bipush 6, 2) := by decide +kernel
theorem dX2_isFitForChildren_67 : decode cX2_isFitForChildren 67 = .ok (.if_icmp .le 5, 3) := by decide +kernel
theorem dX2_isFitForChildren_70 : decode cX2_isFitForChildren 70 = .ok (.iconst 0, 1) := by decide +kernel
theorem dX2_isFitForChildren_71 : decode cX2_isFitForChildren 71 = .ok (.ireturn, 1) := by decide +kernel
theorem dX2_isFitForChildren_72 : decode cX2_isFitForChildren 72 = .ok (.iinc 5 1, 3) := by decide +kernel
theorem dX2_isFitForChildren_75 : decode cX2_isFitForChildren 75 = .ok (.goto (-51), 3) := by decide +kernel
theorem dX2_isFitForChildren_78 : decode cX2_isFitForChildren 78 = .ok (.iconst 1, 1) := by decide +kernel
theorem dX2_isFitForChildren_79 : decode cX2_isFitForChildren 79 = .ok (.ireturn, 1) := by decide +kernel
theorem dX2_hoursFor_0 : decode cX2_hoursFor 0 = .ok (.iconst 0, 1) := by decide +kernel
theorem dX2_hoursFor_1 : decode cX2_hoursFor 1 = .ok (.istore_n 3, 1) := by decide +kernel
theorem dX2_hoursFor_2 : decode cX2_hoursFor 2 = .ok (.iconst 0, 1) := by decide +kernel
theorem dX2_hoursFor_3 : decode cX2_hoursFor 3 = .ok (.istore 4, 2) := by decide +kernel
theorem dX2_hoursFor_5 : decode cX2_hoursFor 5 = .ok (.iload 4, 2) := by decide +kernel
theorem dX2_hoursFor_7 : decode cX2_hoursFor 7 = .ok (.aload_n 0, 1) := by decide +kernel
theorem dX2_hoursFor_8 : decode cX2_hoursFor 8 = .ok (.getfield 12, 3) := by decide +kernel
theorem dX2_hoursFor_11 : decode cX2_hoursFor 11 = .ok (.getfield 77, 3) := by decide +kernel
theorem dX2_hoursFor_14 : decode cX2_hoursFor 14 = .ok (.if_icmp .ge 52, 3) := by decide +kernel
theorem dX2_hoursFor_17 : decode cX2_hoursFor 17 = .ok (.iload_n 2, 1) := by decide +kernel
theorem dX2_hoursFor_18 : decode cX2_hoursFor 18 = .ok (.iload 4, 2) := by decide +kernel
theorem dX2_hoursFor_20 : decode cX2_hoursFor 20 = .ok (.invokestatic 80, 3) := by decide +kernel
theorem dX2_hoursFor_23 : decode cX2_hoursFor 23 = .ok (.ifCond .eq 37, 3) := by decide +kernel
theorem dX2_hoursFor_26 : decode cX2_hoursFor 26 = .ok (.aload_n 0, 1) := by decide +kernel
theorem dX2_hoursFor_27 : decode cX2_hoursFor 27 = .ok (.getfield 12, 3) := by decide +kernel
theorem dX2_hoursFor_30 : decode cX2_hoursFor 30 = .ok (.getfield 167, 3) := by decide +kernel
theorem dX2_hoursFor_33 : decode cX2_hoursFor 33 = .ok (.iload 4, 2) := by decide +kernel
theorem dX2_hoursFor_35 : decode cX2_hoursFor 35 = .ok (.invokestatic 54, 3) := by decide +kernel
theorem dX2_hoursFor_38 : decode cX2_hoursFor 38 = .ok (.iload_n 1, 1) := by decide +kernel
theorem dX2_hoursFor_39 : decode cX2_hoursFor 39 = .ok (.invokestatic 80, 3) := by decide +kernel
theorem dX2_hoursFor_42 : decode cX2_hoursFor 42 = .ok (.ifCond .eq 18, 3) := by decide +kernel
theorem dX2_hoursFor_45 : decode cX2_hoursFor 45 = .ok (.iload_n 3, 1) := by decide +kernel
theorem dX2_hoursFor_46 : decode cX2_hoursFor 46 = .ok (.aload_n 0, 1) := by decide +kernel
theorem dX2_hoursFor_47 : decode cX2_hoursFor 47 = .ok (.getfield 12, 3) := by decide +kernel
theorem dX2_hoursFor_50 : decode cX2_hoursFor 50 = .ok (.getfield 148, 3) := by decide +kernel
theorem dX2_hoursFor_53 : decode cX2_hoursFor 53 = .ok (.iload 4, 2) := by decide +kernel
theorem dX2_hoursFor_55 : decode cX2_hoursFor 55 = .ok (.invokestatic 54, 3) := by decide +kernel
theorem dX2_hoursFor_58 : decode cX2_hoursFor 58 = .ok (.iadd, 1) := by decide +kernel
theorem dX2_hoursFor_59 : decode cX2_hoursFor 59 = .ok (.istore_n 3, 1) := by decide +kernel
theorem dX2_hoursFor_60 : decode cX2_hoursFor 60 = .ok (.iinc 4 1, 3) := by decide +kernel
theorem dX2_hoursFor_63 : decode cX2_hoursFor 63 = .ok (.goto (-58), 3) := by decide +kernel
theorem dX2_hoursFor_66 : decode cX2_hoursFor 66 = .ok (.iload_n 3, 1) := by decide +kernel
theorem dX2_hoursFor_67 : decode cX2_hoursFor 67 = .ok (.ireturn, 1) := by decide +kernel
theorem dX2_placedOn_0 : decode cX2_placedOn 0 = .ok (.iconst 0, 1) := by decide +kernel
theorem dX2_placedOn_1 : decode cX2_placedOn 1 = .ok (.istore_n 3, 1) := by decide +kernel
theorem dX2_placedOn_2 : decode cX2_placedOn 2 = .ok (.iconst 0, 1) := by decide +kernel
theorem dX2_placedOn_3 : decode cX2_placedOn 3 = .ok (.istore 4, 2) := by decide +kernel
theorem dX2_placedOn_5 : decode cX2_placedOn 5 = .ok (.iload 4, 2) := by decide +kernel
theorem dX2_placedOn_7 : decode cX2_placedOn 7 = .ok (.aload_n 0, 1) := by decide +kernel
theorem dX2_placedOn_8 : decode cX2_placedOn 8 = .ok (.getfield 12, 3) := by decide +kernel
theorem dX2_placedOn_11 : decode cX2_placedOn 11 = .ok (.getfield 77, 3) := by decide +kernel
theorem dX2_placedOn_14 : decode cX2_placedOn 14 = .ok (.if_icmp .ge 42, 3) := by decide +kernel
theorem dX2_placedOn_17 : decode cX2_placedOn 17 = .ok (.iload_n 2, 1) := by decide +kernel
theorem dX2_placedOn_18 : decode cX2_placedOn 18 = .ok (.iload 4, 2) := by decide +kernel
theorem dX2_placedOn_20 : decode cX2_placedOn 20 = .ok (.invokestatic 80, 3) := by decide +kernel
theorem dX2_placedOn_23 : decode cX2_placedOn 23 = .ok (.ifCond .eq 27, 3) := by decide +kernel
theorem dX2_placedOn_26 : decode cX2_placedOn 26 = .ok (.aload_n 0, 1) := by decide +kernel
theorem dX2_placedOn_27 : decode cX2_placedOn 27 = .ok (.getfield 22, 3) := by decide +kernel
theorem dX2_placedOn_30 : decode cX2_placedOn 30 = .ok (.iload 4, 2) := by decide +kernel
theorem dX2_placedOn_32 : decode cX2_placedOn 32 = .ok (.invokestatic 54, 3) := by decide +kernel
theorem dX2_placedOn_35 : decode cX2_placedOn 35 = .ok (.invokestatic 58, 3) := by decide +kernel
theorem dX2_placedOn_38 : decode cX2_placedOn 38 = .ok (.iload_n 1, 1) := by decide +kernel
theorem dX2_placedOn_39 : decode cX2_placedOn 39 = .ok (.if_icmp .ne 11, 3) := by decide +kernel
theorem dX2_placedOn_42 : decode cX2_placedOn 42 = .ok (.iload_n 3, 1) := by decide +kernel
theorem dX2_placedOn_43 : decode cX2_placedOn 43 = .ok (.iload 4, 2) := by decide +kernel
theorem dX2_placedOn_45 : decode cX2_placedOn 45 = .ok (.iconst 1, 1) := by decide +kernel
theorem dX2_placedOn_46 : decode cX2_placedOn 46 = .ok (.invokestatic 73, 3) := by decide +kernel
theorem dX2_placedOn_49 : decode cX2_placedOn 49 = .ok (.istore_n 3, 1) := by decide +kernel
theorem dX2_placedOn_50 : decode cX2_placedOn 50 = .ok (.iinc 4 1, 3) := by decide +kernel
theorem dX2_placedOn_53 : decode cX2_placedOn 53 = .ok (.goto (-48), 3) := by decide +kernel
theorem dX2_placedOn_56 : decode cX2_placedOn 56 = .ok (.iload_n 3, 1) := by decide +kernel
theorem dX2_placedOn_57 : decode cX2_placedOn 57 = .ok (.ireturn, 1) := by decide +kernel
theorem dX2_endOf_0 : decode cX2_endOf 0 = .ok (.aload_n 0, 1) := by decide +kernel
theorem dX2_endOf_1 : decode cX2_endOf 1 = .ok (.getfield 22, 3) := by decide +kernel
theorem dX2_endOf_4 : decode cX2_endOf 4 = .ok (.iload_n 1, 1) := by decide +kernel
theorem dX2_endOf_5 : decode cX2_endOf 5 = .ok (.invokestatic 54, 3) := by decide +kernel
theorem dX2_endOf_8 : decode cX2_endOf 8 = .ok (.aload_n 0, 1) := by decide +kernel
theorem dX2_endOf_9 : decode cX2_endOf 9 = .ok (.getfield 12, 3) := by decide +kernel
theorem dX2_endOf_12 : decode cX2_endOf 12 = .ok (.getfield 148, 3) := by decide +kernel
theorem dX2_endOf_15 : decode cX2_endOf 15 = .ok (.iload_n 1, 1) := by decide +kernel
theorem dX2_endOf_16 : decode cX2_endOf 16 = .ok (.invokestatic 54, 3) := by decide +kernel
theorem dX2_endOf_19 : decode cX2_endOf 19 = .ok (.iadd, 1) := by decide +kernel
theorem dX2_endOf_20 : decode cX2_endOf 20 = .ok (.ireturn, 1) := by decide +kernel
theorem dX2_dayOf_0 : decode cX2_dayOf 0 = .ok (.iload_n 0, 1) := by decide +kernel
theorem dX2_dayOf_1 : decode cX2_dayOf 1 = .ok (.bipush 24, 2) := by decide +kernel
theorem dX2_dayOf_3 : decode cX2_dayOf 3 = .ok (.idiv, 1) := by decide +kernel
theorem dX2_dayOf_4 : decode cX2_dayOf 4 = .ok (.ireturn, 1) := by decide +kernel
theorem dX2_startOf_0 : decode cX2_startOf 0 = .ok (.bipush 24, 2) := by decide +kernel
theorem dX2_startOf_2 : decode cX2_startOf 2 = .ok (.iload_n 0, 1) := by decide +kernel
theorem dX2_startOf_3 : decode cX2_startOf 3 = .ok (.imul, 1) := by decide +kernel
theorem dX2_startOf_4 : decode cX2_startOf 4 = .ok (.bipush 8, 2) := by decide +kernel
theorem dX2_startOf_6 : decode cX2_startOf 6 = .ok (.iadd, 1) := by decide +kernel
theorem dX2_startOf_7 : decode cX2_startOf 7 = .ok (.ireturn, 1) := by decide +kernel
theorem dX3_init_0 : decode cX3_init 0 = .ok (.aload_n 0, 1) := by decide +kernel
theorem dX3_init_1 : decode cX3_init 1 = .ok (.invokespecial 3, 3) := by decide +kernel
theorem dX3_init_4 : decode cX3_init 4 = .ok (.aload_n 0, 1) := by decide +kernel
theorem dX3_init_5 : decode cX3_init 5 = .ok (.bipush 8, 2) := by decide +kernel
theorem dX3_init_7 : decode cX3_init 7 = .ok (.newarray .int, 2) := by decide +kernel
theorem dX3_init_9 : decode cX3_init 9 = .ok (.putfield 9, 3) := by decide +kernel
theorem dX3_init_12 : decode cX3_init 12 = .ok (.aload_n 0, 1) := by decide +kernel
theorem dX3_init_13 : decode cX3_init 13 = .ok (.bipush 8, 2) := by decide +kernel
theorem dX3_init_15 : decode cX3_init 15 = .ok (.newarray .int, 2) := by decide +kernel
theorem dX3_init_17 : decode cX3_init 17 = .ok (.putfield 15, 3) := by decide +kernel
theorem dX3_init_20 : decode cX3_init 20 = .ok (.aload_n 0, 1) := by decide +kernel
theorem dX3_init_21 : decode cX3_init 21 = .ok (.bipush 8, 2) := by decide +kernel
theorem dX3_init_23 : decode cX3_init 23 = .ok (.newarray .int, 2) := by decide +kernel
theorem dX3_init_25 : decode cX3_init 25 = .ok (.putfield 18, 3) := by decide +kernel
theorem dX3_init_28 : decode cX3_init 28 = .ok (.aload_n 0, 1) := by decide +kernel
theorem dX3_init_29 : decode cX3_init 29 = .ok (.bipush 8, 2) := by decide +kernel
theorem dX3_init_31 : decode cX3_init 31 = .ok (.newarray .int, 2) := by decide +kernel
theorem dX3_init_33 : decode cX3_init 33 = .ok (.putfield 21, 3) := by decide +kernel
theorem dX3_init_36 : decode cX3_init 36 = .ok (.aload_n 0, 1) := by decide +kernel
theorem dX3_init_37 : decode cX3_init 37 = .ok (.bipush 8, 2) := by decide +kernel
theorem dX3_init_39 : decode cX3_init 39 = .ok (.newarray .int, 2) := by decide +kernel
theorem dX3_init_41 : decode cX3_init 41 = .ok (.putfield 24, 3) := by decide +kernel
theorem dX3_init_44 : decode cX3_init 44 = .ok (.return_, 1) := by decide +kernel
theorem dX3_append_0 : decode cX3_append 0 = .ok (.aload_n 0, 1) := by decide +kernel
theorem dX3_append_1 : decode cX3_append 1 = .ok (.getfield 9, 3) := by decide +kernel
theorem dX3_append_4 : decode cX3_append 4 = .ok (.aload_n 0, 1) := by decide +kernel
theorem dX3_append_5 : decode cX3_append 5 = .ok (.getfield 27, 3) := by decide +kernel
theorem dX3_append_8 : decode cX3_append 8 = .ok (.iload_n 1, 1) := by decide +kernel
theorem dX3_append_9 : decode cX3_append 9 = .ok (.invokestatic 31, 3) := by decide +kernel
theorem dX3_append_12 : decode cX3_append 12 = .ok (.aload_n 0, 1) := by decide +kernel
theorem dX3_append_13 : decode cX3_append 13 = .ok (.getfield 15, 3) := by decide +kernel
theorem dX3_append_16 : decode cX3_append 16 = .ok (.aload_n 0, 1) := by decide +kernel
theorem dX3_append_17 : decode cX3_append 17 = .ok (.getfield 27, 3) := by decide +kernel
theorem dX3_append_20 : decode cX3_append 20 = .ok (.iload_n 2, 1) := by decide +kernel
theorem dX3_append_21 : decode cX3_append 21 = .ok (.invokestatic 31, 3) := by decide +kernel
theorem dX3_append_24 : decode cX3_append 24 = .ok (.aload_n 0, 1) := by decide +kernel
theorem dX3_append_25 : decode cX3_append 25 = .ok (.getfield 18, 3) := by decide +kernel
theorem dX3_append_28 : decode cX3_append 28 = .ok (.aload_n 0, 1) := by decide +kernel
theorem dX3_append_29 : decode cX3_append 29 = .ok (.getfield 27, 3) := by decide +kernel
theorem dX3_append_32 : decode cX3_append 32 = .ok (.iload_n 3, 1) := by decide +kernel
theorem dX3_append_33 : decode cX3_append 33 = .ok (.invokestatic 31, 3) := by decide +kernel
theorem dX3_append_36 : decode cX3_append 36 = .ok (.aload_n 0, 1) := by decide +kernel
theorem dX3_append_37 : decode cX3_append 37 = .ok (.getfield 21, 3) := by decide +kernel
theorem dX3_append_40 : decode cX3_append 40 = .ok (.aload_n 0, 1) := by decide +kernel
theorem dX3_append_41 : decode cX3_append 41 = .ok (.getfield 27, 3) := by decide +kernel
theorem dX3_append_44 : decode cX3_append 44 = .ok (.iload 4, 2) := by decide +kernel
theorem dX3_append_46 : decode cX3_append 46 = .ok (.invokestatic 31, 3) := by decide +kernel
theorem dX3_append_49 : decode cX3_append 49 = .ok (.aload_n 0, 1) := by decide +kernel
theorem dX3_append_50 : decode cX3_append 50 = .ok (.getfield 24, 3) := by decide +kernel
theorem dX3_append_53 : decode cX3_append 53 = .ok (.aload_n 0, 1) := by decide +kernel
theorem dX3_append_54 : decode cX3_append 54 = .ok (.getfield 27, 3) := by decide +kernel
theorem dX3_append_57 : decode cX3_append 57 = .ok (.iload 5, 2) := by decide +kernel
theorem dX3_append_59 : decode cX3_append 59 = .ok (.invokestatic 31, 3) := by decide +kernel
theorem dX3_append_62 : decode cX3_append 62 = .ok (.aload_n 0, 1) := by decide +kernel
theorem dX3_append_63 : decode cX3_append 63 = .ok (.dup, 1) := by decide +kernel
theorem dX3_append_64 : decode cX3_append 64 = .ok (.getfield 27, 3) := by decide +kernel
theorem dX3_append_67 : decode cX3_append 67 = .ok (.iconst 1, 1) := by decide +kernel
theorem dX3_append_68 : decode cX3_append 68 = .ok (.iadd, 1) := by decide +kernel
theorem dX3_append_69 : decode cX3_append 69 = .ok (.putfield 27, 3) := by decide +kernel
theorem dX3_append_72 : decode cX3_append 72 = .ok (.aload_n 0, 1) := by decide +kernel
theorem dX3_append_73 : decode cX3_append 73 = .ok (.getfield 27, 3) := by decide +kernel
theorem dX3_append_76 : decode cX3_append 76 = .ok (.iconst 1, 1) := by decide +kernel
theorem dX3_append_77 : decode cX3_append 77 = .ok (.isub, 1) := by decide +kernel
theorem dX3_append_78 : decode cX3_append 78 = .ok (.ireturn, 1) := by decide +kernel
theorem dX3_everyScene_0 : decode cX3_everyScene 0 = .ok (.iconst 1, 1) := by decide +kernel
theorem dX3_everyScene_1 : decode cX3_everyScene 1 = .ok (.aload_n 0, 1) := by decide +kernel
theorem dX3_everyScene_2 : decode cX3_everyScene 2 = .ok (.getfield 27, 3) := by decide +kernel
theorem dX3_everyScene_5 : decode cX3_everyScene 5 = .ok (.ishl, 1) := by decide +kernel
theorem dX3_everyScene_6 : decode cX3_everyScene 6 = .ok (.iconst 1, 1) := by decide +kernel
theorem dX3_everyScene_7 : decode cX3_everyScene 7 = .ok (.isub, 1) := by decide +kernel
theorem dX3_everyScene_8 : decode cX3_everyScene 8 = .ok (.ireturn, 1) := by decide +kernel
theorem dX3_countOpen_0 : decode cX3_countOpen 0 = .ok (.aload_n 0, 1) := by decide +kernel
theorem dX3_countOpen_1 : decode cX3_countOpen 1 = .ok (.getfield 27, 3) := by decide +kernel
theorem dX3_countOpen_4 : decode cX3_countOpen 4 = .ok (.aload_n 0, 1) := by decide +kernel
theorem dX3_countOpen_5 : decode cX3_countOpen 5 = .ok (.getfield 35, 3) := by decide +kernel
theorem dX3_countOpen_8 : decode cX3_countOpen 8 = .ok (.invokestatic 38, 3) := by decide +kernel
theorem dX3_countOpen_11 : decode cX3_countOpen 11 = .ok (.isub, 1) := by decide +kernel
theorem dX3_countOpen_12 : decode cX3_countOpen 12 = .ok (.ireturn, 1) := by decide +kernel
theorem dX3_hoursOf_0 : decode cX3_hoursOf 0 = .ok (.iconst 0, 1) := by decide +kernel
theorem dX3_hoursOf_1 : decode cX3_hoursOf 1 = .ok (.istore_n 2, 1) := by decide +kernel
theorem dX3_hoursOf_2 : decode cX3_hoursOf 2 = .ok (.iconst 0, 1) := by decide +kernel
theorem dX3_hoursOf_3 : decode cX3_hoursOf 3 = .ok (.istore_n 3, 1) := by decide +kernel
theorem dX3_hoursOf_4 : decode cX3_hoursOf 4 = .ok (.iload_n 3, 1) := by decide +kernel
theorem dX3_hoursOf_5 : decode cX3_hoursOf 5 = .ok (.aload_n 0, 1) := by decide +kernel
theorem dX3_hoursOf_6 : decode cX3_hoursOf 6 = .ok (.getfield 27, 3) := by decide +kernel
theorem dX3_hoursOf_9 : decode cX3_hoursOf 9 = .ok (.if_icmp .ge 28, 3) := by decide +kernel
theorem dX3_hoursOf_12 : decode cX3_hoursOf 12 = .ok (.iload_n 1, 1) := by decide +kernel
theorem dX3_hoursOf_13 : decode cX3_hoursOf 13 = .ok (.iload_n 3, 1) := by decide +kernel
theorem dX3_hoursOf_14 : decode cX3_hoursOf 14 = .ok (.invokestatic 44, 3) := by decide +kernel
theorem dX3_hoursOf_17 : decode cX3_hoursOf 17 = .ok (.ifCond .eq 14, 3) := by decide +kernel
theorem dX3_hoursOf_20 : decode cX3_hoursOf 20 = .ok (.iload_n 2, 1) := by decide +kernel
theorem dX3_hoursOf_21 : decode cX3_hoursOf 21 = .ok (.aload_n 0, 1) := by decide +kernel
theorem dX3_hoursOf_22 : decode cX3_hoursOf 22 = .ok (.getfield 9, 3) := by decide +kernel
theorem dX3_hoursOf_25 : decode cX3_hoursOf 25 = .ok (.iload_n 3, 1) := by decide +kernel
theorem dX3_hoursOf_26 : decode cX3_hoursOf 26 = .ok (.invokestatic 48, 3) := by decide +kernel
theorem dX3_hoursOf_29 : decode cX3_hoursOf 29 = .ok (.iadd, 1) := by decide +kernel
theorem dX3_hoursOf_30 : decode cX3_hoursOf 30 = .ok (.istore_n 2, 1) := by decide +kernel
theorem dX3_hoursOf_31 : decode cX3_hoursOf 31 = .ok (.iinc 3 1, 3) := by decide +kernel
theorem dX3_hoursOf_34 : decode cX3_hoursOf 34 = .ok (.goto (-30), 3) := by decide +kernel
theorem dX3_hoursOf_37 : decode cX3_hoursOf 37 = .ok (.iload_n 2, 1) := by decide +kernel
theorem dX3_hoursOf_38 : decode cX3_hoursOf 38 = .ok (.ireturn, 1) := by decide +kernel
theorem dX3_isFree_0 : decode cX3_isFree 0 = .ok (.aload_n 0, 1) := by decide +kernel
theorem dX3_isFree_1 : decode cX3_isFree 1 = .ok (.getfield 24, 3) := by decide +kernel
theorem dX3_isFree_4 : decode cX3_isFree 4 = .ok (.iload_n 1, 1) := by decide +kernel
theorem dX3_isFree_5 : decode cX3_isFree 5 = .ok (.invokestatic 48, 3) := by decide +kernel
theorem dX3_isFree_8 : decode cX3_isFree 8 = .ok (.iload_n 2, 1) := by decide +kernel
theorem dX3_isFree_9 : decode cX3_isFree 9 = .ok (.iconst (-1), 1) := by decide +kernel
theorem dX3_isFree_10 : decode cX3_isFree 10 = .ok (.ixor, 1) := by decide +kernel
theorem dX3_isFree_11 : decode cX3_isFree 11 = .ok (.iand, 1) := by decide +kernel
theorem dX3_isFree_12 : decode cX3_isFree 12 = .ok (.ifCond .ne 7, 3) := by decide +kernel
theorem dX3_isFree_15 : decode cX3_isFree 15 = .ok (.iconst 1, 1) := by decide +kernel
theorem dX3_isFree_16 : decode cX3_isFree 16 = .ok (.goto 4, 3) := by decide +kernel
theorem dX3_isFree_19 : decode cX3_isFree 19 = .ok (.iconst 0, 1) := by decide +kernel
theorem dX3_isFree_20 : decode cX3_isFree 20 = .ok (.ireturn, 1) := by decide +kernel
theorem dX3_canFollow_0 : decode cX3_canFollow 0 = .ok (.iload_n 2, 1) := by decide +kernel
theorem dX3_canFollow_1 : decode cX3_canFollow 1 = .ok (.iload_n 1, 1) := by decide +kernel
theorem dX3_canFollow_2 : decode cX3_canFollow 2 = .ok (.invokestatic 44, 3) := by decide +kernel
theorem dX3_canFollow_5 : decode cX3_canFollow 5 = .ok (.ifCond .ne 16, 3) := by decide +kernel
theorem dX3_canFollow_8 : decode cX3_canFollow 8 = .ok (.aload_n 0, 1) := by decide +kernel
theorem dX3_canFollow_9 : decode cX3_canFollow 9 = .ok (.iload_n 1, 1) := by decide +kernel
theorem dX3_canFollow_10 : decode cX3_canFollow 10 = .ok (.iload_n 2, 1) := by decide +kernel
theorem dX3_canFollow_11 : decode cX3_canFollow 11 = .ok (.invokevirtual 52, 3) := by decide +kernel
theorem dX3_canFollow_14 : decode cX3_canFollow 14 = .ok (.ifCond .eq 7, 3) := by decide +kernel
theorem dX3_canFollow_17 : decode cX3_canFollow 17 = .ok (.iconst 1, 1) := by decide +kernel
theorem dX3_canFollow_18 : decode cX3_canFollow 18 = .ok (.goto 4, 3) := by decide +kernel
theorem dX3_canFollow_21 : decode cX3_canFollow 21 = .ok (.iconst 0, 1) := by decide +kernel
theorem dX3_canFollow_22 : decode cX3_canFollow 22 = .ok (.ireturn, 1) := by decide +kernel
theorem dX3_isOutdoors_0 : decode cX3_isOutdoors 0 = .ok (.aload_n 0, 1) := by decide +kernel
theorem dX3_isOutdoors_1 : decode cX3_isOutdoors 1 = .ok (.getfield 55, 3) := by decide +kernel
theorem dX3_isOutdoors_4 : decode cX3_isOutdoors 4 = .ok (.aload_n 0, 1) := by decide +kernel
theorem dX3_isOutdoors_5 : decode cX3_isOutdoors 5 = .ok (.getfield 15, 3) := by decide +kernel
theorem dX3_isOutdoors_8 : decode cX3_isOutdoors 8 = .ok (.iload_n 1, 1) := by decide +kernel
theorem dX3_isOutdoors_9 : decode cX3_isOutdoors 9 = .ok (.invokestatic 48, 3) := by decide +kernel
theorem dX3_isOutdoors_12 : decode cX3_isOutdoors 12 = .ok (.invokestatic 44, 3) := by decide +kernel
theorem dX3_isOutdoors_15 : decode cX3_isOutdoors 15 = .ok (.ireturn, 1) := by decide +kernel
theorem dX4_init_0 : decode cX4_init 0 = .ok (.aload_n 0, 1) := by decide +kernel
theorem dX4_init_1 : decode cX4_init 1 = .ok (.invokespecial 1, 3) := by decide +kernel
theorem dX4_init_4 : decode cX4_init 4 = .ok (.aload_n 0, 1) := by decide +kernel
theorem dX4_init_5 : decode cX4_init 5 = .ok (.new 7, 3) := by decide +kernel
theorem dX4_init_8 : decode cX4_init 8 = .ok (.dup, 1) := by decide +kernel
theorem dX4_init_9 : decode cX4_init 9 = .ok (.invokespecial 9, 3) := by decide +kernel
theorem dX4_init_12 : decode cX4_init 12 = .ok (.putfield 10, 3) := by decide +kernel
theorem dX4_init_15 : decode cX4_init 15 = .ok (.aload_n 0, 1) := by decide +kernel
theorem dX4_init_16 : decode cX4_init 16 = .ok (.aload_n 0, 1) := by decide +kernel
theorem dX4_init_17 : decode cX4_init 17 = .ok (.getfield 10, 3) := by decide +kernel
theorem dX4_init_20 : decode cX4_init 20 = .ok (.getfield 16, 3) := by decide +kernel
theorem dX4_init_23 : decode cX4_init 23 = .ok (.putfield 20, 3) := by decide +kernel
theorem dX4_init_26 : decode cX4_init 26 = .ok (.aload_n 0, 1) := by decide +kernel
theorem dX4_init_27 : decode cX4_init 27 = .ok (.new 21, 3) := by decide +kernel
theorem dX4_init_30 : decode cX4_init 30 = .ok (.dup, 1) := by decide +kernel
theorem dX4_init_31 : decode cX4_init 31 = .ok (.invokespecial 23, 3) := by decide +kernel
theorem dX4_init_34 : decode cX4_init 34 = .ok (.putfield 24, 3) := by decide +kernel
theorem dX4_init_37 : decode cX4_init 37 = .ok (.aload_n 0, 1) := by decide +kernel
theorem dX4_init_38 : decode cX4_init 38 = .ok (.new 28, 3) := by decide +kernel
theorem dX4_init_41 : decode cX4_init 41 = .ok (.dup, 1) := by decide +kernel
theorem dX4_init_42 : decode cX4_init 42 = .ok (.invokespecial 30, 3) := by decide +kernel
theorem dX4_init_45 : decode cX4_init 45 = .ok (.putfield 31, 3) := by decide +kernel
theorem dX4_init_48 : decode cX4_init 48 = .ok (.aload_n 0, 1) := by decide +kernel
theorem dX4_init_49 : decode cX4_init 49 = .ok (.bipush 100, 2) := by decide +kernel
theorem dX4_init_51 : decode cX4_init 51 = .ok (.putfield 35, 3) := by decide +kernel
theorem dX4_init_54 : decode cX4_init 54 = .ok (.aload_n 0, 1) := by decide +kernel
theorem dX4_init_55 : decode cX4_init 55 = .ok (.bipush 50, 2) := by decide +kernel
theorem dX4_init_57 : decode cX4_init 57 = .ok (.putfield 39, 3) := by decide +kernel
theorem dX4_init_60 : decode cX4_init 60 = .ok (.return_, 1) := by decide +kernel
theorem dX4_addScene_0 : decode cX4_addScene 0 = .ok (.iload_n 1, 1) := by decide +kernel
theorem dX4_addScene_1 : decode cX4_addScene 1 = .ok (.iconst 1, 1) := by decide +kernel
theorem dX4_addScene_2 : decode cX4_addScene 2 = .ok (.bipush 6, 2) := by decide +kernel
theorem dX4_addScene_4 : decode cX4_addScene 4 = .ok (.invokestatic 42, 3) := by decide +kernel
theorem dX4_addScene_7 : decode cX4_addScene 7 = .ok (.ifCond .eq 47, 3) := by decide +kernel
theorem dX4_addScene_10 : decode cX4_addScene 10 = .ok (.iload_n 2, 1) := by decide +kernel
theorem dX4_addScene_11 : decode cX4_addScene 11 = .ok (.iconst 0, 1) := by decide +kernel
theorem dX4_addScene_12 : decode cX4_addScene 12 = .ok (.iconst 3, 1) := by decide +kernel
theorem dX4_addScene_13 : decode cX4_addScene 13 = .ok (.invokestatic 42, 3) := by decide +kernel
theorem dX4_addScene_16 : decode cX4_addScene 16 = .ok (.ifCond .eq 38, 3) := by decide +kernel
theorem dX4_addScene_19 : decode cX4_addScene 19 = .ok (.iload_n 3, 1) := by decide +kernel
theorem dX4_addScene_20 : decode cX4_addScene 20 = .ok (.iconst 0, 1) := by decide +kernel
theorem dX4_addScene_21 : decode cX4_addScene 21 = .ok (.bipush 63, 2) := by decide +kernel
theorem dX4_addScene_23 : decode cX4_addScene 23 = .ok (.invokestatic 42, 3) := by decide +kernel
theorem dX4_addScene_26 : decode cX4_addScene 26 = .ok (.ifCond .eq 28, 3) := by decide +kernel
theorem dX4_addScene_29 : decode cX4_addScene 29 = .ok (.iload 4, 2) := by decide +kernel
theorem dX4_addScene_31 : decode cX4_addScene 31 = .ok (.iconst 0, 1) := by decide +kernel
theorem dX4_addScene_32 : decode cX4_addScene 32 = .ok (.iconst 2, 1) := by decide +kernel
theorem dX4_addScene_33 : decode cX4_addScene 33 = .ok (.invokestatic 42, 3) := by decide +kernel
theorem dX4_addScene_36 : decode cX4_addScene 36 = .ok (.ifCond .eq 18, 3) := by decide +kernel
theorem dX4_addScene_39 : decode cX4_addScene 39 = .ok (.iload 5, 2) := by decide +kernel
theorem dX4_addScene_41 : decode cX4_addScene 41 = .ok (.aload_n 0, 1) := by decide +kernel
theorem dX4_addScene_42 : decode cX4_addScene 42 = .ok (.getfield 20, 3) := by decide +kernel
theorem dX4_addScene_45 : decode cX4_addScene 45 = .ok (.invokevirtual 46, 3) := by decide +kernel
theorem dX4_addScene_48 : decode cX4_addScene 48 = .ok (.iconst (-1), 1) := by decide +kernel
theorem dX4_addScene_49 : decode cX4_addScene 49 = .ok (.ixor, 1) := by decide +kernel
theorem dX4_addScene_50 : decode cX4_addScene 50 = .ok (.iand, 1) := by decide +kernel
theorem dX4_addScene_51 : decode cX4_addScene 51 = .ok (.ifCond .eq 11, 3) := by decide +kernel
theorem dX4_addScene_54 : decode cX4_addScene 54 = .ok (.new 52, 3) := by decide +kernel
theorem dX4_addScene_57 : decode cX4_addScene 57 = .ok (.dup, 1) := by decide +kernel
theorem dX4_addScene_58 : decode cX4_addScene 58 = .ok (.invokespecial 54, 3) := by decide +kernel
theorem dX4_addScene_61 : decode cX4_addScene 61 = .ok (.athrow, 1) := by decide +kernel
theorem dX4_addScene_62 : decode cX4_addScene 62 = .ok (.aload_n 0, 1) := by decide +kernel
theorem dX4_addScene_63 : decode cX4_addScene 63 = .ok (.getfield 20, 3) := by decide +kernel
theorem dX4_addScene_66 : decode cX4_addScene 66 = .ok (.getfield 55, 3) := by decide +kernel
theorem dX4_addScene_69 : decode cX4_addScene 69 = .ok (.bipush 8, 2) := by decide +kernel
theorem dX4_addScene_71 : decode cX4_addScene 71 = .ok (.if_icmp .lt 11, 3) := by decide +kernel
theorem dX4_addScene_74 : decode cX4_addScene 74 = .ok (.new 58, 3) := by decide +kernel
theorem dX4_addScene_77 : decode cX4_addScene 77 = .ok (.dup, 1) := by decide +kernel
theorem dX4_addScene_78 : decode cX4_addScene 78 = .ok (.invokespecial 60, 3) := by decide +kernel
theorem dX4_addScene_81 : decode cX4_addScene 81 = .ok (.athrow, 1) := by decide +kernel
theorem dX4_addScene_82 : decode cX4_addScene 82 = .ok (.aload_n 0, 1) := by decide +kernel
theorem dX4_addScene_83 : decode cX4_addScene 83 = .ok (.getfield 10, 3) := by decide +kernel
theorem dX4_addScene_86 : decode cX4_addScene 86 = .ok (.invokevirtual 61, 3) := by decide +kernel
theorem dX4_addScene_89 : decode cX4_addScene 89 = .ok (.aload_n 0, 1) := by decide +kernel
theorem dX4_addScene_90 : decode cX4_addScene 90 = .ok (.getfield 20, 3) := by decide +kernel
theorem dX4_addScene_93 : decode cX4_addScene 93 = .ok (.iload_n 1, 1) := by decide +kernel
theorem dX4_addScene_94 : decode cX4_addScene 94 = .ok (.iload_n 2, 1) := by decide +kernel
theorem dX4_addScene_95 : decode cX4_addScene 95 = .ok (.iload_n 3, 1) := by decide +kernel
theorem dX4_addScene_96 : decode cX4_addScene 96 = .ok (.iload 4, 2) := by decide +kernel
theorem dX4_addScene_98 : decode cX4_addScene 98 = .ok (.iload 5, 2) := by decide +kernel
theorem dX4_addScene_100 : decode cX4_addScene 100 = .ok (.invokevirtual 64, 3) := by decide +kernel
theorem dX4_addScene_103 : decode cX4_addScene 103 = .ok (.ireturn, 1) := by decide +kernel
theorem dX4_setOut_0 : decode cX4_setOut 0 = .ok (.iload_n 1, 1) := by decide +kernel
theorem dX4_setOut_1 : decode cX4_setOut 1 = .ok (.iconst 0, 1) := by decide +kernel
theorem dX4_setOut_2 : decode cX4_setOut 2 = .ok (.iconst 3, 1) := by decide +kernel
theorem dX4_setOut_3 : decode cX4_setOut 3 = .ok (.invokestatic 42, 3) := by decide +kernel
theorem dX4_setOut_6 : decode cX4_setOut 6 = .ok (.ifCond .ne 11, 3) := by decide +kernel
theorem dX4_setOut_9 : decode cX4_setOut 9 = .ok (.new 68, 3) := by decide +kernel
theorem dX4_setOut_12 : decode cX4_setOut 12 = .ok (.dup, 1) := by decide +kernel
theorem dX4_setOut_13 : decode cX4_setOut 13 = .ok (.invokespecial 70, 3) := by decide +kernel
theorem dX4_setOut_16 : decode cX4_setOut 16 = .ok (.athrow, 1) := by decide +kernel
theorem dX4_setOut_17 : decode cX4_setOut 17 = .ok (.aload_n 0, 1) := by decide +kernel
theorem dX4_setOut_18 : decode cX4_setOut 18 = .ok (.getfield 20, 3) := by decide +kernel
theorem dX4_setOut_21 : decode cX4_setOut 21 = .ok (.getfield 71, 3) := by decide +kernel
theorem dX4_setOut_24 : decode cX4_setOut 24 = .ok (.iload_n 1, 1) := by decide +kernel
theorem dX4_setOut_25 : decode cX4_setOut 25 = .ok (.invokestatic 74, 3) := by decide +kernel
theorem dX4_setOut_28 : decode cX4_setOut 28 = .ok (.istore_n 3, 1) := by decide +kernel
theorem dX4_setOut_29 : decode cX4_setOut 29 = .ok (.aload_n 0, 1) := by decide +kernel
theorem dX4_setOut_30 : decode cX4_setOut 30 = .ok (.getfield 20, 3) := by decide +kernel
theorem dX4_setOut_33 : decode cX4_setOut 33 = .ok (.aload_n 0, 1) := by decide +kernel
theorem dX4_setOut_34 : decode cX4_setOut 34 = .ok (.getfield 20, 3) := by decide +kernel
theorem dX4_setOut_37 : decode cX4_setOut 37 = .ok (.getfield 71, 3) := by decide +kernel
theorem dX4_setOut_40 : decode cX4_setOut 40 = .ok (.iload_n 1, 1) := by decide +kernel
theorem dX4_setOut_41 : decode cX4_setOut 41 = .ok (.iload_n 2, 1) := by decide +kernel
theorem dX4_setOut_42 : decode cX4_setOut 42 = .ok (.invokestatic 78, 3) := by decide +kernel
theorem dX4_setOut_45 : decode cX4_setOut 45 = .ok (.putfield 71, 3) := by decide +kernel
theorem dX4_setOut_48 : decode cX4_setOut 48 = .ok (.iload_n 3, 1) := by decide +kernel
theorem dX4_setOut_49 : decode cX4_setOut 49 = .ok (.ireturn, 1) := by decide +kernel
theorem dX4_setChild_0 : decode cX4_setChild 0 = .ok (.iload_n 1, 1) := by decide +kernel
theorem dX4_setChild_1 : decode cX4_setChild 1 = .ok (.iconst 0, 1) := by decide +kernel
theorem dX4_setChild_2 : decode cX4_setChild 2 = .ok (.iconst 5, 1) := by decide +kernel
theorem dX4_setChild_3 : decode cX4_setChild 3 = .ok (.invokestatic 42, 3) := by decide +kernel
theorem dX4_setChild_6 : decode cX4_setChild 6 = .ok (.ifCond .ne 11, 3) := by decide +kernel
theorem dX4_setChild_9 : decode cX4_setChild 9 = .ok (.new 68, 3) := by decide +kernel
theorem dX4_setChild_12 : decode cX4_setChild 12 = .ok (.dup, 1) := by decide +kernel
theorem dX4_setChild_13 : decode cX4_setChild 13 = .ok (.invokespecial 70, 3) := by decide +kernel
theorem dX4_setChild_16 : decode cX4_setChild 16 = .ok (.athrow, 1) := by decide +kernel
theorem dX4_setChild_17 : decode cX4_setChild 17 = .ok (.aload_n 0, 1) := by decide +kernel
theorem dX4_setChild_18 : decode cX4_setChild 18 = .ok (.getfield 20, 3) := by decide +kernel
theorem dX4_setChild_21 : decode cX4_setChild 21 = .ok (.getfield 82, 3) := by decide +kernel
theorem dX4_setChild_24 : decode cX4_setChild 24 = .ok (.iload_n 1, 1) := by decide +kernel
theorem dX4_setChild_25 : decode cX4_setChild 25 = .ok (.invokestatic 74, 3) := by decide +kernel
theorem dX4_setChild_28 : decode cX4_setChild 28 = .ok (.istore_n 3, 1) := by decide +kernel
theorem dX4_setChild_29 : decode cX4_setChild 29 = .ok (.iload_n 3, 1) := by decide +kernel
theorem dX4_setChild_30 : decode cX4_setChild 30 = .ok (.iload_n 2, 1) := by decide +kernel
theorem dX4_setChild_31 : decode cX4_setChild 31 = .ok (.if_icmp .eq 29, 3) := by decide +kernel
theorem dX4_setChild_34 : decode cX4_setChild 34 = .ok (.aload_n 0, 1) := by decide +kernel
theorem dX4_setChild_35 : decode cX4_setChild 35 = .ok (.getfield 10, 3) := by decide +kernel
theorem dX4_setChild_38 : decode cX4_setChild 38 = .ok (.invokevirtual 61, 3) := by decide +kernel
theorem dX4_setChild_41 : decode cX4_setChild 41 = .ok (.aload_n 0, 1) := by decide +kernel
theorem dX4_setChild_42 : decode cX4_setChild 42 = .ok (.getfield 20, 3) := by decide +kernel
theorem dX4_setChild_45 : decode cX4_setChild 45 = .ok (.aload_n 0, 1) := by decide +kernel
theorem dX4_setChild_46 : decode cX4_setChild 46 = .ok (.getfield 20, 3) := by decide +kernel
theorem dX4_setChild_49 : decode cX4_setChild 49 = .ok (.getfield 82, 3) := by decide +kernel
theorem dX4_setChild_52 : decode cX4_setChild 52 = .ok (.iload_n 1, 1) := by decide +kernel
theorem dX4_setChild_53 : decode cX4_setChild 53 = .ok (.iload_n 2, 1) := by decide +kernel
theorem dX4_setChild_54 : decode cX4_setChild 54 = .ok (.invokestatic 78, 3) := by decide +kernel
theorem dX4_setChild_57 : decode cX4_setChild 57 = .ok (.putfield 82, 3) := by decide +kernel
theorem dX4_setChild_60 : decode cX4_setChild 60 = .ok (.iload_n 3, 1) := by decide +kernel
theorem dX4_setChild_61 : decode cX4_setChild 61 = .ok (.ireturn, 1) := by decide +kernel
theorem dX4_setRates_0 : decode cX4_setRates 0 = .ok (.iload_n 1, 1) := by decide +kernel
theorem dX4_setRates_1 : decode cX4_setRates 1 = .ok (.iconst 0, 1) := by decide +kernel
theorem dX4_setRates_2 : decode cX4_setRates 2 = .ok (.sipush 1000, 3) := by decide +kernel
theorem dX4_setRates_5 : decode cX4_setRates 5 = .ok (.invokestatic 42, 3) := by decide +kernel
theorem dX4_setRates_8 : decode cX4_setRates 8 = .ok (.ifCond .eq 14, 3) := by decide +kernel
theorem dX4_setRates_11 : decode cX4_setRates 11 = .ok (.iload_n 2, 1) := by decide +kernel
theorem dX4_setRates_12 : decode cX4_setRates 12 = .ok (.iconst 0, 1) := by decide +kernel
theorem dX4_setRates_13 : decode cX4_setRates 13 = .ok (.sipush 1000, 3) := by decide +kernel
theorem dX4_setRates_16 : decode cX4_setRates 16 = .ok (.invokestatic 42, 3) := by decide +kernel
theorem dX4_setRates_19 : decode cX4_setRates 19 = .ok (.ifCond .ne 11, 3) := by decide +kernel
theorem dX4_setRates_22 : decode cX4_setRates 22 = .ok (.new 52, 3) := by decide +kernel
theorem dX4_setRates_25 : decode cX4_setRates 25 = .ok (.dup, 1) := by decide +kernel
theorem dX4_setRates_26 : decode cX4_setRates 26 = .ok (.invokespecial 54, 3) := by decide +kernel
theorem dX4_setRates_29 : decode cX4_setRates 29 = .ok (.athrow, 1) := by decide +kernel
theorem dX4_setRates_30 : decode cX4_setRates 30 = .ok (.aload_n 0, 1) := by decide +kernel
theorem dX4_setRates_31 : decode cX4_setRates 31 = .ok (.getfield 35, 3) := by decide +kernel
theorem dX4_setRates_34 : decode cX4_setRates 34 = .ok (.istore_n 3, 1) := by decide +kernel
theorem dX4_setRates_35 : decode cX4_setRates 35 = .ok (.aload_n 0, 1) := by decide +kernel
theorem dX4_setRates_36 : decode cX4_setRates 36 = .ok (.iload_n 1, 1) := by decide +kernel
theorem dX4_setRates_37 : decode cX4_setRates 37 = .ok (.putfield 35, 3) := by decide +kernel
theorem dX4_setRates_40 : decode cX4_setRates 40 = .ok (.aload_n 0, 1) := by decide +kernel
theorem dX4_setRates_41 : decode cX4_setRates 41 = .ok (.iload_n 2, 1) := by decide +kernel
theorem dX4_setRates_42 : decode cX4_setRates 42 = .ok (.putfield 39, 3) := by decide +kernel
theorem dX4_setRates_45 : decode cX4_setRates 45 = .ok (.iload_n 3, 1) := by decide +kernel
theorem dX4_setRates_46 : decode cX4_setRates 46 = .ok (.ireturn, 1) := by decide +kernel
theorem dX4_hold_0 : decode cX4_hold 0 = .ok (.aload_n 0, 1) := by decide +kernel
theorem dX4_hold_1 : decode cX4_hold 1 = .ok (.getfield 85, 3) := by decide +kernel
theorem dX4_hold_4 : decode cX4_hold 4 = .ok (.istore_n 2, 1) := by decide +kernel
theorem dX4_hold_5 : decode cX4_hold 5 = .ok (.aload_n 0, 1) := by decide +kernel
theorem dX4_hold_6 : decode cX4_hold 6 = .ok (.iload_n 1, 1) := by decide +kernel
theorem dX4_hold_7 : decode cX4_hold 7 = .ok (.putfield 85, 3) := by decide +kernel
theorem dX4_hold_10 : decode cX4_hold 10 = .ok (.iload_n 2, 1) := by decide +kernel
theorem dX4_hold_11 : decode cX4_hold 11 = .ok (.ireturn, 1) := by decide +kernel
theorem dX4_shoot_0 : decode cX4_shoot 0 = .ok (.aload_n 0, 1) := by decide +kernel
theorem dX4_shoot_1 : decode cX4_shoot 1 = .ok (.getfield 10, 3) := by decide +kernel
theorem dX4_shoot_4 : decode cX4_shoot 4 = .ok (.invokevirtual 89, 3) := by decide +kernel
theorem dX4_shoot_7 : decode cX4_shoot 7 = .ok (.aload_n 0, 1) := by decide +kernel
theorem dX4_shoot_8 : decode cX4_shoot 8 = .ok (.getfield 10, 3) := by decide +kernel
theorem dX4_shoot_11 : decode cX4_shoot 11 = .ok (.iload_n 1, 1) := by decide +kernel
theorem dX4_shoot_12 : decode cX4_shoot 12 = .ok (.ifCond .eq 14, 3) := by decide +kernel
theorem dX4_shoot_15 : decode cX4_shoot 15 = .ok (.aload_n 0, 1) := by decide +kernel
theorem dX4_shoot_16 : decode cX4_shoot 16 = .ok (.getfield 85, 3) := by decide +kernel
theorem dX4_shoot_19 : decode cX4_shoot 19 = .ok (.ifCond .ne 7, 3) := by decide +kernel
theorem dX4_shoot_22 : decode cX4_shoot 22 = .ok (.iconst 1, 1) := by decide +kernel
theorem dX4_shoot_23 : decode cX4_shoot 23 = .ok (.goto 4, 3) := by decide +kernel
theorem dX4_shoot_26 : decode cX4_shoot 26 = .ok (.iconst 0, 1) := by decide +kernel
theorem dX4_shoot_27 : decode cX4_shoot 27 = .ok (.invokevirtual 92, 3) := by decide +kernel
theorem dX4_shoot_30 : decode cX4_shoot 30 = .ok (.istore_n 2, 1) := by decide +kernel
theorem dX4_shoot_31 : decode cX4_shoot 31 = .ok (.aload_n 0, 1) := by decide +kernel
theorem dX4_shoot_32 : decode cX4_shoot 32 = .ok (.getfield 20, 3) := by decide +kernel
theorem dX4_shoot_35 : decode cX4_shoot 35 = .ok (.iload_n 2, 1) := by decide +kernel
theorem dX4_shoot_36 : decode cX4_shoot 36 = .ok (.invokevirtual 96, 3) := by decide +kernel
theorem dX4_shoot_39 : decode cX4_shoot 39 = .ok (.aload_n 0, 1) := by decide +kernel
theorem dX4_shoot_40 : decode cX4_shoot 40 = .ok (.getfield 35, 3) := by decide +kernel
theorem dX4_shoot_43 : decode cX4_shoot 43 = .ok (.imul, 1) := by decide +kernel
theorem dX4_shoot_44 : decode cX4_shoot 44 = .ok (.istore_n 3, 1) := by decide +kernel
theorem dX4_shoot_45 : decode cX4_shoot 45 = .ok (.aload_n 0, 1) := by decide +kernel
theorem dX4_shoot_46 : decode cX4_shoot 46 = .ok (.getfield 85, 3) := by decide +kernel
theorem dX4_shoot_49 : decode cX4_shoot 49 = .ok (.ifCond .eq 10, 3) := by decide +kernel
theorem dX4_shoot_52 : decode cX4_shoot 52 = .ok (.aload_n 0, 1) := by decide +kernel
theorem dX4_shoot_53 : decode cX4_shoot 53 = .ok (.getfield 39, 3) := by decide +kernel
theorem dX4_shoot_56 : decode cX4_shoot 56 = .ok (.goto 4, 3) := by decide +kernel
theorem dX4_shoot_59 : decode cX4_shoot 59 = .ok (.iconst 0, 1) := by decide +kernel
theorem dX4_shoot_60 : decode cX4_shoot 60 = .ok (.istore 4, 2) := by decide +kernel
theorem dX4_shoot_62 : decode cX4_shoot 62 = .ok (.aload_n 0, 1) := by decide +kernel
theorem dX4_shoot_63 : decode cX4_shoot 63 = .ok (.getfield 24, 3) := by decide +kernel
theorem dX4_shoot_66 : decode cX4_shoot 66 = .ok (.iconst 0, 1) := by decide +kernel
theorem dX4_shoot_67 : decode cX4_shoot 67 = .ok (.iload_n 3, 1) := by decide +kernel
theorem dX4_shoot_68 : decode cX4_shoot 68 = .ok (.invokevirtual 100, 3) := by decide +kernel
theorem dX4_shoot_71 : decode cX4_shoot 71 = .ok (.aload_n 0, 1) := by decide +kernel
theorem dX4_shoot_72 : decode cX4_shoot 72 = .ok (.getfield 24, 3) := by decide +kernel
theorem dX4_shoot_75 : decode cX4_shoot 75 = .ok (.iconst 1, 1) := by decide +kernel
theorem dX4_shoot_76 : decode cX4_shoot 76 = .ok (.iload 4, 2) := by decide +kernel
theorem dX4_shoot_78 : decode cX4_shoot 78 = .ok (.invokevirtual 100, 3) := by decide +kernel
theorem dX4_shoot_81 : decode cX4_shoot 81 = .ok (.iadd, 1) := by decide +kernel
theorem dX4_shoot_82 : decode cX4_shoot 82 = .ok (.istore 5, 2) := by decide +kernel
theorem dX4_shoot_84 : decode cX4_shoot 84 = .ok (.iload 5, 2) := by decide +kernel
theorem dX4_shoot_86 : decode cX4_shoot 86 = .ok (.aload_n 0, 1) := by decide +kernel
theorem dX4_shoot_87 : decode cX4_shoot 87 = .ok (.getfield 24, 3) := by decide +kernel
theorem dX4_shoot_90 : decode cX4_shoot 90 = .ok (.getfield 104, 3) := by decide +kernel
theorem dX4_shoot_93 : decode cX4_shoot 93 = .ok (.if_icmp .gt 16, 3) := by decide +kernel
theorem dX4_shoot_96 : decode cX4_shoot 96 = .ok (.aload_n 0, 1) := by decide +kernel
theorem dX4_shoot_97 : decode cX4_shoot 97 = .ok (.getfield 10, 3) := by decide +kernel
theorem dX4_shoot_100 : decode cX4_shoot 100 = .ok (.getfield 107, 3) := by decide +kernel
theorem dX4_shoot_103 : decode cX4_shoot 103 = .ok (.sipush 1000, 3) := by decide +kernel
theorem dX4_shoot_106 : decode cX4_shoot 106 = .ok (.if_icmp .lt 11, 3) := by decide +kernel
theorem dX4_shoot_109 : decode cX4_shoot 109 = .ok (.new 58, 3) := by decide +kernel
theorem dX4_shoot_112 : decode cX4_shoot 112 = .ok (.dup, 1) := by decide +kernel
theorem dX4_shoot_113 : decode cX4_shoot 113 = .ok (.invokespecial 60, 3) := by decide +kernel
theorem dX4_shoot_116 : decode cX4_shoot 116 = .ok (.athrow, 1) := by decide +kernel
theorem dX4_shoot_117 : decode cX4_shoot 117 = .ok (.aload_n 0, 1) := by decide +kernel
theorem dX4_shoot_118 : decode cX4_shoot 118 = .ok (.getfield 24, 3) := by decide +kernel
theorem dX4_shoot_121 : decode cX4_shoot 121 = .ok (.iconst 0, 1) := by decide +kernel
theorem dX4_shoot_122 : decode cX4_shoot 122 = .ok (.iload_n 3, 1) := by decide +kernel
theorem dX4_shoot_123 : decode cX4_shoot 123 = .ok (.invokevirtual 110, 3) := by decide +kernel
theorem dX4_shoot_126 : decode cX4_shoot 126 = .ok (.pop, 1) := by decide +kernel
theorem dX4_shoot_127 : decode cX4_shoot 127 = .ok (.aload_n 0, 1) := by decide +kernel
theorem dX4_shoot_128 : decode cX4_shoot 128 = .ok (.getfield 24, 3) := by decide +kernel
theorem dX4_shoot_131 : decode cX4_shoot 131 = .ok (.iconst 1, 1) := by decide +kernel
theorem dX4_shoot_132 : decode cX4_shoot 132 = .ok (.iload 4, 2) := by decide +kernel
theorem dX4_shoot_134 : decode cX4_shoot 134 = .ok (.invokevirtual 110, 3) := by decide +kernel
theorem dX4_shoot_137 : decode cX4_shoot 137 = .ok (.pop, 1) := by decide +kernel
theorem dX4_shoot_138 : decode cX4_shoot 138 = .ok (.aload_n 0, 1) := by decide +kernel
theorem dX4_shoot_139 : decode cX4_shoot 139 = .ok (.getfield 10, 3) := by decide +kernel
theorem dX4_shoot_142 : decode cX4_shoot 142 = .ok (.iload_n 2, 1) := by decide +kernel
theorem dX4_shoot_143 : decode cX4_shoot 143 = .ok (.invokevirtual 113, 3) := by decide +kernel
theorem dX4_shoot_146 : decode cX4_shoot 146 = .ok (.iload_n 2, 1) := by decide +kernel
theorem dX4_shoot_147 : decode cX4_shoot 147 = .ok (.invokestatic 117, 3) := by decide +kernel
theorem dX4_shoot_150 : decode cX4_shoot 150 = .ok (.ireturn, 1) := by decide +kernel
theorem dX4_approve_0 : decode cX4_approve 0 = .ok (.iload_n 1, 1) := by decide +kernel
theorem dX4_approve_1 : decode cX4_approve 1 = .ok (.iconst 0, 1) := by decide +kernel
theorem dX4_approve_2 : decode cX4_approve 2 = .ok (.iconst 3, 1) := by decide +kernel
theorem dX4_approve_3 : decode cX4_approve 3 = .ok (.invokestatic 42, 3) := by decide +kernel
theorem dX4_approve_6 : decode cX4_approve 6 = .ok (.ifCond .ne 11, 3) := by decide +kernel
theorem dX4_approve_9 : decode cX4_approve 9 = .ok (.new 68, 3) := by decide +kernel
theorem dX4_approve_12 : decode cX4_approve 12 = .ok (.dup, 1) := by decide +kernel
theorem dX4_approve_13 : decode cX4_approve 13 = .ok (.invokespecial 70, 3) := by decide +kernel
theorem dX4_approve_16 : decode cX4_approve 16 = .ok (.athrow, 1) := by decide +kernel
theorem dX4_approve_17 : decode cX4_approve 17 = .ok (.iload_n 2, 1) := by decide +kernel
theorem dX4_approve_18 : decode cX4_approve 18 = .ok (.iconst 1, 1) := by decide +kernel
theorem dX4_approve_19 : decode cX4_approve 19 = .ok (.ldc 122, 2) := by decide +kernel
theorem dX4_approve_21 : decode cX4_approve 21 = .ok (.invokestatic 42, 3) := by decide +kernel
theorem dX4_approve_24 : decode cX4_approve 24 = .ok (.ifCond .ne 11, 3) := by decide +kernel
theorem dX4_approve_27 : decode cX4_approve 27 = .ok (.new 52, 3) := by decide +kernel
theorem dX4_approve_30 : decode cX4_approve 30 = .ok (.dup, 1) := by decide +kernel
theorem dX4_approve_31 : decode cX4_approve 31 = .ok (.invokespecial 54, 3) := by decide +kernel
theorem dX4_approve_34 : decode cX4_approve 34 = .ok (.athrow, 1) := by decide +kernel
theorem dX4_approve_35 : decode cX4_approve 35 = .ok (.aload_n 0, 1) := by decide +kernel
theorem dX4_approve_36 : decode cX4_approve 36 = .ok (.getfield 24, 3) := by decide +kernel
theorem dX4_approve_39 : decode cX4_approve 39 = .ok (.getfield 123, 3) := by decide +kernel
theorem dX4_approve_42 : decode cX4_approve 42 = .ok (.iload_n 1, 1) := by decide +kernel
theorem dX4_approve_43 : decode cX4_approve 43 = .ok (.iload_n 2, 1) := by decide +kernel
theorem dX4_approve_44 : decode cX4_approve 44 = .ok (.invokestatic 127, 3) := by decide +kernel
theorem dX4_approve_47 : decode cX4_approve 47 = .ok (.aload_n 0, 1) := by decide +kernel
theorem dX4_approve_48 : decode cX4_approve 48 = .ok (.getfield 24, 3) := by decide +kernel
theorem dX4_approve_51 : decode cX4_approve 51 = .ok (.getfield 123, 3) := by decide +kernel
theorem dX4_approve_54 : decode cX4_approve 54 = .ok (.iload_n 1, 1) := by decide +kernel
theorem dX4_approve_55 : decode cX4_approve 55 = .ok (.invokestatic 131, 3) := by decide +kernel
theorem dX4_approve_58 : decode cX4_approve 58 = .ok (.ireturn, 1) := by decide +kernel
theorem dX4_grant_0 : decode cX4_grant 0 = .ok (.iload_n 1, 1) := by decide +kernel
theorem dX4_grant_1 : decode cX4_grant 1 = .ok (.iconst 1, 1) := by decide +kernel
theorem dX4_grant_2 : decode cX4_grant 2 = .ok (.ldc 122, 2) := by decide +kernel
theorem dX4_grant_4 : decode cX4_grant 4 = .ok (.invokestatic 42, 3) := by decide +kernel
theorem dX4_grant_7 : decode cX4_grant 7 = .ok (.ifCond .ne 11, 3) := by decide +kernel
theorem dX4_grant_10 : decode cX4_grant 10 = .ok (.new 52, 3) := by decide +kernel
theorem dX4_grant_13 : decode cX4_grant 13 = .ok (.dup, 1) := by decide +kernel
theorem dX4_grant_14 : decode cX4_grant 14 = .ok (.invokespecial 54, 3) := by decide +kernel
theorem dX4_grant_17 : decode cX4_grant 17 = .ok (.athrow, 1) := by decide +kernel
theorem dX4_grant_18 : decode cX4_grant 18 = .ok (.aload_n 0, 1) := by decide +kernel
theorem dX4_grant_19 : decode cX4_grant 19 = .ok (.getfield 24, 3) := by decide +kernel
theorem dX4_grant_22 : decode cX4_grant 22 = .ok (.dup, 1) := by decide +kernel
theorem dX4_grant_23 : decode cX4_grant 23 = .ok (.getfield 104, 3) := by decide +kernel
theorem dX4_grant_26 : decode cX4_grant 26 = .ok (.iload_n 1, 1) := by decide +kernel
theorem dX4_grant_27 : decode cX4_grant 27 = .ok (.iadd, 1) := by decide +kernel
theorem dX4_grant_28 : decode cX4_grant 28 = .ok (.putfield 104, 3) := by decide +kernel
theorem dX4_grant_31 : decode cX4_grant 31 = .ok (.aload_n 0, 1) := by decide +kernel
theorem dX4_grant_32 : decode cX4_grant 32 = .ok (.getfield 24, 3) := by decide +kernel
theorem dX4_grant_35 : decode cX4_grant 35 = .ok (.getfield 104, 3) := by decide +kernel
theorem dX4_grant_38 : decode cX4_grant 38 = .ok (.ireturn, 1) := by decide +kernel
theorem dX4_bill_0 : decode cX4_bill 0 = .ok (.iload_n 1, 1) := by decide +kernel
theorem dX4_bill_1 : decode cX4_bill 1 = .ok (.iconst 0, 1) := by decide +kernel
theorem dX4_bill_2 : decode cX4_bill 2 = .ok (.iconst 3, 1) := by decide +kernel
theorem dX4_bill_3 : decode cX4_bill 3 = .ok (.invokestatic 42, 3) := by decide +kernel
theorem dX4_bill_6 : decode cX4_bill 6 = .ok (.ifCond .ne 11, 3) := by decide +kernel
theorem dX4_bill_9 : decode cX4_bill 9 = .ok (.new 68, 3) := by decide +kernel
theorem dX4_bill_12 : decode cX4_bill 12 = .ok (.dup, 1) := by decide +kernel
theorem dX4_bill_13 : decode cX4_bill 13 = .ok (.invokespecial 70, 3) := by decide +kernel
theorem dX4_bill_16 : decode cX4_bill 16 = .ok (.athrow, 1) := by decide +kernel
theorem dX4_bill_17 : decode cX4_bill 17 = .ok (.iload_n 2, 1) := by decide +kernel
theorem dX4_bill_18 : decode cX4_bill 18 = .ok (.iconst 1, 1) := by decide +kernel
theorem dX4_bill_19 : decode cX4_bill 19 = .ok (.ldc 122, 2) := by decide +kernel
theorem dX4_bill_21 : decode cX4_bill 21 = .ok (.invokestatic 42, 3) := by decide +kernel
theorem dX4_bill_24 : decode cX4_bill 24 = .ok (.ifCond .ne 11, 3) := by decide +kernel
theorem dX4_bill_27 : decode cX4_bill 27 = .ok (.new 52, 3) := by decide +kernel
theorem dX4_bill_30 : decode cX4_bill 30 = .ok (.dup, 1) := by decide +kernel
theorem dX4_bill_31 : decode cX4_bill 31 = .ok (.invokespecial 54, 3) := by decide +kernel
theorem dX4_bill_34 : decode cX4_bill 34 = .ok (.athrow, 1) := by decide +kernel
theorem dX4_bill_35 : decode cX4_bill 35 = .ok (.aload_n 0, 1) := by decide +kernel
theorem dX4_bill_36 : decode cX4_bill 36 = .ok (.getfield 24, 3) := by decide +kernel
theorem dX4_bill_39 : decode cX4_bill 39 = .ok (.iload_n 1, 1) := by decide +kernel
theorem dX4_bill_40 : decode cX4_bill 40 = .ok (.iload_n 2, 1) := by decide +kernel
theorem dX4_bill_41 : decode cX4_bill 41 = .ok (.invokevirtual 100, 3) := by decide +kernel
theorem dX4_bill_44 : decode cX4_bill 44 = .ok (.aload_n 0, 1) := by decide +kernel
theorem dX4_bill_45 : decode cX4_bill 45 = .ok (.getfield 24, 3) := by decide +kernel
theorem dX4_bill_48 : decode cX4_bill 48 = .ok (.getfield 104, 3) := by decide +kernel
theorem dX4_bill_51 : decode cX4_bill 51 = .ok (.if_icmp .le 11, 3) := by decide +kernel
theorem dX4_bill_54 : decode cX4_bill 54 = .ok (.new 58, 3) := by decide +kernel
theorem dX4_bill_57 : decode cX4_bill 57 = .ok (.dup, 1) := by decide +kernel
theorem dX4_bill_58 : decode cX4_bill 58 = .ok (.invokespecial 60, 3) := by decide +kernel
theorem dX4_bill_61 : decode cX4_bill 61 = .ok (.athrow, 1) := by decide +kernel
theorem dX4_bill_62 : decode cX4_bill 62 = .ok (.aload_n 0, 1) := by decide +kernel
theorem dX4_bill_63 : decode cX4_bill 63 = .ok (.getfield 24, 3) := by decide +kernel
theorem dX4_bill_66 : decode cX4_bill 66 = .ok (.iload_n 1, 1) := by decide +kernel
theorem dX4_bill_67 : decode cX4_bill 67 = .ok (.iload_n 2, 1) := by decide +kernel
theorem dX4_bill_68 : decode cX4_bill 68 = .ok (.invokevirtual 110, 3) := by decide +kernel
theorem dX4_bill_71 : decode cX4_bill 71 = .ok (.ireturn, 1) := by decide +kernel
theorem dX4_loan_0 : decode cX4_loan 0 = .ok (.iload_n 1, 1) := by decide +kernel
theorem dX4_loan_1 : decode cX4_loan 1 = .ok (.iconst 0, 1) := by decide +kernel
theorem dX4_loan_2 : decode cX4_loan 2 = .ok (.iconst 5, 1) := by decide +kernel
theorem dX4_loan_3 : decode cX4_loan 3 = .ok (.invokestatic 42, 3) := by decide +kernel
theorem dX4_loan_6 : decode cX4_loan 6 = .ok (.ifCond .ne 11, 3) := by decide +kernel
theorem dX4_loan_9 : decode cX4_loan 9 = .ok (.new 68, 3) := by decide +kernel
theorem dX4_loan_12 : decode cX4_loan 12 = .ok (.dup, 1) := by decide +kernel
theorem dX4_loan_13 : decode cX4_loan 13 = .ok (.invokespecial 70, 3) := by decide +kernel
theorem dX4_loan_16 : decode cX4_loan 16 = .ok (.athrow, 1) := by decide +kernel
theorem dX4_loan_17 : decode cX4_loan 17 = .ok (.iload_n 2, 1) := by decide +kernel
theorem dX4_loan_18 : decode cX4_loan 18 = .ok (.iconst 1, 1) := by decide +kernel
theorem dX4_loan_19 : decode cX4_loan 19 = .ok (.ldc 122, 2) := by decide +kernel
theorem dX4_loan_21 : decode cX4_loan 21 = .ok (.invokestatic 42, 3) := by decide +kernel
theorem dX4_loan_24 : decode cX4_loan 24 = .ok (.ifCond .ne 11, 3) := by decide +kernel
theorem dX4_loan_27 : decode cX4_loan 27 = .ok (.new 52, 3) := by decide +kernel
theorem dX4_loan_30 : decode cX4_loan 30 = .ok (.dup, 1) := by decide +kernel
theorem dX4_loan_31 : decode cX4_loan 31 = .ok (.invokespecial 54, 3) := by decide +kernel
theorem dX4_loan_34 : decode cX4_loan 34 = .ok (.athrow, 1) := by decide +kernel
theorem dX4_loan_35 : decode cX4_loan 35 = .ok (.aload_n 0, 1) := by decide +kernel
theorem dX4_loan_36 : decode cX4_loan 36 = .ok (.getfield 31, 3) := by decide +kernel
theorem dX4_loan_39 : decode cX4_loan 39 = .ok (.getfield 135, 3) := by decide +kernel
theorem dX4_loan_42 : decode cX4_loan 42 = .ok (.bipush 10, 2) := by decide +kernel
theorem dX4_loan_44 : decode cX4_loan 44 = .ok (.if_icmp .lt 11, 3) := by decide +kernel
theorem dX4_loan_47 : decode cX4_loan 47 = .ok (.new 58, 3) := by decide +kernel
theorem dX4_loan_50 : decode cX4_loan 50 = .ok (.dup, 1) := by decide +kernel
theorem dX4_loan_51 : decode cX4_loan 51 = .ok (.invokespecial 60, 3) := by decide +kernel
theorem dX4_loan_54 : decode cX4_loan 54 = .ok (.athrow, 1) := by decide +kernel
theorem dX4_loan_55 : decode cX4_loan 55 = .ok (.aload_n 0, 1) := by decide +kernel
theorem dX4_loan_56 : decode cX4_loan 56 = .ok (.getfield 31, 3) := by decide +kernel
theorem dX4_loan_59 : decode cX4_loan 59 = .ok (.iload_n 1, 1) := by decide +kernel
theorem dX4_loan_60 : decode cX4_loan 60 = .ok (.iload_n 2, 1) := by decide +kernel
theorem dX4_loan_61 : decode cX4_loan 61 = .ok (.invokevirtual 138, 3) := by decide +kernel
theorem dX4_loan_64 : decode cX4_loan 64 = .ok (.ireturn, 1) := by decide +kernel
theorem dX4_part_0 : decode cX4_part 0 = .ok (.iload_n 1, 1) := by decide +kernel
theorem dX4_part_1 : decode cX4_part 1 = .ok (.iconst (-1), 1) := by decide +kernel
theorem dX4_part_2 : decode cX4_part 2 = .ok (.aload_n 0, 1) := by decide +kernel
theorem dX4_part_3 : decode cX4_part 3 = .ok (.getfield 31, 3) := by decide +kernel
theorem dX4_part_6 : decode cX4_part 6 = .ok (.getfield 141, 3) := by decide +kernel
theorem dX4_part_9 : decode cX4_part 9 = .ok (.iconst 1, 1) := by decide +kernel
theorem dX4_part_10 : decode cX4_part 10 = .ok (.isub, 1) := by decide +kernel
theorem dX4_part_11 : decode cX4_part 11 = .ok (.invokestatic 42, 3) := by decide +kernel
theorem dX4_part_14 : decode cX4_part 14 = .ok (.ifCond .eq 12, 3) := by decide +kernel
theorem dX4_part_17 : decode cX4_part 17 = .ok (.iload_n 2, 1) := by decide +kernel
theorem dX4_part_18 : decode cX4_part 18 = .ok (.iconst 0, 1) := by decide +kernel
theorem dX4_part_19 : decode cX4_part 19 = .ok (.iconst 5, 1) := by decide +kernel
theorem dX4_part_20 : decode cX4_part 20 = .ok (.invokestatic 42, 3) := by decide +kernel
theorem dX4_part_23 : decode cX4_part 23 = .ok (.ifCond .ne 11, 3) := by decide +kernel
theorem dX4_part_26 : decode cX4_part 26 = .ok (.new 68, 3) := by decide +kernel
theorem dX4_part_29 : decode cX4_part 29 = .ok (.dup, 1) := by decide +kernel
theorem dX4_part_30 : decode cX4_part 30 = .ok (.invokespecial 70, 3) := by decide +kernel
theorem dX4_part_33 : decode cX4_part 33 = .ok (.athrow, 1) := by decide +kernel
theorem dX4_part_34 : decode cX4_part 34 = .ok (.iload_n 3, 1) := by decide +kernel
theorem dX4_part_35 : decode cX4_part 35 = .ok (.iconst 1, 1) := by decide +kernel
theorem dX4_part_36 : decode cX4_part 36 = .ok (.bipush 100, 2) := by decide +kernel
theorem dX4_part_38 : decode cX4_part 38 = .ok (.invokestatic 42, 3) := by decide +kernel
theorem dX4_part_41 : decode cX4_part 41 = .ok (.ifCond .ne 11, 3) := by decide +kernel
theorem dX4_part_44 : decode cX4_part 44 = .ok (.new 52, 3) := by decide +kernel
theorem dX4_part_47 : decode cX4_part 47 = .ok (.dup, 1) := by decide +kernel
theorem dX4_part_48 : decode cX4_part 48 = .ok (.invokespecial 54, 3) := by decide +kernel
theorem dX4_part_51 : decode cX4_part 51 = .ok (.athrow, 1) := by decide +kernel
theorem dX4_part_52 : decode cX4_part 52 = .ok (.aload_n 0, 1) := by decide +kernel
theorem dX4_part_53 : decode cX4_part 53 = .ok (.getfield 31, 3) := by decide +kernel
theorem dX4_part_56 : decode cX4_part 56 = .ok (.getfield 141, 3) := by decide +kernel
theorem dX4_part_59 : decode cX4_part 59 = .ok (.bipush 12, 2) := by decide +kernel
theorem dX4_part_61 : decode cX4_part 61 = .ok (.if_icmp .ge 18, 3) := by decide +kernel
theorem dX4_part_64 : decode cX4_part 64 = .ok (.aload_n 0, 1) := by decide +kernel
theorem dX4_part_65 : decode cX4_part 65 = .ok (.getfield 31, 3) := by decide +kernel
theorem dX4_part_68 : decode cX4_part 68 = .ok (.iload_n 1, 1) := by decide +kernel
theorem dX4_part_69 : decode cX4_part 69 = .ok (.invokevirtual 144, 3) := by decide +kernel
theorem dX4_part_72 : decode cX4_part 72 = .ok (.iload_n 3, 1) := by decide +kernel
theorem dX4_part_73 : decode cX4_part 73 = .ok (.iadd, 1) := by decide +kernel
theorem dX4_part_74 : decode cX4_part 74 = .ok (.bipush 100, 2) := by decide +kernel
theorem dX4_part_76 : decode cX4_part 76 = .ok (.if_icmp .le 11, 3) := by decide +kernel
theorem dX4_part_79 : decode cX4_part 79 = .ok (.new 58, 3) := by decide +kernel
theorem dX4_part_82 : decode cX4_part 82 = .ok (.dup, 1) := by decide +kernel
theorem dX4_part_83 : decode cX4_part 83 = .ok (.invokespecial 60, 3) := by decide +kernel
theorem dX4_part_86 : decode cX4_part 86 = .ok (.athrow, 1) := by decide +kernel
theorem dX4_part_87 : decode cX4_part 87 = .ok (.aload_n 0, 1) := by decide +kernel
theorem dX4_part_88 : decode cX4_part 88 = .ok (.getfield 31, 3) := by decide +kernel
theorem dX4_part_91 : decode cX4_part 91 = .ok (.iload_n 1, 1) := by decide +kernel
theorem dX4_part_92 : decode cX4_part 92 = .ok (.iload_n 2, 1) := by decide +kernel
theorem dX4_part_93 : decode cX4_part 93 = .ok (.iload_n 3, 1) := by decide +kernel
theorem dX4_part_94 : decode cX4_part 94 = .ok (.invokevirtual 147, 3) := by decide +kernel
theorem dX4_part_97 : decode cX4_part 97 = .ok (.ireturn, 1) := by decide +kernel
theorem dX4_income_0 : decode cX4_income 0 = .ok (.iload_n 1, 1) := by decide +kernel
theorem dX4_income_1 : decode cX4_income 1 = .ok (.iconst 1, 1) := by decide +kernel
theorem dX4_income_2 : decode cX4_income 2 = .ok (.ldc 151, 2) := by decide +kernel
theorem dX4_income_4 : decode cX4_income 4 = .ok (.invokestatic 42, 3) := by decide +kernel
theorem dX4_income_7 : decode cX4_income 7 = .ok (.ifCond .ne 11, 3) := by decide +kernel
theorem dX4_income_10 : decode cX4_income 10 = .ok (.new 52, 3) := by decide +kernel
theorem dX4_income_13 : decode cX4_income 13 = .ok (.dup, 1) := by decide +kernel
theorem dX4_income_14 : decode cX4_income 14 = .ok (.invokespecial 54, 3) := by decide +kernel
theorem dX4_income_17 : decode cX4_income 17 = .ok (.athrow, 1) := by decide +kernel
theorem dX4_income_18 : decode cX4_income 18 = .ok (.aload_n 0, 1) := by decide +kernel
theorem dX4_income_19 : decode cX4_income 19 = .ok (.getfield 31, 3) := by decide +kernel
theorem dX4_income_22 : decode cX4_income 22 = .ok (.aload_n 0, 1) := by decide +kernel
theorem dX4_income_23 : decode cX4_income 23 = .ok (.getfield 24, 3) := by decide +kernel
theorem dX4_income_26 : decode cX4_income 26 = .ok (.iload_n 1, 1) := by decide +kernel
theorem dX4_income_27 : decode cX4_income 27 = .ok (.invokevirtual 152, 3) := by decide +kernel
theorem dX4_income_30 : decode cX4_income 30 = .ok (.invokevirtual 155, 3) := by decide +kernel
theorem dX4_income_33 : decode cX4_income 33 = .ok (.istore_n 2, 1) := by decide +kernel
theorem dX4_income_34 : decode cX4_income 34 = .ok (.aload_n 0, 1) := by decide +kernel
theorem dX4_income_35 : decode cX4_income 35 = .ok (.getfield 31, 3) := by decide +kernel
theorem dX4_income_38 : decode cX4_income 38 = .ok (.iload_n 2, 1) := by decide +kernel
theorem dX4_income_39 : decode cX4_income 39 = .ok (.invokevirtual 158, 3) := by decide +kernel
theorem dX4_income_42 : decode cX4_income 42 = .ok (.iload_n 2, 1) := by decide +kernel
theorem dX4_income_43 : decode cX4_income 43 = .ok (.ireturn, 1) := by decide +kernel
theorem dX4_today_0 : decode cX4_today 0 = .ok (.aload_n 0, 1) := by decide +kernel
theorem dX4_today_1 : decode cX4_today 1 = .ok (.getfield 10, 3) := by decide +kernel
theorem dX4_today_4 : decode cX4_today 4 = .ok (.getfield 107, 3) := by decide +kernel
theorem dX4_today_7 : decode cX4_today 7 = .ok (.ireturn, 1) := by decide +kernel
theorem dX4_shot_0 : decode cX4_shot 0 = .ok (.aload_n 0, 1) := by decide +kernel
theorem dX4_shot_1 : decode cX4_shot 1 = .ok (.getfield 20, 3) := by decide +kernel
theorem dX4_shot_4 : decode cX4_shot 4 = .ok (.getfield 161, 3) := by decide +kernel
theorem dX4_shot_7 : decode cX4_shot 7 = .ok (.ireturn, 1) := by decide +kernel
theorem dX4_days_0 : decode cX4_days 0 = .ok (.aload_n 0, 1) := by decide +kernel
theorem dX4_days_1 : decode cX4_days 1 = .ok (.getfield 10, 3) := by decide +kernel
theorem dX4_days_4 : decode cX4_days 4 = .ok (.invokevirtual 89, 3) := by decide +kernel
theorem dX4_days_7 : decode cX4_days 7 = .ok (.aload_n 0, 1) := by decide +kernel
theorem dX4_days_8 : decode cX4_days 8 = .ok (.getfield 10, 3) := by decide +kernel
theorem dX4_days_11 : decode cX4_days 11 = .ok (.getfield 164, 3) := by decide +kernel
theorem dX4_days_14 : decode cX4_days 14 = .ok (.ireturn, 1) := by decide +kernel
theorem dX4_daysByAll_0 : decode cX4_daysByAll 0 = .ok (.aload_n 0, 1) := by decide +kernel
theorem dX4_daysByAll_1 : decode cX4_daysByAll 1 = .ok (.getfield 20, 3) := by decide +kernel
theorem dX4_daysByAll_4 : decode cX4_daysByAll 4 = .ok (.invokevirtual 167, 3) := by decide +kernel
theorem dX4_daysByAll_7 : decode cX4_daysByAll 7 = .ok (.bipush 6, 2) := by decide +kernel
theorem dX4_daysByAll_9 : decode cX4_daysByAll 9 = .ok (.if_icmp .le 11, 3) := by decide +kernel
theorem dX4_daysByAll_12 : decode cX4_daysByAll 12 = .ok (.new 58, 3) := by decide +kernel
theorem dX4_daysByAll_15 : decode cX4_daysByAll 15 = .ok (.dup, 1) := by decide +kernel
theorem dX4_daysByAll_16 : decode cX4_daysByAll 16 = .ok (.invokespecial 60, 3) := by decide +kernel
theorem dX4_daysByAll_19 : decode cX4_daysByAll 19 = .ok (.athrow, 1) := by decide +kernel
theorem dX4_daysByAll_20 : decode cX4_daysByAll 20 = .ok (.aload_n 0, 1) := by decide +kernel
theorem dX4_daysByAll_21 : decode cX4_daysByAll 21 = .ok (.getfield 10, 3) := by decide +kernel
theorem dX4_daysByAll_24 : decode cX4_daysByAll 24 = .ok (.invokevirtual 170, 3) := by decide +kernel
theorem dX4_daysByAll_27 : decode cX4_daysByAll 27 = .ok (.ireturn, 1) := by decide +kernel
theorem dX4_planned_0 : decode cX4_planned 0 = .ok (.iload_n 1, 1) := by decide +kernel
theorem dX4_planned_1 : decode cX4_planned 1 = .ok (.iconst 0, 1) := by decide +kernel
theorem dX4_planned_2 : decode cX4_planned 2 = .ok (.aload_n 0, 1) := by decide +kernel
theorem dX4_planned_3 : decode cX4_planned 3 = .ok (.getfield 20, 3) := by decide +kernel
theorem dX4_planned_6 : decode cX4_planned 6 = .ok (.invokevirtual 167, 3) := by decide +kernel
theorem dX4_planned_9 : decode cX4_planned 9 = .ok (.iconst 1, 1) := by decide +kernel
theorem dX4_planned_10 : decode cX4_planned 10 = .ok (.isub, 1) := by decide +kernel
theorem dX4_planned_11 : decode cX4_planned 11 = .ok (.invokestatic 42, 3) := by decide +kernel
theorem dX4_planned_14 : decode cX4_planned 14 = .ok (.ifCond .ne 11, 3) := by decide +kernel
theorem dX4_planned_17 : decode cX4_planned 17 = .ok (.new 68, 3) := by decide +kernel
theorem dX4_planned_20 : decode cX4_planned 20 = .ok (.dup, 1) := by decide +kernel
theorem dX4_planned_21 : decode cX4_planned 21 = .ok (.invokespecial 70, 3) := by decide +kernel
theorem dX4_planned_24 : decode cX4_planned 24 = .ok (.athrow, 1) := by decide +kernel
theorem dX4_planned_25 : decode cX4_planned 25 = .ok (.aload_n 0, 1) := by decide +kernel
theorem dX4_planned_26 : decode cX4_planned 26 = .ok (.getfield 10, 3) := by decide +kernel
theorem dX4_planned_29 : decode cX4_planned 29 = .ok (.invokevirtual 89, 3) := by decide +kernel
theorem dX4_planned_32 : decode cX4_planned 32 = .ok (.aload_n 0, 1) := by decide +kernel
theorem dX4_planned_33 : decode cX4_planned 33 = .ok (.getfield 10, 3) := by decide +kernel
theorem dX4_planned_36 : decode cX4_planned 36 = .ok (.getfield 173, 3) := by decide +kernel
theorem dX4_planned_39 : decode cX4_planned 39 = .ok (.iload_n 1, 1) := by decide +kernel
theorem dX4_planned_40 : decode cX4_planned 40 = .ok (.invokestatic 131, 3) := by decide +kernel
theorem dX4_planned_43 : decode cX4_planned 43 = .ok (.ireturn, 1) := by decide +kernel
theorem dX4_begins_0 : decode cX4_begins 0 = .ok (.iload_n 1, 1) := by decide +kernel
theorem dX4_begins_1 : decode cX4_begins 1 = .ok (.iconst 0, 1) := by decide +kernel
theorem dX4_begins_2 : decode cX4_begins 2 = .ok (.aload_n 0, 1) := by decide +kernel
theorem dX4_begins_3 : decode cX4_begins 3 = .ok (.getfield 20, 3) := by decide +kernel
theorem dX4_begins_6 : decode cX4_begins 6 = .ok (.getfield 55, 3) := by decide +kernel
theorem dX4_begins_9 : decode cX4_begins 9 = .ok (.iconst 1, 1) := by decide +kernel
theorem dX4_begins_10 : decode cX4_begins 10 = .ok (.isub, 1) := by decide +kernel
theorem dX4_begins_11 : decode cX4_begins 11 = .ok (.invokestatic 42, 3) := by decide +kernel
theorem dX4_begins_14 : decode cX4_begins 14 = .ok (.ifCond .ne 11, 3) := by decide +kernel
theorem dX4_begins_17 : decode cX4_begins 17 = .ok (.new 68, 3) := by decide +kernel
theorem dX4_begins_20 : decode cX4_begins 20 = .ok (.dup, 1) := by decide +kernel
theorem dX4_begins_21 : decode cX4_begins 21 = .ok (.invokespecial 70, 3) := by decide +kernel
theorem dX4_begins_24 : decode cX4_begins 24 = .ok (.athrow, 1) := by decide +kernel
theorem dX4_begins_25 : decode cX4_begins 25 = .ok (.aload_n 0, 1) := by decide +kernel
theorem dX4_begins_26 : decode cX4_begins 26 = .ok (.getfield 10, 3) := by decide +kernel
theorem dX4_begins_29 : decode cX4_begins 29 = .ok (.invokevirtual 89, 3) := by decide +kernel
theorem dX4_begins_32 : decode cX4_begins 32 = .ok (.aload_n 0, 1) := by decide +kernel
theorem dX4_begins_33 : decode cX4_begins 33 = .ok (.getfield 10, 3) := by decide +kernel
theorem dX4_begins_36 : decode cX4_begins 36 = .ok (.getfield 176, 3) := by decide +kernel
theorem dX4_begins_39 : decode cX4_begins 39 = .ok (.iload_n 1, 1) := by decide +kernel
theorem dX4_begins_40 : decode cX4_begins 40 = .ok (.invokestatic 131, 3) := by decide +kernel
theorem dX4_begins_43 : decode cX4_begins 43 = .ok (.ireturn, 1) := by decide +kernel
theorem dX4_left_0 : decode cX4_left 0 = .ok (.iload_n 1, 1) := by decide +kernel
theorem dX4_left_1 : decode cX4_left 1 = .ok (.iconst 0, 1) := by decide +kernel
theorem dX4_left_2 : decode cX4_left 2 = .ok (.iconst 3, 1) := by decide +kernel
theorem dX4_left_3 : decode cX4_left 3 = .ok (.invokestatic 42, 3) := by decide +kernel
theorem dX4_left_6 : decode cX4_left 6 = .ok (.ifCond .ne 11, 3) := by decide +kernel
theorem dX4_left_9 : decode cX4_left 9 = .ok (.new 68, 3) := by decide +kernel
theorem dX4_left_12 : decode cX4_left 12 = .ok (.dup, 1) := by decide +kernel
theorem dX4_left_13 : decode cX4_left 13 = .ok (.invokespecial 70, 3) := by decide +kernel
theorem dX4_left_16 : decode cX4_left 16 = .ok (.athrow, 1) := by decide +kernel
theorem dX4_left_17 : decode cX4_left 17 = .ok (.aload_n 0, 1) := by decide +kernel
theorem dX4_left_18 : decode cX4_left 18 = .ok (.getfield 24, 3) := by decide +kernel
theorem dX4_left_21 : decode cX4_left 21 = .ok (.getfield 123, 3) := by decide +kernel
theorem dX4_left_24 : decode cX4_left 24 = .ok (.iload_n 1, 1) := by decide +kernel
theorem dX4_left_25 : decode cX4_left 25 = .ok (.invokestatic 131, 3) := by decide +kernel
theorem dX4_left_28 : decode cX4_left 28 = .ok (.ireturn, 1) := by decide +kernel
theorem dX4_fee_0 : decode cX4_fee 0 = .ok (.aload_n 0, 1) := by decide +kernel
theorem dX4_fee_1 : decode cX4_fee 1 = .ok (.getfield 24, 3) := by decide +kernel
theorem dX4_fee_4 : decode cX4_fee 4 = .ok (.getfield 104, 3) := by decide +kernel
theorem dX4_fee_7 : decode cX4_fee 7 = .ok (.ireturn, 1) := by decide +kernel
theorem dX4_costs_0 : decode cX4_costs 0 = .ok (.aload_n 0, 1) := by decide +kernel
theorem dX4_costs_1 : decode cX4_costs 1 = .ok (.getfield 24, 3) := by decide +kernel
theorem dX4_costs_4 : decode cX4_costs 4 = .ok (.getfield 179, 3) := by decide +kernel
theorem dX4_costs_7 : decode cX4_costs 7 = .ok (.ireturn, 1) := by decide +kernel
theorem dX4_open_0 : decode cX4_open 0 = .ok (.aload_n 0, 1) := by decide +kernel
theorem dX4_open_1 : decode cX4_open 1 = .ok (.getfield 24, 3) := by decide +kernel
theorem dX4_open_4 : decode cX4_open 4 = .ok (.getfield 182, 3) := by decide +kernel
theorem dX4_open_7 : decode cX4_open 7 = .ok (.ireturn, 1) := by decide +kernel
theorem dX4_openOf_0 : decode cX4_openOf 0 = .ok (.iload_n 1, 1) := by decide +kernel
theorem dX4_openOf_1 : decode cX4_openOf 1 = .ok (.iconst 0, 1) := by decide +kernel
theorem dX4_openOf_2 : decode cX4_openOf 2 = .ok (.aload_n 0, 1) := by decide +kernel
theorem dX4_openOf_3 : decode cX4_openOf 3 = .ok (.getfield 31, 3) := by decide +kernel
theorem dX4_openOf_6 : decode cX4_openOf 6 = .ok (.getfield 135, 3) := by decide +kernel
theorem dX4_openOf_9 : decode cX4_openOf 9 = .ok (.iconst 1, 1) := by decide +kernel
theorem dX4_openOf_10 : decode cX4_openOf 10 = .ok (.isub, 1) := by decide +kernel
theorem dX4_openOf_11 : decode cX4_openOf 11 = .ok (.invokestatic 42, 3) := by decide +kernel
theorem dX4_openOf_14 : decode cX4_openOf 14 = .ok (.ifCond .ne 11, 3) := by decide +kernel
theorem dX4_openOf_17 : decode cX4_openOf 17 = .ok (.new 68, 3) := by decide +kernel
theorem dX4_openOf_20 : decode cX4_openOf 20 = .ok (.dup, 1) := by decide +kernel
theorem dX4_openOf_21 : decode cX4_openOf 21 = .ok (.invokespecial 70, 3) := by decide +kernel
theorem dX4_openOf_24 : decode cX4_openOf 24 = .ok (.athrow, 1) := by decide +kernel
theorem dX4_openOf_25 : decode cX4_openOf 25 = .ok (.aload_n 0, 1) := by decide +kernel
theorem dX4_openOf_26 : decode cX4_openOf 26 = .ok (.getfield 31, 3) := by decide +kernel
theorem dX4_openOf_29 : decode cX4_openOf 29 = .ok (.getfield 185, 3) := by decide +kernel
theorem dX4_openOf_32 : decode cX4_openOf 32 = .ok (.iload_n 1, 1) := by decide +kernel
theorem dX4_openOf_33 : decode cX4_openOf 33 = .ok (.invokestatic 131, 3) := by decide +kernel
theorem dX4_openOf_36 : decode cX4_openOf 36 = .ok (.ireturn, 1) := by decide +kernel
theorem dX4_got_0 : decode cX4_got 0 = .ok (.iload_n 1, 1) := by decide +kernel
theorem dX4_got_1 : decode cX4_got 1 = .ok (.iconst 0, 1) := by decide +kernel
theorem dX4_got_2 : decode cX4_got 2 = .ok (.iconst 5, 1) := by decide +kernel
theorem dX4_got_3 : decode cX4_got 3 = .ok (.invokestatic 42, 3) := by decide +kernel
theorem dX4_got_6 : decode cX4_got 6 = .ok (.ifCond .ne 11, 3) := by decide +kernel
theorem dX4_got_9 : decode cX4_got 9 = .ok (.new 68, 3) := by decide +kernel
theorem dX4_got_12 : decode cX4_got 12 = .ok (.dup, 1) := by decide +kernel
theorem dX4_got_13 : decode cX4_got 13 = .ok (.invokespecial 70, 3) := by decide +kernel
theorem dX4_got_16 : decode cX4_got 16 = .ok (.athrow, 1) := by decide +kernel
theorem dX4_got_17 : decode cX4_got 17 = .ok (.aload_n 0, 1) := by decide +kernel
theorem dX4_got_18 : decode cX4_got 18 = .ok (.getfield 31, 3) := by decide +kernel
theorem dX4_got_21 : decode cX4_got 21 = .ok (.getfield 188, 3) := by decide +kernel
theorem dX4_got_24 : decode cX4_got 24 = .ok (.iload_n 1, 1) := by decide +kernel
theorem dX4_got_25 : decode cX4_got 25 = .ok (.invokestatic 131, 3) := by decide +kernel
theorem dX4_got_28 : decode cX4_got 28 = .ok (.ireturn, 1) := by decide +kernel
theorem dX4_house_0 : decode cX4_house 0 = .ok (.aload_n 0, 1) := by decide +kernel
theorem dX4_house_1 : decode cX4_house 1 = .ok (.getfield 31, 3) := by decide +kernel
theorem dX4_house_4 : decode cX4_house 4 = .ok (.getfield 191, 3) := by decide +kernel
theorem dX4_house_7 : decode cX4_house 7 = .ok (.ireturn, 1) := by decide +kernel
theorem dX4_isWithin_0 : decode cX4_isWithin 0 = .ok (.iload_n 0, 1) := by decide +kernel
theorem dX4_isWithin_1 : decode cX4_isWithin 1 = .ok (.iload_n 1, 1) := by decide +kernel
theorem dX4_isWithin_2 : decode cX4_isWithin 2 = .ok (.if_icmp .lt 12, 3) := by decide +kernel
theorem dX4_isWithin_5 : decode cX4_isWithin 5 = .ok (.iload_n 0, 1) := by decide +kernel
theorem dX4_isWithin_6 : decode cX4_isWithin 6 = .ok (.iload_n 2, 1) := by decide +kernel
theorem dX4_isWithin_7 : decode cX4_isWithin 7 = .ok (.if_icmp .gt 7, 3) := by decide +kernel
theorem dX4_isWithin_10 : decode cX4_isWithin 10 = .ok (.iconst 1, 1) := by decide +kernel
theorem dX4_isWithin_11 : decode cX4_isWithin 11 = .ok (.goto 4, 3) := by decide +kernel
theorem dX4_isWithin_14 : decode cX4_isWithin 14 = .ok (.iconst 0, 1) := by decide +kernel
theorem dX4_isWithin_15 : decode cX4_isWithin 15 = .ok (.ireturn, 1) := by decide +kernel
theorem dX4_at_0 : decode cX4_at 0 = .ok (.iload_n 1, 1) := by decide +kernel
theorem dX4_at_1 : decode cX4_at 1 = .ok (.ifCond .lt 15, 3) := by decide +kernel
theorem dX4_at_4 : decode cX4_at 4 = .ok (.iload_n 1, 1) := by decide +kernel
theorem dX4_at_5 : decode cX4_at 5 = .ok (.aload_n 0, 1) := by decide +kernel
theorem dX4_at_6 : decode cX4_at 6 = .ok (.arraylength, 1) := by decide +kernel
theorem dX4_at_7 : decode cX4_at 7 = .ok (.if_icmp .ge 9, 3) := by decide +kernel
theorem dX4_at_10 : decode cX4_at 10 = .ok (.aload_n 0, 1) := by decide +kernel
theorem dX4_at_11 : decode cX4_at 11 = .ok (.iload_n 1, 1) := by decide +kernel
theorem dX4_at_12 : decode cX4_at 12 = .ok (.iaload, 1) := by decide +kernel
theorem dX4_at_13 : decode cX4_at 13 = .ok (.goto 4, 3) := by decide +kernel
theorem dX4_at_16 : decode cX4_at 16 = .ok (.iconst 0, 1) := by decide +kernel
theorem dX4_at_17 : decode cX4_at 17 = .ok (.ireturn, 1) := by decide +kernel
theorem dX4_put_0 : decode cX4_put 0 = .ok (.iload_n 1, 1) := by decide +kernel
theorem dX4_put_1 : decode cX4_put 1 = .ok (.ifCond .lt 13, 3) := by decide +kernel
theorem dX4_put_4 : decode cX4_put 4 = .ok (.iload_n 1, 1) := by decide +kernel
theorem dX4_put_5 : decode cX4_put 5 = .ok (.aload_n 0, 1) := by decide +kernel
theorem dX4_put_6 : decode cX4_put 6 = .ok (.arraylength, 1) := by decide +kernel
theorem dX4_put_7 : decode cX4_put 7 = .ok (.if_icmp .ge 7, 3) := by decide +kernel
theorem dX4_put_10 : decode cX4_put 10 = .ok (.aload_n 0, 1) := by decide +kernel
theorem dX4_put_11 : decode cX4_put 11 = .ok (.iload_n 1, 1) := by decide +kernel
theorem dX4_put_12 : decode cX4_put 12 = .ok (.iload_n 2, 1) := by decide +kernel
theorem dX4_put_13 : decode cX4_put 13 = .ok (.iastore, 1) := by decide +kernel
theorem dX4_put_14 : decode cX4_put 14 = .ok (.return_, 1) := by decide +kernel
theorem dX4_add_0 : decode cX4_add 0 = .ok (.aload_n 0, 1) := by decide +kernel
theorem dX4_add_1 : decode cX4_add 1 = .ok (.iload_n 1, 1) := by decide +kernel
theorem dX4_add_2 : decode cX4_add 2 = .ok (.aload_n 0, 1) := by decide +kernel
theorem dX4_add_3 : decode cX4_add 3 = .ok (.iload_n 1, 1) := by decide +kernel
theorem dX4_add_4 : decode cX4_add 4 = .ok (.invokestatic 131, 3) := by decide +kernel
theorem dX4_add_7 : decode cX4_add 7 = .ok (.iload_n 2, 1) := by decide +kernel
theorem dX4_add_8 : decode cX4_add 8 = .ok (.iadd, 1) := by decide +kernel
theorem dX4_add_9 : decode cX4_add 9 = .ok (.invokestatic 194, 3) := by decide +kernel
theorem dX4_add_12 : decode cX4_add 12 = .ok (.return_, 1) := by decide +kernel
theorem dX4_isIn_0 : decode cX4_isIn 0 = .ok (.iload_n 0, 1) := by decide +kernel
theorem dX4_isIn_1 : decode cX4_isIn 1 = .ok (.iload_n 1, 1) := by decide +kernel
theorem dX4_isIn_2 : decode cX4_isIn 2 = .ok (.ishr, 1) := by decide +kernel
theorem dX4_isIn_3 : decode cX4_isIn 3 = .ok (.iconst 1, 1) := by decide +kernel
theorem dX4_isIn_4 : decode cX4_isIn 4 = .ok (.iand, 1) := by decide +kernel
theorem dX4_isIn_5 : decode cX4_isIn 5 = .ok (.ifCond .eq 7, 3) := by decide +kernel
theorem dX4_isIn_8 : decode cX4_isIn 8 = .ok (.iconst 1, 1) := by decide +kernel
theorem dX4_isIn_9 : decode cX4_isIn 9 = .ok (.goto 4, 3) := by decide +kernel
theorem dX4_isIn_12 : decode cX4_isIn 12 = .ok (.iconst 0, 1) := by decide +kernel
theorem dX4_isIn_13 : decode cX4_isIn 13 = .ok (.ireturn, 1) := by decide +kernel
theorem dX4_with_0 : decode cX4_with 0 = .ok (.iload_n 2, 1) := by decide +kernel
theorem dX4_with_1 : decode cX4_with 1 = .ok (.ifCond .eq 11, 3) := by decide +kernel
theorem dX4_with_4 : decode cX4_with 4 = .ok (.iload_n 0, 1) := by decide +kernel
theorem dX4_with_5 : decode cX4_with 5 = .ok (.iconst 1, 1) := by decide +kernel
theorem dX4_with_6 : decode cX4_with 6 = .ok (.iload_n 1, 1) := by decide +kernel
theorem dX4_with_7 : decode cX4_with 7 = .ok (.ishl, 1) := by decide +kernel
theorem dX4_with_8 : decode cX4_with 8 = .ok (.ior, 1) := by decide +kernel
theorem dX4_with_9 : decode cX4_with 9 = .ok (.goto 10, 3) := by decide +kernel
theorem dX4_with_12 : decode cX4_with 12 = .ok (.iload_n 0, 1) := by decide +kernel
theorem dX4_with_13 : decode cX4_with 13 = .ok (.iconst 1, 1) := by decide +kernel
theorem dX4_with_14 : decode cX4_with 14 = .ok (.iload_n 1, 1) := by decide +kernel
theorem dX4_with_15 : decode cX4_with 15 = .ok (.ishl, 1) := by decide +kernel
theorem dX4_with_16 : decode cX4_with 16 = .ok (.iconst (-1), 1) := by decide +kernel
theorem dX4_with_17 : decode cX4_with 17 = .ok (.ixor, 1) := by decide +kernel
theorem dX4_with_18 : decode cX4_with 18 = .ok (.iand, 1) := by decide +kernel
theorem dX4_with_19 : decode cX4_with 19 = .ok (.ireturn, 1) := by decide +kernel
theorem dJ6_bitCount_0f7a4_0 : decode cJ6_bitCount_0f7a4 0 = .ok (.iload_n 0, 1) := by decide +kernel
theorem dJ6_bitCount_0f7a4_1 : decode cJ6_bitCount_0f7a4 1 = .ok (.iload_n 0, 1) := by decide +kernel
theorem dJ6_bitCount_0f7a4_2 : decode cJ6_bitCount_0f7a4 2 = .ok (.iconst 1, 1) := by decide +kernel
theorem dJ6_bitCount_0f7a4_3 : decode cJ6_bitCount_0f7a4 3 = .ok (.iushr, 1) := by decide +kernel
theorem dJ6_bitCount_0f7a4_4 : decode cJ6_bitCount_0f7a4 4 = .ok (.ldc_w 265, 3) := by decide +kernel
theorem dJ6_bitCount_0f7a4_7 : decode cJ6_bitCount_0f7a4 7 = .ok (.iand, 1) := by decide +kernel
theorem dJ6_bitCount_0f7a4_8 : decode cJ6_bitCount_0f7a4 8 = .ok (.isub, 1) := by decide +kernel
theorem dJ6_bitCount_0f7a4_9 : decode cJ6_bitCount_0f7a4 9 = .ok (.istore_n 0, 1) := by decide +kernel
theorem dJ6_bitCount_0f7a4_10 : decode cJ6_bitCount_0f7a4 10 = .ok (.iload_n 0, 1) := by decide +kernel
theorem dJ6_bitCount_0f7a4_11 : decode cJ6_bitCount_0f7a4 11 = .ok (.ldc_w 266, 3) := by decide +kernel
theorem dJ6_bitCount_0f7a4_14 : decode cJ6_bitCount_0f7a4 14 = .ok (.iand, 1) := by decide +kernel
theorem dJ6_bitCount_0f7a4_15 : decode cJ6_bitCount_0f7a4 15 = .ok (.iload_n 0, 1) := by decide +kernel
theorem dJ6_bitCount_0f7a4_16 : decode cJ6_bitCount_0f7a4 16 = .ok (.iconst 2, 1) := by decide +kernel
theorem dJ6_bitCount_0f7a4_17 : decode cJ6_bitCount_0f7a4 17 = .ok (.iushr, 1) := by decide +kernel
theorem dJ6_bitCount_0f7a4_18 : decode cJ6_bitCount_0f7a4 18 = .ok (.ldc_w 266, 3) := by decide +kernel
theorem dJ6_bitCount_0f7a4_21 : decode cJ6_bitCount_0f7a4 21 = .ok (.iand, 1) := by decide +kernel
theorem dJ6_bitCount_0f7a4_22 : decode cJ6_bitCount_0f7a4 22 = .ok (.iadd, 1) := by decide +kernel
theorem dJ6_bitCount_0f7a4_23 : decode cJ6_bitCount_0f7a4 23 = .ok (.istore_n 0, 1) := by decide +kernel
theorem dJ6_bitCount_0f7a4_24 : decode cJ6_bitCount_0f7a4 24 = .ok (.iload_n 0, 1) := by decide +kernel
theorem dJ6_bitCount_0f7a4_25 : decode cJ6_bitCount_0f7a4 25 = .ok (.iload_n 0, 1) := by decide +kernel
theorem dJ6_bitCount_0f7a4_26 : decode cJ6_bitCount_0f7a4 26 = .ok (.iconst 4, 1) := by decide +kernel
theorem dJ6_bitCount_0f7a4_27 : decode cJ6_bitCount_0f7a4 27 = .ok (.iushr, 1) := by decide +kernel
theorem dJ6_bitCount_0f7a4_28 : decode cJ6_bitCount_0f7a4 28 = .ok (.iadd, 1) := by decide +kernel
theorem dJ6_bitCount_0f7a4_29 : decode cJ6_bitCount_0f7a4 29 = .ok (.ldc_w 267, 3) := by decide +kernel
theorem dJ6_bitCount_0f7a4_32 : decode cJ6_bitCount_0f7a4 32 = .ok (.iand, 1) := by decide +kernel
theorem dJ6_bitCount_0f7a4_33 : decode cJ6_bitCount_0f7a4 33 = .ok (.istore_n 0, 1) := by decide +kernel
theorem dJ6_bitCount_0f7a4_34 : decode cJ6_bitCount_0f7a4 34 = .ok (.iload_n 0, 1) := by decide +kernel
theorem dJ6_bitCount_0f7a4_35 : decode cJ6_bitCount_0f7a4 35 = .ok (.iload_n 0, 1) := by decide +kernel
theorem dJ6_bitCount_0f7a4_36 : decode cJ6_bitCount_0f7a4 36 = .ok (.bipush 8, 2) := by decide +kernel
theorem dJ6_bitCount_0f7a4_38 : decode cJ6_bitCount_0f7a4 38 = .ok (.iushr, 1) := by decide +kernel
theorem dJ6_bitCount_0f7a4_39 : decode cJ6_bitCount_0f7a4 39 = .ok (.iadd, 1) := by decide +kernel
theorem dJ6_bitCount_0f7a4_40 : decode cJ6_bitCount_0f7a4 40 = .ok (.istore_n 0, 1) := by decide +kernel
theorem dJ6_bitCount_0f7a4_41 : decode cJ6_bitCount_0f7a4 41 = .ok (.iload_n 0, 1) := by decide +kernel
theorem dJ6_bitCount_0f7a4_42 : decode cJ6_bitCount_0f7a4 42 = .ok (.iload_n 0, 1) := by decide +kernel
theorem dJ6_bitCount_0f7a4_43 : decode cJ6_bitCount_0f7a4 43 = .ok (.bipush 16, 2) := by decide +kernel
theorem dJ6_bitCount_0f7a4_45 : decode cJ6_bitCount_0f7a4 45 = .ok (.iushr, 1) := by decide +kernel
theorem dJ6_bitCount_0f7a4_46 : decode cJ6_bitCount_0f7a4 46 = .ok (.iadd, 1) := by decide +kernel
theorem dJ6_bitCount_0f7a4_47 : decode cJ6_bitCount_0f7a4 47 = .ok (.istore_n 0, 1) := by decide +kernel
theorem dJ6_bitCount_0f7a4_48 : decode cJ6_bitCount_0f7a4 48 = .ok (.iload_n 0, 1) := by decide +kernel
theorem dJ6_bitCount_0f7a4_49 : decode cJ6_bitCount_0f7a4 49 = .ok (.bipush 63, 2) := by decide +kernel
theorem dJ6_bitCount_0f7a4_51 : decode cJ6_bitCount_0f7a4 51 = .ok (.iand, 1) := by decide +kernel
theorem dJ6_bitCount_0f7a4_52 : decode cJ6_bitCount_0f7a4 52 = .ok (.ireturn, 1) := by decide +kernel
theorem dJ9_max_7cf53_0 : decode cJ9_max_7cf53 0 = .ok (.iload_n 0, 1) := by decide +kernel
theorem dJ9_max_7cf53_1 : decode cJ9_max_7cf53 1 = .ok (.iload_n 1, 1) := by decide +kernel
theorem dJ9_max_7cf53_2 : decode cJ9_max_7cf53 2 = .ok (.if_icmp .lt 7, 3) := by decide +kernel
theorem dJ9_max_7cf53_5 : decode cJ9_max_7cf53 5 = .ok (.iload_n 0, 1) := by decide +kernel
theorem dJ9_max_7cf53_6 : decode cJ9_max_7cf53 6 = .ok (.goto 4, 3) := by decide +kernel
theorem dJ9_max_7cf53_9 : decode cJ9_max_7cf53 9 = .ok (.iload_n 1, 1) := by decide +kernel
theorem dJ9_max_7cf53_10 : decode cJ9_max_7cf53 10 = .ok (.ireturn, 1) := by decide +kernel
theorem dJ9_min_7cf53_0 : decode cJ9_min_7cf53 0 = .ok (.iload_n 0, 1) := by decide +kernel
theorem dJ9_min_7cf53_1 : decode cJ9_min_7cf53 1 = .ok (.iload_n 1, 1) := by decide +kernel
theorem dJ9_min_7cf53_2 : decode cJ9_min_7cf53 2 = .ok (.if_icmp .gt 7, 3) := by decide +kernel
theorem dJ9_min_7cf53_5 : decode cJ9_min_7cf53 5 = .ok (.iload_n 0, 1) := by decide +kernel
theorem dJ9_min_7cf53_6 : decode cJ9_min_7cf53 6 = .ok (.goto 4, 3) := by decide +kernel
theorem dJ9_min_7cf53_9 : decode cJ9_min_7cf53 9 = .ok (.iload_n 1, 1) := by decide +kernel
theorem dJ9_min_7cf53_10 : decode cJ9_min_7cf53 10 = .ok (.ireturn, 1) := by decide +kernel
end
section
theorem dL_act_0 : decode cL_act 0 = .ok (.iload_n 1, 1) := by decide +kernel
theorem dL_act_1 : decode cL_act 1 = .ok (.ifCond .ne 29, 3) := by decide +kernel
theorem dL_act_4 : decode cL_act 4 = .ok (.aload_n 0, 1) := by decide +kernel
theorem dL_act_5 : decode cL_act 5 = .ok (.iload_n 2, 1) := by decide +kernel
theorem dL_act_6 : decode cL_act 6 = .ok (.iload_n 3, 1) := by decide +kernel
theorem dL_act_7 : decode cL_act 7 = .ok (.iconst 1, 1) := by decide +kernel
theorem dL_act_8 : decode cL_act 8 = .ok (.if_icmp .ne 7, 3) := by decide +kernel
theorem dL_act_11 : decode cL_act 11 = .ok (.iconst 1, 1) := by decide +kernel
theorem dL_act_12 : decode cL_act 12 = .ok (.goto 4, 3) := by decide +kernel
theorem dL_act_15 : decode cL_act 15 = .ok (.iconst 0, 1) := by decide +kernel
theorem dL_act_16 : decode cL_act 16 = .ok (.invokevirtual 7, 3) := by decide +kernel
theorem dL_act_19 : decode cL_act 19 = .ok (.ifCond .eq 7, 3) := by decide +kernel
theorem dL_act_22 : decode cL_act 22 = .ok (.iconst 1, 1) := by decide +kernel
theorem dL_act_23 : decode cL_act 23 = .ok (.goto 236, 3) := by decide +kernel
theorem dL_act_26 : decode cL_act 26 = .ok (.iconst 0, 1) := by decide +kernel
theorem dL_act_27 : decode cL_act 27 = .ok (.goto 232, 3) := by decide +kernel
theorem dL_act_30 : decode cL_act 30 = .ok (.iload_n 1, 1) := by decide +kernel
theorem dL_act_31 : decode cL_act 31 = .ok (.iconst 1, 1) := by decide +kernel
theorem dL_act_32 : decode cL_act 32 = .ok (.if_icmp .ne 29, 3) := by decide +kernel
theorem dL_act_35 : decode cL_act 35 = .ok (.aload_n 0, 1) := by decide +kernel
theorem dL_act_36 : decode cL_act 36 = .ok (.iload_n 2, 1) := by decide +kernel
theorem dL_act_37 : decode cL_act 37 = .ok (.iload_n 3, 1) := by decide +kernel
theorem dL_act_38 : decode cL_act 38 = .ok (.iconst 1, 1) := by decide +kernel
theorem dL_act_39 : decode cL_act 39 = .ok (.if_icmp .ne 7, 3) := by decide +kernel
theorem dL_act_42 : decode cL_act 42 = .ok (.iconst 1, 1) := by decide +kernel
theorem dL_act_43 : decode cL_act 43 = .ok (.goto 4, 3) := by decide +kernel
theorem dL_act_46 : decode cL_act 46 = .ok (.iconst 0, 1) := by decide +kernel
theorem dL_act_47 : decode cL_act 47 = .ok (.invokevirtual 13, 3) := by decide +kernel
theorem dL_act_50 : decode cL_act 50 = .ok (.ifCond .eq 7, 3) := by decide +kernel
theorem dL_act_53 : decode cL_act 53 = .ok (.iconst 1, 1) := by decide +kernel
theorem dL_act_54 : decode cL_act 54 = .ok (.goto 205, 3) := by decide +kernel
theorem dL_act_57 : decode cL_act 57 = .ok (.iconst 0, 1) := by decide +kernel
theorem dL_act_58 : decode cL_act 58 = .ok (.goto 201, 3) := by decide +kernel
theorem dL_act_61 : decode cL_act 61 = .ok (.iload_n 1, 1) := by decide +kernel
theorem dL_act_62 : decode cL_act 62 = .ok (.iconst 2, 1) := by decide +kernel
theorem dL_act_63 : decode cL_act 63 = .ok (.if_icmp .ne 12, 3) := by decide +kernel
theorem dL_act_66 : decode cL_act 66 = .ok (.aload_n 0, 1) := by decide +kernel
theorem dL_act_67 : decode cL_act 67 = .ok (.iload_n 2, 1) := by decide +kernel
theorem dL_act_68 : decode cL_act 68 = .ok (.iload_n 3, 1) := by decide +kernel
theorem dL_act_69 : decode cL_act 69 = .ok (.invokevirtual 16, 3) := by decide +kernel
theorem dL_act_72 : decode cL_act 72 = .ok (.goto 187, 3) := by decide +kernel
theorem dL_act_75 : decode cL_act 75 = .ok (.iload_n 1, 1) := by decide +kernel
theorem dL_act_76 : decode cL_act 76 = .ok (.iconst 3, 1) := by decide +kernel
theorem dL_act_77 : decode cL_act 77 = .ok (.if_icmp .ne 20, 3) := by decide +kernel
theorem dL_act_80 : decode cL_act 80 = .ok (.aload_n 0, 1) := by decide +kernel
theorem dL_act_81 : decode cL_act 81 = .ok (.iload_n 2, 1) := by decide +kernel
theorem dL_act_82 : decode cL_act 82 = .ok (.iconst 1, 1) := by decide +kernel
theorem dL_act_83 : decode cL_act 83 = .ok (.if_icmp .ne 7, 3) := by decide +kernel
theorem dL_act_86 : decode cL_act 86 = .ok (.iconst 1, 1) := by decide +kernel
theorem dL_act_87 : decode cL_act 87 = .ok (.goto 4, 3) := by decide +kernel
theorem dL_act_90 : decode cL_act 90 = .ok (.iconst 0, 1) := by decide +kernel
theorem dL_act_91 : decode cL_act 91 = .ok (.invokevirtual 20, 3) := by decide +kernel
theorem dL_act_94 : decode cL_act 94 = .ok (.goto 165, 3) := by decide +kernel
theorem dL_act_97 : decode cL_act 97 = .ok (.iload_n 1, 1) := by decide +kernel
theorem dL_act_98 : decode cL_act 98 = .ok (.iconst 4, 1) := by decide +kernel
theorem dL_act_99 : decode cL_act 99 = .ok (.if_icmp .ne 12, 3) := by decide +kernel
theorem dL_act_102 : decode cL_act 102 = .ok (.aload_n 0, 1) := by decide +kernel
theorem dL_act_103 : decode cL_act 103 = .ok (.iload_n 2, 1) := by decide +kernel
theorem dL_act_104 : decode cL_act 104 = .ok (.iload_n 3, 1) := by decide +kernel
theorem dL_act_105 : decode cL_act 105 = .ok (.invokevirtual 24, 3) := by decide +kernel
theorem dL_act_108 : decode cL_act 108 = .ok (.goto 151, 3) := by decide +kernel
theorem dL_act_111 : decode cL_act 111 = .ok (.iload_n 1, 1) := by decide +kernel
theorem dL_act_112 : decode cL_act 112 = .ok (.iconst 5, 1) := by decide +kernel
theorem dL_act_113 : decode cL_act 113 = .ok (.if_icmp .ne 11, 3) := by decide +kernel
theorem dL_act_116 : decode cL_act 116 = .ok (.aload_n 0, 1) := by decide +kernel
theorem dL_act_117 : decode cL_act 117 = .ok (.iload_n 2, 1) := by decide +kernel
theorem dL_act_118 : decode cL_act 118 = .ok (.invokevirtual 27, 3) := by decide +kernel
theorem dL_act_121 : decode cL_act 121 = .ok (.goto 138, 3) := by decide +kernel
theorem dL_act_124 : decode cL_act 124 = .ok (.iload_n 1, 1) := by decide +kernel
theorem dL_act_125 : decode cL_act 125 = .ok (.bipush 6, 2) := by decide +kernel
theorem dL_act_127 : decode cL_act 127 = .ok (.if_icmp .ne 12, 3) := by decide +kernel
theorem dL_act_130 : decode cL_act 130 = .ok (.aload_n 0, 1) := by decide +kernel
theorem dL_act_131 : decode cL_act 131 = .ok (.iload_n 2, 1) := by decide +kernel
theorem dL_act_132 : decode cL_act 132 = .ok (.iload_n 3, 1) := by decide +kernel
theorem dL_act_133 : decode cL_act 133 = .ok (.invokevirtual 31, 3) := by decide +kernel
theorem dL_act_136 : decode cL_act 136 = .ok (.goto 123, 3) := by decide +kernel
theorem dL_act_139 : decode cL_act 139 = .ok (.iload_n 1, 1) := by decide +kernel
theorem dL_act_140 : decode cL_act 140 = .ok (.bipush 7, 2) := by decide +kernel
theorem dL_act_142 : decode cL_act 142 = .ok (.if_icmp .ne 12, 3) := by decide +kernel
theorem dL_act_145 : decode cL_act 145 = .ok (.aload_n 0, 1) := by decide +kernel
theorem dL_act_146 : decode cL_act 146 = .ok (.iload_n 2, 1) := by decide +kernel
theorem dL_act_147 : decode cL_act 147 = .ok (.iload_n 3, 1) := by decide +kernel
theorem dL_act_148 : decode cL_act 148 = .ok (.invokevirtual 34, 3) := by decide +kernel
theorem dL_act_151 : decode cL_act 151 = .ok (.goto 108, 3) := by decide +kernel
theorem dL_act_154 : decode cL_act 154 = .ok (.iload_n 1, 1) := by decide +kernel
theorem dL_act_155 : decode cL_act 155 = .ok (.bipush 8, 2) := by decide +kernel
theorem dL_act_157 : decode cL_act 157 = .ok (.if_icmp .ne 14, 3) := by decide +kernel
theorem dL_act_160 : decode cL_act 160 = .ok (.aload_n 0, 1) := by decide +kernel
theorem dL_act_161 : decode cL_act 161 = .ok (.iload_n 2, 1) := by decide +kernel
theorem dL_act_162 : decode cL_act 162 = .ok (.iload_n 3, 1) := by decide +kernel
theorem dL_act_163 : decode cL_act 163 = .ok (.iload 4, 2) := by decide +kernel
theorem dL_act_165 : decode cL_act 165 = .ok (.invokevirtual 37, 3) := by decide +kernel
theorem dL_act_168 : decode cL_act 168 = .ok (.goto 91, 3) := by decide +kernel
theorem dL_act_171 : decode cL_act 171 = .ok (.iload_n 1, 1) := by decide +kernel
theorem dL_act_172 : decode cL_act 172 = .ok (.bipush 9, 2) := by decide +kernel
theorem dL_act_174 : decode cL_act 174 = .ok (.if_icmp .ne 11, 3) := by decide +kernel
theorem dL_act_177 : decode cL_act 177 = .ok (.aload_n 0, 1) := by decide +kernel
theorem dL_act_178 : decode cL_act 178 = .ok (.iload_n 2, 1) := by decide +kernel
theorem dL_act_179 : decode cL_act 179 = .ok (.invokevirtual 41, 3) := by decide +kernel
theorem dL_act_182 : decode cL_act 182 = .ok (.goto 77, 3) := by decide +kernel
theorem dL_act_185 : decode cL_act 185 = .ok (.iload_n 1, 1) := by decide +kernel
theorem dL_act_186 : decode cL_act 186 = .ok (.bipush 10, 2) := by decide +kernel
theorem dL_act_188 : decode cL_act 188 = .ok (.if_icmp .ne 10, 3) := by decide +kernel
theorem dL_act_191 : decode cL_act 191 = .ok (.aload_n 0, 1) := by decide +kernel
theorem dL_act_192 : decode cL_act 192 = .ok (.invokevirtual 44, 3) := by decide +kernel
theorem dL_act_195 : decode cL_act 195 = .ok (.goto 64, 3) := by decide +kernel
theorem dL_act_198 : decode cL_act 198 = .ok (.iload_n 1, 1) := by decide +kernel
theorem dL_act_199 : decode cL_act 199 = .ok (.bipush 11, 2) := by decide +kernel
theorem dL_act_201 : decode cL_act 201 = .ok (.if_icmp .ne 11, 3) := by decide +kernel
theorem dL_act_204 : decode cL_act 204 = .ok (.aload_n 0, 1) := by decide +kernel
theorem dL_act_205 : decode cL_act 205 = .ok (.iload_n 2, 1) := by decide +kernel
theorem dL_act_206 : decode cL_act 206 = .ok (.invokevirtual 48, 3) := by decide +kernel
theorem dL_act_209 : decode cL_act 209 = .ok (.goto 50, 3) := by decide +kernel
theorem dL_act_212 : decode cL_act 212 = .ok (.iload_n 1, 1) := by decide +kernel
theorem dL_act_213 : decode cL_act 213 = .ok (.bipush 12, 2) := by decide +kernel
theorem dL_act_215 : decode cL_act 215 = .ok (.if_icmp .ne 11, 3) := by decide +kernel
theorem dL_act_218 : decode cL_act 218 = .ok (.aload_n 0, 1) := by decide +kernel
theorem dL_act_219 : decode cL_act 219 = .ok (.iload_n 2, 1) := by decide +kernel
theorem dL_act_220 : decode cL_act 220 = .ok (.invokevirtual 51, 3) := by decide +kernel
theorem dL_act_223 : decode cL_act 223 = .ok (.goto 36, 3) := by decide +kernel
theorem dL_act_226 : decode cL_act 226 = .ok (.iload_n 1, 1) := by decide +kernel
theorem dL_act_227 : decode cL_act 227 = .ok (.bipush 13, 2) := by decide +kernel
theorem dL_act_229 : decode cL_act 229 = .ok (.if_icmp .ne 11, 3) := by decide +kernel
theorem dL_act_232 : decode cL_act 232 = .ok (.aload_n 0, 1) := by decide +kernel
theorem dL_act_233 : decode cL_act 233 = .ok (.iload_n 2, 1) := by decide +kernel
theorem dL_act_234 : decode cL_act 234 = .ok (.invokevirtual 54, 3) := by decide +kernel
theorem dL_act_237 : decode cL_act 237 = .ok (.goto 22, 3) := by decide +kernel
theorem dL_act_240 : decode cL_act 240 = .ok (.iload_n 1, 1) := by decide +kernel
theorem dL_act_241 : decode cL_act 241 = .ok (.bipush 14, 2) := by decide +kernel
theorem dL_act_243 : decode cL_act 243 = .ok (.if_icmp .ne 11, 3) := by decide +kernel
theorem dL_act_246 : decode cL_act 246 = .ok (.aload_n 0, 1) := by decide +kernel
theorem dL_act_247 : decode cL_act 247 = .ok (.iload_n 2, 1) := by decide +kernel
theorem dL_act_248 : decode cL_act 248 = .ok (.invokevirtual 57, 3) := by decide +kernel
theorem dL_act_251 : decode cL_act 251 = .ok (.goto 8, 3) := by decide +kernel
theorem dL_act_254 : decode cL_act 254 = .ok (.aload_n 0, 1) := by decide +kernel
theorem dL_act_255 : decode cL_act 255 = .ok (.iload_n 2, 1) := by decide +kernel
theorem dL_act_256 : decode cL_act 256 = .ok (.invokevirtual 60, 3) := by decide +kernel
theorem dL_act_259 : decode cL_act 259 = .ok (.ireturn, 1) := by decide +kernel
theorem dL_act_260 : decode cL_act 260 = .ok (.astore 5, 2) := by decide +kernel
theorem dL_act_262 : decode cL_act 262 = .ok (.bipush (-71), 2) := by decide +kernel
theorem dL_act_264 : decode cL_act 264 = .ok (.ireturn, 1) := by decide +kernel
theorem dL_act_265 : decode cL_act 265 = .ok (.astore 5, 2) := by decide +kernel
theorem dL_act_267 : decode cL_act 267 = .ok (.bipush (-72), 2) := by decide +kernel
theorem dL_act_269 : decode cL_act 269 = .ok (.ireturn, 1) := by decide +kernel
theorem dL_act_270 : decode cL_act 270 = .ok (.astore 5, 2) := by decide +kernel
theorem dL_act_272 : decode cL_act 272 = .ok (.bipush (-73), 2) := by decide +kernel
theorem dL_act_274 : decode cL_act 274 = .ok (.ireturn, 1) := by decide +kernel
theorem dL_scene_0 : decode cL_scene 0 = .ok (.aload_n 0, 1) := by decide +kernel
theorem dL_scene_1 : decode cL_scene 1 = .ok (.iload_n 1, 1) := by decide +kernel
theorem dL_scene_2 : decode cL_scene 2 = .ok (.iload_n 2, 1) := by decide +kernel
theorem dL_scene_3 : decode cL_scene 3 = .ok (.iload_n 3, 1) := by decide +kernel
theorem dL_scene_4 : decode cL_scene 4 = .ok (.iload 4, 2) := by decide +kernel
theorem dL_scene_6 : decode cL_scene 6 = .ok (.iload 5, 2) := by decide +kernel
theorem dL_scene_8 : decode cL_scene 8 = .ok (.invokevirtual 69, 3) := by decide +kernel
theorem dL_scene_11 : decode cL_scene 11 = .ok (.ireturn, 1) := by decide +kernel
theorem dL_scene_12 : decode cL_scene 12 = .ok (.astore 6, 2) := by decide +kernel
theorem dL_scene_14 : decode cL_scene 14 = .ok (.bipush (-72), 2) := by decide +kernel
theorem dL_scene_16 : decode cL_scene 16 = .ok (.ireturn, 1) := by decide +kernel
theorem dL_scene_17 : decode cL_scene 17 = .ok (.astore 6, 2) := by decide +kernel
theorem dL_scene_19 : decode cL_scene 19 = .ok (.bipush (-73), 2) := by decide +kernel
theorem dL_scene_21 : decode cL_scene 21 = .ok (.ireturn, 1) := by decide +kernel
theorem dL_refuses_0 : decode cL_refuses 0 = .ok (.aload_n 0, 1) := by decide +kernel
theorem dL_refuses_1 : decode cL_refuses 1 = .ok (.invokevirtual 73, 3) := by decide +kernel
theorem dL_refuses_4 : decode cL_refuses 4 = .ok (.istore 5, 2) := by decide +kernel
theorem dL_refuses_6 : decode cL_refuses 6 = .ok (.aload_n 0, 1) := by decide +kernel
theorem dL_refuses_7 : decode cL_refuses 7 = .ok (.invokevirtual 76, 3) := by decide +kernel
theorem dL_refuses_10 : decode cL_refuses 10 = .ok (.istore 6, 2) := by decide +kernel
theorem dL_refuses_12 : decode cL_refuses 12 = .ok (.aload_n 0, 1) := by decide +kernel
theorem dL_refuses_13 : decode cL_refuses 13 = .ok (.invokevirtual 79, 3) := by decide +kernel
theorem dL_refuses_16 : decode cL_refuses 16 = .ok (.istore 7, 2) := by decide +kernel
theorem dL_refuses_18 : decode cL_refuses 18 = .ok (.aload_n 0, 1) := by decide +kernel
theorem dL_refuses_19 : decode cL_refuses 19 = .ok (.invokevirtual 82, 3) := by decide +kernel
theorem dL_refuses_22 : decode cL_refuses 22 = .ok (.istore 8, 2) := by decide +kernel
theorem dL_refuses_24 : decode cL_refuses 24 = .ok (.ldc 85, 2) := by decide +kernel
theorem dL_refuses_26 : decode cL_refuses 26 = .ok (.istore 9, 2) := by decide +kernel
theorem dL_refuses_28 : decode cL_refuses 28 = .ok (.iconst 0, 1) := by decide +kernel
theorem dL_refuses_29 : decode cL_refuses 29 = .ok (.istore 10, 2) := by decide +kernel
theorem dL_refuses_31 : decode cL_refuses 31 = .ok (.iload 10, 2) := by decide +kernel
theorem dL_refuses_33 : decode cL_refuses 33 = .ok (.iconst 4, 1) := by decide +kernel
theorem dL_refuses_34 : decode cL_refuses 34 = .ok (.if_icmp .ge 643, 3) := by decide +kernel
theorem dL_refuses_37 : decode cL_refuses 37 = .ok (.iload 10, 2) := by decide +kernel
theorem dL_refuses_39 : decode cL_refuses 39 = .ok (.ifCond .ne 7, 3) := by decide +kernel
theorem dL_refuses_42 : decode cL_refuses 42 = .ok (.iconst (-1), 1) := by decide +kernel
theorem dL_refuses_43 : decode cL_refuses 43 = .ok (.goto 19, 3) := by decide +kernel
theorem dL_refuses_46 : decode cL_refuses 46 = .ok (.iload 10, 2) := by decide +kernel
theorem dL_refuses_48 : decode cL_refuses 48 = .ok (.iconst 2, 1) := by decide +kernel
theorem dL_refuses_49 : decode cL_refuses 49 = .ok (.if_icmp .ne 8, 3) := by decide +kernel
theorem dL_refuses_52 : decode cL_refuses 52 = .ok (.iload 9, 2) := by decide +kernel
theorem dL_refuses_54 : decode cL_refuses 54 = .ok (.goto 8, 3) := by decide +kernel
theorem dL_refuses_57 : decode cL_refuses 57 = .ok (.iload 9, 2) := by decide +kernel
theorem dL_refuses_59 : decode cL_refuses 59 = .ok (.ineg, 1) := by decide +kernel
theorem dL_refuses_60 : decode cL_refuses 60 = .ok (.iconst 1, 1) := by decide +kernel
theorem dL_refuses_61 : decode cL_refuses 61 = .ok (.isub, 1) := by decide +kernel
theorem dL_refuses_62 : decode cL_refuses 62 = .ok (.istore 11, 2) := by decide +kernel
theorem dL_refuses_64 : decode cL_refuses 64 = .ok (.iload 10, 2) := by decide +kernel
theorem dL_refuses_66 : decode cL_refuses 66 = .ok (.iconst 1, 1) := by decide +kernel
theorem dL_refuses_67 : decode cL_refuses 67 = .ok (.if_icmp .ne 7, 3) := by decide +kernel
theorem dL_refuses_70 : decode cL_refuses 70 = .ok (.iconst 4, 1) := by decide +kernel
theorem dL_refuses_71 : decode cL_refuses 71 = .ok (.goto 5, 3) := by decide +kernel
theorem dL_refuses_74 : decode cL_refuses 74 = .ok (.iload 11, 2) := by decide +kernel
theorem dL_refuses_76 : decode cL_refuses 76 = .ok (.istore 12, 2) := by decide +kernel
theorem dL_refuses_78 : decode cL_refuses 78 = .ok (.iload 10, 2) := by decide +kernel
theorem dL_refuses_80 : decode cL_refuses 80 = .ok (.iconst 1, 1) := by decide +kernel
theorem dL_refuses_81 : decode cL_refuses 81 = .ok (.if_icmp .ne 8, 3) := by decide +kernel
theorem dL_refuses_84 : decode cL_refuses 84 = .ok (.bipush 6, 2) := by decide +kernel
theorem dL_refuses_86 : decode cL_refuses 86 = .ok (.goto 5, 3) := by decide +kernel
theorem dL_refuses_89 : decode cL_refuses 89 = .ok (.iload 11, 2) := by decide +kernel
theorem dL_refuses_91 : decode cL_refuses 91 = .ok (.istore 13, 2) := by decide +kernel
theorem dL_refuses_93 : decode cL_refuses 93 = .ok (.iload 10, 2) := by decide +kernel
theorem dL_refuses_95 : decode cL_refuses 95 = .ok (.iconst 1, 1) := by decide +kernel
theorem dL_refuses_96 : decode cL_refuses 96 = .ok (.if_icmp .ne 9, 3) := by decide +kernel
theorem dL_refuses_99 : decode cL_refuses 99 = .ok (.sipush 1001, 3) := by decide +kernel
theorem dL_refuses_102 : decode cL_refuses 102 = .ok (.goto 5, 3) := by decide +kernel
theorem dL_refuses_105 : decode cL_refuses 105 = .ok (.iload 11, 2) := by decide +kernel
theorem dL_refuses_107 : decode cL_refuses 107 = .ok (.istore 14, 2) := by decide +kernel
theorem dL_refuses_109 : decode cL_refuses 109 = .ok (.iload 10, 2) := by decide +kernel
theorem dL_refuses_111 : decode cL_refuses 111 = .ok (.ifCond .ne 7, 3) := by decide +kernel
theorem dL_refuses_114 : decode cL_refuses 114 = .ok (.iconst 0, 1) := by decide +kernel
theorem dL_refuses_115 : decode cL_refuses 115 = .ok (.goto 16, 3) := by decide +kernel
theorem dL_refuses_118 : decode cL_refuses 118 = .ok (.iload 10, 2) := by decide +kernel
theorem dL_refuses_120 : decode cL_refuses 120 = .ok (.iconst 1, 1) := by decide +kernel
theorem dL_refuses_121 : decode cL_refuses 121 = .ok (.if_icmp .ne 8, 3) := by decide +kernel
theorem dL_refuses_124 : decode cL_refuses 124 = .ok (.ldc 86, 2) := by decide +kernel
theorem dL_refuses_126 : decode cL_refuses 126 = .ok (.goto 5, 3) := by decide +kernel
theorem dL_refuses_129 : decode cL_refuses 129 = .ok (.iload 11, 2) := by decide +kernel
theorem dL_refuses_131 : decode cL_refuses 131 = .ok (.istore 15, 2) := by decide +kernel
theorem dL_refuses_133 : decode cL_refuses 133 = .ok (.aload_n 0, 1) := by decide +kernel
theorem dL_refuses_134 : decode cL_refuses 134 = .ok (.iconst 0, 1) := by decide +kernel
theorem dL_refuses_135 : decode cL_refuses 135 = .ok (.iload 12, 2) := by decide +kernel
theorem dL_refuses_137 : decode cL_refuses 137 = .ok (.iconst 1, 1) := by decide +kernel
theorem dL_refuses_138 : decode cL_refuses 138 = .ok (.iconst 0, 1) := by decide +kernel
theorem dL_refuses_139 : decode cL_refuses 139 = .ok (.invokestatic 87, 3) := by decide +kernel
theorem dL_refuses_142 : decode cL_refuses 142 = .ok (.bipush (-71), 2) := by decide +kernel
theorem dL_refuses_144 : decode cL_refuses 144 = .ok (.if_icmp .ne 377, 3) := by decide +kernel
theorem dL_refuses_147 : decode cL_refuses 147 = .ok (.aload_n 0, 1) := by decide +kernel
theorem dL_refuses_148 : decode cL_refuses 148 = .ok (.iconst 1, 1) := by decide +kernel
theorem dL_refuses_149 : decode cL_refuses 149 = .ok (.iload 13, 2) := by decide +kernel
theorem dL_refuses_151 : decode cL_refuses 151 = .ok (.iconst 1, 1) := by decide +kernel
theorem dL_refuses_152 : decode cL_refuses 152 = .ok (.iconst 0, 1) := by decide +kernel
theorem dL_refuses_153 : decode cL_refuses 153 = .ok (.invokestatic 87, 3) := by decide +kernel
theorem dL_refuses_156 : decode cL_refuses 156 = .ok (.bipush (-71), 2) := by decide +kernel
theorem dL_refuses_158 : decode cL_refuses 158 = .ok (.if_icmp .ne 363, 3) := by decide +kernel
theorem dL_refuses_161 : decode cL_refuses 161 = .ok (.aload_n 0, 1) := by decide +kernel
theorem dL_refuses_162 : decode cL_refuses 162 = .ok (.iconst 2, 1) := by decide +kernel
theorem dL_refuses_163 : decode cL_refuses 163 = .ok (.iload 14, 2) := by decide +kernel
theorem dL_refuses_165 : decode cL_refuses 165 = .ok (.iconst 0, 1) := by decide +kernel
theorem dL_refuses_166 : decode cL_refuses 166 = .ok (.iconst 0, 1) := by decide +kernel
theorem dL_refuses_167 : decode cL_refuses 167 = .ok (.invokestatic 87, 3) := by decide +kernel
theorem dL_refuses_170 : decode cL_refuses 170 = .ok (.bipush (-72), 2) := by decide +kernel
theorem dL_refuses_172 : decode cL_refuses 172 = .ok (.if_icmp .ne 349, 3) := by decide +kernel
theorem dL_refuses_175 : decode cL_refuses 175 = .ok (.aload_n 0, 1) := by decide +kernel
theorem dL_refuses_176 : decode cL_refuses 176 = .ok (.iconst 2, 1) := by decide +kernel
theorem dL_refuses_177 : decode cL_refuses 177 = .ok (.iconst 0, 1) := by decide +kernel
theorem dL_refuses_178 : decode cL_refuses 178 = .ok (.iload 14, 2) := by decide +kernel
theorem dL_refuses_180 : decode cL_refuses 180 = .ok (.iconst 0, 1) := by decide +kernel
theorem dL_refuses_181 : decode cL_refuses 181 = .ok (.invokestatic 87, 3) := by decide +kernel
theorem dL_refuses_184 : decode cL_refuses 184 = .ok (.bipush (-72), 2) := by decide +kernel
theorem dL_refuses_186 : decode cL_refuses 186 = .ok (.if_icmp .ne 335, 3) := by decide +kernel
theorem dL_refuses_189 : decode cL_refuses 189 = .ok (.aload_n 0, 1) := by decide +kernel
theorem dL_refuses_190 : decode cL_refuses 190 = .ok (.iconst 4, 1) := by decide +kernel
theorem dL_refuses_191 : decode cL_refuses 191 = .ok (.iload 12, 2) := by decide +kernel
theorem dL_refuses_193 : decode cL_refuses 193 = .ok (.iconst 0, 1) := by decide +kernel
theorem dL_refuses_194 : decode cL_refuses 194 = .ok (.iconst 0, 1) := by decide +kernel
theorem dL_refuses_195 : decode cL_refuses 195 = .ok (.invokestatic 87, 3) := by decide +kernel
theorem dL_refuses_198 : decode cL_refuses 198 = .ok (.bipush (-71), 2) := by decide +kernel
theorem dL_refuses_200 : decode cL_refuses 200 = .ok (.if_icmp .ne 321, 3) := by decide +kernel
theorem dL_refuses_203 : decode cL_refuses 203 = .ok (.aload_n 0, 1) := by decide +kernel
theorem dL_refuses_204 : decode cL_refuses 204 = .ok (.iconst 4, 1) := by decide +kernel
theorem dL_refuses_205 : decode cL_refuses 205 = .ok (.iconst 0, 1) := by decide +kernel
theorem dL_refuses_206 : decode cL_refuses 206 = .ok (.iload 15, 2) := by decide +kernel
theorem dL_refuses_208 : decode cL_refuses 208 = .ok (.iconst 0, 1) := by decide +kernel
theorem dL_refuses_209 : decode cL_refuses 209 = .ok (.invokestatic 87, 3) := by decide +kernel
theorem dL_refuses_212 : decode cL_refuses 212 = .ok (.bipush (-72), 2) := by decide +kernel
theorem dL_refuses_214 : decode cL_refuses 214 = .ok (.if_icmp .ne 307, 3) := by decide +kernel
theorem dL_refuses_217 : decode cL_refuses 217 = .ok (.aload_n 0, 1) := by decide +kernel
theorem dL_refuses_218 : decode cL_refuses 218 = .ok (.iconst 5, 1) := by decide +kernel
theorem dL_refuses_219 : decode cL_refuses 219 = .ok (.iload 15, 2) := by decide +kernel
theorem dL_refuses_221 : decode cL_refuses 221 = .ok (.iconst 0, 1) := by decide +kernel
theorem dL_refuses_222 : decode cL_refuses 222 = .ok (.iconst 0, 1) := by decide +kernel
theorem dL_refuses_223 : decode cL_refuses 223 = .ok (.invokestatic 87, 3) := by decide +kernel
theorem dL_refuses_226 : decode cL_refuses 226 = .ok (.bipush (-72), 2) := by decide +kernel
theorem dL_refuses_228 : decode cL_refuses 228 = .ok (.if_icmp .ne 293, 3) := by decide +kernel
theorem dL_refuses_231 : decode cL_refuses 231 = .ok (.aload_n 0, 1) := by decide +kernel
theorem dL_refuses_232 : decode cL_refuses 232 = .ok (.bipush 6, 2) := by decide +kernel
theorem dL_refuses_234 : decode cL_refuses 234 = .ok (.iload 12, 2) := by decide +kernel
theorem dL_refuses_236 : decode cL_refuses 236 = .ok (.iconst 0, 1) := by decide +kernel
theorem dL_refuses_237 : decode cL_refuses 237 = .ok (.iconst 0, 1) := by decide +kernel
theorem dL_refuses_238 : decode cL_refuses 238 = .ok (.invokestatic 87, 3) := by decide +kernel
theorem dL_refuses_241 : decode cL_refuses 241 = .ok (.bipush (-71), 2) := by decide +kernel
theorem dL_refuses_243 : decode cL_refuses 243 = .ok (.if_icmp .ne 278, 3) := by decide +kernel
theorem dL_refuses_246 : decode cL_refuses 246 = .ok (.aload_n 0, 1) := by decide +kernel
theorem dL_refuses_247 : decode cL_refuses 247 = .ok (.bipush 6, 2) := by decide +kernel
theorem dL_refuses_249 : decode cL_refuses 249 = .ok (.iconst 0, 1) := by decide +kernel
theorem dL_refuses_250 : decode cL_refuses 250 = .ok (.iload 15, 2) := by decide +kernel
theorem dL_refuses_252 : decode cL_refuses 252 = .ok (.iconst 0, 1) := by decide +kernel
theorem dL_refuses_253 : decode cL_refuses 253 = .ok (.invokestatic 87, 3) := by decide +kernel
theorem dL_refuses_256 : decode cL_refuses 256 = .ok (.bipush (-72), 2) := by decide +kernel
theorem dL_refuses_258 : decode cL_refuses 258 = .ok (.if_icmp .ne 263, 3) := by decide +kernel
theorem dL_refuses_261 : decode cL_refuses 261 = .ok (.aload_n 0, 1) := by decide +kernel
theorem dL_refuses_262 : decode cL_refuses 262 = .ok (.bipush 7, 2) := by decide +kernel
theorem dL_refuses_264 : decode cL_refuses 264 = .ok (.iload 13, 2) := by decide +kernel
theorem dL_refuses_266 : decode cL_refuses 266 = .ok (.iconst 0, 1) := by decide +kernel
theorem dL_refuses_267 : decode cL_refuses 267 = .ok (.iconst 0, 1) := by decide +kernel
theorem dL_refuses_268 : decode cL_refuses 268 = .ok (.invokestatic 87, 3) := by decide +kernel
theorem dL_refuses_271 : decode cL_refuses 271 = .ok (.bipush (-71), 2) := by decide +kernel
theorem dL_refuses_273 : decode cL_refuses 273 = .ok (.if_icmp .ne 248, 3) := by decide +kernel
theorem dL_refuses_276 : decode cL_refuses 276 = .ok (.aload_n 0, 1) := by decide +kernel
theorem dL_refuses_277 : decode cL_refuses 277 = .ok (.bipush 7, 2) := by decide +kernel
theorem dL_refuses_279 : decode cL_refuses 279 = .ok (.iconst 0, 1) := by decide +kernel
theorem dL_refuses_280 : decode cL_refuses 280 = .ok (.iload 15, 2) := by decide +kernel
theorem dL_refuses_282 : decode cL_refuses 282 = .ok (.iconst 0, 1) := by decide +kernel
theorem dL_refuses_283 : decode cL_refuses 283 = .ok (.invokestatic 87, 3) := by decide +kernel
theorem dL_refuses_286 : decode cL_refuses 286 = .ok (.bipush (-72), 2) := by decide +kernel
theorem dL_refuses_288 : decode cL_refuses 288 = .ok (.if_icmp .ne 233, 3) := by decide +kernel
theorem dL_refuses_291 : decode cL_refuses 291 = .ok (.aload_n 0, 1) := by decide +kernel
theorem dL_refuses_292 : decode cL_refuses 292 = .ok (.bipush 8, 2) := by decide +kernel
theorem dL_refuses_294 : decode cL_refuses 294 = .ok (.iload 10, 2) := by decide +kernel
theorem dL_refuses_296 : decode cL_refuses 296 = .ok (.ifCond .ne 8, 3) := by decide +kernel
theorem dL_refuses_299 : decode cL_refuses 299 = .ok (.bipush (-2), 2) := by decide +kernel
theorem dL_refuses_301 : decode cL_refuses 301 = .ok (.goto 16, 3) := by decide +kernel
theorem dL_refuses_304 : decode cL_refuses 304 = .ok (.iload 10, 2) := by decide +kernel
theorem dL_refuses_306 : decode cL_refuses 306 = .ok (.iconst 1, 1) := by decide +kernel
theorem dL_refuses_307 : decode cL_refuses 307 = .ok (.if_icmp .ne 8, 3) := by decide +kernel
theorem dL_refuses_310 : decode cL_refuses 310 = .ok (.iload 4, 2) := by decide +kernel
theorem dL_refuses_312 : decode cL_refuses 312 = .ok (.goto 5, 3) := by decide +kernel
theorem dL_refuses_315 : decode cL_refuses 315 = .ok (.iload 11, 2) := by decide +kernel
theorem dL_refuses_317 : decode cL_refuses 317 = .ok (.iconst 0, 1) := by decide +kernel
theorem dL_refuses_318 : decode cL_refuses 318 = .ok (.iconst 0, 1) := by decide +kernel
theorem dL_refuses_319 : decode cL_refuses 319 = .ok (.invokestatic 87, 3) := by decide +kernel
theorem dL_refuses_322 : decode cL_refuses 322 = .ok (.bipush (-71), 2) := by decide +kernel
theorem dL_refuses_324 : decode cL_refuses 324 = .ok (.if_icmp .ne 197, 3) := by decide +kernel
theorem dL_refuses_327 : decode cL_refuses 327 = .ok (.aload_n 0, 1) := by decide +kernel
theorem dL_refuses_328 : decode cL_refuses 328 = .ok (.bipush 8, 2) := by decide +kernel
theorem dL_refuses_330 : decode cL_refuses 330 = .ok (.iconst (-1), 1) := by decide +kernel
theorem dL_refuses_331 : decode cL_refuses 331 = .ok (.iload 13, 2) := by decide +kernel
theorem dL_refuses_333 : decode cL_refuses 333 = .ok (.iconst 0, 1) := by decide +kernel
theorem dL_refuses_334 : decode cL_refuses 334 = .ok (.invokestatic 87, 3) := by decide +kernel
theorem dL_refuses_337 : decode cL_refuses 337 = .ok (.bipush (-71), 2) := by decide +kernel
theorem dL_refuses_339 : decode cL_refuses 339 = .ok (.if_icmp .ne 182, 3) := by decide +kernel
theorem dL_refuses_342 : decode cL_refuses 342 = .ok (.aload_n 0, 1) := by decide +kernel
theorem dL_refuses_343 : decode cL_refuses 343 = .ok (.bipush 8, 2) := by decide +kernel
theorem dL_refuses_345 : decode cL_refuses 345 = .ok (.iconst (-1), 1) := by decide +kernel
theorem dL_refuses_346 : decode cL_refuses 346 = .ok (.iconst 0, 1) := by decide +kernel
theorem dL_refuses_347 : decode cL_refuses 347 = .ok (.iload 10, 2) := by decide +kernel
theorem dL_refuses_349 : decode cL_refuses 349 = .ok (.ifCond .ne 7, 3) := by decide +kernel
theorem dL_refuses_352 : decode cL_refuses 352 = .ok (.iconst 0, 1) := by decide +kernel
theorem dL_refuses_353 : decode cL_refuses 353 = .ok (.goto 16, 3) := by decide +kernel
theorem dL_refuses_356 : decode cL_refuses 356 = .ok (.iload 10, 2) := by decide +kernel
theorem dL_refuses_358 : decode cL_refuses 358 = .ok (.iconst 1, 1) := by decide +kernel
theorem dL_refuses_359 : decode cL_refuses 359 = .ok (.if_icmp .ne 8, 3) := by decide +kernel
theorem dL_refuses_362 : decode cL_refuses 362 = .ok (.bipush 101, 2) := by decide +kernel
theorem dL_refuses_364 : decode cL_refuses 364 = .ok (.goto 5, 3) := by decide +kernel
theorem dL_refuses_367 : decode cL_refuses 367 = .ok (.iload 11, 2) := by decide +kernel
theorem dL_refuses_369 : decode cL_refuses 369 = .ok (.invokestatic 87, 3) := by decide +kernel
theorem dL_refuses_372 : decode cL_refuses 372 = .ok (.bipush (-72), 2) := by decide +kernel
theorem dL_refuses_374 : decode cL_refuses 374 = .ok (.if_icmp .ne 147, 3) := by decide +kernel
theorem dL_refuses_377 : decode cL_refuses 377 = .ok (.aload_n 0, 1) := by decide +kernel
theorem dL_refuses_378 : decode cL_refuses 378 = .ok (.bipush 9, 2) := by decide +kernel
theorem dL_refuses_380 : decode cL_refuses 380 = .ok (.iload 10, 2) := by decide +kernel
theorem dL_refuses_382 : decode cL_refuses 382 = .ok (.ifCond .ne 7, 3) := by decide +kernel
theorem dL_refuses_385 : decode cL_refuses 385 = .ok (.iconst 0, 1) := by decide +kernel
theorem dL_refuses_386 : decode cL_refuses 386 = .ok (.goto 16, 3) := by decide +kernel
theorem dL_refuses_389 : decode cL_refuses 389 = .ok (.iload 10, 2) := by decide +kernel
theorem dL_refuses_391 : decode cL_refuses 391 = .ok (.iconst 1, 1) := by decide +kernel
theorem dL_refuses_392 : decode cL_refuses 392 = .ok (.if_icmp .ne 8, 3) := by decide +kernel
theorem dL_refuses_395 : decode cL_refuses 395 = .ok (.ldc 93, 2) := by decide +kernel
theorem dL_refuses_397 : decode cL_refuses 397 = .ok (.goto 5, 3) := by decide +kernel
theorem dL_refuses_400 : decode cL_refuses 400 = .ok (.iload 11, 2) := by decide +kernel
theorem dL_refuses_402 : decode cL_refuses 402 = .ok (.iconst 0, 1) := by decide +kernel
theorem dL_refuses_403 : decode cL_refuses 403 = .ok (.iconst 0, 1) := by decide +kernel
theorem dL_refuses_404 : decode cL_refuses 404 = .ok (.invokestatic 87, 3) := by decide +kernel
theorem dL_refuses_407 : decode cL_refuses 407 = .ok (.bipush (-72), 2) := by decide +kernel
theorem dL_refuses_409 : decode cL_refuses 409 = .ok (.if_icmp .ne 112, 3) := by decide +kernel
theorem dL_refuses_412 : decode cL_refuses 412 = .ok (.aload_n 0, 1) := by decide +kernel
theorem dL_refuses_413 : decode cL_refuses 413 = .ok (.bipush 11, 2) := by decide +kernel
theorem dL_refuses_415 : decode cL_refuses 415 = .ok (.iload 10, 2) := by decide +kernel
theorem dL_refuses_417 : decode cL_refuses 417 = .ok (.iconst 1, 1) := by decide +kernel
theorem dL_refuses_418 : decode cL_refuses 418 = .ok (.if_icmp .ne 7, 3) := by decide +kernel
theorem dL_refuses_421 : decode cL_refuses 421 = .ok (.iload_n 2, 1) := by decide +kernel
theorem dL_refuses_422 : decode cL_refuses 422 = .ok (.goto 5, 3) := by decide +kernel
theorem dL_refuses_425 : decode cL_refuses 425 = .ok (.iload 11, 2) := by decide +kernel
theorem dL_refuses_427 : decode cL_refuses 427 = .ok (.iconst 0, 1) := by decide +kernel
theorem dL_refuses_428 : decode cL_refuses 428 = .ok (.iconst 0, 1) := by decide +kernel
theorem dL_refuses_429 : decode cL_refuses 429 = .ok (.invokestatic 87, 3) := by decide +kernel
theorem dL_refuses_432 : decode cL_refuses 432 = .ok (.bipush (-71), 2) := by decide +kernel
theorem dL_refuses_434 : decode cL_refuses 434 = .ok (.if_icmp .ne 87, 3) := by decide +kernel
theorem dL_refuses_437 : decode cL_refuses 437 = .ok (.aload_n 0, 1) := by decide +kernel
theorem dL_refuses_438 : decode cL_refuses 438 = .ok (.bipush 12, 2) := by decide +kernel
theorem dL_refuses_440 : decode cL_refuses 440 = .ok (.iload 10, 2) := by decide +kernel
theorem dL_refuses_442 : decode cL_refuses 442 = .ok (.iconst 1, 1) := by decide +kernel
theorem dL_refuses_443 : decode cL_refuses 443 = .ok (.if_icmp .ne 7, 3) := by decide +kernel
theorem dL_refuses_446 : decode cL_refuses 446 = .ok (.iload_n 1, 1) := by decide +kernel
theorem dL_refuses_447 : decode cL_refuses 447 = .ok (.goto 5, 3) := by decide +kernel
theorem dL_refuses_450 : decode cL_refuses 450 = .ok (.iload 11, 2) := by decide +kernel
theorem dL_refuses_452 : decode cL_refuses 452 = .ok (.iconst 0, 1) := by decide +kernel
theorem dL_refuses_453 : decode cL_refuses 453 = .ok (.iconst 0, 1) := by decide +kernel
theorem dL_refuses_454 : decode cL_refuses 454 = .ok (.invokestatic 87, 3) := by decide +kernel
theorem dL_refuses_457 : decode cL_refuses 457 = .ok (.bipush (-71), 2) := by decide +kernel
theorem dL_refuses_459 : decode cL_refuses 459 = .ok (.if_icmp .ne 62, 3) := by decide +kernel
theorem dL_refuses_462 : decode cL_refuses 462 = .ok (.aload_n 0, 1) := by decide +kernel
theorem dL_refuses_463 : decode cL_refuses 463 = .ok (.bipush 13, 2) := by decide +kernel
theorem dL_refuses_465 : decode cL_refuses 465 = .ok (.iload 12, 2) := by decide +kernel
theorem dL_refuses_467 : decode cL_refuses 467 = .ok (.iconst 0, 1) := by decide +kernel
theorem dL_refuses_468 : decode cL_refuses 468 = .ok (.iconst 0, 1) := by decide +kernel
theorem dL_refuses_469 : decode cL_refuses 469 = .ok (.invokestatic 87, 3) := by decide +kernel
theorem dL_refuses_472 : decode cL_refuses 472 = .ok (.bipush (-71), 2) := by decide +kernel
theorem dL_refuses_474 : decode cL_refuses 474 = .ok (.if_icmp .ne 47, 3) := by decide +kernel
theorem dL_refuses_477 : decode cL_refuses 477 = .ok (.aload_n 0, 1) := by decide +kernel
theorem dL_refuses_478 : decode cL_refuses 478 = .ok (.bipush 14, 2) := by decide +kernel
theorem dL_refuses_480 : decode cL_refuses 480 = .ok (.iload 10, 2) := by decide +kernel
theorem dL_refuses_482 : decode cL_refuses 482 = .ok (.iconst 1, 1) := by decide +kernel
theorem dL_refuses_483 : decode cL_refuses 483 = .ok (.if_icmp .ne 7, 3) := by decide +kernel
theorem dL_refuses_486 : decode cL_refuses 486 = .ok (.iload_n 3, 1) := by decide +kernel
theorem dL_refuses_487 : decode cL_refuses 487 = .ok (.goto 5, 3) := by decide +kernel
theorem dL_refuses_490 : decode cL_refuses 490 = .ok (.iload 11, 2) := by decide +kernel
theorem dL_refuses_492 : decode cL_refuses 492 = .ok (.iconst 0, 1) := by decide +kernel
theorem dL_refuses_493 : decode cL_refuses 493 = .ok (.iconst 0, 1) := by decide +kernel
theorem dL_refuses_494 : decode cL_refuses 494 = .ok (.invokestatic 87, 3) := by decide +kernel
theorem dL_refuses_497 : decode cL_refuses 497 = .ok (.bipush (-71), 2) := by decide +kernel
theorem dL_refuses_499 : decode cL_refuses 499 = .ok (.if_icmp .ne 22, 3) := by decide +kernel
theorem dL_refuses_502 : decode cL_refuses 502 = .ok (.aload_n 0, 1) := by decide +kernel
theorem dL_refuses_503 : decode cL_refuses 503 = .ok (.bipush 15, 2) := by decide +kernel
theorem dL_refuses_505 : decode cL_refuses 505 = .ok (.iload 13, 2) := by decide +kernel
theorem dL_refuses_507 : decode cL_refuses 507 = .ok (.iconst 0, 1) := by decide +kernel
theorem dL_refuses_508 : decode cL_refuses 508 = .ok (.iconst 0, 1) := by decide +kernel
theorem dL_refuses_509 : decode cL_refuses 509 = .ok (.invokestatic 87, 3) := by decide +kernel
theorem dL_refuses_512 : decode cL_refuses 512 = .ok (.bipush (-71), 2) := by decide +kernel
theorem dL_refuses_514 : decode cL_refuses 514 = .ok (.if_icmp .ne 7, 3) := by decide +kernel
theorem dL_refuses_517 : decode cL_refuses 517 = .ok (.iconst 1, 1) := by decide +kernel
theorem dL_refuses_518 : decode cL_refuses 518 = .ok (.goto 4, 3) := by decide +kernel
theorem dL_refuses_521 : decode cL_refuses 521 = .ok (.iconst 0, 1) := by decide +kernel
theorem dL_refuses_522 : decode cL_refuses 522 = .ok (.istore 16, 2) := by decide +kernel
theorem dL_refuses_524 : decode cL_refuses 524 = .ok (.iload 16, 2) := by decide +kernel
theorem dL_refuses_526 : decode cL_refuses 526 = .ok (.ifCond .eq 135, 3) := by decide +kernel
theorem dL_refuses_529 : decode cL_refuses 529 = .ok (.aload_n 0, 1) := by decide +kernel
theorem dL_refuses_530 : decode cL_refuses 530 = .ok (.iload 10, 2) := by decide +kernel
theorem dL_refuses_532 : decode cL_refuses 532 = .ok (.ifCond .ne 7, 3) := by decide +kernel
theorem dL_refuses_535 : decode cL_refuses 535 = .ok (.iconst 0, 1) := by decide +kernel
theorem dL_refuses_536 : decode cL_refuses 536 = .ok (.goto 16, 3) := by decide +kernel
theorem dL_refuses_539 : decode cL_refuses 539 = .ok (.iload 10, 2) := by decide +kernel
theorem dL_refuses_541 : decode cL_refuses 541 = .ok (.iconst 1, 1) := by decide +kernel
theorem dL_refuses_542 : decode cL_refuses 542 = .ok (.if_icmp .ne 8, 3) := by decide +kernel
theorem dL_refuses_545 : decode cL_refuses 545 = .ok (.bipush 7, 2) := by decide +kernel
theorem dL_refuses_547 : decode cL_refuses 547 = .ok (.goto 5, 3) := by decide +kernel
theorem dL_refuses_550 : decode cL_refuses 550 = .ok (.iload 11, 2) := by decide +kernel
theorem dL_refuses_552 : decode cL_refuses 552 = .ok (.iconst 0, 1) := by decide +kernel
theorem dL_refuses_553 : decode cL_refuses 553 = .ok (.iconst 0, 1) := by decide +kernel
theorem dL_refuses_554 : decode cL_refuses 554 = .ok (.iconst 0, 1) := by decide +kernel
theorem dL_refuses_555 : decode cL_refuses 555 = .ok (.iconst 0, 1) := by decide +kernel
theorem dL_refuses_556 : decode cL_refuses 556 = .ok (.invokestatic 94, 3) := by decide +kernel
theorem dL_refuses_559 : decode cL_refuses 559 = .ok (.bipush (-72), 2) := by decide +kernel
theorem dL_refuses_561 : decode cL_refuses 561 = .ok (.if_icmp .ne 100, 3) := by decide +kernel
theorem dL_refuses_564 : decode cL_refuses 564 = .ok (.aload_n 0, 1) := by decide +kernel
theorem dL_refuses_565 : decode cL_refuses 565 = .ok (.iconst 1, 1) := by decide +kernel
theorem dL_refuses_566 : decode cL_refuses 566 = .ok (.iload 12, 2) := by decide +kernel
theorem dL_refuses_568 : decode cL_refuses 568 = .ok (.iconst 0, 1) := by decide +kernel
theorem dL_refuses_569 : decode cL_refuses 569 = .ok (.iconst 0, 1) := by decide +kernel
theorem dL_refuses_570 : decode cL_refuses 570 = .ok (.iconst 0, 1) := by decide +kernel
theorem dL_refuses_571 : decode cL_refuses 571 = .ok (.invokestatic 94, 3) := by decide +kernel
theorem dL_refuses_574 : decode cL_refuses 574 = .ok (.bipush (-72), 2) := by decide +kernel
theorem dL_refuses_576 : decode cL_refuses 576 = .ok (.if_icmp .ne 85, 3) := by decide +kernel
theorem dL_refuses_579 : decode cL_refuses 579 = .ok (.aload_n 0, 1) := by decide +kernel
theorem dL_refuses_580 : decode cL_refuses 580 = .ok (.iconst 1, 1) := by decide +kernel
theorem dL_refuses_581 : decode cL_refuses 581 = .ok (.iconst 0, 1) := by decide +kernel
theorem dL_refuses_582 : decode cL_refuses 582 = .ok (.iload 10, 2) := by decide +kernel
theorem dL_refuses_584 : decode cL_refuses 584 = .ok (.iconst 1, 1) := by decide +kernel
theorem dL_refuses_585 : decode cL_refuses 585 = .ok (.if_icmp .ne 8, 3) := by decide +kernel
theorem dL_refuses_588 : decode cL_refuses 588 = .ok (.bipush 64, 2) := by decide +kernel
theorem dL_refuses_590 : decode cL_refuses 590 = .ok (.goto 5, 3) := by decide +kernel
theorem dL_refuses_593 : decode cL_refuses 593 = .ok (.iload 11, 2) := by decide +kernel
theorem dL_refuses_595 : decode cL_refuses 595 = .ok (.iconst 0, 1) := by decide +kernel
theorem dL_refuses_596 : decode cL_refuses 596 = .ok (.iconst 0, 1) := by decide +kernel
theorem dL_refuses_597 : decode cL_refuses 597 = .ok (.invokestatic 94, 3) := by decide +kernel
theorem dL_refuses_600 : decode cL_refuses 600 = .ok (.bipush (-72), 2) := by decide +kernel
theorem dL_refuses_602 : decode cL_refuses 602 = .ok (.if_icmp .ne 59, 3) := by decide +kernel
theorem dL_refuses_605 : decode cL_refuses 605 = .ok (.aload_n 0, 1) := by decide +kernel
theorem dL_refuses_606 : decode cL_refuses 606 = .ok (.iconst 1, 1) := by decide +kernel
theorem dL_refuses_607 : decode cL_refuses 607 = .ok (.iconst 0, 1) := by decide +kernel
theorem dL_refuses_608 : decode cL_refuses 608 = .ok (.iconst 0, 1) := by decide +kernel
theorem dL_refuses_609 : decode cL_refuses 609 = .ok (.iload 10, 2) := by decide +kernel
theorem dL_refuses_611 : decode cL_refuses 611 = .ok (.iconst 1, 1) := by decide +kernel
theorem dL_refuses_612 : decode cL_refuses 612 = .ok (.if_icmp .ne 7, 3) := by decide +kernel
theorem dL_refuses_615 : decode cL_refuses 615 = .ok (.iconst 3, 1) := by decide +kernel
theorem dL_refuses_616 : decode cL_refuses 616 = .ok (.goto 5, 3) := by decide +kernel
theorem dL_refuses_619 : decode cL_refuses 619 = .ok (.iload 11, 2) := by decide +kernel
theorem dL_refuses_621 : decode cL_refuses 621 = .ok (.iconst 0, 1) := by decide +kernel
theorem dL_refuses_622 : decode cL_refuses 622 = .ok (.invokestatic 94, 3) := by decide +kernel
theorem dL_refuses_625 : decode cL_refuses 625 = .ok (.bipush (-72), 2) := by decide +kernel
theorem dL_refuses_627 : decode cL_refuses 627 = .ok (.if_icmp .ne 34, 3) := by decide +kernel
theorem dL_refuses_630 : decode cL_refuses 630 = .ok (.aload_n 0, 1) := by decide +kernel
theorem dL_refuses_631 : decode cL_refuses 631 = .ok (.iconst 1, 1) := by decide +kernel
theorem dL_refuses_632 : decode cL_refuses 632 = .ok (.iconst 0, 1) := by decide +kernel
theorem dL_refuses_633 : decode cL_refuses 633 = .ok (.iconst 0, 1) := by decide +kernel
theorem dL_refuses_634 : decode cL_refuses 634 = .ok (.iconst 0, 1) := by decide +kernel
theorem dL_refuses_635 : decode cL_refuses 635 = .ok (.iload 10, 2) := by decide +kernel
theorem dL_refuses_637 : decode cL_refuses 637 = .ok (.iconst 1, 1) := by decide +kernel
theorem dL_refuses_638 : decode cL_refuses 638 = .ok (.if_icmp .ne 9, 3) := by decide +kernel
theorem dL_refuses_641 : decode cL_refuses 641 = .ok (.iconst 1, 1) := by decide +kernel
theorem dL_refuses_642 : decode cL_refuses 642 = .ok (.iload_n 1, 1) := by decide +kernel
theorem dL_refuses_643 : decode cL_refuses 643 = .ok (.ishl, 1) := by decide +kernel
theorem dL_refuses_644 : decode cL_refuses 644 = .ok (.goto 5, 3) := by decide +kernel
theorem dL_refuses_647 : decode cL_refuses 647 = .ok (.iload 11, 2) := by decide +kernel
theorem dL_refuses_649 : decode cL_refuses 649 = .ok (.invokestatic 94, 3) := by decide +kernel
theorem dL_refuses_652 : decode cL_refuses 652 = .ok (.bipush (-72), 2) := by decide +kernel
theorem dL_refuses_654 : decode cL_refuses 654 = .ok (.if_icmp .ne 7, 3) := by decide +kernel
theorem dL_refuses_657 : decode cL_refuses 657 = .ok (.iconst 1, 1) := by decide +kernel
theorem dL_refuses_658 : decode cL_refuses 658 = .ok (.goto 4, 3) := by decide +kernel
theorem dL_refuses_661 : decode cL_refuses 661 = .ok (.iconst 0, 1) := by decide +kernel
theorem dL_refuses_662 : decode cL_refuses 662 = .ok (.istore 16, 2) := by decide +kernel
theorem dL_refuses_664 : decode cL_refuses 664 = .ok (.iload 16, 2) := by decide +kernel
theorem dL_refuses_666 : decode cL_refuses 666 = .ok (.ifCond .ne 5, 3) := by decide +kernel
theorem dL_refuses_669 : decode cL_refuses 669 = .ok (.iconst 0, 1) := by decide +kernel
theorem dL_refuses_670 : decode cL_refuses 670 = .ok (.ireturn, 1) := by decide +kernel
theorem dL_refuses_671 : decode cL_refuses 671 = .ok (.iinc 10 1, 3) := by decide +kernel
theorem dL_refuses_674 : decode cL_refuses 674 = .ok (.goto (-643), 3) := by decide +kernel
theorem dL_refuses_677 : decode cL_refuses 677 = .ok (.aload_n 0, 1) := by decide +kernel
theorem dL_refuses_678 : decode cL_refuses 678 = .ok (.invokevirtual 73, 3) := by decide +kernel
theorem dL_refuses_681 : decode cL_refuses 681 = .ok (.iload 5, 2) := by decide +kernel
theorem dL_refuses_683 : decode cL_refuses 683 = .ok (.if_icmp .ne 34, 3) := by decide +kernel
theorem dL_refuses_686 : decode cL_refuses 686 = .ok (.aload_n 0, 1) := by decide +kernel
theorem dL_refuses_687 : decode cL_refuses 687 = .ok (.invokevirtual 76, 3) := by decide +kernel
theorem dL_refuses_690 : decode cL_refuses 690 = .ok (.iload 6, 2) := by decide +kernel
theorem dL_refuses_692 : decode cL_refuses 692 = .ok (.if_icmp .ne 25, 3) := by decide +kernel
theorem dL_refuses_695 : decode cL_refuses 695 = .ok (.aload_n 0, 1) := by decide +kernel
theorem dL_refuses_696 : decode cL_refuses 696 = .ok (.invokevirtual 79, 3) := by decide +kernel
theorem dL_refuses_699 : decode cL_refuses 699 = .ok (.iload 7, 2) := by decide +kernel
theorem dL_refuses_701 : decode cL_refuses 701 = .ok (.if_icmp .ne 16, 3) := by decide +kernel
theorem dL_refuses_704 : decode cL_refuses 704 = .ok (.aload_n 0, 1) := by decide +kernel
theorem dL_refuses_705 : decode cL_refuses 705 = .ok (.invokevirtual 82, 3) := by decide +kernel
theorem dL_refuses_708 : decode cL_refuses 708 = .ok (.iload 8, 2) := by decide +kernel
theorem dL_refuses_710 : decode cL_refuses 710 = .ok (.if_icmp .ne 7, 3) := by decide +kernel
theorem dL_refuses_713 : decode cL_refuses 713 = .ok (.iconst 1, 1) := by decide +kernel
theorem dL_refuses_714 : decode cL_refuses 714 = .ok (.goto 4, 3) := by decide +kernel
theorem dL_refuses_717 : decode cL_refuses 717 = .ok (.iconst 0, 1) := by decide +kernel
theorem dL_refuses_718 : decode cL_refuses 718 = .ok (.ireturn, 1) := by decide +kernel
theorem dL_plan_0 : decode cL_plan 0 = .ok (.aload_n 0, 1) := by decide +kernel
theorem dL_plan_1 : decode cL_plan 1 = .ok (.invokevirtual 73, 3) := by decide +kernel
theorem dL_plan_4 : decode cL_plan 4 = .ok (.iload_n 1, 1) := by decide +kernel
theorem dL_plan_5 : decode cL_plan 5 = .ok (.if_icmp .ne 56, 3) := by decide +kernel
theorem dL_plan_8 : decode cL_plan 8 = .ok (.aload_n 0, 1) := by decide +kernel
theorem dL_plan_9 : decode cL_plan 9 = .ok (.invokevirtual 44, 3) := by decide +kernel
theorem dL_plan_12 : decode cL_plan 12 = .ok (.iload_n 1, 1) := by decide +kernel
theorem dL_plan_13 : decode cL_plan 13 = .ok (.if_icmp .ne 48, 3) := by decide +kernel
theorem dL_plan_16 : decode cL_plan 16 = .ok (.iload_n 2, 1) := by decide +kernel
theorem dL_plan_17 : decode cL_plan 17 = .ok (.ifCond .lt 12, 3) := by decide +kernel
theorem dL_plan_20 : decode cL_plan 20 = .ok (.aload_n 0, 1) := by decide +kernel
theorem dL_plan_21 : decode cL_plan 21 = .ok (.iconst 0, 1) := by decide +kernel
theorem dL_plan_22 : decode cL_plan 22 = .ok (.invokevirtual 51, 3) := by decide +kernel
theorem dL_plan_25 : decode cL_plan 25 = .ok (.iload_n 2, 1) := by decide +kernel
theorem dL_plan_26 : decode cL_plan 26 = .ok (.if_icmp .ne 35, 3) := by decide +kernel
theorem dL_plan_29 : decode cL_plan 29 = .ok (.iload_n 3, 1) := by decide +kernel
theorem dL_plan_30 : decode cL_plan 30 = .ok (.ifCond .lt 12, 3) := by decide +kernel
theorem dL_plan_33 : decode cL_plan 33 = .ok (.aload_n 0, 1) := by decide +kernel
theorem dL_plan_34 : decode cL_plan 34 = .ok (.iconst 1, 1) := by decide +kernel
theorem dL_plan_35 : decode cL_plan 35 = .ok (.invokevirtual 51, 3) := by decide +kernel
theorem dL_plan_38 : decode cL_plan 38 = .ok (.iload_n 3, 1) := by decide +kernel
theorem dL_plan_39 : decode cL_plan 39 = .ok (.if_icmp .ne 22, 3) := by decide +kernel
theorem dL_plan_42 : decode cL_plan 42 = .ok (.iload 4, 2) := by decide +kernel
theorem dL_plan_44 : decode cL_plan 44 = .ok (.ifCond .lt 13, 3) := by decide +kernel
theorem dL_plan_47 : decode cL_plan 47 = .ok (.aload_n 0, 1) := by decide +kernel
theorem dL_plan_48 : decode cL_plan 48 = .ok (.iconst 2, 1) := by decide +kernel
theorem dL_plan_49 : decode cL_plan 49 = .ok (.invokevirtual 51, 3) := by decide +kernel
theorem dL_plan_52 : decode cL_plan 52 = .ok (.iload 4, 2) := by decide +kernel
theorem dL_plan_54 : decode cL_plan 54 = .ok (.if_icmp .ne 7, 3) := by decide +kernel
theorem dL_plan_57 : decode cL_plan 57 = .ok (.iconst 1, 1) := by decide +kernel
theorem dL_plan_58 : decode cL_plan 58 = .ok (.goto 4, 3) := by decide +kernel
theorem dL_plan_61 : decode cL_plan 61 = .ok (.iconst 0, 1) := by decide +kernel
theorem dL_plan_62 : decode cL_plan 62 = .ok (.ireturn, 1) := by decide +kernel
theorem dL_house_0 : decode cL_house 0 = .ok (.new 8, 3) := by decide +kernel
theorem dL_house_3 : decode cL_house 3 = .ok (.dup, 1) := by decide +kernel
theorem dL_house_4 : decode cL_house 4 = .ok (.invokespecial 98, 3) := by decide +kernel
theorem dL_house_7 : decode cL_house 7 = .ok (.astore_n 0, 1) := by decide +kernel
theorem dL_house_8 : decode cL_house 8 = .ok (.aload_n 0, 1) := by decide +kernel
theorem dL_house_9 : decode cL_house 9 = .ok (.invokevirtual 99, 3) := by decide +kernel
theorem dL_house_12 : decode cL_house 12 = .ok (.ifCond .ne 344, 3) := by decide +kernel
theorem dL_house_15 : decode cL_house 15 = .ok (.aload_n 0, 1) := by decide +kernel
theorem dL_house_16 : decode cL_house 16 = .ok (.invokevirtual 102, 3) := by decide +kernel
theorem dL_house_19 : decode cL_house 19 = .ok (.ifCond .ne 337, 3) := by decide +kernel
theorem dL_house_22 : decode cL_house 22 = .ok (.aload_n 0, 1) := by decide +kernel
theorem dL_house_23 : decode cL_house 23 = .ok (.iconst 0, 1) := by decide +kernel
theorem dL_house_24 : decode cL_house 24 = .ok (.iconst (-1), 1) := by decide +kernel
theorem dL_house_25 : decode cL_house 25 = .ok (.iconst (-1), 1) := by decide +kernel
theorem dL_house_26 : decode cL_house 26 = .ok (.iconst (-1), 1) := by decide +kernel
theorem dL_house_27 : decode cL_house 27 = .ok (.invokestatic 105, 3) := by decide +kernel
theorem dL_house_30 : decode cL_house 30 = .ok (.ifCond .eq 326, 3) := by decide +kernel
theorem dL_house_33 : decode cL_house 33 = .ok (.aload_n 0, 1) := by decide +kernel
theorem dL_house_34 : decode cL_house 34 = .ok (.iconst 0, 1) := by decide +kernel
theorem dL_house_35 : decode cL_house 35 = .ok (.iconst 0, 1) := by decide +kernel
theorem dL_house_36 : decode cL_house 36 = .ok (.iconst 0, 1) := by decide +kernel
theorem dL_house_37 : decode cL_house 37 = .ok (.iconst 0, 1) := by decide +kernel
theorem dL_house_38 : decode cL_house 38 = .ok (.invokestatic 109, 3) := by decide +kernel
theorem dL_house_41 : decode cL_house 41 = .ok (.ifCond .eq 315, 3) := by decide +kernel
theorem dL_house_44 : decode cL_house 44 = .ok (.aload_n 0, 1) := by decide +kernel
theorem dL_house_45 : decode cL_house 45 = .ok (.iconst 4, 1) := by decide +kernel
theorem dL_house_46 : decode cL_house 46 = .ok (.iconst 0, 1) := by decide +kernel
theorem dL_house_47 : decode cL_house 47 = .ok (.iconst 1, 1) := by decide +kernel
theorem dL_house_48 : decode cL_house 48 = .ok (.iconst 0, 1) := by decide +kernel
theorem dL_house_49 : decode cL_house 49 = .ok (.iconst 0, 1) := by decide +kernel
theorem dL_house_50 : decode cL_house 50 = .ok (.invokevirtual 69, 3) := by decide +kernel
theorem dL_house_53 : decode cL_house 53 = .ok (.ifCond .ne 303, 3) := by decide +kernel
theorem dL_house_56 : decode cL_house 56 = .ok (.aload_n 0, 1) := by decide +kernel
theorem dL_house_57 : decode cL_house 57 = .ok (.iconst 1, 1) := by decide +kernel
theorem dL_house_58 : decode cL_house 58 = .ok (.bipush 8, 2) := by decide +kernel
theorem dL_house_60 : decode cL_house 60 = .ok (.iconst (-1), 1) := by decide +kernel
theorem dL_house_61 : decode cL_house 61 = .ok (.iconst (-1), 1) := by decide +kernel
theorem dL_house_62 : decode cL_house 62 = .ok (.invokestatic 105, 3) := by decide +kernel
theorem dL_house_65 : decode cL_house 65 = .ok (.ifCond .eq 291, 3) := by decide +kernel
theorem dL_house_68 : decode cL_house 68 = .ok (.aload_n 0, 1) := by decide +kernel
theorem dL_house_69 : decode cL_house 69 = .ok (.bipush 6, 2) := by decide +kernel
theorem dL_house_71 : decode cL_house 71 = .ok (.iconst 0, 1) := by decide +kernel
theorem dL_house_72 : decode cL_house 72 = .ok (.iconst 1, 1) := by decide +kernel
theorem dL_house_73 : decode cL_house 73 = .ok (.iconst 0, 1) := by decide +kernel
theorem dL_house_74 : decode cL_house 74 = .ok (.iconst 0, 1) := by decide +kernel
theorem dL_house_75 : decode cL_house 75 = .ok (.invokevirtual 69, 3) := by decide +kernel
theorem dL_house_78 : decode cL_house 78 = .ok (.iconst 1, 1) := by decide +kernel
theorem dL_house_79 : decode cL_house 79 = .ok (.if_icmp .ne 277, 3) := by decide +kernel
theorem dL_house_82 : decode cL_house 82 = .ok (.aload_n 0, 1) := by decide +kernel
theorem dL_house_83 : decode cL_house 83 = .ok (.iconst 1, 1) := by decide +kernel
theorem dL_house_84 : decode cL_house 84 = .ok (.bipush 8, 2) := by decide +kernel
theorem dL_house_86 : decode cL_house 86 = .ok (.bipush 12, 2) := by decide +kernel
theorem dL_house_88 : decode cL_house 88 = .ok (.iconst (-1), 1) := by decide +kernel
theorem dL_house_89 : decode cL_house 89 = .ok (.invokestatic 105, 3) := by decide +kernel
theorem dL_house_92 : decode cL_house 92 = .ok (.ifCond .eq 264, 3) := by decide +kernel
theorem dL_house_95 : decode cL_house 95 = .ok (.aload_n 0, 1) := by decide +kernel
theorem dL_house_96 : decode cL_house 96 = .ok (.bipush 6, 2) := by decide +kernel
theorem dL_house_98 : decode cL_house 98 = .ok (.iconst 1, 1) := by decide +kernel
theorem dL_house_99 : decode cL_house 99 = .ok (.iconst 2, 1) := by decide +kernel
theorem dL_house_100 : decode cL_house 100 = .ok (.iconst 0, 1) := by decide +kernel
theorem dL_house_101 : decode cL_house 101 = .ok (.iconst 0, 1) := by decide +kernel
theorem dL_house_102 : decode cL_house 102 = .ok (.invokevirtual 69, 3) := by decide +kernel
theorem dL_house_105 : decode cL_house 105 = .ok (.iconst 2, 1) := by decide +kernel
theorem dL_house_106 : decode cL_house 106 = .ok (.if_icmp .ne 250, 3) := by decide +kernel
theorem dL_house_109 : decode cL_house 109 = .ok (.aload_n 0, 1) := by decide +kernel
theorem dL_house_110 : decode cL_house 110 = .ok (.iconst 2, 1) := by decide +kernel
theorem dL_house_111 : decode cL_house 111 = .ok (.bipush 8, 2) := by decide +kernel
theorem dL_house_113 : decode cL_house 113 = .ok (.bipush 12, 2) := by decide +kernel
theorem dL_house_115 : decode cL_house 115 = .ok (.bipush 32, 2) := by decide +kernel
theorem dL_house_117 : decode cL_house 117 = .ok (.invokestatic 105, 3) := by decide +kernel
theorem dL_house_120 : decode cL_house 120 = .ok (.ifCond .eq 236, 3) := by decide +kernel
theorem dL_house_123 : decode cL_house 123 = .ok (.aload_n 0, 1) := by decide +kernel
theorem dL_house_124 : decode cL_house 124 = .ok (.iconst 0, 1) := by decide +kernel
theorem dL_house_125 : decode cL_house 125 = .ok (.invokevirtual 48, 3) := by decide +kernel
theorem dL_house_128 : decode cL_house 128 = .ok (.ifCond .ne 228, 3) := by decide +kernel
theorem dL_house_131 : decode cL_house 131 = .ok (.aload_n 0, 1) := by decide +kernel
theorem dL_house_132 : decode cL_house 132 = .ok (.iconst 2, 1) := by decide +kernel
theorem dL_house_133 : decode cL_house 133 = .ok (.invokevirtual 48, 3) := by decide +kernel
theorem dL_house_136 : decode cL_house 136 = .ok (.iconst 2, 1) := by decide +kernel
theorem dL_house_137 : decode cL_house 137 = .ok (.if_icmp .ne 219, 3) := by decide +kernel
theorem dL_house_140 : decode cL_house 140 = .ok (.aload_n 0, 1) := by decide +kernel
theorem dL_house_141 : decode cL_house 141 = .ok (.iconst 0, 1) := by decide +kernel
theorem dL_house_142 : decode cL_house 142 = .ok (.iconst 1, 1) := by decide +kernel
theorem dL_house_143 : decode cL_house 143 = .ok (.invokevirtual 13, 3) := by decide +kernel
theorem dL_house_146 : decode cL_house 146 = .ok (.ifCond .ne 210, 3) := by decide +kernel
theorem dL_house_149 : decode cL_house 149 = .ok (.aload_n 0, 1) := by decide +kernel
theorem dL_house_150 : decode cL_house 150 = .ok (.iconst 2, 1) := by decide +kernel
theorem dL_house_151 : decode cL_house 151 = .ok (.bipush 8, 2) := by decide +kernel
theorem dL_house_153 : decode cL_house 153 = .ok (.bipush 32, 2) := by decide +kernel
theorem dL_house_155 : decode cL_house 155 = .ok (.bipush 39, 2) := by decide +kernel
theorem dL_house_157 : decode cL_house 157 = .ok (.invokestatic 105, 3) := by decide +kernel
theorem dL_house_160 : decode cL_house 160 = .ok (.ifCond .eq 196, 3) := by decide +kernel
theorem dL_house_163 : decode cL_house 163 = .ok (.aload_n 0, 1) := by decide +kernel
theorem dL_house_164 : decode cL_house 164 = .ok (.iconst 0, 1) := by decide +kernel
theorem dL_house_165 : decode cL_house 165 = .ok (.iconst 0, 1) := by decide +kernel
theorem dL_house_166 : decode cL_house 166 = .ok (.invokevirtual 13, 3) := by decide +kernel
theorem dL_house_169 : decode cL_house 169 = .ok (.ifCond .eq 187, 3) := by decide +kernel
theorem dL_house_172 : decode cL_house 172 = .ok (.aload_n 0, 1) := by decide +kernel
theorem dL_house_173 : decode cL_house 173 = .ok (.iconst 2, 1) := by decide +kernel
theorem dL_house_174 : decode cL_house 174 = .ok (.bipush 8, 2) := by decide +kernel
theorem dL_house_176 : decode cL_house 176 = .ok (.bipush 12, 2) := by decide +kernel
theorem dL_house_178 : decode cL_house 178 = .ok (.bipush 32, 2) := by decide +kernel
theorem dL_house_180 : decode cL_house 180 = .ok (.invokestatic 105, 3) := by decide +kernel
theorem dL_house_183 : decode cL_house 183 = .ok (.ifCond .eq 173, 3) := by decide +kernel
theorem dL_house_186 : decode cL_house 186 = .ok (.aload_n 0, 1) := by decide +kernel
theorem dL_house_187 : decode cL_house 187 = .ok (.iconst 3, 1) := by decide +kernel
theorem dL_house_188 : decode cL_house 188 = .ok (.iconst 3, 1) := by decide +kernel
theorem dL_house_189 : decode cL_house 189 = .ok (.iconst 0, 1) := by decide +kernel
theorem dL_house_190 : decode cL_house 190 = .ok (.iconst 0, 1) := by decide +kernel
theorem dL_house_191 : decode cL_house 191 = .ok (.invokestatic 109, 3) := by decide +kernel
theorem dL_house_194 : decode cL_house 194 = .ok (.ifCond .eq 162, 3) := by decide +kernel
theorem dL_house_197 : decode cL_house 197 = .ok (.aload_n 0, 1) := by decide +kernel
theorem dL_house_198 : decode cL_house 198 = .ok (.iconst 3, 1) := by decide +kernel
theorem dL_house_199 : decode cL_house 199 = .ok (.iconst 0, 1) := by decide +kernel
theorem dL_house_200 : decode cL_house 200 = .ok (.iconst 0, 1) := by decide +kernel
theorem dL_house_201 : decode cL_house 201 = .ok (.iconst 0, 1) := by decide +kernel
theorem dL_house_202 : decode cL_house 202 = .ok (.invokestatic 87, 3) := by decide +kernel
theorem dL_house_205 : decode cL_house 205 = .ok (.bipush (-73), 2) := by decide +kernel
theorem dL_house_207 : decode cL_house 207 = .ok (.if_icmp .ne 149, 3) := by decide +kernel
theorem dL_house_210 : decode cL_house 210 = .ok (.aload_n 0, 1) := by decide +kernel
theorem dL_house_211 : decode cL_house 211 = .ok (.iconst 0, 1) := by decide +kernel
theorem dL_house_212 : decode cL_house 212 = .ok (.sipush 500, 3) := by decide +kernel
theorem dL_house_215 : decode cL_house 215 = .ok (.invokevirtual 24, 3) := by decide +kernel
theorem dL_house_218 : decode cL_house 218 = .ok (.sipush 500, 3) := by decide +kernel
theorem dL_house_221 : decode cL_house 221 = .ok (.if_icmp .ne 135, 3) := by decide +kernel
theorem dL_house_224 : decode cL_house 224 = .ok (.aload_n 0, 1) := by decide +kernel
theorem dL_house_225 : decode cL_house 225 = .ok (.iconst 3, 1) := by decide +kernel
theorem dL_house_226 : decode cL_house 226 = .ok (.iconst 0, 1) := by decide +kernel
theorem dL_house_227 : decode cL_house 227 = .ok (.iconst 0, 1) := by decide +kernel
theorem dL_house_228 : decode cL_house 228 = .ok (.iconst 0, 1) := by decide +kernel
theorem dL_house_229 : decode cL_house 229 = .ok (.invokestatic 87, 3) := by decide +kernel
theorem dL_house_232 : decode cL_house 232 = .ok (.bipush (-73), 2) := by decide +kernel
theorem dL_house_234 : decode cL_house 234 = .ok (.if_icmp .ne 122, 3) := by decide +kernel
theorem dL_house_237 : decode cL_house 237 = .ok (.aload_n 0, 1) := by decide +kernel
theorem dL_house_238 : decode cL_house 238 = .ok (.invokevirtual 99, 3) := by decide +kernel
theorem dL_house_241 : decode cL_house 241 = .ok (.ifCond .ne 115, 3) := by decide +kernel
theorem dL_house_244 : decode cL_house 244 = .ok (.aload_n 0, 1) := by decide +kernel
theorem dL_house_245 : decode cL_house 245 = .ok (.sipush 600, 3) := by decide +kernel
theorem dL_house_248 : decode cL_house 248 = .ok (.invokevirtual 27, 3) := by decide +kernel
theorem dL_house_251 : decode cL_house 251 = .ok (.sipush 600, 3) := by decide +kernel
theorem dL_house_254 : decode cL_house 254 = .ok (.if_icmp .ne 102, 3) := by decide +kernel
theorem dL_house_257 : decode cL_house 257 = .ok (.aload_n 0, 1) := by decide +kernel
theorem dL_house_258 : decode cL_house 258 = .ok (.iconst 0, 1) := by decide +kernel
theorem dL_house_259 : decode cL_house 259 = .ok (.invokevirtual 20, 3) := by decide +kernel
theorem dL_house_262 : decode cL_house 262 = .ok (.iconst 2, 1) := by decide +kernel
theorem dL_house_263 : decode cL_house 263 = .ok (.if_icmp .ne 93, 3) := by decide +kernel
theorem dL_house_266 : decode cL_house 266 = .ok (.aload_n 0, 1) := by decide +kernel
theorem dL_house_267 : decode cL_house 267 = .ok (.invokevirtual 99, 3) := by decide +kernel
theorem dL_house_270 : decode cL_house 270 = .ok (.iconst 1, 1) := by decide +kernel
theorem dL_house_271 : decode cL_house 271 = .ok (.if_icmp .ne 85, 3) := by decide +kernel
theorem dL_house_274 : decode cL_house 274 = .ok (.aload_n 0, 1) := by decide +kernel
theorem dL_house_275 : decode cL_house 275 = .ok (.invokevirtual 102, 3) := by decide +kernel
theorem dL_house_278 : decode cL_house 278 = .ok (.iconst 3, 1) := by decide +kernel
theorem dL_house_279 : decode cL_house 279 = .ok (.if_icmp .ne 77, 3) := by decide +kernel
theorem dL_house_282 : decode cL_house 282 = .ok (.aload_n 0, 1) := by decide +kernel
theorem dL_house_283 : decode cL_house 283 = .ok (.iconst 0, 1) := by decide +kernel
theorem dL_house_284 : decode cL_house 284 = .ok (.invokevirtual 54, 3) := by decide +kernel
theorem dL_house_287 : decode cL_house 287 = .ok (.ifCond .ne 69, 3) := by decide +kernel
theorem dL_house_290 : decode cL_house 290 = .ok (.aload_n 0, 1) := by decide +kernel
theorem dL_house_291 : decode cL_house 291 = .ok (.invokevirtual 76, 3) := by decide +kernel
theorem dL_house_294 : decode cL_house 294 = .ok (.bipush 100, 2) := by decide +kernel
theorem dL_house_296 : decode cL_house 296 = .ok (.if_icmp .ne 60, 3) := by decide +kernel
theorem dL_house_299 : decode cL_house 299 = .ok (.aload_n 0, 1) := by decide +kernel
theorem dL_house_300 : decode cL_house 300 = .ok (.invokevirtual 79, 3) := by decide +kernel
theorem dL_house_303 : decode cL_house 303 = .ok (.sipush 1000, 3) := by decide +kernel
theorem dL_house_306 : decode cL_house 306 = .ok (.if_icmp .ne 50, 3) := by decide +kernel
theorem dL_house_309 : decode cL_house 309 = .ok (.aload_n 0, 1) := by decide +kernel
theorem dL_house_310 : decode cL_house 310 = .ok (.invokevirtual 112, 3) := by decide +kernel
theorem dL_house_313 : decode cL_house 313 = .ok (.sipush 1000, 3) := by decide +kernel
theorem dL_house_316 : decode cL_house 316 = .ok (.if_icmp .ne 40, 3) := by decide +kernel
theorem dL_house_319 : decode cL_house 319 = .ok (.aload_n 0, 1) := by decide +kernel
theorem dL_house_320 : decode cL_house 320 = .ok (.iconst 1, 1) := by decide +kernel
theorem dL_house_321 : decode cL_house 321 = .ok (.bipush 8, 2) := by decide +kernel
theorem dL_house_323 : decode cL_house 323 = .ok (.bipush 12, 2) := by decide +kernel
theorem dL_house_325 : decode cL_house 325 = .ok (.bipush 32, 2) := by decide +kernel
theorem dL_house_327 : decode cL_house 327 = .ok (.invokestatic 105, 3) := by decide +kernel
theorem dL_house_330 : decode cL_house 330 = .ok (.ifCond .eq 26, 3) := by decide +kernel
theorem dL_house_333 : decode cL_house 333 = .ok (.aload_n 0, 1) := by decide +kernel
theorem dL_house_334 : decode cL_house 334 = .ok (.iconst 0, 1) := by decide +kernel
theorem dL_house_335 : decode cL_house 335 = .ok (.invokevirtual 48, 3) := by decide +kernel
theorem dL_house_338 : decode cL_house 338 = .ok (.iconst 2, 1) := by decide +kernel
theorem dL_house_339 : decode cL_house 339 = .ok (.if_icmp .ne 17, 3) := by decide +kernel
theorem dL_house_342 : decode cL_house 342 = .ok (.aload_n 0, 1) := by decide +kernel
theorem dL_house_343 : decode cL_house 343 = .ok (.bipush 11, 2) := by decide +kernel
theorem dL_house_345 : decode cL_house 345 = .ok (.iconst 1, 1) := by decide +kernel
theorem dL_house_346 : decode cL_house 346 = .ok (.iconst 0, 1) := by decide +kernel
theorem dL_house_347 : decode cL_house 347 = .ok (.iconst 0, 1) := by decide +kernel
theorem dL_house_348 : decode cL_house 348 = .ok (.invokestatic 87, 3) := by decide +kernel
theorem dL_house_351 : decode cL_house 351 = .ok (.bipush (-71), 2) := by decide +kernel
theorem dL_house_353 : decode cL_house 353 = .ok (.if_icmp .eq 5, 3) := by decide +kernel
theorem dL_house_356 : decode cL_house 356 = .ok (.iconst 0, 1) := by decide +kernel
theorem dL_house_357 : decode cL_house 357 = .ok (.ireturn, 1) := by decide +kernel
theorem dL_house_358 : decode cL_house 358 = .ok (.aload_n 0, 1) := by decide +kernel
theorem dL_house_359 : decode cL_house 359 = .ok (.iconst 1, 1) := by decide +kernel
theorem dL_house_360 : decode cL_house 360 = .ok (.iconst 1, 1) := by decide +kernel
theorem dL_house_361 : decode cL_house 361 = .ok (.invokevirtual 7, 3) := by decide +kernel
theorem dL_house_364 : decode cL_house 364 = .ok (.ifCond .ne 263, 3) := by decide +kernel
theorem dL_house_367 : decode cL_house 367 = .ok (.aload_n 0, 1) := by decide +kernel
theorem dL_house_368 : decode cL_house 368 = .ok (.iconst 1, 1) := by decide +kernel
theorem dL_house_369 : decode cL_house 369 = .ok (.invokevirtual 20, 3) := by decide +kernel
theorem dL_house_372 : decode cL_house 372 = .ok (.ifCond .ne 255, 3) := by decide +kernel
theorem dL_house_375 : decode cL_house 375 = .ok (.aload_n 0, 1) := by decide +kernel
theorem dL_house_376 : decode cL_house 376 = .ok (.invokevirtual 99, 3) := by decide +kernel
theorem dL_house_379 : decode cL_house 379 = .ok (.iconst 2, 1) := by decide +kernel
theorem dL_house_380 : decode cL_house 380 = .ok (.if_icmp .ne 247, 3) := by decide +kernel
theorem dL_house_383 : decode cL_house 383 = .ok (.aload_n 0, 1) := by decide +kernel
theorem dL_house_384 : decode cL_house 384 = .ok (.invokevirtual 79, 3) := by decide +kernel
theorem dL_house_387 : decode cL_house 387 = .ok (.sipush 1000, 3) := by decide +kernel
theorem dL_house_390 : decode cL_house 390 = .ok (.if_icmp .ne 237, 3) := by decide +kernel
theorem dL_house_393 : decode cL_house 393 = .ok (.aload_n 0, 1) := by decide +kernel
theorem dL_house_394 : decode cL_house 394 = .ok (.iconst 1, 1) := by decide +kernel
theorem dL_house_395 : decode cL_house 395 = .ok (.bipush 8, 2) := by decide +kernel
theorem dL_house_397 : decode cL_house 397 = .ok (.bipush 12, 2) := by decide +kernel
theorem dL_house_399 : decode cL_house 399 = .ok (.bipush 56, 2) := by decide +kernel
theorem dL_house_401 : decode cL_house 401 = .ok (.invokestatic 105, 3) := by decide +kernel
theorem dL_house_404 : decode cL_house 404 = .ok (.ifCond .eq 223, 3) := by decide +kernel
theorem dL_house_407 : decode cL_house 407 = .ok (.aload_n 0, 1) := by decide +kernel
theorem dL_house_408 : decode cL_house 408 = .ok (.iconst 1, 1) := by decide +kernel
theorem dL_house_409 : decode cL_house 409 = .ok (.invokevirtual 115, 3) := by decide +kernel
theorem dL_house_412 : decode cL_house 412 = .ok (.ifCond .ne 215, 3) := by decide +kernel
theorem dL_house_415 : decode cL_house 415 = .ok (.aload_n 0, 1) := by decide +kernel
theorem dL_house_416 : decode cL_house 416 = .ok (.iconst 3, 1) := by decide +kernel
theorem dL_house_417 : decode cL_house 417 = .ok (.iconst 1, 1) := by decide +kernel
theorem dL_house_418 : decode cL_house 418 = .ok (.iconst 0, 1) := by decide +kernel
theorem dL_house_419 : decode cL_house 419 = .ok (.iconst 0, 1) := by decide +kernel
theorem dL_house_420 : decode cL_house 420 = .ok (.invokestatic 87, 3) := by decide +kernel
theorem dL_house_423 : decode cL_house 423 = .ok (.bipush (-73), 2) := by decide +kernel
theorem dL_house_425 : decode cL_house 425 = .ok (.if_icmp .ne 202, 3) := by decide +kernel
theorem dL_house_428 : decode cL_house 428 = .ok (.aload_n 0, 1) := by decide +kernel
theorem dL_house_429 : decode cL_house 429 = .ok (.iconst 0, 1) := by decide +kernel
theorem dL_house_430 : decode cL_house 430 = .ok (.sipush 600, 3) := by decide +kernel
theorem dL_house_433 : decode cL_house 433 = .ok (.invokevirtual 24, 3) := by decide +kernel
theorem dL_house_436 : decode cL_house 436 = .ok (.sipush 600, 3) := by decide +kernel
theorem dL_house_439 : decode cL_house 439 = .ok (.if_icmp .ne 188, 3) := by decide +kernel
theorem dL_house_442 : decode cL_house 442 = .ok (.aload_n 0, 1) := by decide +kernel
theorem dL_house_443 : decode cL_house 443 = .ok (.iconst 1, 1) := by decide +kernel
theorem dL_house_444 : decode cL_house 444 = .ok (.invokevirtual 20, 3) := by decide +kernel
theorem dL_house_447 : decode cL_house 447 = .ok (.iconst 1, 1) := by decide +kernel
theorem dL_house_448 : decode cL_house 448 = .ok (.if_icmp .ne 179, 3) := by decide +kernel
theorem dL_house_451 : decode cL_house 451 = .ok (.aload_n 0, 1) := by decide +kernel
theorem dL_house_452 : decode cL_house 452 = .ok (.iconst 0, 1) := by decide +kernel
theorem dL_house_453 : decode cL_house 453 = .ok (.invokevirtual 54, 3) := by decide +kernel
theorem dL_house_456 : decode cL_house 456 = .ok (.ifCond .ne 171, 3) := by decide +kernel
theorem dL_house_459 : decode cL_house 459 = .ok (.aload_n 0, 1) := by decide +kernel
theorem dL_house_460 : decode cL_house 460 = .ok (.iconst 1, 1) := by decide +kernel
theorem dL_house_461 : decode cL_house 461 = .ok (.invokevirtual 54, 3) := by decide +kernel
theorem dL_house_464 : decode cL_house 464 = .ok (.ifCond .ne 163, 3) := by decide +kernel
theorem dL_house_467 : decode cL_house 467 = .ok (.aload_n 0, 1) := by decide +kernel
theorem dL_house_468 : decode cL_house 468 = .ok (.invokevirtual 76, 3) := by decide +kernel
theorem dL_house_471 : decode cL_house 471 = .ok (.bipush 50, 2) := by decide +kernel
theorem dL_house_473 : decode cL_house 473 = .ok (.if_icmp .ne 154, 3) := by decide +kernel
theorem dL_house_476 : decode cL_house 476 = .ok (.aload_n 0, 1) := by decide +kernel
theorem dL_house_477 : decode cL_house 477 = .ok (.invokevirtual 79, 3) := by decide +kernel
theorem dL_house_480 : decode cL_house 480 = .ok (.sipush 1650, 3) := by decide +kernel
theorem dL_house_483 : decode cL_house 483 = .ok (.if_icmp .ne 144, 3) := by decide +kernel
theorem dL_house_486 : decode cL_house 486 = .ok (.aload_n 0, 1) := by decide +kernel
theorem dL_house_487 : decode cL_house 487 = .ok (.invokevirtual 102, 3) := by decide +kernel
theorem dL_house_490 : decode cL_house 490 = .ok (.bipush 7, 2) := by decide +kernel
theorem dL_house_492 : decode cL_house 492 = .ok (.if_icmp .ne 135, 3) := by decide +kernel
theorem dL_house_495 : decode cL_house 495 = .ok (.aload_n 0, 1) := by decide +kernel
theorem dL_house_496 : decode cL_house 496 = .ok (.iconst 0, 1) := by decide +kernel
theorem dL_house_497 : decode cL_house 497 = .ok (.bipush 8, 2) := by decide +kernel
theorem dL_house_499 : decode cL_house 499 = .ok (.bipush 12, 2) := by decide +kernel
theorem dL_house_501 : decode cL_house 501 = .ok (.bipush 56, 2) := by decide +kernel
theorem dL_house_503 : decode cL_house 503 = .ok (.invokestatic 105, 3) := by decide +kernel
theorem dL_house_506 : decode cL_house 506 = .ok (.ifCond .eq 121, 3) := by decide +kernel
theorem dL_house_509 : decode cL_house 509 = .ok (.aload_n 0, 1) := by decide +kernel
theorem dL_house_510 : decode cL_house 510 = .ok (.invokevirtual 99, 3) := by decide +kernel
theorem dL_house_513 : decode cL_house 513 = .ok (.iconst 3, 1) := by decide +kernel
theorem dL_house_514 : decode cL_house 514 = .ok (.if_icmp .ne 113, 3) := by decide +kernel
theorem dL_house_517 : decode cL_house 517 = .ok (.aload_n 0, 1) := by decide +kernel
theorem dL_house_518 : decode cL_house 518 = .ok (.iconst 0, 1) := by decide +kernel
theorem dL_house_519 : decode cL_house 519 = .ok (.invokevirtual 20, 3) := by decide +kernel
theorem dL_house_522 : decode cL_house 522 = .ok (.ifCond .ne 105, 3) := by decide +kernel
theorem dL_house_525 : decode cL_house 525 = .ok (.aload_n 0, 1) := by decide +kernel
theorem dL_house_526 : decode cL_house 526 = .ok (.invokevirtual 76, 3) := by decide +kernel
theorem dL_house_529 : decode cL_house 529 = .ok (.ifCond .ne 98, 3) := by decide +kernel
theorem dL_house_532 : decode cL_house 532 = .ok (.aload_n 0, 1) := by decide +kernel
theorem dL_house_533 : decode cL_house 533 = .ok (.invokevirtual 79, 3) := by decide +kernel
theorem dL_house_536 : decode cL_house 536 = .ok (.sipush 1700, 3) := by decide +kernel
theorem dL_house_539 : decode cL_house 539 = .ok (.if_icmp .ne 88, 3) := by decide +kernel
theorem dL_house_542 : decode cL_house 542 = .ok (.aload_n 0, 1) := by decide +kernel
theorem dL_house_543 : decode cL_house 543 = .ok (.iconst 3, 1) := by decide +kernel
theorem dL_house_544 : decode cL_house 544 = .ok (.iconst 0, 1) := by decide +kernel
theorem dL_house_545 : decode cL_house 545 = .ok (.iconst 0, 1) := by decide +kernel
theorem dL_house_546 : decode cL_house 546 = .ok (.iconst 0, 1) := by decide +kernel
theorem dL_house_547 : decode cL_house 547 = .ok (.invokestatic 87, 3) := by decide +kernel
theorem dL_house_550 : decode cL_house 550 = .ok (.bipush (-73), 2) := by decide +kernel
theorem dL_house_552 : decode cL_house 552 = .ok (.if_icmp .ne 75, 3) := by decide +kernel
theorem dL_house_555 : decode cL_house 555 = .ok (.aload_n 0, 1) := by decide +kernel
theorem dL_house_556 : decode cL_house 556 = .ok (.iconst 0, 1) := by decide +kernel
theorem dL_house_557 : decode cL_house 557 = .ok (.invokevirtual 115, 3) := by decide +kernel
theorem dL_house_560 : decode cL_house 560 = .ok (.ifCond .eq 67, 3) := by decide +kernel
theorem dL_house_563 : decode cL_house 563 = .ok (.aload_n 0, 1) := by decide +kernel
theorem dL_house_564 : decode cL_house 564 = .ok (.iconst 1, 1) := by decide +kernel
theorem dL_house_565 : decode cL_house 565 = .ok (.invokevirtual 20, 3) := by decide +kernel
theorem dL_house_568 : decode cL_house 568 = .ok (.ifCond .ne 59, 3) := by decide +kernel
theorem dL_house_571 : decode cL_house 571 = .ok (.aload_n 0, 1) := by decide +kernel
theorem dL_house_572 : decode cL_house 572 = .ok (.invokevirtual 99, 3) := by decide +kernel
theorem dL_house_575 : decode cL_house 575 = .ok (.iconst 5, 1) := by decide +kernel
theorem dL_house_576 : decode cL_house 576 = .ok (.if_icmp .ne 51, 3) := by decide +kernel
theorem dL_house_579 : decode cL_house 579 = .ok (.aload_n 0, 1) := by decide +kernel
theorem dL_house_580 : decode cL_house 580 = .ok (.iconst 0, 1) := by decide +kernel
theorem dL_house_581 : decode cL_house 581 = .ok (.iconst 0, 1) := by decide +kernel
theorem dL_house_582 : decode cL_house 582 = .ok (.invokevirtual 16, 3) := by decide +kernel
theorem dL_house_585 : decode cL_house 585 = .ok (.bipush 100, 2) := by decide +kernel
theorem dL_house_587 : decode cL_house 587 = .ok (.if_icmp .ne 40, 3) := by decide +kernel
theorem dL_house_590 : decode cL_house 590 = .ok (.aload_n 0, 1) := by decide +kernel
theorem dL_house_591 : decode cL_house 591 = .ok (.iconst 1, 1) := by decide +kernel
theorem dL_house_592 : decode cL_house 592 = .ok (.invokevirtual 115, 3) := by decide +kernel
theorem dL_house_595 : decode cL_house 595 = .ok (.ifCond .ne 32, 3) := by decide +kernel
theorem dL_house_598 : decode cL_house 598 = .ok (.aload_n 0, 1) := by decide +kernel
theorem dL_house_599 : decode cL_house 599 = .ok (.iconst 1, 1) := by decide +kernel
theorem dL_house_600 : decode cL_house 600 = .ok (.invokevirtual 20, 3) := by decide +kernel
theorem dL_house_603 : decode cL_house 603 = .ok (.ifCond .ne 24, 3) := by decide +kernel
theorem dL_house_606 : decode cL_house 606 = .ok (.aload_n 0, 1) := by decide +kernel
theorem dL_house_607 : decode cL_house 607 = .ok (.invokevirtual 79, 3) := by decide +kernel
theorem dL_house_610 : decode cL_house 610 = .ok (.sipush 1700, 3) := by decide +kernel
theorem dL_house_613 : decode cL_house 613 = .ok (.if_icmp .ne 14, 3) := by decide +kernel
theorem dL_house_616 : decode cL_house 616 = .ok (.aload_n 0, 1) := by decide +kernel
theorem dL_house_617 : decode cL_house 617 = .ok (.iconst 3, 1) := by decide +kernel
theorem dL_house_618 : decode cL_house 618 = .ok (.iconst 0, 1) := by decide +kernel
theorem dL_house_619 : decode cL_house 619 = .ok (.iconst 0, 1) := by decide +kernel
theorem dL_house_620 : decode cL_house 620 = .ok (.iconst 0, 1) := by decide +kernel
theorem dL_house_621 : decode cL_house 621 = .ok (.invokestatic 109, 3) := by decide +kernel
theorem dL_house_624 : decode cL_house 624 = .ok (.ifCond .ne 5, 3) := by decide +kernel
theorem dL_house_627 : decode cL_house 627 = .ok (.iconst 0, 1) := by decide +kernel
theorem dL_house_628 : decode cL_house 628 = .ok (.ireturn, 1) := by decide +kernel
theorem dL_house_629 : decode cL_house 629 = .ok (.aload_n 0, 1) := by decide +kernel
theorem dL_house_630 : decode cL_house 630 = .ok (.iconst 1, 1) := by decide +kernel
theorem dL_house_631 : decode cL_house 631 = .ok (.sipush 300, 3) := by decide +kernel
theorem dL_house_634 : decode cL_house 634 = .ok (.invokevirtual 34, 3) := by decide +kernel
theorem dL_house_637 : decode cL_house 637 = .ok (.ifCond .ne 333, 3) := by decide +kernel
theorem dL_house_640 : decode cL_house 640 = .ok (.aload_n 0, 1) := by decide +kernel
theorem dL_house_641 : decode cL_house 641 = .ok (.iconst 2, 1) := by decide +kernel
theorem dL_house_642 : decode cL_house 642 = .ok (.sipush 200, 3) := by decide +kernel
theorem dL_house_645 : decode cL_house 645 = .ok (.invokevirtual 34, 3) := by decide +kernel
theorem dL_house_648 : decode cL_house 648 = .ok (.iconst 1, 1) := by decide +kernel
theorem dL_house_649 : decode cL_house 649 = .ok (.if_icmp .ne 321, 3) := by decide +kernel
theorem dL_house_652 : decode cL_house 652 = .ok (.aload_n 0, 1) := by decide +kernel
theorem dL_house_653 : decode cL_house 653 = .ok (.iconst (-1), 1) := by decide +kernel
theorem dL_house_654 : decode cL_house 654 = .ok (.iconst 3, 1) := by decide +kernel
theorem dL_house_655 : decode cL_house 655 = .ok (.bipush 50, 2) := by decide +kernel
theorem dL_house_657 : decode cL_house 657 = .ok (.invokevirtual 37, 3) := by decide +kernel
theorem dL_house_660 : decode cL_house 660 = .ok (.ifCond .ne 310, 3) := by decide +kernel
theorem dL_house_663 : decode cL_house 663 = .ok (.aload_n 0, 1) := by decide +kernel
theorem dL_house_664 : decode cL_house 664 = .ok (.iconst 0, 1) := by decide +kernel
theorem dL_house_665 : decode cL_house 665 = .ok (.iconst 4, 1) := by decide +kernel
theorem dL_house_666 : decode cL_house 666 = .ok (.bipush 20, 2) := by decide +kernel
theorem dL_house_668 : decode cL_house 668 = .ok (.invokevirtual 37, 3) := by decide +kernel
theorem dL_house_671 : decode cL_house 671 = .ok (.iconst 1, 1) := by decide +kernel
theorem dL_house_672 : decode cL_house 672 = .ok (.if_icmp .ne 298, 3) := by decide +kernel
theorem dL_house_675 : decode cL_house 675 = .ok (.aload_n 0, 1) := by decide +kernel
theorem dL_house_676 : decode cL_house 676 = .ok (.iconst 1, 1) := by decide +kernel
theorem dL_house_677 : decode cL_house 677 = .ok (.iconst 5, 1) := by decide +kernel
theorem dL_house_678 : decode cL_house 678 = .ok (.bipush 50, 2) := by decide +kernel
theorem dL_house_680 : decode cL_house 680 = .ok (.invokevirtual 37, 3) := by decide +kernel
theorem dL_house_683 : decode cL_house 683 = .ok (.iconst 2, 1) := by decide +kernel
theorem dL_house_684 : decode cL_house 684 = .ok (.if_icmp .ne 286, 3) := by decide +kernel
theorem dL_house_687 : decode cL_house 687 = .ok (.aload_n 0, 1) := by decide +kernel
theorem dL_house_688 : decode cL_house 688 = .ok (.bipush 8, 2) := by decide +kernel
theorem dL_house_690 : decode cL_house 690 = .ok (.iconst (-1), 1) := by decide +kernel
theorem dL_house_691 : decode cL_house 691 = .ok (.iconst 3, 1) := by decide +kernel
theorem dL_house_692 : decode cL_house 692 = .ok (.bipush 51, 2) := by decide +kernel
theorem dL_house_694 : decode cL_house 694 = .ok (.invokestatic 87, 3) := by decide +kernel
theorem dL_house_697 : decode cL_house 697 = .ok (.bipush (-73), 2) := by decide +kernel
theorem dL_house_699 : decode cL_house 699 = .ok (.if_icmp .ne 271, 3) := by decide +kernel
theorem dL_house_702 : decode cL_house 702 = .ok (.aload_n 0, 1) := by decide +kernel
theorem dL_house_703 : decode cL_house 703 = .ok (.iconst (-1), 1) := by decide +kernel
theorem dL_house_704 : decode cL_house 704 = .ok (.iconst 2, 1) := by decide +kernel
theorem dL_house_705 : decode cL_house 705 = .ok (.bipush 25, 2) := by decide +kernel
theorem dL_house_707 : decode cL_house 707 = .ok (.invokevirtual 37, 3) := by decide +kernel
theorem dL_house_710 : decode cL_house 710 = .ok (.iconst 3, 1) := by decide +kernel
theorem dL_house_711 : decode cL_house 711 = .ok (.if_icmp .ne 259, 3) := by decide +kernel
theorem dL_house_714 : decode cL_house 714 = .ok (.aload_n 0, 1) := by decide +kernel
theorem dL_house_715 : decode cL_house 715 = .ok (.bipush 8, 2) := by decide +kernel
theorem dL_house_717 : decode cL_house 717 = .ok (.iconst 0, 1) := by decide +kernel
theorem dL_house_718 : decode cL_house 718 = .ok (.iconst 3, 1) := by decide +kernel
theorem dL_house_719 : decode cL_house 719 = .ok (.bipush 81, 2) := by decide +kernel
theorem dL_house_721 : decode cL_house 721 = .ok (.invokestatic 87, 3) := by decide +kernel
theorem dL_house_724 : decode cL_house 724 = .ok (.bipush (-73), 2) := by decide +kernel
theorem dL_house_726 : decode cL_house 726 = .ok (.if_icmp .ne 244, 3) := by decide +kernel
theorem dL_house_729 : decode cL_house 729 = .ok (.aload_n 0, 1) := by decide +kernel
theorem dL_house_730 : decode cL_house 730 = .ok (.sipush 1000, 3) := by decide +kernel
theorem dL_house_733 : decode cL_house 733 = .ok (.invokevirtual 41, 3) := by decide +kernel
theorem dL_house_736 : decode cL_house 736 = .ok (.ifCond .ne 234, 3) := by decide +kernel
theorem dL_house_739 : decode cL_house 739 = .ok (.aload_n 0, 1) := by decide +kernel
theorem dL_house_740 : decode cL_house 740 = .ok (.invokevirtual 112, 3) := by decide +kernel
theorem dL_house_743 : decode cL_house 743 = .ok (.sipush 700, 3) := by decide +kernel
theorem dL_house_746 : decode cL_house 746 = .ok (.if_icmp .ne 224, 3) := by decide +kernel
theorem dL_house_749 : decode cL_house 749 = .ok (.aload_n 0, 1) := by decide +kernel
theorem dL_house_750 : decode cL_house 750 = .ok (.iconst 0, 1) := by decide +kernel
theorem dL_house_751 : decode cL_house 751 = .ok (.invokevirtual 57, 3) := by decide +kernel
theorem dL_house_754 : decode cL_house 754 = .ok (.sipush 300, 3) := by decide +kernel
theorem dL_house_757 : decode cL_house 757 = .ok (.if_icmp .ne 213, 3) := by decide +kernel
theorem dL_house_760 : decode cL_house 760 = .ok (.aload_n 0, 1) := by decide +kernel
theorem dL_house_761 : decode cL_house 761 = .ok (.sipush 1000, 3) := by decide +kernel
theorem dL_house_764 : decode cL_house 764 = .ok (.invokevirtual 41, 3) := by decide +kernel
theorem dL_house_767 : decode cL_house 767 = .ok (.ifCond .ne 203, 3) := by decide +kernel
theorem dL_house_770 : decode cL_house 770 = .ok (.aload_n 0, 1) := by decide +kernel
theorem dL_house_771 : decode cL_house 771 = .ok (.invokevirtual 112, 3) := by decide +kernel
theorem dL_house_774 : decode cL_house 774 = .ok (.ifCond .ne 196, 3) := by decide +kernel
theorem dL_house_777 : decode cL_house 777 = .ok (.aload_n 0, 1) := by decide +kernel
theorem dL_house_778 : decode cL_house 778 = .ok (.iconst 0, 1) := by decide +kernel
theorem dL_house_779 : decode cL_house 779 = .ok (.invokevirtual 57, 3) := by decide +kernel
theorem dL_house_782 : decode cL_house 782 = .ok (.ifCond .ne 188, 3) := by decide +kernel
theorem dL_house_785 : decode cL_house 785 = .ok (.aload_n 0, 1) := by decide +kernel
theorem dL_house_786 : decode cL_house 786 = .ok (.iconst 1, 1) := by decide +kernel
theorem dL_house_787 : decode cL_house 787 = .ok (.invokevirtual 57, 3) := by decide +kernel
theorem dL_house_790 : decode cL_house 790 = .ok (.sipush 200, 3) := by decide +kernel
theorem dL_house_793 : decode cL_house 793 = .ok (.if_icmp .ne 177, 3) := by decide +kernel
theorem dL_house_796 : decode cL_house 796 = .ok (.aload_n 0, 1) := by decide +kernel
theorem dL_house_797 : decode cL_house 797 = .ok (.iconst 1, 1) := by decide +kernel
theorem dL_house_798 : decode cL_house 798 = .ok (.invokevirtual 60, 3) := by decide +kernel
theorem dL_house_801 : decode cL_house 801 = .ok (.sipush 300, 3) := by decide +kernel
theorem dL_house_804 : decode cL_house 804 = .ok (.if_icmp .ne 166, 3) := by decide +kernel
theorem dL_house_807 : decode cL_house 807 = .ok (.aload_n 0, 1) := by decide +kernel
theorem dL_house_808 : decode cL_house 808 = .ok (.iconst 3, 1) := by decide +kernel
theorem dL_house_809 : decode cL_house 809 = .ok (.invokevirtual 60, 3) := by decide +kernel
theorem dL_house_812 : decode cL_house 812 = .ok (.ifCond .ne 158, 3) := by decide +kernel
theorem dL_house_815 : decode cL_house 815 = .ok (.aload_n 0, 1) := by decide +kernel
theorem dL_house_816 : decode cL_house 816 = .ok (.sipush 1200, 3) := by decide +kernel
theorem dL_house_819 : decode cL_house 819 = .ok (.invokevirtual 41, 3) := by decide +kernel
theorem dL_house_822 : decode cL_house 822 = .ok (.sipush 1000, 3) := by decide +kernel
theorem dL_house_825 : decode cL_house 825 = .ok (.if_icmp .ne 145, 3) := by decide +kernel
theorem dL_house_828 : decode cL_house 828 = .ok (.aload_n 0, 1) := by decide +kernel
theorem dL_house_829 : decode cL_house 829 = .ok (.iconst 1, 1) := by decide +kernel
theorem dL_house_830 : decode cL_house 830 = .ok (.invokevirtual 57, 3) := by decide +kernel
theorem dL_house_833 : decode cL_house 833 = .ok (.ifCond .ne 137, 3) := by decide +kernel
theorem dL_house_836 : decode cL_house 836 = .ok (.aload_n 0, 1) := by decide +kernel
theorem dL_house_837 : decode cL_house 837 = .ok (.iconst 2, 1) := by decide +kernel
theorem dL_house_838 : decode cL_house 838 = .ok (.invokevirtual 60, 3) := by decide +kernel
theorem dL_house_841 : decode cL_house 841 = .ok (.sipush 450, 3) := by decide +kernel
theorem dL_house_844 : decode cL_house 844 = .ok (.if_icmp .ne 126, 3) := by decide +kernel
theorem dL_house_847 : decode cL_house 847 = .ok (.aload_n 0, 1) := by decide +kernel
theorem dL_house_848 : decode cL_house 848 = .ok (.iconst 3, 1) := by decide +kernel
theorem dL_house_849 : decode cL_house 849 = .ok (.invokevirtual 60, 3) := by decide +kernel
theorem dL_house_852 : decode cL_house 852 = .ok (.sipush 400, 3) := by decide +kernel
theorem dL_house_855 : decode cL_house 855 = .ok (.if_icmp .ne 115, 3) := by decide +kernel
theorem dL_house_858 : decode cL_house 858 = .ok (.aload_n 0, 1) := by decide +kernel
theorem dL_house_859 : decode cL_house 859 = .ok (.iconst 4, 1) := by decide +kernel
theorem dL_house_860 : decode cL_house 860 = .ok (.invokevirtual 60, 3) := by decide +kernel
theorem dL_house_863 : decode cL_house 863 = .ok (.bipush 50, 2) := by decide +kernel
theorem dL_house_865 : decode cL_house 865 = .ok (.if_icmp .ne 105, 3) := by decide +kernel
theorem dL_house_868 : decode cL_house 868 = .ok (.aload_n 0, 1) := by decide +kernel
theorem dL_house_869 : decode cL_house 869 = .ok (.iconst 5, 1) := by decide +kernel
theorem dL_house_870 : decode cL_house 870 = .ok (.invokevirtual 60, 3) := by decide +kernel
theorem dL_house_873 : decode cL_house 873 = .ok (.bipush 50, 2) := by decide +kernel
theorem dL_house_875 : decode cL_house 875 = .ok (.if_icmp .ne 95, 3) := by decide +kernel
theorem dL_house_878 : decode cL_house 878 = .ok (.aload_n 0, 1) := by decide +kernel
theorem dL_house_879 : decode cL_house 879 = .ok (.iconst 0, 1) := by decide +kernel
theorem dL_house_880 : decode cL_house 880 = .ok (.invokevirtual 60, 3) := by decide +kernel
theorem dL_house_883 : decode cL_house 883 = .ok (.ifCond .ne 87, 3) := by decide +kernel
theorem dL_house_886 : decode cL_house 886 = .ok (.aload_n 0, 1) := by decide +kernel
theorem dL_house_887 : decode cL_house 887 = .ok (.invokevirtual 82, 3) := by decide +kernel
theorem dL_house_890 : decode cL_house 890 = .ok (.sipush 250, 3) := by decide +kernel
theorem dL_house_893 : decode cL_house 893 = .ok (.if_icmp .ne 77, 3) := by decide +kernel
theorem dL_house_896 : decode cL_house 896 = .ok (.aload_n 0, 1) := by decide +kernel
theorem dL_house_897 : decode cL_house 897 = .ok (.bipush 7, 2) := by decide +kernel
theorem dL_house_899 : decode cL_house 899 = .ok (.invokevirtual 41, 3) := by decide +kernel
theorem dL_house_902 : decode cL_house 902 = .ok (.bipush 7, 2) := by decide +kernel
theorem dL_house_904 : decode cL_house 904 = .ok (.if_icmp .ne 66, 3) := by decide +kernel
theorem dL_house_907 : decode cL_house 907 = .ok (.aload_n 0, 1) := by decide +kernel
theorem dL_house_908 : decode cL_house 908 = .ok (.iconst 3, 1) := by decide +kernel
theorem dL_house_909 : decode cL_house 909 = .ok (.invokevirtual 60, 3) := by decide +kernel
theorem dL_house_912 : decode cL_house 912 = .ok (.sipush 403, 3) := by decide +kernel
theorem dL_house_915 : decode cL_house 915 = .ok (.if_icmp .ne 55, 3) := by decide +kernel
theorem dL_house_918 : decode cL_house 918 = .ok (.aload_n 0, 1) := by decide +kernel
theorem dL_house_919 : decode cL_house 919 = .ok (.iconst 2, 1) := by decide +kernel
theorem dL_house_920 : decode cL_house 920 = .ok (.invokevirtual 60, 3) := by decide +kernel
theorem dL_house_923 : decode cL_house 923 = .ok (.sipush 451, 3) := by decide +kernel
theorem dL_house_926 : decode cL_house 926 = .ok (.if_icmp .ne 44, 3) := by decide +kernel
theorem dL_house_929 : decode cL_house 929 = .ok (.aload_n 0, 1) := by decide +kernel
theorem dL_house_930 : decode cL_house 930 = .ok (.iconst 4, 1) := by decide +kernel
theorem dL_house_931 : decode cL_house 931 = .ok (.invokevirtual 60, 3) := by decide +kernel
theorem dL_house_934 : decode cL_house 934 = .ok (.bipush 50, 2) := by decide +kernel
theorem dL_house_936 : decode cL_house 936 = .ok (.if_icmp .ne 34, 3) := by decide +kernel
theorem dL_house_939 : decode cL_house 939 = .ok (.aload_n 0, 1) := by decide +kernel
theorem dL_house_940 : decode cL_house 940 = .ok (.invokevirtual 82, 3) := by decide +kernel
theorem dL_house_943 : decode cL_house 943 = .ok (.sipush 253, 3) := by decide +kernel
theorem dL_house_946 : decode cL_house 946 = .ok (.if_icmp .ne 24, 3) := by decide +kernel
theorem dL_house_949 : decode cL_house 949 = .ok (.aload_n 0, 1) := by decide +kernel
theorem dL_house_950 : decode cL_house 950 = .ok (.invokevirtual 79, 3) := by decide +kernel
theorem dL_house_953 : decode cL_house 953 = .ok (.sipush 1700, 3) := by decide +kernel
theorem dL_house_956 : decode cL_house 956 = .ok (.if_icmp .ne 14, 3) := by decide +kernel
theorem dL_house_959 : decode cL_house 959 = .ok (.aload_n 0, 1) := by decide +kernel
theorem dL_house_960 : decode cL_house 960 = .ok (.iconst 3, 1) := by decide +kernel
theorem dL_house_961 : decode cL_house 961 = .ok (.iconst 0, 1) := by decide +kernel
theorem dL_house_962 : decode cL_house 962 = .ok (.iconst 2, 1) := by decide +kernel
theorem dL_house_963 : decode cL_house 963 = .ok (.iconst 4, 1) := by decide +kernel
theorem dL_house_964 : decode cL_house 964 = .ok (.invokestatic 109, 3) := by decide +kernel
theorem dL_house_967 : decode cL_house 967 = .ok (.ifCond .ne 5, 3) := by decide +kernel
theorem dL_house_970 : decode cL_house 970 = .ok (.iconst 0, 1) := by decide +kernel
theorem dL_house_971 : decode cL_house 971 = .ok (.ireturn, 1) := by decide +kernel
theorem dL_house_972 : decode cL_house 972 = .ok (.aload_n 0, 1) := by decide +kernel
theorem dL_house_973 : decode cL_house 973 = .ok (.iconst 3, 1) := by decide +kernel
theorem dL_house_974 : decode cL_house 974 = .ok (.bipush 30, 2) := by decide +kernel
theorem dL_house_976 : decode cL_house 976 = .ok (.invokevirtual 24, 3) := by decide +kernel
theorem dL_house_979 : decode cL_house 979 = .ok (.bipush 30, 2) := by decide +kernel
theorem dL_house_981 : decode cL_house 981 = .ok (.if_icmp .ne 154, 3) := by decide +kernel
theorem dL_house_984 : decode cL_house 984 = .ok (.aload_n 0, 1) := by decide +kernel
theorem dL_house_985 : decode cL_house 985 = .ok (.bipush 20, 2) := by decide +kernel
theorem dL_house_987 : decode cL_house 987 = .ok (.invokevirtual 27, 3) := by decide +kernel
theorem dL_house_990 : decode cL_house 990 = .ok (.bipush 20, 2) := by decide +kernel
theorem dL_house_992 : decode cL_house 992 = .ok (.if_icmp .ne 143, 3) := by decide +kernel
theorem dL_house_995 : decode cL_house 995 = .ok (.aload_n 0, 1) := by decide +kernel
theorem dL_house_996 : decode cL_house 996 = .ok (.bipush 6, 2) := by decide +kernel
theorem dL_house_998 : decode cL_house 998 = .ok (.iconst 3, 1) := by decide +kernel
theorem dL_house_999 : decode cL_house 999 = .ok (.bipush 51, 2) := by decide +kernel
theorem dL_house_1001 : decode cL_house 1001 = .ok (.iconst 0, 1) := by decide +kernel
theorem dL_house_1002 : decode cL_house 1002 = .ok (.invokestatic 87, 3) := by decide +kernel
theorem dL_house_1005 : decode cL_house 1005 = .ok (.bipush (-73), 2) := by decide +kernel
theorem dL_house_1007 : decode cL_house 1007 = .ok (.if_icmp .ne 128, 3) := by decide +kernel
theorem dL_house_1010 : decode cL_house 1010 = .ok (.aload_n 0, 1) := by decide +kernel
theorem dL_house_1011 : decode cL_house 1011 = .ok (.iconst 3, 1) := by decide +kernel
theorem dL_house_1012 : decode cL_house 1012 = .ok (.bipush 40, 2) := by decide +kernel
theorem dL_house_1014 : decode cL_house 1014 = .ok (.invokevirtual 31, 3) := by decide +kernel
theorem dL_house_1017 : decode cL_house 1017 = .ok (.bipush 10, 2) := by decide +kernel
theorem dL_house_1019 : decode cL_house 1019 = .ok (.if_icmp .ne 116, 3) := by decide +kernel
theorem dL_house_1022 : decode cL_house 1022 = .ok (.aload_n 0, 1) := by decide +kernel
theorem dL_house_1023 : decode cL_house 1023 = .ok (.iconst 3, 1) := by decide +kernel
theorem dL_house_1024 : decode cL_house 1024 = .ok (.invokevirtual 54, 3) := by decide +kernel
theorem dL_house_1027 : decode cL_house 1027 = .ok (.ifCond .ne 108, 3) := by decide +kernel
theorem dL_house_1030 : decode cL_house 1030 = .ok (.aload_n 0, 1) := by decide +kernel
theorem dL_house_1031 : decode cL_house 1031 = .ok (.invokevirtual 76, 3) := by decide +kernel
theorem dL_house_1034 : decode cL_house 1034 = .ok (.bipush 10, 2) := by decide +kernel
theorem dL_house_1036 : decode cL_house 1036 = .ok (.if_icmp .ne 99, 3) := by decide +kernel
theorem dL_house_1039 : decode cL_house 1039 = .ok (.aload_n 0, 1) := by decide +kernel
theorem dL_house_1040 : decode cL_house 1040 = .ok (.iconst 2, 1) := by decide +kernel
theorem dL_house_1041 : decode cL_house 1041 = .ok (.bipush 10, 2) := by decide +kernel
theorem dL_house_1043 : decode cL_house 1043 = .ok (.invokevirtual 31, 3) := by decide +kernel
theorem dL_house_1046 : decode cL_house 1046 = .ok (.bipush 10, 2) := by decide +kernel
theorem dL_house_1048 : decode cL_house 1048 = .ok (.if_icmp .ne 87, 3) := by decide +kernel
theorem dL_house_1051 : decode cL_house 1051 = .ok (.aload_n 0, 1) := by decide +kernel
theorem dL_house_1052 : decode cL_house 1052 = .ok (.invokevirtual 79, 3) := by decide +kernel
theorem dL_house_1055 : decode cL_house 1055 = .ok (.sipush 1750, 3) := by decide +kernel
theorem dL_house_1058 : decode cL_house 1058 = .ok (.if_icmp .ne 77, 3) := by decide +kernel
theorem dL_house_1061 : decode cL_house 1061 = .ok (.aload_n 0, 1) := by decide +kernel
theorem dL_house_1062 : decode cL_house 1062 = .ok (.invokevirtual 112, 3) := by decide +kernel
theorem dL_house_1065 : decode cL_house 1065 = .ok (.bipush 50, 2) := by decide +kernel
theorem dL_house_1067 : decode cL_house 1067 = .ok (.if_icmp .ne 68, 3) := by decide +kernel
theorem dL_house_1070 : decode cL_house 1070 = .ok (.aload_n 0, 1) := by decide +kernel
theorem dL_house_1071 : decode cL_house 1071 = .ok (.iconst 0, 1) := by decide +kernel
theorem dL_house_1072 : decode cL_house 1072 = .ok (.iconst 1, 1) := by decide +kernel
theorem dL_house_1073 : decode cL_house 1073 = .ok (.invokevirtual 34, 3) := by decide +kernel
theorem dL_house_1076 : decode cL_house 1076 = .ok (.iconst 2, 1) := by decide +kernel
theorem dL_house_1077 : decode cL_house 1077 = .ok (.if_icmp .ne 58, 3) := by decide +kernel
theorem dL_house_1080 : decode cL_house 1080 = .ok (.aload_n 0, 1) := by decide +kernel
theorem dL_house_1081 : decode cL_house 1081 = .ok (.bipush 52, 2) := by decide +kernel
theorem dL_house_1083 : decode cL_house 1083 = .ok (.invokevirtual 41, 3) := by decide +kernel
theorem dL_house_1086 : decode cL_house 1086 = .ok (.iconst 1, 1) := by decide +kernel
theorem dL_house_1087 : decode cL_house 1087 = .ok (.if_icmp .ne 48, 3) := by decide +kernel
theorem dL_house_1090 : decode cL_house 1090 = .ok (.aload_n 0, 1) := by decide +kernel
theorem dL_house_1091 : decode cL_house 1091 = .ok (.iconst 0, 1) := by decide +kernel
theorem dL_house_1092 : decode cL_house 1092 = .ok (.invokevirtual 60, 3) := by decide +kernel
theorem dL_house_1095 : decode cL_house 1095 = .ok (.iconst 1, 1) := by decide +kernel
theorem dL_house_1096 : decode cL_house 1096 = .ok (.if_icmp .ne 39, 3) := by decide +kernel
theorem dL_house_1099 : decode cL_house 1099 = .ok (.aload_n 0, 1) := by decide +kernel
theorem dL_house_1100 : decode cL_house 1100 = .ok (.invokevirtual 82, 3) := by decide +kernel
theorem dL_house_1103 : decode cL_house 1103 = .ok (.sipush 254, 3) := by decide +kernel
theorem dL_house_1106 : decode cL_house 1106 = .ok (.if_icmp .ne 29, 3) := by decide +kernel
theorem dL_house_1109 : decode cL_house 1109 = .ok (.aload_n 0, 1) := by decide +kernel
theorem dL_house_1110 : decode cL_house 1110 = .ok (.iconst 2, 1) := by decide +kernel
theorem dL_house_1111 : decode cL_house 1111 = .ok (.invokevirtual 60, 3) := by decide +kernel
theorem dL_house_1114 : decode cL_house 1114 = .ok (.sipush 451, 3) := by decide +kernel
theorem dL_house_1117 : decode cL_house 1117 = .ok (.if_icmp .ne 18, 3) := by decide +kernel
theorem dL_house_1120 : decode cL_house 1120 = .ok (.aload_n 0, 1) := by decide +kernel
theorem dL_house_1121 : decode cL_house 1121 = .ok (.iconst 3, 1) := by decide +kernel
theorem dL_house_1122 : decode cL_house 1122 = .ok (.iconst 0, 1) := by decide +kernel
theorem dL_house_1123 : decode cL_house 1123 = .ok (.iconst 3, 1) := by decide +kernel
theorem dL_house_1124 : decode cL_house 1124 = .ok (.iconst 4, 1) := by decide +kernel
theorem dL_house_1125 : decode cL_house 1125 = .ok (.invokestatic 109, 3) := by decide +kernel
theorem dL_house_1128 : decode cL_house 1128 = .ok (.ifCond .eq 7, 3) := by decide +kernel
theorem dL_house_1131 : decode cL_house 1131 = .ok (.iconst 1, 1) := by decide +kernel
theorem dL_house_1132 : decode cL_house 1132 = .ok (.goto 4, 3) := by decide +kernel
theorem dL_house_1135 : decode cL_house 1135 = .ok (.iconst 0, 1) := by decide +kernel
theorem dL_house_1136 : decode cL_house 1136 = .ok (.ireturn, 1) := by decide +kernel
theorem dL_plans_0 : decode cL_plans 0 = .ok (.new 8, 3) := by decide +kernel
theorem dL_plans_3 : decode cL_plans 3 = .ok (.dup, 1) := by decide +kernel
theorem dL_plans_4 : decode cL_plans 4 = .ok (.invokespecial 98, 3) := by decide +kernel
theorem dL_plans_7 : decode cL_plans 7 = .ok (.astore_n 0, 1) := by decide +kernel
theorem dL_plans_8 : decode cL_plans 8 = .ok (.aload_n 0, 1) := by decide +kernel
theorem dL_plans_9 : decode cL_plans 9 = .ok (.bipush 6, 2) := by decide +kernel
theorem dL_plans_11 : decode cL_plans 11 = .ok (.iconst 0, 1) := by decide +kernel
theorem dL_plans_12 : decode cL_plans 12 = .ok (.iconst 1, 1) := by decide +kernel
theorem dL_plans_13 : decode cL_plans 13 = .ok (.iconst 2, 1) := by decide +kernel
theorem dL_plans_14 : decode cL_plans 14 = .ok (.iconst 0, 1) := by decide +kernel
theorem dL_plans_15 : decode cL_plans 15 = .ok (.invokevirtual 69, 3) := by decide +kernel
theorem dL_plans_18 : decode cL_plans 18 = .ok (.ifCond .ne 105, 3) := by decide +kernel
theorem dL_plans_21 : decode cL_plans 21 = .ok (.aload_n 0, 1) := by decide +kernel
theorem dL_plans_22 : decode cL_plans 22 = .ok (.iconst 1, 1) := by decide +kernel
theorem dL_plans_23 : decode cL_plans 23 = .ok (.bipush 18, 2) := by decide +kernel
theorem dL_plans_25 : decode cL_plans 25 = .ok (.iconst (-1), 1) := by decide +kernel
theorem dL_plans_26 : decode cL_plans 26 = .ok (.iconst (-1), 1) := by decide +kernel
theorem dL_plans_27 : decode cL_plans 27 = .ok (.invokestatic 105, 3) := by decide +kernel
theorem dL_plans_30 : decode cL_plans 30 = .ok (.ifCond .eq 93, 3) := by decide +kernel
theorem dL_plans_33 : decode cL_plans 33 = .ok (.aload_n 0, 1) := by decide +kernel
theorem dL_plans_34 : decode cL_plans 34 = .ok (.bipush 6, 2) := by decide +kernel
theorem dL_plans_36 : decode cL_plans 36 = .ok (.iconst 0, 1) := by decide +kernel
theorem dL_plans_37 : decode cL_plans 37 = .ok (.iconst 1, 1) := by decide +kernel
theorem dL_plans_38 : decode cL_plans 38 = .ok (.iconst 0, 1) := by decide +kernel
theorem dL_plans_39 : decode cL_plans 39 = .ok (.iconst 0, 1) := by decide +kernel
theorem dL_plans_40 : decode cL_plans 40 = .ok (.invokevirtual 69, 3) := by decide +kernel
theorem dL_plans_43 : decode cL_plans 43 = .ok (.iconst 1, 1) := by decide +kernel
theorem dL_plans_44 : decode cL_plans 44 = .ok (.if_icmp .ne 79, 3) := by decide +kernel
theorem dL_plans_47 : decode cL_plans 47 = .ok (.aload_n 0, 1) := by decide +kernel
theorem dL_plans_48 : decode cL_plans 48 = .ok (.iconst 1, 1) := by decide +kernel
theorem dL_plans_49 : decode cL_plans 49 = .ok (.bipush 18, 2) := by decide +kernel
theorem dL_plans_51 : decode cL_plans 51 = .ok (.bipush 8, 2) := by decide +kernel
theorem dL_plans_53 : decode cL_plans 53 = .ok (.iconst (-1), 1) := by decide +kernel
theorem dL_plans_54 : decode cL_plans 54 = .ok (.invokestatic 105, 3) := by decide +kernel
theorem dL_plans_57 : decode cL_plans 57 = .ok (.ifCond .eq 66, 3) := by decide +kernel
theorem dL_plans_60 : decode cL_plans 60 = .ok (.aload_n 0, 1) := by decide +kernel
theorem dL_plans_61 : decode cL_plans 61 = .ok (.iconst 0, 1) := by decide +kernel
theorem dL_plans_62 : decode cL_plans 62 = .ok (.invokevirtual 48, 3) := by decide +kernel
theorem dL_plans_65 : decode cL_plans 65 = .ok (.iconst 1, 1) := by decide +kernel
theorem dL_plans_66 : decode cL_plans 66 = .ok (.if_icmp .ne 57, 3) := by decide +kernel
theorem dL_plans_69 : decode cL_plans 69 = .ok (.aload_n 0, 1) := by decide +kernel
theorem dL_plans_70 : decode cL_plans 70 = .ok (.bipush 6, 2) := by decide +kernel
theorem dL_plans_72 : decode cL_plans 72 = .ok (.iconst 0, 1) := by decide +kernel
theorem dL_plans_73 : decode cL_plans 73 = .ok (.iconst 1, 1) := by decide +kernel
theorem dL_plans_74 : decode cL_plans 74 = .ok (.iconst 1, 1) := by decide +kernel
theorem dL_plans_75 : decode cL_plans 75 = .ok (.iconst 1, 1) := by decide +kernel
theorem dL_plans_76 : decode cL_plans 76 = .ok (.invokevirtual 69, 3) := by decide +kernel
theorem dL_plans_79 : decode cL_plans 79 = .ok (.iconst 2, 1) := by decide +kernel
theorem dL_plans_80 : decode cL_plans 80 = .ok (.if_icmp .ne 43, 3) := by decide +kernel
theorem dL_plans_83 : decode cL_plans 83 = .ok (.aload_n 0, 1) := by decide +kernel
theorem dL_plans_84 : decode cL_plans 84 = .ok (.iconst 2, 1) := by decide +kernel
theorem dL_plans_85 : decode cL_plans 85 = .ok (.bipush 18, 2) := by decide +kernel
theorem dL_plans_87 : decode cL_plans 87 = .ok (.bipush 41, 2) := by decide +kernel
theorem dL_plans_89 : decode cL_plans 89 = .ok (.bipush 35, 2) := by decide +kernel
theorem dL_plans_91 : decode cL_plans 91 = .ok (.invokestatic 105, 3) := by decide +kernel
theorem dL_plans_94 : decode cL_plans 94 = .ok (.ifCond .eq 29, 3) := by decide +kernel
theorem dL_plans_97 : decode cL_plans 97 = .ok (.aload_n 0, 1) := by decide +kernel
theorem dL_plans_98 : decode cL_plans 98 = .ok (.iconst 0, 1) := by decide +kernel
theorem dL_plans_99 : decode cL_plans 99 = .ok (.invokevirtual 48, 3) := by decide +kernel
theorem dL_plans_102 : decode cL_plans 102 = .ok (.ifCond .ne 21, 3) := by decide +kernel
theorem dL_plans_105 : decode cL_plans 105 = .ok (.aload_n 0, 1) := by decide +kernel
theorem dL_plans_106 : decode cL_plans 106 = .ok (.iconst 1, 1) := by decide +kernel
theorem dL_plans_107 : decode cL_plans 107 = .ok (.invokevirtual 48, 3) := by decide +kernel
theorem dL_plans_110 : decode cL_plans 110 = .ok (.iconst 2, 1) := by decide +kernel
theorem dL_plans_111 : decode cL_plans 111 = .ok (.if_icmp .ne 12, 3) := by decide +kernel
theorem dL_plans_114 : decode cL_plans 114 = .ok (.aload_n 0, 1) := by decide +kernel
theorem dL_plans_115 : decode cL_plans 115 = .ok (.iconst 2, 1) := by decide +kernel
theorem dL_plans_116 : decode cL_plans 116 = .ok (.invokevirtual 48, 3) := by decide +kernel
theorem dL_plans_119 : decode cL_plans 119 = .ok (.iconst 1, 1) := by decide +kernel
theorem dL_plans_120 : decode cL_plans 120 = .ok (.if_icmp .eq 5, 3) := by decide +kernel
theorem dL_plans_123 : decode cL_plans 123 = .ok (.iconst 0, 1) := by decide +kernel
theorem dL_plans_124 : decode cL_plans 124 = .ok (.ireturn, 1) := by decide +kernel
theorem dL_plans_125 : decode cL_plans 125 = .ok (.new 8, 3) := by decide +kernel
theorem dL_plans_128 : decode cL_plans 128 = .ok (.dup, 1) := by decide +kernel
theorem dL_plans_129 : decode cL_plans 129 = .ok (.invokespecial 98, 3) := by decide +kernel
theorem dL_plans_132 : decode cL_plans 132 = .ok (.astore_n 1, 1) := by decide +kernel
theorem dL_plans_133 : decode cL_plans 133 = .ok (.aload_n 1, 1) := by decide +kernel
theorem dL_plans_134 : decode cL_plans 134 = .ok (.bipush 6, 2) := by decide +kernel
theorem dL_plans_136 : decode cL_plans 136 = .ok (.iconst 0, 1) := by decide +kernel
theorem dL_plans_137 : decode cL_plans 137 = .ok (.iconst 1, 1) := by decide +kernel
theorem dL_plans_138 : decode cL_plans 138 = .ok (.iconst 2, 1) := by decide +kernel
theorem dL_plans_139 : decode cL_plans 139 = .ok (.iconst 0, 1) := by decide +kernel
theorem dL_plans_140 : decode cL_plans 140 = .ok (.invokevirtual 69, 3) := by decide +kernel
theorem dL_plans_143 : decode cL_plans 143 = .ok (.ifCond .ne 191, 3) := by decide +kernel
theorem dL_plans_146 : decode cL_plans 146 = .ok (.aload_n 1, 1) := by decide +kernel
theorem dL_plans_147 : decode cL_plans 147 = .ok (.bipush 6, 2) := by decide +kernel
theorem dL_plans_149 : decode cL_plans 149 = .ok (.iconst 0, 1) := by decide +kernel
theorem dL_plans_150 : decode cL_plans 150 = .ok (.iconst 2, 1) := by decide +kernel
theorem dL_plans_151 : decode cL_plans 151 = .ok (.iconst 0, 1) := by decide +kernel
theorem dL_plans_152 : decode cL_plans 152 = .ok (.iconst 1, 1) := by decide +kernel
theorem dL_plans_153 : decode cL_plans 153 = .ok (.invokevirtual 69, 3) := by decide +kernel
theorem dL_plans_156 : decode cL_plans 156 = .ok (.iconst 1, 1) := by decide +kernel
theorem dL_plans_157 : decode cL_plans 157 = .ok (.if_icmp .ne 177, 3) := by decide +kernel
theorem dL_plans_160 : decode cL_plans 160 = .ok (.aload_n 1, 1) := by decide +kernel
theorem dL_plans_161 : decode cL_plans 161 = .ok (.iconst 2, 1) := by decide +kernel
theorem dL_plans_162 : decode cL_plans 162 = .ok (.bipush 18, 2) := by decide +kernel
theorem dL_plans_164 : decode cL_plans 164 = .ok (.bipush 32, 2) := by decide +kernel
theorem dL_plans_166 : decode cL_plans 166 = .ok (.iconst (-1), 1) := by decide +kernel
theorem dL_plans_167 : decode cL_plans 167 = .ok (.invokestatic 105, 3) := by decide +kernel
theorem dL_plans_170 : decode cL_plans 170 = .ok (.ifCond .eq 164, 3) := by decide +kernel
theorem dL_plans_173 : decode cL_plans 173 = .ok (.aload_n 1, 1) := by decide +kernel
theorem dL_plans_174 : decode cL_plans 174 = .ok (.iconst 1, 1) := by decide +kernel
theorem dL_plans_175 : decode cL_plans 175 = .ok (.iconst 1, 1) := by decide +kernel
theorem dL_plans_176 : decode cL_plans 176 = .ok (.iconst 3, 1) := by decide +kernel
theorem dL_plans_177 : decode cL_plans 177 = .ok (.iconst 1, 1) := by decide +kernel
theorem dL_plans_178 : decode cL_plans 178 = .ok (.iconst 2, 1) := by decide +kernel
theorem dL_plans_179 : decode cL_plans 179 = .ok (.invokevirtual 69, 3) := by decide +kernel
theorem dL_plans_182 : decode cL_plans 182 = .ok (.iconst 2, 1) := by decide +kernel
theorem dL_plans_183 : decode cL_plans 183 = .ok (.if_icmp .ne 151, 3) := by decide +kernel
theorem dL_plans_186 : decode cL_plans 186 = .ok (.aload_n 1, 1) := by decide +kernel
theorem dL_plans_187 : decode cL_plans 187 = .ok (.iconst 2, 1) := by decide +kernel
theorem dL_plans_188 : decode cL_plans 188 = .ok (.bipush 18, 2) := by decide +kernel
theorem dL_plans_190 : decode cL_plans 190 = .ok (.bipush 32, 2) := by decide +kernel
theorem dL_plans_192 : decode cL_plans 192 = .ok (.bipush 39, 2) := by decide +kernel
theorem dL_plans_194 : decode cL_plans 194 = .ok (.invokestatic 105, 3) := by decide +kernel
theorem dL_plans_197 : decode cL_plans 197 = .ok (.ifCond .eq 137, 3) := by decide +kernel
theorem dL_plans_200 : decode cL_plans 200 = .ok (.aload_n 1, 1) := by decide +kernel
theorem dL_plans_201 : decode cL_plans 201 = .ok (.iconst 0, 1) := by decide +kernel
theorem dL_plans_202 : decode cL_plans 202 = .ok (.iconst 0, 1) := by decide +kernel
theorem dL_plans_203 : decode cL_plans 203 = .ok (.invokevirtual 16, 3) := by decide +kernel
theorem dL_plans_206 : decode cL_plans 206 = .ok (.bipush 100, 2) := by decide +kernel
theorem dL_plans_208 : decode cL_plans 208 = .ok (.if_icmp .ne 126, 3) := by decide +kernel
theorem dL_plans_211 : decode cL_plans 211 = .ok (.aload_n 1, 1) := by decide +kernel
theorem dL_plans_212 : decode cL_plans 212 = .ok (.iconst 1, 1) := by decide +kernel
theorem dL_plans_213 : decode cL_plans 213 = .ok (.invokevirtual 20, 3) := by decide +kernel
theorem dL_plans_216 : decode cL_plans 216 = .ok (.iconst 1, 1) := by decide +kernel
theorem dL_plans_217 : decode cL_plans 217 = .ok (.if_icmp .ne 117, 3) := by decide +kernel
theorem dL_plans_220 : decode cL_plans 220 = .ok (.aload_n 1, 1) := by decide +kernel
theorem dL_plans_221 : decode cL_plans 221 = .ok (.invokevirtual 102, 3) := by decide +kernel
theorem dL_plans_224 : decode cL_plans 224 = .ok (.iconst 1, 1) := by decide +kernel
theorem dL_plans_225 : decode cL_plans 225 = .ok (.if_icmp .ne 109, 3) := by decide +kernel
theorem dL_plans_228 : decode cL_plans 228 = .ok (.aload_n 1, 1) := by decide +kernel
theorem dL_plans_229 : decode cL_plans 229 = .ok (.iconst 1, 1) := by decide +kernel
theorem dL_plans_230 : decode cL_plans 230 = .ok (.bipush 18, 2) := by decide +kernel
theorem dL_plans_232 : decode cL_plans 232 = .ok (.bipush 32, 2) := by decide +kernel
theorem dL_plans_234 : decode cL_plans 234 = .ok (.bipush 39, 2) := by decide +kernel
theorem dL_plans_236 : decode cL_plans 236 = .ok (.invokestatic 105, 3) := by decide +kernel
theorem dL_plans_239 : decode cL_plans 239 = .ok (.ifCond .eq 95, 3) := by decide +kernel
theorem dL_plans_242 : decode cL_plans 242 = .ok (.aload_n 1, 1) := by decide +kernel
theorem dL_plans_243 : decode cL_plans 243 = .ok (.iconst 3, 1) := by decide +kernel
theorem dL_plans_244 : decode cL_plans 244 = .ok (.iconst 1, 1) := by decide +kernel
theorem dL_plans_245 : decode cL_plans 245 = .ok (.iconst 0, 1) := by decide +kernel
theorem dL_plans_246 : decode cL_plans 246 = .ok (.iconst 1, 1) := by decide +kernel
theorem dL_plans_247 : decode cL_plans 247 = .ok (.iconst 4, 1) := by decide +kernel
theorem dL_plans_248 : decode cL_plans 248 = .ok (.invokevirtual 69, 3) := by decide +kernel
theorem dL_plans_251 : decode cL_plans 251 = .ok (.iconst 3, 1) := by decide +kernel
theorem dL_plans_252 : decode cL_plans 252 = .ok (.if_icmp .ne 82, 3) := by decide +kernel
theorem dL_plans_255 : decode cL_plans 255 = .ok (.aload_n 1, 1) := by decide +kernel
theorem dL_plans_256 : decode cL_plans 256 = .ok (.invokevirtual 73, 3) := by decide +kernel
theorem dL_plans_259 : decode cL_plans 259 = .ok (.iconst 2, 1) := by decide +kernel
theorem dL_plans_260 : decode cL_plans 260 = .ok (.if_icmp .ne 74, 3) := by decide +kernel
theorem dL_plans_263 : decode cL_plans 263 = .ok (.aload_n 1, 1) := by decide +kernel
theorem dL_plans_264 : decode cL_plans 264 = .ok (.iconst 3, 1) := by decide +kernel
theorem dL_plans_265 : decode cL_plans 265 = .ok (.invokevirtual 51, 3) := by decide +kernel
theorem dL_plans_268 : decode cL_plans 268 = .ok (.bipush 56, 2) := by decide +kernel
theorem dL_plans_270 : decode cL_plans 270 = .ok (.if_icmp .ne 64, 3) := by decide +kernel
theorem dL_plans_273 : decode cL_plans 273 = .ok (.aload_n 1, 1) := by decide +kernel
theorem dL_plans_274 : decode cL_plans 274 = .ok (.iconst 0, 1) := by decide +kernel
theorem dL_plans_275 : decode cL_plans 275 = .ok (.invokevirtual 20, 3) := by decide +kernel
theorem dL_plans_278 : decode cL_plans 278 = .ok (.iconst 2, 1) := by decide +kernel
theorem dL_plans_279 : decode cL_plans 279 = .ok (.if_icmp .ne 55, 3) := by decide +kernel
theorem dL_plans_282 : decode cL_plans 282 = .ok (.aload_n 1, 1) := by decide +kernel
theorem dL_plans_283 : decode cL_plans 283 = .ok (.invokevirtual 99, 3) := by decide +kernel
theorem dL_plans_286 : decode cL_plans 286 = .ok (.iconst 2, 1) := by decide +kernel
theorem dL_plans_287 : decode cL_plans 287 = .ok (.if_icmp .ne 47, 3) := by decide +kernel
theorem dL_plans_290 : decode cL_plans 290 = .ok (.aload_n 1, 1) := by decide +kernel
theorem dL_plans_291 : decode cL_plans 291 = .ok (.invokevirtual 73, 3) := by decide +kernel
theorem dL_plans_294 : decode cL_plans 294 = .ok (.iconst 1, 1) := by decide +kernel
theorem dL_plans_295 : decode cL_plans 295 = .ok (.if_icmp .ne 39, 3) := by decide +kernel
theorem dL_plans_298 : decode cL_plans 298 = .ok (.aload_n 1, 1) := by decide +kernel
theorem dL_plans_299 : decode cL_plans 299 = .ok (.iconst 3, 1) := by decide +kernel
theorem dL_plans_300 : decode cL_plans 300 = .ok (.invokevirtual 51, 3) := by decide +kernel
theorem dL_plans_303 : decode cL_plans 303 = .ok (.bipush 56, 2) := by decide +kernel
theorem dL_plans_305 : decode cL_plans 305 = .ok (.if_icmp .ne 29, 3) := by decide +kernel
theorem dL_plans_308 : decode cL_plans 308 = .ok (.aload_n 1, 1) := by decide +kernel
theorem dL_plans_309 : decode cL_plans 309 = .ok (.iconst 2, 1) := by decide +kernel
theorem dL_plans_310 : decode cL_plans 310 = .ok (.invokevirtual 51, 3) := by decide +kernel
theorem dL_plans_313 : decode cL_plans 313 = .ok (.bipush 39, 2) := by decide +kernel
theorem dL_plans_315 : decode cL_plans 315 = .ok (.if_icmp .ne 19, 3) := by decide +kernel
theorem dL_plans_318 : decode cL_plans 318 = .ok (.aload_n 1, 1) := by decide +kernel
theorem dL_plans_319 : decode cL_plans 319 = .ok (.iconst 0, 1) := by decide +kernel
theorem dL_plans_320 : decode cL_plans 320 = .ok (.invokevirtual 20, 3) := by decide +kernel
theorem dL_plans_323 : decode cL_plans 323 = .ok (.iconst 1, 1) := by decide +kernel
theorem dL_plans_324 : decode cL_plans 324 = .ok (.if_icmp .ne 10, 3) := by decide +kernel
theorem dL_plans_327 : decode cL_plans 327 = .ok (.aload_n 1, 1) := by decide +kernel
theorem dL_plans_328 : decode cL_plans 328 = .ok (.invokevirtual 73, 3) := by decide +kernel
theorem dL_plans_331 : decode cL_plans 331 = .ok (.ifCond .eq 5, 3) := by decide +kernel
theorem dL_plans_334 : decode cL_plans 334 = .ok (.iconst 0, 1) := by decide +kernel
theorem dL_plans_335 : decode cL_plans 335 = .ok (.ireturn, 1) := by decide +kernel
theorem dL_plans_336 : decode cL_plans 336 = .ok (.new 8, 3) := by decide +kernel
theorem dL_plans_339 : decode cL_plans 339 = .ok (.dup, 1) := by decide +kernel
theorem dL_plans_340 : decode cL_plans 340 = .ok (.invokespecial 98, 3) := by decide +kernel
theorem dL_plans_343 : decode cL_plans 343 = .ok (.astore_n 2, 1) := by decide +kernel
theorem dL_plans_344 : decode cL_plans 344 = .ok (.aload_n 2, 1) := by decide +kernel
theorem dL_plans_345 : decode cL_plans 345 = .ok (.iconst 5, 1) := by decide +kernel
theorem dL_plans_346 : decode cL_plans 346 = .ok (.iconst 1, 1) := by decide +kernel
theorem dL_plans_347 : decode cL_plans 347 = .ok (.invokevirtual 13, 3) := by decide +kernel
theorem dL_plans_350 : decode cL_plans 350 = .ok (.ifCond .ne 134, 3) := by decide +kernel
theorem dL_plans_353 : decode cL_plans 353 = .ok (.aload_n 2, 1) := by decide +kernel
theorem dL_plans_354 : decode cL_plans 354 = .ok (.iconst 3, 1) := by decide +kernel
theorem dL_plans_355 : decode cL_plans 355 = .ok (.iconst 2, 1) := by decide +kernel
theorem dL_plans_356 : decode cL_plans 356 = .ok (.bipush 32, 2) := by decide +kernel
theorem dL_plans_358 : decode cL_plans 358 = .ok (.iconst 0, 1) := by decide +kernel
theorem dL_plans_359 : decode cL_plans 359 = .ok (.iconst 0, 1) := by decide +kernel
theorem dL_plans_360 : decode cL_plans 360 = .ok (.invokevirtual 69, 3) := by decide +kernel
theorem dL_plans_363 : decode cL_plans 363 = .ok (.ifCond .ne 121, 3) := by decide +kernel
theorem dL_plans_366 : decode cL_plans 366 = .ok (.aload_n 2, 1) := by decide +kernel
theorem dL_plans_367 : decode cL_plans 367 = .ok (.iconst 3, 1) := by decide +kernel
theorem dL_plans_368 : decode cL_plans 368 = .ok (.iconst 2, 1) := by decide +kernel
theorem dL_plans_369 : decode cL_plans 369 = .ok (.bipush 48, 2) := by decide +kernel
theorem dL_plans_371 : decode cL_plans 371 = .ok (.iconst 0, 1) := by decide +kernel
theorem dL_plans_372 : decode cL_plans 372 = .ok (.iconst 0, 1) := by decide +kernel
theorem dL_plans_373 : decode cL_plans 373 = .ok (.invokevirtual 69, 3) := by decide +kernel
theorem dL_plans_376 : decode cL_plans 376 = .ok (.iconst 1, 1) := by decide +kernel
theorem dL_plans_377 : decode cL_plans 377 = .ok (.if_icmp .ne 107, 3) := by decide +kernel
theorem dL_plans_380 : decode cL_plans 380 = .ok (.aload_n 2, 1) := by decide +kernel
theorem dL_plans_381 : decode cL_plans 381 = .ok (.iconst 1, 1) := by decide +kernel
theorem dL_plans_382 : decode cL_plans 382 = .ok (.bipush 8, 2) := by decide +kernel
theorem dL_plans_384 : decode cL_plans 384 = .ok (.bipush 11, 2) := by decide +kernel
theorem dL_plans_386 : decode cL_plans 386 = .ok (.iconst (-1), 1) := by decide +kernel
theorem dL_plans_387 : decode cL_plans 387 = .ok (.invokestatic 105, 3) := by decide +kernel
theorem dL_plans_390 : decode cL_plans 390 = .ok (.ifCond .eq 94, 3) := by decide +kernel
theorem dL_plans_393 : decode cL_plans 393 = .ok (.aload_n 2, 1) := by decide +kernel
theorem dL_plans_394 : decode cL_plans 394 = .ok (.iconst 1, 1) := by decide +kernel
theorem dL_plans_395 : decode cL_plans 395 = .ok (.iconst 2, 1) := by decide +kernel
theorem dL_plans_396 : decode cL_plans 396 = .ok (.bipush 48, 2) := by decide +kernel
theorem dL_plans_398 : decode cL_plans 398 = .ok (.iconst 0, 1) := by decide +kernel
theorem dL_plans_399 : decode cL_plans 399 = .ok (.iconst 0, 1) := by decide +kernel
theorem dL_plans_400 : decode cL_plans 400 = .ok (.invokevirtual 69, 3) := by decide +kernel
theorem dL_plans_403 : decode cL_plans 403 = .ok (.iconst 2, 1) := by decide +kernel
theorem dL_plans_404 : decode cL_plans 404 = .ok (.if_icmp .ne 80, 3) := by decide +kernel
theorem dL_plans_407 : decode cL_plans 407 = .ok (.aload_n 2, 1) := by decide +kernel
theorem dL_plans_408 : decode cL_plans 408 = .ok (.iconst 2, 1) := by decide +kernel
theorem dL_plans_409 : decode cL_plans 409 = .ok (.bipush 8, 2) := by decide +kernel
theorem dL_plans_411 : decode cL_plans 411 = .ok (.bipush 11, 2) := by decide +kernel
theorem dL_plans_413 : decode cL_plans 413 = .ok (.bipush 32, 2) := by decide +kernel
theorem dL_plans_415 : decode cL_plans 415 = .ok (.invokestatic 105, 3) := by decide +kernel
theorem dL_plans_418 : decode cL_plans 418 = .ok (.ifCond .eq 66, 3) := by decide +kernel
theorem dL_plans_421 : decode cL_plans 421 = .ok (.aload_n 2, 1) := by decide +kernel
theorem dL_plans_422 : decode cL_plans 422 = .ok (.iconst 4, 1) := by decide +kernel
theorem dL_plans_423 : decode cL_plans 423 = .ok (.iconst 1, 1) := by decide +kernel
theorem dL_plans_424 : decode cL_plans 424 = .ok (.invokevirtual 13, 3) := by decide +kernel
theorem dL_plans_427 : decode cL_plans 427 = .ok (.ifCond .ne 57, 3) := by decide +kernel
theorem dL_plans_430 : decode cL_plans 430 = .ok (.aload_n 2, 1) := by decide +kernel
theorem dL_plans_431 : decode cL_plans 431 = .ok (.iconst 2, 1) := by decide +kernel
theorem dL_plans_432 : decode cL_plans 432 = .ok (.bipush 8, 2) := by decide +kernel
theorem dL_plans_434 : decode cL_plans 434 = .ok (.bipush 11, 2) := by decide +kernel
theorem dL_plans_436 : decode cL_plans 436 = .ok (.bipush 32, 2) := by decide +kernel
theorem dL_plans_438 : decode cL_plans 438 = .ok (.invokestatic 105, 3) := by decide +kernel
theorem dL_plans_441 : decode cL_plans 441 = .ok (.ifCond .eq 43, 3) := by decide +kernel
theorem dL_plans_444 : decode cL_plans 444 = .ok (.aload_n 2, 1) := by decide +kernel
theorem dL_plans_445 : decode cL_plans 445 = .ok (.iconst 5, 1) := by decide +kernel
theorem dL_plans_446 : decode cL_plans 446 = .ok (.iconst 0, 1) := by decide +kernel
theorem dL_plans_447 : decode cL_plans 447 = .ok (.invokevirtual 13, 3) := by decide +kernel
theorem dL_plans_450 : decode cL_plans 450 = .ok (.ifCond .eq 34, 3) := by decide +kernel
theorem dL_plans_453 : decode cL_plans 453 = .ok (.aload_n 2, 1) := by decide +kernel
theorem dL_plans_454 : decode cL_plans 454 = .ok (.iconst 1, 1) := by decide +kernel
theorem dL_plans_455 : decode cL_plans 455 = .ok (.bipush 8, 2) := by decide +kernel
theorem dL_plans_457 : decode cL_plans 457 = .ok (.bipush 11, 2) := by decide +kernel
theorem dL_plans_459 : decode cL_plans 459 = .ok (.bipush 14, 2) := by decide +kernel
theorem dL_plans_461 : decode cL_plans 461 = .ok (.invokestatic 105, 3) := by decide +kernel
theorem dL_plans_464 : decode cL_plans 464 = .ok (.ifCond .eq 20, 3) := by decide +kernel
theorem dL_plans_467 : decode cL_plans 467 = .ok (.aload_n 2, 1) := by decide +kernel
theorem dL_plans_468 : decode cL_plans 468 = .ok (.iconst 5, 1) := by decide +kernel
theorem dL_plans_469 : decode cL_plans 469 = .ok (.iconst 1, 1) := by decide +kernel
theorem dL_plans_470 : decode cL_plans 470 = .ok (.invokevirtual 13, 3) := by decide +kernel
theorem dL_plans_473 : decode cL_plans 473 = .ok (.ifCond .ne 11, 3) := by decide +kernel
theorem dL_plans_476 : decode cL_plans 476 = .ok (.aload_n 2, 1) := by decide +kernel
theorem dL_plans_477 : decode cL_plans 477 = .ok (.invokevirtual 73, 3) := by decide +kernel
theorem dL_plans_480 : decode cL_plans 480 = .ok (.iconst 2, 1) := by decide +kernel
theorem dL_plans_481 : decode cL_plans 481 = .ok (.if_icmp .eq 5, 3) := by decide +kernel
theorem dL_plans_484 : decode cL_plans 484 = .ok (.iconst 0, 1) := by decide +kernel
theorem dL_plans_485 : decode cL_plans 485 = .ok (.ireturn, 1) := by decide +kernel
theorem dL_plans_486 : decode cL_plans 486 = .ok (.new 8, 3) := by decide +kernel
theorem dL_plans_489 : decode cL_plans 489 = .ok (.dup, 1) := by decide +kernel
theorem dL_plans_490 : decode cL_plans 490 = .ok (.invokespecial 98, 3) := by decide +kernel
theorem dL_plans_493 : decode cL_plans 493 = .ok (.astore_n 3, 1) := by decide +kernel
theorem dL_plans_494 : decode cL_plans 494 = .ok (.aload_n 3, 1) := by decide +kernel
theorem dL_plans_495 : decode cL_plans 495 = .ok (.iconst 3, 1) := by decide +kernel
theorem dL_plans_496 : decode cL_plans 496 = .ok (.iconst 1, 1) := by decide +kernel
theorem dL_plans_497 : decode cL_plans 497 = .ok (.invokevirtual 7, 3) := by decide +kernel
theorem dL_plans_500 : decode cL_plans 500 = .ok (.ifCond .ne 208, 3) := by decide +kernel
theorem dL_plans_503 : decode cL_plans 503 = .ok (.aload_n 3, 1) := by decide +kernel
theorem dL_plans_504 : decode cL_plans 504 = .ok (.iconst 1, 1) := by decide +kernel
theorem dL_plans_505 : decode cL_plans 505 = .ok (.sipush 1000, 3) := by decide +kernel
theorem dL_plans_508 : decode cL_plans 508 = .ok (.invokevirtual 16, 3) := by decide +kernel
theorem dL_plans_511 : decode cL_plans 511 = .ok (.bipush 100, 2) := by decide +kernel
theorem dL_plans_513 : decode cL_plans 513 = .ok (.if_icmp .ne 195, 3) := by decide +kernel
theorem dL_plans_516 : decode cL_plans 516 = .ok (.aload_n 3, 1) := by decide +kernel
theorem dL_plans_517 : decode cL_plans 517 = .ok (.bipush 100, 2) := by decide +kernel
theorem dL_plans_519 : decode cL_plans 519 = .ok (.invokevirtual 27, 3) := by decide +kernel
theorem dL_plans_522 : decode cL_plans 522 = .ok (.bipush 100, 2) := by decide +kernel
theorem dL_plans_524 : decode cL_plans 524 = .ok (.if_icmp .ne 184, 3) := by decide +kernel
theorem dL_plans_527 : decode cL_plans 527 = .ok (.aload_n 3, 1) := by decide +kernel
theorem dL_plans_528 : decode cL_plans 528 = .ok (.iconst 2, 1) := by decide +kernel
theorem dL_plans_529 : decode cL_plans 529 = .ok (.iconst 3, 1) := by decide +kernel
theorem dL_plans_530 : decode cL_plans 530 = .ok (.iconst 0, 1) := by decide +kernel
theorem dL_plans_531 : decode cL_plans 531 = .ok (.iconst 0, 1) := by decide +kernel
theorem dL_plans_532 : decode cL_plans 532 = .ok (.iconst 0, 1) := by decide +kernel
theorem dL_plans_533 : decode cL_plans 533 = .ok (.invokevirtual 69, 3) := by decide +kernel
theorem dL_plans_536 : decode cL_plans 536 = .ok (.ifCond .ne 172, 3) := by decide +kernel
theorem dL_plans_539 : decode cL_plans 539 = .ok (.aload_n 3, 1) := by decide +kernel
theorem dL_plans_540 : decode cL_plans 540 = .ok (.iconst 2, 1) := by decide +kernel
theorem dL_plans_541 : decode cL_plans 541 = .ok (.iconst 0, 1) := by decide +kernel
theorem dL_plans_542 : decode cL_plans 542 = .ok (.iconst 0, 1) := by decide +kernel
theorem dL_plans_543 : decode cL_plans 543 = .ok (.iconst 0, 1) := by decide +kernel
theorem dL_plans_544 : decode cL_plans 544 = .ok (.iconst 1, 1) := by decide +kernel
theorem dL_plans_545 : decode cL_plans 545 = .ok (.invokevirtual 69, 3) := by decide +kernel
theorem dL_plans_548 : decode cL_plans 548 = .ok (.iconst 1, 1) := by decide +kernel
theorem dL_plans_549 : decode cL_plans 549 = .ok (.if_icmp .ne 159, 3) := by decide +kernel
theorem dL_plans_552 : decode cL_plans 552 = .ok (.aload_n 3, 1) := by decide +kernel
theorem dL_plans_553 : decode cL_plans 553 = .ok (.iconst 2, 1) := by decide +kernel
theorem dL_plans_554 : decode cL_plans 554 = .ok (.iconst 0, 1) := by decide +kernel
theorem dL_plans_555 : decode cL_plans 555 = .ok (.iconst 0, 1) := by decide +kernel
theorem dL_plans_556 : decode cL_plans 556 = .ok (.iconst 0, 1) := by decide +kernel
theorem dL_plans_557 : decode cL_plans 557 = .ok (.iconst 0, 1) := by decide +kernel
theorem dL_plans_558 : decode cL_plans 558 = .ok (.invokevirtual 69, 3) := by decide +kernel
theorem dL_plans_561 : decode cL_plans 561 = .ok (.iconst 2, 1) := by decide +kernel
theorem dL_plans_562 : decode cL_plans 562 = .ok (.if_icmp .ne 146, 3) := by decide +kernel
theorem dL_plans_565 : decode cL_plans 565 = .ok (.aload_n 3, 1) := by decide +kernel
theorem dL_plans_566 : decode cL_plans 566 = .ok (.iconst 1, 1) := by decide +kernel
theorem dL_plans_567 : decode cL_plans 567 = .ok (.bipush 8, 2) := by decide +kernel
theorem dL_plans_569 : decode cL_plans 569 = .ok (.bipush 11, 2) := by decide +kernel
theorem dL_plans_571 : decode cL_plans 571 = .ok (.bipush 13, 2) := by decide +kernel
theorem dL_plans_573 : decode cL_plans 573 = .ok (.invokestatic 105, 3) := by decide +kernel
theorem dL_plans_576 : decode cL_plans 576 = .ok (.ifCond .eq 132, 3) := by decide +kernel
theorem dL_plans_579 : decode cL_plans 579 = .ok (.aload_n 3, 1) := by decide +kernel
theorem dL_plans_580 : decode cL_plans 580 = .ok (.iconst 1, 1) := by decide +kernel
theorem dL_plans_581 : decode cL_plans 581 = .ok (.invokevirtual 20, 3) := by decide +kernel
theorem dL_plans_584 : decode cL_plans 584 = .ok (.iconst 1, 1) := by decide +kernel
theorem dL_plans_585 : decode cL_plans 585 = .ok (.if_icmp .ne 123, 3) := by decide +kernel
theorem dL_plans_588 : decode cL_plans 588 = .ok (.aload_n 3, 1) := by decide +kernel
theorem dL_plans_589 : decode cL_plans 589 = .ok (.invokevirtual 102, 3) := by decide +kernel
theorem dL_plans_592 : decode cL_plans 592 = .ok (.iconst 4, 1) := by decide +kernel
theorem dL_plans_593 : decode cL_plans 593 = .ok (.if_icmp .ne 115, 3) := by decide +kernel
theorem dL_plans_596 : decode cL_plans 596 = .ok (.aload_n 3, 1) := by decide +kernel
theorem dL_plans_597 : decode cL_plans 597 = .ok (.iconst 2, 1) := by decide +kernel
theorem dL_plans_598 : decode cL_plans 598 = .ok (.invokevirtual 51, 3) := by decide +kernel
theorem dL_plans_601 : decode cL_plans 601 = .ok (.bipush 13, 2) := by decide +kernel
theorem dL_plans_603 : decode cL_plans 603 = .ok (.if_icmp .ne 105, 3) := by decide +kernel
theorem dL_plans_606 : decode cL_plans 606 = .ok (.aload_n 3, 1) := by decide +kernel
theorem dL_plans_607 : decode cL_plans 607 = .ok (.invokevirtual 79, 3) := by decide +kernel
theorem dL_plans_610 : decode cL_plans 610 = .ok (.iconst 2, 1) := by decide +kernel
theorem dL_plans_611 : decode cL_plans 611 = .ok (.if_icmp .ne 97, 3) := by decide +kernel
theorem dL_plans_614 : decode cL_plans 614 = .ok (.aload_n 3, 1) := by decide +kernel
theorem dL_plans_615 : decode cL_plans 615 = .ok (.iconst 1, 1) := by decide +kernel
theorem dL_plans_616 : decode cL_plans 616 = .ok (.bipush 32, 2) := by decide +kernel
theorem dL_plans_618 : decode cL_plans 618 = .ok (.bipush 35, 2) := by decide +kernel
theorem dL_plans_620 : decode cL_plans 620 = .ok (.bipush 13, 2) := by decide +kernel
theorem dL_plans_622 : decode cL_plans 622 = .ok (.invokestatic 105, 3) := by decide +kernel
theorem dL_plans_625 : decode cL_plans 625 = .ok (.ifCond .eq 83, 3) := by decide +kernel
theorem dL_plans_628 : decode cL_plans 628 = .ok (.aload_n 3, 1) := by decide +kernel
theorem dL_plans_629 : decode cL_plans 629 = .ok (.iconst 1, 1) := by decide +kernel
theorem dL_plans_630 : decode cL_plans 630 = .ok (.invokevirtual 115, 3) := by decide +kernel
theorem dL_plans_633 : decode cL_plans 633 = .ok (.ifCond .ne 75, 3) := by decide +kernel
theorem dL_plans_636 : decode cL_plans 636 = .ok (.aload_n 3, 1) := by decide +kernel
theorem dL_plans_637 : decode cL_plans 637 = .ok (.iconst 3, 1) := by decide +kernel
theorem dL_plans_638 : decode cL_plans 638 = .ok (.iconst 1, 1) := by decide +kernel
theorem dL_plans_639 : decode cL_plans 639 = .ok (.iconst 0, 1) := by decide +kernel
theorem dL_plans_640 : decode cL_plans 640 = .ok (.iconst 0, 1) := by decide +kernel
theorem dL_plans_641 : decode cL_plans 641 = .ok (.invokestatic 87, 3) := by decide +kernel
theorem dL_plans_644 : decode cL_plans 644 = .ok (.bipush (-73), 2) := by decide +kernel
theorem dL_plans_646 : decode cL_plans 646 = .ok (.if_icmp .ne 62, 3) := by decide +kernel
theorem dL_plans_649 : decode cL_plans 649 = .ok (.aload_n 3, 1) := by decide +kernel
theorem dL_plans_650 : decode cL_plans 650 = .ok (.iconst 1, 1) := by decide +kernel
theorem dL_plans_651 : decode cL_plans 651 = .ok (.sipush 1000, 3) := by decide +kernel
theorem dL_plans_654 : decode cL_plans 654 = .ok (.invokevirtual 24, 3) := by decide +kernel
theorem dL_plans_657 : decode cL_plans 657 = .ok (.sipush 1000, 3) := by decide +kernel
theorem dL_plans_660 : decode cL_plans 660 = .ok (.if_icmp .ne 48, 3) := by decide +kernel
theorem dL_plans_663 : decode cL_plans 663 = .ok (.aload_n 3, 1) := by decide +kernel
theorem dL_plans_664 : decode cL_plans 664 = .ok (.iconst 1, 1) := by decide +kernel
theorem dL_plans_665 : decode cL_plans 665 = .ok (.invokevirtual 20, 3) := by decide +kernel
theorem dL_plans_668 : decode cL_plans 668 = .ok (.iconst 2, 1) := by decide +kernel
theorem dL_plans_669 : decode cL_plans 669 = .ok (.if_icmp .ne 39, 3) := by decide +kernel
theorem dL_plans_672 : decode cL_plans 672 = .ok (.aload_n 3, 1) := by decide +kernel
theorem dL_plans_673 : decode cL_plans 673 = .ok (.invokevirtual 102, 3) := by decide +kernel
theorem dL_plans_676 : decode cL_plans 676 = .ok (.bipush 7, 2) := by decide +kernel
theorem dL_plans_678 : decode cL_plans 678 = .ok (.if_icmp .ne 30, 3) := by decide +kernel
theorem dL_plans_681 : decode cL_plans 681 = .ok (.aload_n 3, 1) := by decide +kernel
theorem dL_plans_682 : decode cL_plans 682 = .ok (.invokevirtual 79, 3) := by decide +kernel
theorem dL_plans_685 : decode cL_plans 685 = .ok (.sipush 1006, 3) := by decide +kernel
theorem dL_plans_688 : decode cL_plans 688 = .ok (.if_icmp .ne 20, 3) := by decide +kernel
theorem dL_plans_691 : decode cL_plans 691 = .ok (.aload_n 3, 1) := by decide +kernel
theorem dL_plans_692 : decode cL_plans 692 = .ok (.iconst 1, 1) := by decide +kernel
theorem dL_plans_693 : decode cL_plans 693 = .ok (.invokevirtual 54, 3) := by decide +kernel
theorem dL_plans_696 : decode cL_plans 696 = .ok (.ifCond .ne 12, 3) := by decide +kernel
theorem dL_plans_699 : decode cL_plans 699 = .ok (.aload_n 3, 1) := by decide +kernel
theorem dL_plans_700 : decode cL_plans 700 = .ok (.invokevirtual 76, 3) := by decide +kernel
theorem dL_plans_703 : decode cL_plans 703 = .ok (.bipush 94, 2) := by decide +kernel
theorem dL_plans_705 : decode cL_plans 705 = .ok (.if_icmp .eq 5, 3) := by decide +kernel
theorem dL_plans_708 : decode cL_plans 708 = .ok (.iconst 0, 1) := by decide +kernel
theorem dL_plans_709 : decode cL_plans 709 = .ok (.ireturn, 1) := by decide +kernel
theorem dL_plans_710 : decode cL_plans 710 = .ok (.new 8, 3) := by decide +kernel
theorem dL_plans_713 : decode cL_plans 713 = .ok (.dup, 1) := by decide +kernel
theorem dL_plans_714 : decode cL_plans 714 = .ok (.invokespecial 98, 3) := by decide +kernel
theorem dL_plans_717 : decode cL_plans 717 = .ok (.astore 4, 2) := by decide +kernel
theorem dL_plans_719 : decode cL_plans 719 = .ok (.iconst 0, 1) := by decide +kernel
theorem dL_plans_720 : decode cL_plans 720 = .ok (.istore 5, 2) := by decide +kernel
theorem dL_plans_722 : decode cL_plans 722 = .ok (.iload 5, 2) := by decide +kernel
theorem dL_plans_724 : decode cL_plans 724 = .ok (.bipush 9, 2) := by decide +kernel
theorem dL_plans_726 : decode cL_plans 726 = .ok (.if_icmp .ge 47, 3) := by decide +kernel
theorem dL_plans_729 : decode cL_plans 729 = .ok (.aload 4, 2) := by decide +kernel
theorem dL_plans_731 : decode cL_plans 731 = .ok (.iconst 4, 1) := by decide +kernel
theorem dL_plans_732 : decode cL_plans 732 = .ok (.iload 5, 2) := by decide +kernel
theorem dL_plans_734 : decode cL_plans 734 = .ok (.iconst 2, 1) := by decide +kernel
theorem dL_plans_735 : decode cL_plans 735 = .ok (.irem, 1) := by decide +kernel
theorem dL_plans_736 : decode cL_plans 736 = .ok (.iconst 1, 1) := by decide +kernel
theorem dL_plans_737 : decode cL_plans 737 = .ok (.iload 5, 2) := by decide +kernel
theorem dL_plans_739 : decode cL_plans 739 = .ok (.bipush 6, 2) := by decide +kernel
theorem dL_plans_741 : decode cL_plans 741 = .ok (.irem, 1) := by decide +kernel
theorem dL_plans_742 : decode cL_plans 742 = .ok (.ishl, 1) := by decide +kernel
theorem dL_plans_743 : decode cL_plans 743 = .ok (.iconst 0, 1) := by decide +kernel
theorem dL_plans_744 : decode cL_plans 744 = .ok (.iconst 0, 1) := by decide +kernel
theorem dL_plans_745 : decode cL_plans 745 = .ok (.invokestatic 94, 3) := by decide +kernel
theorem dL_plans_748 : decode cL_plans 748 = .ok (.iload 5, 2) := by decide +kernel
theorem dL_plans_750 : decode cL_plans 750 = .ok (.bipush 8, 2) := by decide +kernel
theorem dL_plans_752 : decode cL_plans 752 = .ok (.if_icmp .ge 8, 3) := by decide +kernel
theorem dL_plans_755 : decode cL_plans 755 = .ok (.iload 5, 2) := by decide +kernel
theorem dL_plans_757 : decode cL_plans 757 = .ok (.goto 5, 3) := by decide +kernel
theorem dL_plans_760 : decode cL_plans 760 = .ok (.bipush (-73), 2) := by decide +kernel
theorem dL_plans_762 : decode cL_plans 762 = .ok (.if_icmp .eq 5, 3) := by decide +kernel
theorem dL_plans_765 : decode cL_plans 765 = .ok (.iconst 0, 1) := by decide +kernel
theorem dL_plans_766 : decode cL_plans 766 = .ok (.ireturn, 1) := by decide +kernel
theorem dL_plans_767 : decode cL_plans 767 = .ok (.iinc 5 1, 3) := by decide +kernel
theorem dL_plans_770 : decode cL_plans 770 = .ok (.goto (-48), 3) := by decide +kernel
theorem dL_plans_773 : decode cL_plans 773 = .ok (.aload 4, 2) := by decide +kernel
theorem dL_plans_775 : decode cL_plans 775 = .ok (.invokevirtual 73, 3) := by decide +kernel
theorem dL_plans_778 : decode cL_plans 778 = .ok (.iconst 2, 1) := by decide +kernel
theorem dL_plans_779 : decode cL_plans 779 = .ok (.if_icmp .ne 95, 3) := by decide +kernel
theorem dL_plans_782 : decode cL_plans 782 = .ok (.aload 4, 2) := by decide +kernel
theorem dL_plans_784 : decode cL_plans 784 = .ok (.bipush 10, 2) := by decide +kernel
theorem dL_plans_786 : decode cL_plans 786 = .ok (.iconst 0, 1) := by decide +kernel
theorem dL_plans_787 : decode cL_plans 787 = .ok (.iconst 0, 1) := by decide +kernel
theorem dL_plans_788 : decode cL_plans 788 = .ok (.iconst 0, 1) := by decide +kernel
theorem dL_plans_789 : decode cL_plans 789 = .ok (.invokestatic 87, 3) := by decide +kernel
theorem dL_plans_792 : decode cL_plans 792 = .ok (.bipush (-73), 2) := by decide +kernel
theorem dL_plans_794 : decode cL_plans 794 = .ok (.if_icmp .ne 80, 3) := by decide +kernel
theorem dL_plans_797 : decode cL_plans 797 = .ok (.aload 4, 2) := by decide +kernel
theorem dL_plans_799 : decode cL_plans 799 = .ok (.iconst 0, 1) := by decide +kernel
theorem dL_plans_800 : decode cL_plans 800 = .ok (.invokevirtual 48, 3) := by decide +kernel
theorem dL_plans_803 : decode cL_plans 803 = .ok (.ifCond .ne 71, 3) := by decide +kernel
theorem dL_plans_806 : decode cL_plans 806 = .ok (.aload 4, 2) := by decide +kernel
theorem dL_plans_808 : decode cL_plans 808 = .ok (.iconst 1, 1) := by decide +kernel
theorem dL_plans_809 : decode cL_plans 809 = .ok (.invokevirtual 48, 3) := by decide +kernel
theorem dL_plans_812 : decode cL_plans 812 = .ok (.iconst 2, 1) := by decide +kernel
theorem dL_plans_813 : decode cL_plans 813 = .ok (.if_icmp .ne 61, 3) := by decide +kernel
theorem dL_plans_816 : decode cL_plans 816 = .ok (.aload 4, 2) := by decide +kernel
theorem dL_plans_818 : decode cL_plans 818 = .ok (.iconst 4, 1) := by decide +kernel
theorem dL_plans_819 : decode cL_plans 819 = .ok (.invokevirtual 48, 3) := by decide +kernel
theorem dL_plans_822 : decode cL_plans 822 = .ok (.iconst 1, 1) := by decide +kernel
theorem dL_plans_823 : decode cL_plans 823 = .ok (.if_icmp .ne 51, 3) := by decide +kernel
theorem dL_plans_826 : decode cL_plans 826 = .ok (.aload 4, 2) := by decide +kernel
theorem dL_plans_828 : decode cL_plans 828 = .ok (.iconst 0, 1) := by decide +kernel
theorem dL_plans_829 : decode cL_plans 829 = .ok (.invokevirtual 51, 3) := by decide +kernel
theorem dL_plans_832 : decode cL_plans 832 = .ok (.bipush 8, 2) := by decide +kernel
theorem dL_plans_834 : decode cL_plans 834 = .ok (.if_icmp .ne 40, 3) := by decide +kernel
theorem dL_plans_837 : decode cL_plans 837 = .ok (.aload 4, 2) := by decide +kernel
theorem dL_plans_839 : decode cL_plans 839 = .ok (.bipush 6, 2) := by decide +kernel
theorem dL_plans_841 : decode cL_plans 841 = .ok (.invokevirtual 51, 3) := by decide +kernel
theorem dL_plans_844 : decode cL_plans 844 = .ok (.bipush 20, 2) := by decide +kernel
theorem dL_plans_846 : decode cL_plans 846 = .ok (.if_icmp .ne 28, 3) := by decide +kernel
theorem dL_plans_849 : decode cL_plans 849 = .ok (.aload 4, 2) := by decide +kernel
theorem dL_plans_851 : decode cL_plans 851 = .ok (.iconst 1, 1) := by decide +kernel
theorem dL_plans_852 : decode cL_plans 852 = .ok (.invokevirtual 51, 3) := by decide +kernel
theorem dL_plans_855 : decode cL_plans 855 = .ok (.bipush 32, 2) := by decide +kernel
theorem dL_plans_857 : decode cL_plans 857 = .ok (.if_icmp .ne 17, 3) := by decide +kernel
theorem dL_plans_860 : decode cL_plans 860 = .ok (.aload 4, 2) := by decide +kernel
theorem dL_plans_862 : decode cL_plans 862 = .ok (.bipush 8, 2) := by decide +kernel
theorem dL_plans_864 : decode cL_plans 864 = .ok (.bipush 8, 2) := by decide +kernel
theorem dL_plans_866 : decode cL_plans 866 = .ok (.iconst 0, 1) := by decide +kernel
theorem dL_plans_867 : decode cL_plans 867 = .ok (.iconst 0, 1) := by decide +kernel
theorem dL_plans_868 : decode cL_plans 868 = .ok (.invokestatic 109, 3) := by decide +kernel
theorem dL_plans_871 : decode cL_plans 871 = .ok (.ifCond .ne 5, 3) := by decide +kernel
theorem dL_plans_874 : decode cL_plans 874 = .ok (.iconst 0, 1) := by decide +kernel
theorem dL_plans_875 : decode cL_plans 875 = .ok (.ireturn, 1) := by decide +kernel
theorem dL_plans_876 : decode cL_plans 876 = .ok (.iconst 0, 1) := by decide +kernel
theorem dL_plans_877 : decode cL_plans 877 = .ok (.istore 5, 2) := by decide +kernel
theorem dL_plans_879 : decode cL_plans 879 = .ok (.iload 5, 2) := by decide +kernel
theorem dL_plans_881 : decode cL_plans 881 = .ok (.bipush 11, 2) := by decide +kernel
theorem dL_plans_883 : decode cL_plans 883 = .ok (.if_icmp .ge 43, 3) := by decide +kernel
theorem dL_plans_886 : decode cL_plans 886 = .ok (.aload 4, 2) := by decide +kernel
theorem dL_plans_888 : decode cL_plans 888 = .ok (.bipush 7, 2) := by decide +kernel
theorem dL_plans_890 : decode cL_plans 890 = .ok (.iload 5, 2) := by decide +kernel
theorem dL_plans_892 : decode cL_plans 892 = .ok (.bipush 6, 2) := by decide +kernel
theorem dL_plans_894 : decode cL_plans 894 = .ok (.irem, 1) := by decide +kernel
theorem dL_plans_895 : decode cL_plans 895 = .ok (.ldc 119, 2) := by decide +kernel
theorem dL_plans_897 : decode cL_plans 897 = .ok (.iconst 0, 1) := by decide +kernel
theorem dL_plans_898 : decode cL_plans 898 = .ok (.invokestatic 87, 3) := by decide +kernel
theorem dL_plans_901 : decode cL_plans 901 = .ok (.iload 5, 2) := by decide +kernel
theorem dL_plans_903 : decode cL_plans 903 = .ok (.bipush 10, 2) := by decide +kernel
theorem dL_plans_905 : decode cL_plans 905 = .ok (.if_icmp .ge 8, 3) := by decide +kernel
theorem dL_plans_908 : decode cL_plans 908 = .ok (.iload 5, 2) := by decide +kernel
theorem dL_plans_910 : decode cL_plans 910 = .ok (.goto 5, 3) := by decide +kernel
theorem dL_plans_913 : decode cL_plans 913 = .ok (.bipush (-73), 2) := by decide +kernel
theorem dL_plans_915 : decode cL_plans 915 = .ok (.if_icmp .eq 5, 3) := by decide +kernel
theorem dL_plans_918 : decode cL_plans 918 = .ok (.iconst 0, 1) := by decide +kernel
theorem dL_plans_919 : decode cL_plans 919 = .ok (.ireturn, 1) := by decide +kernel
theorem dL_plans_920 : decode cL_plans 920 = .ok (.iinc 5 1, 3) := by decide +kernel
theorem dL_plans_923 : decode cL_plans 923 = .ok (.goto (-44), 3) := by decide +kernel
theorem dL_plans_926 : decode cL_plans 926 = .ok (.iconst 0, 1) := by decide +kernel
theorem dL_plans_927 : decode cL_plans 927 = .ok (.istore 5, 2) := by decide +kernel
theorem dL_plans_929 : decode cL_plans 929 = .ok (.iload 5, 2) := by decide +kernel
theorem dL_plans_931 : decode cL_plans 931 = .ok (.bipush 13, 2) := by decide +kernel
theorem dL_plans_933 : decode cL_plans 933 = .ok (.if_icmp .ge 46, 3) := by decide +kernel
theorem dL_plans_936 : decode cL_plans 936 = .ok (.aload 4, 2) := by decide +kernel
theorem dL_plans_938 : decode cL_plans 938 = .ok (.bipush 8, 2) := by decide +kernel
theorem dL_plans_940 : decode cL_plans 940 = .ok (.iload 5, 2) := by decide +kernel
theorem dL_plans_942 : decode cL_plans 942 = .ok (.iconst 1, 1) := by decide +kernel
theorem dL_plans_943 : decode cL_plans 943 = .ok (.isub, 1) := by decide +kernel
theorem dL_plans_944 : decode cL_plans 944 = .ok (.iload 5, 2) := by decide +kernel
theorem dL_plans_946 : decode cL_plans 946 = .ok (.bipush 6, 2) := by decide +kernel
theorem dL_plans_948 : decode cL_plans 948 = .ok (.irem, 1) := by decide +kernel
theorem dL_plans_949 : decode cL_plans 949 = .ok (.bipush 100, 2) := by decide +kernel
theorem dL_plans_951 : decode cL_plans 951 = .ok (.invokestatic 87, 3) := by decide +kernel
theorem dL_plans_954 : decode cL_plans 954 = .ok (.iload 5, 2) := by decide +kernel
theorem dL_plans_956 : decode cL_plans 956 = .ok (.bipush 12, 2) := by decide +kernel
theorem dL_plans_958 : decode cL_plans 958 = .ok (.if_icmp .ge 8, 3) := by decide +kernel
theorem dL_plans_961 : decode cL_plans 961 = .ok (.iload 5, 2) := by decide +kernel
theorem dL_plans_963 : decode cL_plans 963 = .ok (.goto 5, 3) := by decide +kernel
theorem dL_plans_966 : decode cL_plans 966 = .ok (.bipush (-73), 2) := by decide +kernel
theorem dL_plans_968 : decode cL_plans 968 = .ok (.if_icmp .eq 5, 3) := by decide +kernel
theorem dL_plans_971 : decode cL_plans 971 = .ok (.iconst 0, 1) := by decide +kernel
theorem dL_plans_972 : decode cL_plans 972 = .ok (.ireturn, 1) := by decide +kernel
theorem dL_plans_973 : decode cL_plans 973 = .ok (.iinc 5 1, 3) := by decide +kernel
theorem dL_plans_976 : decode cL_plans 976 = .ok (.goto (-47), 3) := by decide +kernel
theorem dL_plans_979 : decode cL_plans 979 = .ok (.aload 4, 2) := by decide +kernel
theorem dL_plans_981 : decode cL_plans 981 = .ok (.ldc 120, 2) := by decide +kernel
theorem dL_plans_983 : decode cL_plans 983 = .ok (.invokevirtual 41, 3) := by decide +kernel
theorem dL_plans_986 : decode cL_plans 986 = .ok (.ifCond .ne 65, 3) := by decide +kernel
theorem dL_plans_989 : decode cL_plans 989 = .ok (.aload 4, 2) := by decide +kernel
theorem dL_plans_991 : decode cL_plans 991 = .ok (.ldc 120, 2) := by decide +kernel
theorem dL_plans_993 : decode cL_plans 993 = .ok (.invokevirtual 41, 3) := by decide +kernel
theorem dL_plans_996 : decode cL_plans 996 = .ok (.ldc 120, 2) := by decide +kernel
theorem dL_plans_998 : decode cL_plans 998 = .ok (.if_icmp .ne 53, 3) := by decide +kernel
theorem dL_plans_1001 : decode cL_plans 1001 = .ok (.aload 4, 2) := by decide +kernel
theorem dL_plans_1003 : decode cL_plans 1003 = .ok (.iconst 5, 1) := by decide +kernel
theorem dL_plans_1004 : decode cL_plans 1004 = .ok (.invokevirtual 60, 3) := by decide +kernel
theorem dL_plans_1007 : decode cL_plans 1007 = .ok (.ldc 121, 2) := by decide +kernel
theorem dL_plans_1009 : decode cL_plans 1009 = .ok (.if_icmp .ne 42, 3) := by decide +kernel
theorem dL_plans_1012 : decode cL_plans 1012 = .ok (.aload 4, 2) := by decide +kernel
theorem dL_plans_1014 : decode cL_plans 1014 = .ok (.iconst 0, 1) := by decide +kernel
theorem dL_plans_1015 : decode cL_plans 1015 = .ok (.invokevirtual 60, 3) := by decide +kernel
theorem dL_plans_1018 : decode cL_plans 1018 = .ok (.ldc 122, 2) := by decide +kernel
theorem dL_plans_1020 : decode cL_plans 1020 = .ok (.if_icmp .ne 31, 3) := by decide +kernel
theorem dL_plans_1023 : decode cL_plans 1023 = .ok (.aload 4, 2) := by decide +kernel
theorem dL_plans_1025 : decode cL_plans 1025 = .ok (.invokevirtual 82, 3) := by decide +kernel
theorem dL_plans_1028 : decode cL_plans 1028 = .ok (.ifCond .ne 23, 3) := by decide +kernel
theorem dL_plans_1031 : decode cL_plans 1031 = .ok (.aload 4, 2) := by decide +kernel
theorem dL_plans_1033 : decode cL_plans 1033 = .ok (.bipush 8, 2) := by decide +kernel
theorem dL_plans_1035 : decode cL_plans 1035 = .ok (.bipush 8, 2) := by decide +kernel
theorem dL_plans_1037 : decode cL_plans 1037 = .ok (.bipush 10, 2) := by decide +kernel
theorem dL_plans_1039 : decode cL_plans 1039 = .ok (.bipush 12, 2) := by decide +kernel
theorem dL_plans_1041 : decode cL_plans 1041 = .ok (.invokestatic 109, 3) := by decide +kernel
theorem dL_plans_1044 : decode cL_plans 1044 = .ok (.ifCond .eq 7, 3) := by decide +kernel
theorem dL_plans_1047 : decode cL_plans 1047 = .ok (.iconst 1, 1) := by decide +kernel
theorem dL_plans_1048 : decode cL_plans 1048 = .ok (.goto 4, 3) := by decide +kernel
theorem dL_plans_1051 : decode cL_plans 1051 = .ok (.iconst 0, 1) := by decide +kernel
theorem dL_plans_1052 : decode cL_plans 1052 = .ok (.ireturn, 1) := by decide +kernel
theorem dL_law_0 : decode cL_law 0 = .ok (.invokestatic 123, 3) := by decide +kernel
theorem dL_law_3 : decode cL_law 3 = .ok (.ifCond .eq 9, 3) := by decide +kernel
theorem dL_law_6 : decode cL_law 6 = .ok (.invokestatic 126, 3) := by decide +kernel
theorem dL_law_9 : decode cL_law 9 = .ok (.ifCond .ne 5, 3) := by decide +kernel
theorem dL_law_12 : decode cL_law 12 = .ok (.iconst 0, 1) := by decide +kernel
theorem dL_law_13 : decode cL_law 13 = .ok (.ireturn, 1) := by decide +kernel
theorem dL_law_14 : decode cL_law 14 = .ok (.new 8, 3) := by decide +kernel
theorem dL_law_17 : decode cL_law 17 = .ok (.dup, 1) := by decide +kernel
theorem dL_law_18 : decode cL_law 18 = .ok (.invokespecial 98, 3) := by decide +kernel
theorem dL_law_21 : decode cL_law 21 = .ok (.astore_n 1, 1) := by decide +kernel
theorem dL_law_22 : decode cL_law 22 = .ok (.iconst 0, 1) := by decide +kernel
theorem dL_law_23 : decode cL_law 23 = .ok (.istore_n 2, 1) := by decide +kernel
theorem dL_law_24 : decode cL_law 24 = .ok (.iload_n 2, 1) := by decide +kernel
theorem dL_law_25 : decode cL_law 25 = .ok (.sipush 1001, 3) := by decide +kernel
theorem dL_law_28 : decode cL_law 28 = .ok (.if_icmp .ge 37, 3) := by decide +kernel
theorem dL_law_31 : decode cL_law 31 = .ok (.aload_n 1, 1) := by decide +kernel
theorem dL_law_32 : decode cL_law 32 = .ok (.iconst 3, 1) := by decide +kernel
theorem dL_law_33 : decode cL_law 33 = .ok (.iload_n 2, 1) := by decide +kernel
theorem dL_law_34 : decode cL_law 34 = .ok (.iconst 2, 1) := by decide +kernel
theorem dL_law_35 : decode cL_law 35 = .ok (.irem, 1) := by decide +kernel
theorem dL_law_36 : decode cL_law 36 = .ok (.iconst 0, 1) := by decide +kernel
theorem dL_law_37 : decode cL_law 37 = .ok (.iconst 0, 1) := by decide +kernel
theorem dL_law_38 : decode cL_law 38 = .ok (.invokestatic 87, 3) := by decide +kernel
theorem dL_law_41 : decode cL_law 41 = .ok (.iload_n 2, 1) := by decide +kernel
theorem dL_law_42 : decode cL_law 42 = .ok (.sipush 1000, 3) := by decide +kernel
theorem dL_law_45 : decode cL_law 45 = .ok (.if_icmp .ge 7, 3) := by decide +kernel
theorem dL_law_48 : decode cL_law 48 = .ok (.iconst 0, 1) := by decide +kernel
theorem dL_law_49 : decode cL_law 49 = .ok (.goto 5, 3) := by decide +kernel
theorem dL_law_52 : decode cL_law 52 = .ok (.bipush (-73), 2) := by decide +kernel
theorem dL_law_54 : decode cL_law 54 = .ok (.if_icmp .eq 5, 3) := by decide +kernel
theorem dL_law_57 : decode cL_law 57 = .ok (.iconst 0, 1) := by decide +kernel
theorem dL_law_58 : decode cL_law 58 = .ok (.ireturn, 1) := by decide +kernel
theorem dL_law_59 : decode cL_law 59 = .ok (.iinc 2 1, 3) := by decide +kernel
theorem dL_law_62 : decode cL_law 62 = .ok (.goto (-38), 3) := by decide +kernel
theorem dL_law_65 : decode cL_law 65 = .ok (.aload_n 1, 1) := by decide +kernel
theorem dL_law_66 : decode cL_law 66 = .ok (.invokevirtual 99, 3) := by decide +kernel
theorem dL_law_69 : decode cL_law 69 = .ok (.sipush 1000, 3) := by decide +kernel
theorem dL_law_72 : decode cL_law 72 = .ok (.if_icmp .ne 39, 3) := by decide +kernel
theorem dL_law_75 : decode cL_law 75 = .ok (.aload_n 1, 1) := by decide +kernel
theorem dL_law_76 : decode cL_law 76 = .ok (.iconst 1, 1) := by decide +kernel
theorem dL_law_77 : decode cL_law 77 = .ok (.iconst 0, 1) := by decide +kernel
theorem dL_law_78 : decode cL_law 78 = .ok (.iconst 0, 1) := by decide +kernel
theorem dL_law_79 : decode cL_law 79 = .ok (.iconst 2, 1) := by decide +kernel
theorem dL_law_80 : decode cL_law 80 = .ok (.iconst 0, 1) := by decide +kernel
theorem dL_law_81 : decode cL_law 81 = .ok (.invokevirtual 69, 3) := by decide +kernel
theorem dL_law_84 : decode cL_law 84 = .ok (.ifCond .ne 27, 3) := by decide +kernel
theorem dL_law_87 : decode cL_law 87 = .ok (.aload_n 1, 1) := by decide +kernel
theorem dL_law_88 : decode cL_law 88 = .ok (.iconst 0, 1) := by decide +kernel
theorem dL_law_89 : decode cL_law 89 = .ok (.invokevirtual 51, 3) := by decide +kernel
theorem dL_law_92 : decode cL_law 92 = .ok (.sipush 24018, 3) := by decide +kernel
theorem dL_law_95 : decode cL_law 95 = .ok (.if_icmp .ne 16, 3) := by decide +kernel
theorem dL_law_98 : decode cL_law 98 = .ok (.aload_n 1, 1) := by decide +kernel
theorem dL_law_99 : decode cL_law 99 = .ok (.iconst 3, 1) := by decide +kernel
theorem dL_law_100 : decode cL_law 100 = .ok (.iconst 0, 1) := by decide +kernel
theorem dL_law_101 : decode cL_law 101 = .ok (.iconst 0, 1) := by decide +kernel
theorem dL_law_102 : decode cL_law 102 = .ok (.iconst 0, 1) := by decide +kernel
theorem dL_law_103 : decode cL_law 103 = .ok (.invokestatic 87, 3) := by decide +kernel
theorem dL_law_106 : decode cL_law 106 = .ok (.bipush (-73), 2) := by decide +kernel
theorem dL_law_108 : decode cL_law 108 = .ok (.if_icmp .eq 5, 3) := by decide +kernel
theorem dL_law_111 : decode cL_law 111 = .ok (.iconst 0, 1) := by decide +kernel
theorem dL_law_112 : decode cL_law 112 = .ok (.ireturn, 1) := by decide +kernel
theorem dL_law_113 : decode cL_law 113 = .ok (.new 8, 3) := by decide +kernel
theorem dL_law_116 : decode cL_law 116 = .ok (.dup, 1) := by decide +kernel
theorem dL_law_117 : decode cL_law 117 = .ok (.invokespecial 98, 3) := by decide +kernel
theorem dL_law_120 : decode cL_law 120 = .ok (.astore_n 2, 1) := by decide +kernel
theorem dL_law_121 : decode cL_law 121 = .ok (.aload_n 2, 1) := by decide +kernel
theorem dL_law_122 : decode cL_law 122 = .ok (.iconst 1, 1) := by decide +kernel
theorem dL_law_123 : decode cL_law 123 = .ok (.iconst 1, 1) := by decide +kernel
theorem dL_law_124 : decode cL_law 124 = .ok (.invokevirtual 16, 3) := by decide +kernel
theorem dL_law_127 : decode cL_law 127 = .ok (.bipush 100, 2) := by decide +kernel
theorem dL_law_129 : decode cL_law 129 = .ok (.if_icmp .ne 14, 3) := by decide +kernel
theorem dL_law_132 : decode cL_law 132 = .ok (.aload_n 2, 1) := by decide +kernel
theorem dL_law_133 : decode cL_law 133 = .ok (.ldc 119, 2) := by decide +kernel
theorem dL_law_135 : decode cL_law 135 = .ok (.invokevirtual 27, 3) := by decide +kernel
theorem dL_law_138 : decode cL_law 138 = .ok (.ldc 119, 2) := by decide +kernel
theorem dL_law_140 : decode cL_law 140 = .ok (.if_icmp .eq 5, 3) := by decide +kernel
theorem dL_law_143 : decode cL_law 143 = .ok (.iconst 0, 1) := by decide +kernel
theorem dL_law_144 : decode cL_law 144 = .ok (.ireturn, 1) := by decide +kernel
theorem dL_law_145 : decode cL_law 145 = .ok (.iconst 0, 1) := by decide +kernel
theorem dL_law_146 : decode cL_law 146 = .ok (.istore_n 3, 1) := by decide +kernel
theorem dL_law_147 : decode cL_law 147 = .ok (.iconst 0, 1) := by decide +kernel
theorem dL_law_148 : decode cL_law 148 = .ok (.istore 4, 2) := by decide +kernel
theorem dL_law_150 : decode cL_law 150 = .ok (.iload 4, 2) := by decide +kernel
theorem dL_law_152 : decode cL_law 152 = .ok (.bipush 8, 2) := by decide +kernel
theorem dL_law_154 : decode cL_law 154 = .ok (.if_icmp .ge 134, 3) := by decide +kernel
theorem dL_law_157 : decode cL_law 157 = .ok (.aload_n 0, 1) := by decide +kernel
theorem dL_law_158 : decode cL_law 158 = .ok (.arraylength, 1) := by decide +kernel
theorem dL_law_159 : decode cL_law 159 = .ok (.ifCond .ne 11, 3) := by decide +kernel
theorem dL_law_162 : decode cL_law 162 = .ok (.bipush 71, 2) := by decide +kernel
theorem dL_law_164 : decode cL_law 164 = .ok (.iload 4, 2) := by decide +kernel
theorem dL_law_166 : decode cL_law 166 = .ok (.imul, 1) := by decide +kernel
theorem dL_law_167 : decode cL_law 167 = .ok (.goto 13, 3) := by decide +kernel
theorem dL_law_170 : decode cL_law 170 = .ok (.aload_n 0, 1) := by decide +kernel
theorem dL_law_171 : decode cL_law 171 = .ok (.iload 4, 2) := by decide +kernel
theorem dL_law_173 : decode cL_law 173 = .ok (.aload_n 0, 1) := by decide +kernel
theorem dL_law_174 : decode cL_law 174 = .ok (.arraylength, 1) := by decide +kernel
theorem dL_law_175 : decode cL_law 175 = .ok (.irem, 1) := by decide +kernel
theorem dL_law_176 : decode cL_law 176 = .ok (.iaload, 1) := by decide +kernel
theorem dL_law_177 : decode cL_law 177 = .ok (.bipush 8, 2) := by decide +kernel
theorem dL_law_179 : decode cL_law 179 = .ok (.iushr, 1) := by decide +kernel
theorem dL_law_180 : decode cL_law 180 = .ok (.istore 5, 2) := by decide +kernel
theorem dL_law_182 : decode cL_law 182 = .ok (.aload_n 2, 1) := by decide +kernel
theorem dL_law_183 : decode cL_law 183 = .ok (.iconst 1, 1) := by decide +kernel
theorem dL_law_184 : decode cL_law 184 = .ok (.iload 5, 2) := by decide +kernel
theorem dL_law_186 : decode cL_law 186 = .ok (.bipush 6, 2) := by decide +kernel
theorem dL_law_188 : decode cL_law 188 = .ok (.irem, 1) := by decide +kernel
theorem dL_law_189 : decode cL_law 189 = .ok (.iadd, 1) := by decide +kernel
theorem dL_law_190 : decode cL_law 190 = .ok (.iload 5, 2) := by decide +kernel
theorem dL_law_192 : decode cL_law 192 = .ok (.iconst 4, 1) := by decide +kernel
theorem dL_law_193 : decode cL_law 193 = .ok (.irem, 1) := by decide +kernel
theorem dL_law_194 : decode cL_law 194 = .ok (.iload 5, 2) := by decide +kernel
theorem dL_law_196 : decode cL_law 196 = .ok (.bipush 64, 2) := by decide +kernel
theorem dL_law_198 : decode cL_law 198 = .ok (.irem, 1) := by decide +kernel
theorem dL_law_199 : decode cL_law 199 = .ok (.iload 5, 2) := by decide +kernel
theorem dL_law_201 : decode cL_law 201 = .ok (.iconst 3, 1) := by decide +kernel
theorem dL_law_202 : decode cL_law 202 = .ok (.irem, 1) := by decide +kernel
theorem dL_law_203 : decode cL_law 203 = .ok (.iload 4, 2) := by decide +kernel
theorem dL_law_205 : decode cL_law 205 = .ok (.ifCond .ne 7, 3) := by decide +kernel
theorem dL_law_208 : decode cL_law 208 = .ok (.iconst 0, 1) := by decide +kernel
theorem dL_law_209 : decode cL_law 209 = .ok (.goto 10, 3) := by decide +kernel
theorem dL_law_212 : decode cL_law 212 = .ok (.iload 5, 2) := by decide +kernel
theorem dL_law_214 : decode cL_law 214 = .ok (.iconst 1, 1) := by decide +kernel
theorem dL_law_215 : decode cL_law 215 = .ok (.iload 4, 2) := by decide +kernel
theorem dL_law_217 : decode cL_law 217 = .ok (.ishl, 1) := by decide +kernel
theorem dL_law_218 : decode cL_law 218 = .ok (.irem, 1) := by decide +kernel
theorem dL_law_219 : decode cL_law 219 = .ok (.invokevirtual 69, 3) := by decide +kernel
theorem dL_law_222 : decode cL_law 222 = .ok (.iload 4, 2) := by decide +kernel
theorem dL_law_224 : decode cL_law 224 = .ok (.if_icmp .ne 56, 3) := by decide +kernel
theorem dL_law_227 : decode cL_law 227 = .ok (.iload 4, 2) := by decide +kernel
theorem dL_law_229 : decode cL_law 229 = .ok (.iconst 3, 1) := by decide +kernel
theorem dL_law_230 : decode cL_law 230 = .ok (.irem, 1) := by decide +kernel
theorem dL_law_231 : decode cL_law 231 = .ok (.iconst 2, 1) := by decide +kernel
theorem dL_law_232 : decode cL_law 232 = .ok (.if_icmp .ne 23, 3) := by decide +kernel
theorem dL_law_235 : decode cL_law 235 = .ok (.aload_n 2, 1) := by decide +kernel
theorem dL_law_236 : decode cL_law 236 = .ok (.iload 5, 2) := by decide +kernel
theorem dL_law_238 : decode cL_law 238 = .ok (.iconst 2, 1) := by decide +kernel
theorem dL_law_239 : decode cL_law 239 = .ok (.irem, 1) := by decide +kernel
theorem dL_law_240 : decode cL_law 240 = .ok (.ifCond .ne 7, 3) := by decide +kernel
theorem dL_law_243 : decode cL_law 243 = .ok (.iconst 1, 1) := by decide +kernel
theorem dL_law_244 : decode cL_law 244 = .ok (.goto 4, 3) := by decide +kernel
theorem dL_law_247 : decode cL_law 247 = .ok (.iconst 0, 1) := by decide +kernel
theorem dL_law_248 : decode cL_law 248 = .ok (.invokevirtual 20, 3) := by decide +kernel
theorem dL_law_251 : decode cL_law 251 = .ok (.iconst 1, 1) := by decide +kernel
theorem dL_law_252 : decode cL_law 252 = .ok (.if_icmp .lt 28, 3) := by decide +kernel
theorem dL_law_255 : decode cL_law 255 = .ok (.aload_n 2, 1) := by decide +kernel
theorem dL_law_256 : decode cL_law 256 = .ok (.invokevirtual 73, 3) := by decide +kernel
theorem dL_law_259 : decode cL_law 259 = .ok (.ifCond .lt 21, 3) := by decide +kernel
theorem dL_law_262 : decode cL_law 262 = .ok (.iload 4, 2) := by decide +kernel
theorem dL_law_264 : decode cL_law 264 = .ok (.bipush 6, 2) := by decide +kernel
theorem dL_law_266 : decode cL_law 266 = .ok (.if_icmp .ge 16, 3) := by decide +kernel
theorem dL_law_269 : decode cL_law 269 = .ok (.aload_n 2, 1) := by decide +kernel
theorem dL_law_270 : decode cL_law 270 = .ok (.invokevirtual 73, 3) := by decide +kernel
theorem dL_law_273 : decode cL_law 273 = .ok (.aload_n 2, 1) := by decide +kernel
theorem dL_law_274 : decode cL_law 274 = .ok (.invokevirtual 44, 3) := by decide +kernel
theorem dL_law_277 : decode cL_law 277 = .ok (.if_icmp .eq 5, 3) := by decide +kernel
theorem dL_law_280 : decode cL_law 280 = .ok (.iconst 0, 1) := by decide +kernel
theorem dL_law_281 : decode cL_law 281 = .ok (.ireturn, 1) := by decide +kernel
theorem dL_law_282 : decode cL_law 282 = .ok (.iinc 4 1, 3) := by decide +kernel
theorem dL_law_285 : decode cL_law 285 = .ok (.goto (-135), 3) := by decide +kernel
theorem dL_law_288 : decode cL_law 288 = .ok (.iconst 0, 1) := by decide +kernel
theorem dL_law_289 : decode cL_law 289 = .ok (.istore 4, 2) := by decide +kernel
theorem dL_law_291 : decode cL_law 291 = .ok (.iload 4, 2) := by decide +kernel
theorem dL_law_293 : decode cL_law 293 = .ok (.bipush 30, 2) := by decide +kernel
theorem dL_law_295 : decode cL_law 295 = .ok (.if_icmp .ge 17, 3) := by decide +kernel
theorem dL_law_298 : decode cL_law 298 = .ok (.iload_n 3, 1) := by decide +kernel
theorem dL_law_299 : decode cL_law 299 = .ok (.aload_n 2, 1) := by decide +kernel
theorem dL_law_300 : decode cL_law 300 = .ok (.iconst 0, 1) := by decide +kernel
theorem dL_law_301 : decode cL_law 301 = .ok (.invokevirtual 20, 3) := by decide +kernel
theorem dL_law_304 : decode cL_law 304 = .ok (.iadd, 1) := by decide +kernel
theorem dL_law_305 : decode cL_law 305 = .ok (.istore_n 3, 1) := by decide +kernel
theorem dL_law_306 : decode cL_law 306 = .ok (.iinc 4 1, 3) := by decide +kernel
theorem dL_law_309 : decode cL_law 309 = .ok (.goto (-18), 3) := by decide +kernel
theorem dL_law_312 : decode cL_law 312 = .ok (.iload_n 3, 1) := by decide +kernel
theorem dL_law_313 : decode cL_law 313 = .ok (.ifCond .lt 36, 3) := by decide +kernel
theorem dL_law_316 : decode cL_law 316 = .ok (.aload_n 2, 1) := by decide +kernel
theorem dL_law_317 : decode cL_law 317 = .ok (.invokevirtual 102, 3) := by decide +kernel
theorem dL_law_320 : decode cL_law 320 = .ok (.sipush 255, 3) := by decide +kernel
theorem dL_law_323 : decode cL_law 323 = .ok (.if_icmp .ne 26, 3) := by decide +kernel
theorem dL_law_326 : decode cL_law 326 = .ok (.aload_n 2, 1) := by decide +kernel
theorem dL_law_327 : decode cL_law 327 = .ok (.invokevirtual 73, 3) := by decide +kernel
theorem dL_law_330 : decode cL_law 330 = .ok (.ifCond .ne 19, 3) := by decide +kernel
theorem dL_law_333 : decode cL_law 333 = .ok (.aload_n 2, 1) := by decide +kernel
theorem dL_law_334 : decode cL_law 334 = .ok (.bipush 8, 2) := by decide +kernel
theorem dL_law_336 : decode cL_law 336 = .ok (.iconst 0, 1) := by decide +kernel
theorem dL_law_337 : decode cL_law 337 = .ok (.iconst 0, 1) := by decide +kernel
theorem dL_law_338 : decode cL_law 338 = .ok (.iconst 0, 1) := by decide +kernel
theorem dL_law_339 : decode cL_law 339 = .ok (.invokestatic 109, 3) := by decide +kernel
theorem dL_law_342 : decode cL_law 342 = .ok (.ifCond .eq 7, 3) := by decide +kernel
theorem dL_law_345 : decode cL_law 345 = .ok (.iconst 1, 1) := by decide +kernel
theorem dL_law_346 : decode cL_law 346 = .ok (.goto 4, 3) := by decide +kernel
theorem dL_law_349 : decode cL_law 349 = .ok (.iconst 0, 1) := by decide +kernel
theorem dL_law_350 : decode cL_law 350 = .ok (.ireturn, 1) := by decide +kernel
end
section
/-! Rows over worlds that are told by lists: WW holds a place of a walk for every heap that shows the world. -/
abbrev SS : Type := Nat → Nat → Int32
def sst (σ : SS) (k : Nat) (f : Nat → Int32) : SS := fun j => if j = k then f else σ j
def wr (σ : SS) (k i : Nat) (x : Int32) : SS := sst σ k (upd (σ k) i x)
/-- the links of private members of nest mates, and the casts that the tables decide but that are no good words -/
def nestL : List (String × Nat × MethodName × String) := [(RX4, 9, yX2_init, RX4), (RX2, 11, yX3_init, RX4), (RX4, 23, yX0_init, RX4), (RX4, 30, yX1_init, RX4), (RX2, 54, yX4_at, RX4), (RX2, 83, yX4_put, RX4), (RX3, 44, yX4_isIn, RX4), (RX3, 48, yX4_at, RX4), (RX2, 80, yX4_isIn, RX4), (RX2, 73, yX4_with, RX4), (RX3, 31, yX4_put, RX4), (RX0, 15, yX4_at, RX4), (RX0, 28, yX4_add, RX4), (RX1, 37, yX4_put, RX4), (RX1, 44, yX4_at, RX4), (RX1, 54, yX4_add, RX4)]
def castL : List String := ["java/lang/IllegalArgumentException", "java/lang/IllegalStateException", "java/lang/IndexOutOfBoundsException"]
def declL : List MethodName := [⟨"java/lang/RuntimeException", "<init>", "()V"⟩, ⟨"java/lang/Exception", "<init>", "()V"⟩, ⟨"java/lang/Throwable", "<init>", "()V"⟩]
def NWs (U : State) : Prop := (∀ q ∈ nestL, va_Nw (.methodLinkNest q.1 q.2.1 q.2.2.1 q.2.2.2) U) ∧ (∀ C ∈ castL, va_Nw (.castable C C) U) ∧ (∀ C ∈ castL, ∀ T ∈ castL, C ≠ T → va_Nc C T U) ∧ ∀ x ∈ declL, va_Nw (.declares x) U
theorem NWs.warm {s U : State} (hW : s.WarmedH U.vm) (h : NWs s) : NWs U := ⟨fun q hq => va_Nw.warmM hW (h.1 q hq), fun C hC => va_Nw.warmC hW (h.2.1 C hC), fun C hC T hT hne => va_Nc.moved hW.alike (h.2.2.1 C hC T hT hne), fun x hx => va_Nw.warmD hW (h.2.2.2 x hx)⟩
theorem NWs.call {U : State} {g : JFrame} {mk : MethodId} {a : Array Value} (h : NWs U) : NWs (U.calling g mk a) := ⟨fun q hq => va_Nw.same rfl rfl (h.1 q hq), fun C hC => va_Nw.same rfl rfl (h.2.1 C hC), fun C hC T hT hne => va_Nc.moved (Vm.Alike.refl U.vm) (h.2.2.1 C hC T hT hne), fun x hx => va_Nw.same rfl rfl (h.2.2.2 x hx)⟩
theorem all_in {x y : Cond} (h : y ∈ wALL) : GoodIn (x :: wALL) (y :: wALL) := fun w hw => by
  rcases List.mem_cons.mp hw with e | e
  · rw [e]; exact ⟨List.mem_cons_of_mem _ h, good_of_word (all_good y h)⟩
  · exact ⟨List.mem_cons_of_mem _ e, good_of_word (all_good w e)⟩
theorem all_in0 {y : Cond} (h : y ∈ wALL) : GoodIn wALL (y :: wALL) := fun w hw => by
  rcases List.mem_cons.mp hw with e | e
  · rw [e]; exact ⟨h, good_of_word (all_good y h)⟩
  · exact ⟨e, good_of_word (all_good w e)⟩
theorem ob {α β : Type} {o : Option α} {f : α → Option β} {b : β} (h : o.bind f = some b) : ∃ a, o = some a ∧ f a = some b := by
  cases o with
  | none => cases h
  | some a => exact ⟨a, rfl, h⟩
theorem og {c : Prop} [Decidable c] {α : Type} {x : Option α} {b : α} (h : (if c then x else none) = some b) : c ∧ x = some b := by
  by_cases hc : c
  · rw [if_pos hc] at h; exact ⟨hc, h⟩
  · rw [if_neg hc] at h; cases h
theorem it_p {c : Prop} [Decidable c] {α : Type} {a b r : α} (hc : c) (h : (if c then a else b) = r) : a = r := by rw [if_pos hc] at h; exact h
theorem it_n {c : Prop} [Decidable c] {α : Type} {a b r : α} (hc : ¬ c) (h : (if c then a else b) = r) : b = r := by rw [if_neg hc] at h; exact h
def bd2 {α β γ : Type} (o : Option (α × β)) (f : α → β → Option γ) : Option γ := match o with
  | none => none
  | some (a, b) => f a b
theorem ob2 {α β γ : Type} {o : Option (α × β)} {f : α → β → Option γ} {c : γ} (h : bd2 o f = some c) : ∃ a b, o = some (a, b) ∧ f a b = some c := by
  rcases o with _ | ⟨a, b⟩
  · cases h
  · exact ⟨a, b, rfl, h⟩
def lt {α β : Type} (v : α) (f : α → β) : β := f v
theorem lt_e {α β : Type} {v : α} {f : α → β} {c : β} (h : lt v f = c) : ∃ a, v = a ∧ f a = c := ⟨v, rfl, h⟩
theorem va_D.adr {A : Nat → Prop} {ws ws1 : va_W} (h : va_D A ws) (he : ws1.map Prod.fst = ws.map Prod.fst) : va_D A ws1 := by
  have key : ∀ (k : Nat) (q : Nat × va_E), ws1[k]? = some q → ∃ q0, ws[k]? = some q0 ∧ q0.1 = q.1 := by
    intro k q hk
    have h1 : (ws1.map Prod.fst)[k]? = some q.1 := by rw [List.getElem?_map, hk]; rfl
    rw [he, List.getElem?_map] at h1
    cases hq : ws[k]? with
    | none => rw [hq] at h1; cases h1
    | some q0 => rw [hq] at h1; exact ⟨q0, rfl, Option.some.inj h1⟩
  refine ⟨fun i j x y hi hj hxy => ?_, fun k q hk => ?_⟩
  · obtain ⟨x0, h1, h2⟩ := key i x hi
    obtain ⟨y0, h3, h4⟩ := key j y hj
    exact h.1 i j x0 y0 h1 h3 (h2.trans (hxy.trans h4.symm))
  · obtain ⟨q0, h1, h2⟩ := key k q hk
    rw [← h2]
    exact h.2 k q0 h1
section WWS
variable {p : Program} {l : Launch} {e : Env} {R : Room} {s : State} {m : MethodId} {args : Array Value} {below : List Frame} {meth : Method} {c : Code} {cells slots : Nat} {Q : State → Prop}
variable {D : va_G} {cl : List vw_C} {tys : List (ClassId × FieldType)} {A0 : Nat → Prop} {nL : Nat} {ws ws1 : va_W} {cc : ByteArray} {pc : Nat} {lv lv1 : List (Nat × Value)} {st : List Value}
def WW (p : Program) (l : Launch) (e : Env) (R : Room) (s : State) (m : MethodId) (args : Array Value) (below : List Frame) (meth : Method) (c : Code) (D : va_G) (cl : List vw_C) (A0 : Nat → Prop) (nL cells slots : Nat) (Q : State → Prop) (ws : va_W) (pc : Nat) (lv : List (Nat × Value)) (st : List Value) : Prop :=
  ∀ (H : Heap) (locs : List Loc) (ls : Array Slot), va_P D cl ws H → va_S A0 s.heap H locs → lv_has ls nL lv → W p l e R s m args below meth c H locs cells slots Q (F0 m pc ls st)
theorem ww_of {pc1 : Nat} {st1 : List Value} (h : ∀ (H : Heap) (locs : List Loc) (ls : Array Slot), lv_has ls nL lv → W p l e R s m args below meth c H locs cells slots Q (F0 m pc1 ls st1) → W p l e R s m args below meth c H locs cells slots Q (F0 m pc ls st))
    (kk : WW p l e R s m args below meth c D cl A0 nL cells slots Q ws pc1 lv st1) : WW p l e R s m args below meth c D cl A0 nL cells slots Q ws pc lv st := fun H locs ls hP hS hl => h H locs ls hl (kk H locs ls hP hS hl)
/-- fewer locals are enough -/
theorem ww_sub (ks : List Nat) (hk : lv_pick lv ks = lv1) (kk : WW p l e R s m args below meth c D cl A0 nL cells slots Q ws pc lv1 st) : WW p l e R s m args below meth c D cl A0 nL cells slots Q ws pc lv st := fun H locs ls hP hS hl => kk H locs ls hP hS (lv_sub hl ks hk)
theorem ww_eq {ws1 : va_W} (h : ws = ws1) (kk : WW p l e R s m args below meth c D cl A0 nL cells slots Q ws1 pc lv st) : WW p l e R s m args below meth c D cl A0 nL cells slots Q ws pc lv st := h ▸ kk
theorem ww_iconst (hx : p.tables.exec = Jvm.exec) (hb : c.code = cc) {n : Int} {v : Int32} (hd : decode cc pc = .ok (.iconst n, 1)) (hv : Int32.ofInt n = v) (kk : WW p l e R s m args below meth c D cl A0 nL cells slots Q ws (pc + 1) lv (.int v :: st)) : WW p l e R s m args below meth c D cl A0 nL cells slots Q ws pc lv st := ww_of (fun _ _ _ _ k => lv_iconst hx hb hd hv k) kk
theorem ww_bipush (hx : p.tables.exec = Jvm.exec) (hb : c.code = cc) {n : Int} {v : Int32} (hd : decode cc pc = .ok (.bipush n, 2)) (hv : (Int8.ofInt n).toInt32 = v) (kk : WW p l e R s m args below meth c D cl A0 nL cells slots Q ws (pc + 2) lv (.int v :: st)) : WW p l e R s m args below meth c D cl A0 nL cells slots Q ws pc lv st := ww_of (fun _ _ _ _ k => lv_bipush hx hb hd hv k) kk
theorem ww_sipush (hx : p.tables.exec = Jvm.exec) (hb : c.code = cc) {n : Int} {v : Int32} (hd : decode cc pc = .ok (.sipush n, 3)) (hv : (Int16.ofInt n).toInt32 = v) (kk : WW p l e R s m args below meth c D cl A0 nL cells slots Q ws (pc + 3) lv (.int v :: st)) : WW p l e R s m args below meth c D cl A0 nL cells slots Q ws pc lv st := ww_of (fun _ _ _ _ k => lv_sipush hx hb hd hv k) kk
theorem ww_lconst (hx : p.tables.exec = Jvm.exec) (hb : c.code = cc) {n : Fin 2} {v : Int64} (hd : decode cc pc = .ok (.lconst n, 1)) (hv : Int64.ofNat (n : Nat) = v) (kk : WW p l e R s m args below meth c D cl A0 nL cells slots Q ws (pc + 1) lv (.long v :: st)) : WW p l e R s m args below meth c D cl A0 nL cells slots Q ws pc lv st := ww_of (fun _ _ _ _ k => lv_lconst hx hb hd hv k) kk
theorem ww_iload_n (hx : p.tables.exec = Jvm.exec) (hb : c.code = cc) {k : Fin 4} {i : Nat} {x : Int32} (hd : decode cc pc = .ok (.iload_n k, 1)) (hi : (k : Nat) = i) (n : Nat) (hl : lv[n]? = some (i, .int x)) (kk : WW p l e R s m args below meth c D cl A0 nL cells slots Q ws (pc + 1) lv (.int x :: st)) : WW p l e R s m args below meth c D cl A0 nL cells slots Q ws pc lv st := ww_of (fun _ _ _ h k => lv_iload_n hx hb hd hi (lv_at h n hl) k) kk
theorem ww_iload (hx : p.tables.exec = Jvm.exec) (hb : c.code = cc) {i : Nat} {x : Int32} (hd : decode cc pc = .ok (.iload i, 2)) (n : Nat) (hl : lv[n]? = some (i, .int x)) (kk : WW p l e R s m args below meth c D cl A0 nL cells slots Q ws (pc + 2) lv (.int x :: st)) : WW p l e R s m args below meth c D cl A0 nL cells slots Q ws pc lv st := ww_of (fun _ _ _ h k => lv_iload hx hb hd (lv_at h n hl) k) kk
theorem ww_aload_n (hx : p.tables.exec = Jvm.exec) (hb : c.code = cc) {k : Fin 4} {i : Nat} {x : Nat} (hd : decode cc pc = .ok (.aload_n k, 1)) (hi : (k : Nat) = i) (n : Nat) (hl : lv[n]? = some (i, .ref x)) (kk : WW p l e R s m args below meth c D cl A0 nL cells slots Q ws (pc + 1) lv (.ref x :: st)) : WW p l e R s m args below meth c D cl A0 nL cells slots Q ws pc lv st := ww_of (fun _ _ _ h k => lv_aload_n hx hb hd hi (lv_at h n hl) k) kk
theorem ww_aload (hx : p.tables.exec = Jvm.exec) (hb : c.code = cc) {i : Nat} {x : Nat} (hd : decode cc pc = .ok (.aload i, 2)) (n : Nat) (hl : lv[n]? = some (i, .ref x)) (kk : WW p l e R s m args below meth c D cl A0 nL cells slots Q ws (pc + 2) lv (.ref x :: st)) : WW p l e R s m args below meth c D cl A0 nL cells slots Q ws pc lv st := ww_of (fun _ _ _ h k => lv_aload hx hb hd (lv_at h n hl) k) kk
theorem ww_istore_n (hx : p.tables.exec = Jvm.exec) (hb : c.code = cc) {k : Fin 4} {i : Nat} {x : Int32} (hd : decode cc pc = .ok (.istore_n k, 1)) (hi : (k : Nat) = i) (hn : i < nL) (ks : List Nat) (hl : lv_pick ((i, Value.int x) :: lv.filter (fun q => !(q.1 == i) && !(q.1 + 1 == i && q.2.category == 2))) ks = lv1) (kk : WW p l e R s m args below meth c D cl A0 nL cells slots Q ws (pc + 1) lv1 st) : WW p l e R s m args below meth c D cl A0 nL cells slots Q ws pc lv (.int x :: st) :=
  fun H locs _ hP hS h => lv_istore_n hx hb hd hi h hn rfl (fun ls' h' => kk H locs ls' hP hS (lv_sub h' ks hl))
theorem ww_istore (hx : p.tables.exec = Jvm.exec) (hb : c.code = cc) {i : Nat} {x : Int32} (hd : decode cc pc = .ok (.istore i, 2)) (hn : i < nL) (ks : List Nat) (hl : lv_pick ((i, Value.int x) :: lv.filter (fun q => !(q.1 == i) && !(q.1 + 1 == i && q.2.category == 2))) ks = lv1) (kk : WW p l e R s m args below meth c D cl A0 nL cells slots Q ws (pc + 2) lv1 st) : WW p l e R s m args below meth c D cl A0 nL cells slots Q ws pc lv (.int x :: st) :=
  fun H locs _ hP hS h => lv_istore hx hb hd h hn rfl (fun ls' h' => kk H locs ls' hP hS (lv_sub h' ks hl))
theorem ww_astore_n (hx : p.tables.exec = Jvm.exec) (hb : c.code = cc) {k : Fin 4} {i : Nat} {x : Nat} (hd : decode cc pc = .ok (.astore_n k, 1)) (hi : (k : Nat) = i) (hn : i < nL) (ks : List Nat) (hl : lv_pick ((i, Value.ref x) :: lv.filter (fun q => !(q.1 == i) && !(q.1 + 1 == i && q.2.category == 2))) ks = lv1) (kk : WW p l e R s m args below meth c D cl A0 nL cells slots Q ws (pc + 1) lv1 st) : WW p l e R s m args below meth c D cl A0 nL cells slots Q ws pc lv (.ref x :: st) :=
  fun H locs _ hP hS h => lv_astore_n hx hb hd hi h hn rfl (fun ls' h' => kk H locs ls' hP hS (lv_sub h' ks hl))
theorem ww_astore (hx : p.tables.exec = Jvm.exec) (hb : c.code = cc) {i : Nat} {x : Nat} (hd : decode cc pc = .ok (.astore i, 2)) (hn : i < nL) (ks : List Nat) (hl : lv_pick ((i, Value.ref x) :: lv.filter (fun q => !(q.1 == i) && !(q.1 + 1 == i && q.2.category == 2))) ks = lv1) (kk : WW p l e R s m args below meth c D cl A0 nL cells slots Q ws (pc + 2) lv1 st) : WW p l e R s m args below meth c D cl A0 nL cells slots Q ws pc lv (.ref x :: st) :=
  fun H locs _ hP hS h => lv_astore hx hb hd h hn rfl (fun ls' h' => kk H locs ls' hP hS (lv_sub h' ks hl))
theorem ww_iinc (hx : p.tables.exec = Jvm.exec) (hb : c.code = cc) {i k : Nat} {n : Int} {x v : Int32} (hd : decode cc pc = .ok (.iinc i n, 3)) (hk : lv[k]? = some (i, .int x)) (hv : Int32.ofInt n = v) (hn : i < nL) (ks : List Nat) (hl : lv_pick ((i, Value.int (x + v)) :: lv.filter (fun q => !(q.1 == i) && !(q.1 + 1 == i && q.2.category == 2))) ks = lv1) (kk : WW p l e R s m args below meth c D cl A0 nL cells slots Q ws (pc + 3) lv1 st) : WW p l e R s m args below meth c D cl A0 nL cells slots Q ws pc lv st :=
  fun H locs _ hP hS h => lv_iinc hx hb hd h hk (by rw [hv]) hn rfl (fun ls' h' => kk H locs ls' hP hS (lv_sub h' ks hl))
theorem ww_iadd (hx : p.tables.exec = Jvm.exec) (hb : c.code = cc) {x y : Int32} (hd : decode cc pc = .ok (.iadd, 1)) (kk : WW p l e R s m args below meth c D cl A0 nL cells slots Q ws (pc + 1) lv (.int (x + y) :: st)) : WW p l e R s m args below meth c D cl A0 nL cells slots Q ws pc lv (.int y :: .int x :: st) := ww_of (fun _ _ _ _ k => lv_iadd hx hb hd k) kk
theorem ww_isub (hx : p.tables.exec = Jvm.exec) (hb : c.code = cc) {x y : Int32} (hd : decode cc pc = .ok (.isub, 1)) (kk : WW p l e R s m args below meth c D cl A0 nL cells slots Q ws (pc + 1) lv (.int (x - y) :: st)) : WW p l e R s m args below meth c D cl A0 nL cells slots Q ws pc lv (.int y :: .int x :: st) := ww_of (fun _ _ _ _ k => lv_isub hx hb hd k) kk
theorem ww_imul (hx : p.tables.exec = Jvm.exec) (hb : c.code = cc) {x y : Int32} (hd : decode cc pc = .ok (.imul, 1)) (kk : WW p l e R s m args below meth c D cl A0 nL cells slots Q ws (pc + 1) lv (.int (x * y) :: st)) : WW p l e R s m args below meth c D cl A0 nL cells slots Q ws pc lv (.int y :: .int x :: st) := ww_of (fun _ _ _ _ k => lv_imul hx hb hd k) kk
theorem ww_iand (hx : p.tables.exec = Jvm.exec) (hb : c.code = cc) {x y : Int32} (hd : decode cc pc = .ok (.iand, 1)) (kk : WW p l e R s m args below meth c D cl A0 nL cells slots Q ws (pc + 1) lv (.int (x &&& y) :: st)) : WW p l e R s m args below meth c D cl A0 nL cells slots Q ws pc lv (.int y :: .int x :: st) := ww_of (fun _ _ _ _ k => lv_iand hx hb hd k) kk
theorem ww_ior (hx : p.tables.exec = Jvm.exec) (hb : c.code = cc) {x y : Int32} (hd : decode cc pc = .ok (.ior, 1)) (kk : WW p l e R s m args below meth c D cl A0 nL cells slots Q ws (pc + 1) lv (.int (x ||| y) :: st)) : WW p l e R s m args below meth c D cl A0 nL cells slots Q ws pc lv (.int y :: .int x :: st) := ww_of (fun _ _ _ _ k => lv_ior hx hb hd k) kk
theorem ww_ixor (hx : p.tables.exec = Jvm.exec) (hb : c.code = cc) {x y : Int32} (hd : decode cc pc = .ok (.ixor, 1)) (kk : WW p l e R s m args below meth c D cl A0 nL cells slots Q ws (pc + 1) lv (.int (x ^^^ y) :: st)) : WW p l e R s m args below meth c D cl A0 nL cells slots Q ws pc lv (.int y :: .int x :: st) := ww_of (fun _ _ _ _ k => lv_ixor hx hb hd k) kk
theorem ww_idiv (hx : p.tables.exec = Jvm.exec) (hb : c.code = cc) {x y : Int32} (hd : decode cc pc = .ok (.idiv, 1)) (hne : ¬ y = 0) (kk : WW p l e R s m args below meth c D cl A0 nL cells slots Q ws (pc + 1) lv (.int (x / y) :: st)) : WW p l e R s m args below meth c D cl A0 nL cells slots Q ws pc lv (.int y :: .int x :: st) := ww_of (fun _ _ _ _ k => lv_idiv hx hb hd hne k) kk
theorem ww_irem (hx : p.tables.exec = Jvm.exec) (hb : c.code = cc) {x y : Int32} (hd : decode cc pc = .ok (.irem, 1)) (hne : ¬ y = 0) (kk : WW p l e R s m args below meth c D cl A0 nL cells slots Q ws (pc + 1) lv (.int (x - x / y * y) :: st)) : WW p l e R s m args below meth c D cl A0 nL cells slots Q ws pc lv (.int y :: .int x :: st) := ww_of (fun _ _ _ _ k => lv_irem hx hb hd hne k) kk
theorem ww_ineg (hx : p.tables.exec = Jvm.exec) (hb : c.code = cc) {x : Int32} (hd : decode cc pc = .ok (.ineg, 1)) (kk : WW p l e R s m args below meth c D cl A0 nL cells slots Q ws (pc + 1) lv (.int (-x) :: st)) : WW p l e R s m args below meth c D cl A0 nL cells slots Q ws pc lv (.int x :: st) := ww_of (fun _ _ _ _ k => lv_ineg hx hb hd k) kk
theorem ww_ishl (hx : p.tables.exec = Jvm.exec) (hb : c.code = cc) {x y : Int32} (hd : decode cc pc = .ok (.ishl, 1)) (kk : WW p l e R s m args below meth c D cl A0 nL cells slots Q ws (pc + 1) lv (.int (x <<< (y &&& 31)) :: st)) : WW p l e R s m args below meth c D cl A0 nL cells slots Q ws pc lv (.int y :: .int x :: st) := ww_of (fun _ _ _ _ k => lv_ishl hx hb hd k) kk
theorem ww_ishr (hx : p.tables.exec = Jvm.exec) (hb : c.code = cc) {x y : Int32} (hd : decode cc pc = .ok (.ishr, 1)) (kk : WW p l e R s m args below meth c D cl A0 nL cells slots Q ws (pc + 1) lv (.int (x >>> (y &&& 31)) :: st)) : WW p l e R s m args below meth c D cl A0 nL cells slots Q ws pc lv (.int y :: .int x :: st) := ww_of (fun _ _ _ _ k => lv_ishr hx hb hd k) kk
def ius (x y : Int32) : Int32 := (x.toUInt32 >>> (y.toUInt32 &&& Int32.toUInt32 31)).toInt32
theorem ww_iushr (hx : p.tables.exec = Jvm.exec) (hb : c.code = cc) {x y : Int32} (hd : decode cc pc = .ok (.iushr, 1)) (kk : WW p l e R s m args below meth c D cl A0 nL cells slots Q ws (pc + 1) lv (.int (ius x y) :: st)) : WW p l e R s m args below meth c D cl A0 nL cells slots Q ws pc lv (.int y :: .int x :: st) := ww_of (fun _ _ _ _ k => lv_iushr hx hb hd rfl k) kk
theorem ww_i2l (hx : p.tables.exec = Jvm.exec) (hb : c.code = cc) {x : Int32} (hd : decode cc pc = .ok (.i2l, 1)) (kk : WW p l e R s m args below meth c D cl A0 nL cells slots Q ws (pc + 1) lv (.long x.toInt64 :: st)) : WW p l e R s m args below meth c D cl A0 nL cells slots Q ws pc lv (.int x :: st) := ww_of (fun _ _ _ _ k => lv_i2l hx hb hd rfl k) kk
theorem ww_lcmp (hx : p.tables.exec = Jvm.exec) (hb : c.code = cc) {x y : Int64} (hd : decode cc pc = .ok (.lcmp, 1)) (kk : WW p l e R s m args below meth c D cl A0 nL cells slots Q ws (pc + 1) lv (.int (lg_cmp x y) :: st)) : WW p l e R s m args below meth c D cl A0 nL cells slots Q ws pc lv (.long y :: .long x :: st) := ww_of (fun _ _ _ _ k => W.lcmp hx hb hd k) kk
theorem ww_dup (hx : p.tables.exec = Jvm.exec) (hb : c.code = cc) {va : Value} (hd : decode cc pc = .ok (.dup, 1)) (hva : va.category = 1) (kk : WW p l e R s m args below meth c D cl A0 nL cells slots Q ws (pc + 1) lv (va :: va :: st)) : WW p l e R s m args below meth c D cl A0 nL cells slots Q ws pc lv (va :: st) := ww_of (fun _ _ _ _ k => lv_dup hx hb hd hva k) kk
theorem ww_pop (hx : p.tables.exec = Jvm.exec) (hb : c.code = cc) {va : Value} (hd : decode cc pc = .ok (.pop, 1)) (hva : va.category = 1) (kk : WW p l e R s m args below meth c D cl A0 nL cells slots Q ws (pc + 1) lv st) : WW p l e R s m args below meth c D cl A0 nL cells slots Q ws pc lv (va :: st) := ww_of (fun _ _ _ _ k => lv_pop hx hb hd hva k) kk
theorem ww_dup2 (hx : p.tables.exec = Jvm.exec) (hb : c.code = cc) {va vb : Value} (hd : decode cc pc = .ok (.dup2, 1)) (hva : va.category = 1) (hvb : vb.category = 1) (kk : WW p l e R s m args below meth c D cl A0 nL cells slots Q ws (pc + 1) lv (va :: vb :: va :: vb :: st)) : WW p l e R s m args below meth c D cl A0 nL cells slots Q ws pc lv (va :: vb :: st) := ww_of (fun _ _ _ _ k => lv_dup2_11 hx hb hd hva hvb k) kk
theorem ww_goto (hx : p.tables.exec = Jvm.exec) (hb : c.code = cc) {off : Int} {tgt : Nat} (hd : decode cc pc = .ok (.goto off, 3)) (ht : (pc : Int) + off = (tgt : Int)) (kk : WW p l e R s m args below meth c D cl A0 nL cells slots Q ws tgt lv st) : WW p l e R s m args below meth c D cl A0 nL cells slots Q ws pc lv st := ww_of (fun _ _ _ _ k => lv_goto hx hb hd ht k) kk
theorem ww_eq0 (hx : p.tables.exec = Jvm.exec) (hb : c.code = cc) {x : Int32} {off : Int} {tgt : Nat} (hd : decode cc pc = .ok (.ifCond .eq off, 3)) (ht : (pc : Int) + off = (tgt : Int)) (kt : x = 0 → WW p l e R s m args below meth c D cl A0 nL cells slots Q ws tgt lv st) (kf : ¬ x = 0 → WW p l e R s m args below meth c D cl A0 nL cells slots Q ws (pc + 3) lv st) : WW p l e R s m args below meth c D cl A0 nL cells slots Q ws pc lv (.int x :: st) := fun H locs ls hP hS hl => lv_if_eq hx hb hd ht (fun h => kt h H locs ls hP hS hl) (fun h => kf h H locs ls hP hS hl)
theorem ww_ne0 (hx : p.tables.exec = Jvm.exec) (hb : c.code = cc) {x : Int32} {off : Int} {tgt : Nat} (hd : decode cc pc = .ok (.ifCond .ne off, 3)) (ht : (pc : Int) + off = (tgt : Int)) (kt : ¬ x = 0 → WW p l e R s m args below meth c D cl A0 nL cells slots Q ws tgt lv st) (kf : x = 0 → WW p l e R s m args below meth c D cl A0 nL cells slots Q ws (pc + 3) lv st) : WW p l e R s m args below meth c D cl A0 nL cells slots Q ws pc lv (.int x :: st) := fun H locs ls hP hS hl => lv_if_ne hx hb hd ht (fun h => kt h H locs ls hP hS hl) (fun h => kf h H locs ls hP hS hl)
theorem ww_lt0 (hx : p.tables.exec = Jvm.exec) (hb : c.code = cc) {x : Int32} {off : Int} {tgt : Nat} (hd : decode cc pc = .ok (.ifCond .lt off, 3)) (ht : (pc : Int) + off = (tgt : Int)) (kt : x < 0 → WW p l e R s m args below meth c D cl A0 nL cells slots Q ws tgt lv st) (kf : ¬ x < 0 → WW p l e R s m args below meth c D cl A0 nL cells slots Q ws (pc + 3) lv st) : WW p l e R s m args below meth c D cl A0 nL cells slots Q ws pc lv (.int x :: st) := fun H locs ls hP hS hl => lv_if_lt hx hb hd ht (fun h => kt h H locs ls hP hS hl) (fun h => kf h H locs ls hP hS hl)
theorem ww_ge0 (hx : p.tables.exec = Jvm.exec) (hb : c.code = cc) {x : Int32} {off : Int} {tgt : Nat} (hd : decode cc pc = .ok (.ifCond .ge off, 3)) (ht : (pc : Int) + off = (tgt : Int)) (kt : 0 ≤ x → WW p l e R s m args below meth c D cl A0 nL cells slots Q ws tgt lv st) (kf : ¬ 0 ≤ x → WW p l e R s m args below meth c D cl A0 nL cells slots Q ws (pc + 3) lv st) : WW p l e R s m args below meth c D cl A0 nL cells slots Q ws pc lv (.int x :: st) := fun H locs ls hP hS hl => lv_if_ge hx hb hd ht (fun h => kt h H locs ls hP hS hl) (fun h => kf h H locs ls hP hS hl)
theorem ww_le0 (hx : p.tables.exec = Jvm.exec) (hb : c.code = cc) {x : Int32} {off : Int} {tgt : Nat} (hd : decode cc pc = .ok (.ifCond .le off, 3)) (ht : (pc : Int) + off = (tgt : Int)) (kt : x ≤ 0 → WW p l e R s m args below meth c D cl A0 nL cells slots Q ws tgt lv st) (kf : ¬ x ≤ 0 → WW p l e R s m args below meth c D cl A0 nL cells slots Q ws (pc + 3) lv st) : WW p l e R s m args below meth c D cl A0 nL cells slots Q ws pc lv (.int x :: st) := fun H locs ls hP hS hl => lv_if_le hx hb hd ht (fun h => kt h H locs ls hP hS hl) (fun h => kf h H locs ls hP hS hl)
theorem ww_eq2 (hx : p.tables.exec = Jvm.exec) (hb : c.code = cc) {x y : Int32} {off : Int} {tgt : Nat} (hd : decode cc pc = .ok (.if_icmp .eq off, 3)) (ht : (pc : Int) + off = (tgt : Int)) (kt : x = y → WW p l e R s m args below meth c D cl A0 nL cells slots Q ws tgt lv st) (kf : ¬ x = y → WW p l e R s m args below meth c D cl A0 nL cells slots Q ws (pc + 3) lv st) : WW p l e R s m args below meth c D cl A0 nL cells slots Q ws pc lv (.int y :: .int x :: st) := fun H locs ls hP hS hl => lv_icmp_eq hx hb hd ht (fun h => kt h H locs ls hP hS hl) (fun h => kf h H locs ls hP hS hl)
theorem ww_ne2 (hx : p.tables.exec = Jvm.exec) (hb : c.code = cc) {x y : Int32} {off : Int} {tgt : Nat} (hd : decode cc pc = .ok (.if_icmp .ne off, 3)) (ht : (pc : Int) + off = (tgt : Int)) (kt : ¬ x = y → WW p l e R s m args below meth c D cl A0 nL cells slots Q ws tgt lv st) (kf : x = y → WW p l e R s m args below meth c D cl A0 nL cells slots Q ws (pc + 3) lv st) : WW p l e R s m args below meth c D cl A0 nL cells slots Q ws pc lv (.int y :: .int x :: st) := fun H locs ls hP hS hl => lv_icmp_ne hx hb hd ht (fun h => kt h H locs ls hP hS hl) (fun h => kf h H locs ls hP hS hl)
theorem ww_lt2 (hx : p.tables.exec = Jvm.exec) (hb : c.code = cc) {x y : Int32} {off : Int} {tgt : Nat} (hd : decode cc pc = .ok (.if_icmp .lt off, 3)) (ht : (pc : Int) + off = (tgt : Int)) (kt : x < y → WW p l e R s m args below meth c D cl A0 nL cells slots Q ws tgt lv st) (kf : ¬ x < y → WW p l e R s m args below meth c D cl A0 nL cells slots Q ws (pc + 3) lv st) : WW p l e R s m args below meth c D cl A0 nL cells slots Q ws pc lv (.int y :: .int x :: st) := fun H locs ls hP hS hl => lv_icmp_lt hx hb hd ht (fun h => kt h H locs ls hP hS hl) (fun h => kf h H locs ls hP hS hl)
theorem ww_ge2 (hx : p.tables.exec = Jvm.exec) (hb : c.code = cc) {x y : Int32} {off : Int} {tgt : Nat} (hd : decode cc pc = .ok (.if_icmp .ge off, 3)) (ht : (pc : Int) + off = (tgt : Int)) (kt : y ≤ x → WW p l e R s m args below meth c D cl A0 nL cells slots Q ws tgt lv st) (kf : ¬ y ≤ x → WW p l e R s m args below meth c D cl A0 nL cells slots Q ws (pc + 3) lv st) : WW p l e R s m args below meth c D cl A0 nL cells slots Q ws pc lv (.int y :: .int x :: st) := fun H locs ls hP hS hl => lv_icmp_ge hx hb hd ht (fun h => kt h H locs ls hP hS hl) (fun h => kf h H locs ls hP hS hl)
theorem ww_gt2 (hx : p.tables.exec = Jvm.exec) (hb : c.code = cc) {x y : Int32} {off : Int} {tgt : Nat} (hd : decode cc pc = .ok (.if_icmp .gt off, 3)) (ht : (pc : Int) + off = (tgt : Int)) (kt : y < x → WW p l e R s m args below meth c D cl A0 nL cells slots Q ws tgt lv st) (kf : ¬ y < x → WW p l e R s m args below meth c D cl A0 nL cells slots Q ws (pc + 3) lv st) : WW p l e R s m args below meth c D cl A0 nL cells slots Q ws pc lv (.int y :: .int x :: st) := fun H locs ls hP hS hl => lv_icmp_gt hx hb hd ht (fun h => kt h H locs ls hP hS hl) (fun h => kf h H locs ls hP hS hl)
theorem ww_le2 (hx : p.tables.exec = Jvm.exec) (hb : c.code = cc) {x y : Int32} {off : Int} {tgt : Nat} (hd : decode cc pc = .ok (.if_icmp .le off, 3)) (ht : (pc : Int) + off = (tgt : Int)) (kt : x ≤ y → WW p l e R s m args below meth c D cl A0 nL cells slots Q ws tgt lv st) (kf : ¬ x ≤ y → WW p l e R s m args below meth c D cl A0 nL cells slots Q ws (pc + 3) lv st) : WW p l e R s m args below meth c D cl A0 nL cells slots Q ws pc lv (.int y :: .int x :: st) := fun H locs ls hP hS hl => lv_icmp_le hx hb hd ht (fun h => kt h H locs ls hP hS hl) (fun h => kf h H locs ls hP hS hl)
theorem ww_lookr (hx : p.tables.exec = Jvm.exec) (hb : c.code = cc) (n : Nat) {v : Value} {i : Nat} (_ : lv[n]? = some (i, v)) (kk : WW p l e R s m args below meth c D cl A0 nL cells slots Q ws pc lv st) : WW p l e R s m args below meth c D cl A0 nL cells slots Q ws pc lv st := kk
theorem ww_ldcw (hx : p.tables.exec = Jvm.exec) (hb : c.code = cc) {own : String} (hown : s.vm.findClass own = some m.cls) (hts : ∀ w ∈ wALL, w.before args s = true) {index : Nat} {v : Int32} (hw : Jvm.Cond.constant own index v ∈ wALL) (hd : decode cc pc = .ok (.ldc_w index, 3)) (kk : WW p l e R s m args below meth c D cl A0 nL cells slots Q ws (pc + 3) lv (.int v :: st)) : WW p l e R s m args below meth c D cl A0 nL cells slots Q ws pc lv st := ww_of (fun _ _ _ _ k => lv_ldcw hx hb hown (hts _ hw) hd k) kk
theorem ww_ldc (hx : p.tables.exec = Jvm.exec) (hb : c.code = cc) {own : String} (hown : s.vm.findClass own = some m.cls) (hts : ∀ w ∈ wALL, w.before args s = true) {index : Nat} {v : Int32} (hw : Jvm.Cond.constant own index v ∈ wALL) (hd : decode cc pc = .ok (.ldc index, 2)) (kk : WW p l e R s m args below meth c D cl A0 nL cells slots Q ws (pc + 2) lv (.int v :: st)) : WW p l e R s m args below meth c D cl A0 nL cells slots Q ws pc lv st := ww_of (fun _ _ _ _ k => lv_ldc hx hb hown (hts _ hw) hd k) kk
theorem ww_get (hx : p.tables.exec = Jvm.exec) (hb : c.code = cc) {own : String} (hown : s.vm.findClass own = some m.cls) (hts : ∀ w ∈ wALL, w.before args s = true) (hK : va_K D cl tys s) {a : Nat} {C ref : String} {T : u_T} {N ci index : Nat} (hin : ∀ w ∈ u_ws C T N, w ∈ wALL) (q0 : Nat) {fs : List Value} (he : ws[q0]? = some (a, .inr (ci, fs))) (hc : cl[ci]? = some (C, T, N)) (k : Nat) (hk : k < N) (hw : Cond.fieldLink own index ref (T k).2.1 (T k).2.2.1 ∈ wALL) (hs : (T k).1 = ref) {v : Value} (hv : fs[k]? = some v) (hd : decode cc pc = .ok (.getfield index, 3))
    (kk : WW p l e R s m args below meth c D cl A0 nL cells slots Q ws (pc + 3) lv (v :: st)) : WW p l e R s m args below meth c D cl A0 nL cells slots Q ws pc lv (.ref a :: st) :=
  fun H locs ls hP hS hl => va_get hx hb hts hin hown hK hP q0 he hc k hk (hts _ hw) (fun _ h => by rw [← hs]; exact h) hv hd (kk H locs ls hP hS hl)
theorem ww_put (hx : p.tables.exec = Jvm.exec) (hb : c.code = cc) {own : String} (hown : s.vm.findClass own = some m.cls) (hts : ∀ w ∈ wALL, w.before args s = true) (hK : va_K D cl tys s) {a : Nat} {C ref : String} {T : u_T} {N ci index : Nat} (hin : ∀ w ∈ u_ws C T N, w ∈ wALL) (ty0 : Nat → FieldType) (hty : ∀ k, k < N → parseFieldDescriptor (T k).2.2.1 = some (ty0 k)) (hnm : ∀ a, a < N → ∀ b, b < N → a ≠ b → (T a).2.1 ≠ (T b).2.1) (hD : va_D A0 ws) (q0 : Nat) {fs : List Value} (he : ws[q0]? = some (a, .inr (ci, fs))) (hc : cl[ci]? = some (C, T, N)) (k : Nat) (hk : k < N) (hw : Cond.fieldLink own index ref (T k).2.1 (T k).2.2.1 ∈ wALL) (hs : (T k).1 = ref) (hfin : (T k).2.2.2 = false) {ty : FieldType} {v : Value} (hdd : parseFieldDescriptor (T k).2.2.1 = some ty) (hn : narrow ty v = v) (hfit : fits ty v = true) (hl : k < fs.length) (hd : decode cc pc = .ok (.putfield index, 3)) (hw1 : ws.set q0 (a, .inr (ci, fs.set k v)) = ws1)
    (kk : WW p l e R s m args below meth c D cl A0 nL cells slots Q ws1 (pc + 3) lv st) : WW p l e R s m args below meth c D cl A0 nL cells slots Q ws pc lv (v :: .ref a :: st) :=
  fun _ _ ls hP hS hlv => va_put hx hb hts hin ty0 hty hnm hown hK hP hD hS q0 he hc k hk (hts _ hw) (fun _ h => by rw [← hs]; exact h) hfin hdd hn hfit hl hd (fun H1 locs1 hP1 _ hS1 => kk H1 locs1 ls (hw1 ▸ hP1) hS1 hlv)
theorem ww_iald (hx : p.tables.exec = Jvm.exec) (hb : c.code = cc) {own : String} (hown : s.vm.findClass own = some m.cls) (hts : ∀ w ∈ wALL, w.before args s = true) (hK : va_K D cl tys s) {a : Nat} (q0 t0 : Nat) {cA : ClassId} {n : Nat} {f : Nat → Int32} (ha : ws[q0]? = some (a, .inl (cA, n, .inl f))) (ht : tys[t0]? = some (cA, .int)) {i : Int32} (hin : vp_in i n) (hd : decode cc pc = .ok (.iaload, 1))
    (kk : WW p l e R s m args below meth c D cl A0 nL cells slots Q ws (pc + 1) lv (.int (f i.toNatClampNeg) :: st)) : WW p l e R s m args below meth c D cl A0 nL cells slots Q ws pc lv (.int i :: .ref a :: st) :=
  fun H locs ls hP hS hl => va_iald hx hb hK hP q0 t0 ha ht hin hd (kk H locs ls hP hS hl)
theorem ww_iast (hx : p.tables.exec = Jvm.exec) (hb : c.code = cc) {own : String} (hown : s.vm.findClass own = some m.cls) (hts : ∀ w ∈ wALL, w.before args s = true) (hK : va_K D cl tys s) {a : Nat} (hD : va_D A0 ws) (q0 t0 : Nat) {cA : ClassId} {n : Nat} {f : Nat → Int32} (ha : ws[q0]? = some (a, .inl (cA, n, .inl f))) (ht : tys[t0]? = some (cA, .int)) {i x : Int32} (hin : vp_in i n) (hd : decode cc pc = .ok (.iastore, 1)) (hw1 : ws.set q0 (a, .inl (cA, n, .inl (upd f i.toNatClampNeg x))) = ws1)
    (kk : WW p l e R s m args below meth c D cl A0 nL cells slots Q ws1 (pc + 1) lv st) : WW p l e R s m args below meth c D cl A0 nL cells slots Q ws pc lv (.int x :: .int i :: .ref a :: st) :=
  fun _ _ ls hP hS hl => va_iast hx hb hK hP hD hS q0 t0 ha ht hin hd (fun H1 locs1 hP1 _ hS1 => kk H1 locs1 ls (hw1 ▸ hP1) hS1 hl)
theorem ww_lald (hx : p.tables.exec = Jvm.exec) (hb : c.code = cc) {own : String} (hown : s.vm.findClass own = some m.cls) (hts : ∀ w ∈ wALL, w.before args s = true) (hK : va_K D cl tys s) {a : Nat} (q0 t0 : Nat) {cA : ClassId} {n : Nat} {f : Nat → Int64} (ha : ws[q0]? = some (a, .inl (cA, n, .inr (.inl f)))) (ht : tys[t0]? = some (cA, .long)) {i : Int32} (hin : vp_in i n) (hd : decode cc pc = .ok (.laload, 1))
    (kk : WW p l e R s m args below meth c D cl A0 nL cells slots Q ws (pc + 1) lv (.long (f i.toNatClampNeg) :: st)) : WW p l e R s m args below meth c D cl A0 nL cells slots Q ws pc lv (.int i :: .ref a :: st) :=
  fun H locs ls hP hS hl => va_lald hx hb hK hP q0 t0 ha ht hin hd (kk H locs ls hP hS hl)
theorem ww_last (hx : p.tables.exec = Jvm.exec) (hb : c.code = cc) {own : String} (hown : s.vm.findClass own = some m.cls) (hts : ∀ w ∈ wALL, w.before args s = true) (hK : va_K D cl tys s) {a : Nat} (hD : va_D A0 ws) (q0 t0 : Nat) {cA : ClassId} {n : Nat} {f : Nat → Int64} (ha : ws[q0]? = some (a, .inl (cA, n, .inr (.inl f)))) (ht : tys[t0]? = some (cA, .long)) {i : Int32} {x : Int64} (hin : vp_in i n) (hd : decode cc pc = .ok (.lastore, 1)) (hw1 : ws.set q0 (a, .inl (cA, n, .inr (.inl (vp_updL f i.toNatClampNeg x)))) = ws1)
    (kk : WW p l e R s m args below meth c D cl A0 nL cells slots Q ws1 (pc + 1) lv st) : WW p l e R s m args below meth c D cl A0 nL cells slots Q ws pc lv (.long x :: .int i :: .ref a :: st) :=
  fun _ _ ls hP hS hl => va_last hx hb hK hP hD hS q0 t0 ha ht hin hd (fun H1 locs1 hP1 _ hS1 => kk H1 locs1 ls (hw1 ▸ hP1) hS1 hl)
theorem ww_alen (hx : p.tables.exec = Jvm.exec) (hb : c.code = cc) {own : String} (hown : s.vm.findClass own = some m.cls) (hts : ∀ w ∈ wALL, w.before args s = true) (hK : va_K D cl tys s) {a : Nat} (q0 t0 : Nat) {cA : ClassId} {x : vp_A} (ha : ws[q0]? = some (a, .inl (cA, x))) {ty : FieldType} (ht : tys[t0]? = some (cA, ty)) {v : Int32} (hv : Int32.ofNat x.1 = v) (hd : decode cc pc = .ok (.arraylength, 1))
    (kk : WW p l e R s m args below meth c D cl A0 nL cells slots Q ws (pc + 1) lv (.int v :: st)) : WW p l e R s m args below meth c D cl A0 nL cells slots Q ws pc lv (.ref a :: st) :=
  fun H locs ls hP hS hl => va_alen hx hb hK hP q0 t0 ha ht hv hd (kk H locs ls hP hS hl)
end WWS
end
section
/-! Contracts over worlds told by lists, and calls by them. -/
def rmc (fr lo mc ms : Nat) : Room := { frames := fr, cells := mc, slots := ms, locals := lo }
def pcW (D : va_G) (cl : List vw_C) (tys : List (ClassId × FieldType)) (ws : va_W) (As : List Value) (sz : Nat) : Array Value → State → Prop := va_Pc As (fun U => U.heap.size = sz ∧ va_P D cl ws U.heap ∧ va_K D cl tys U ∧ va_D (fun _ => True) ws ∧ NWs U)
def qcW (D : va_G) (cl : List vw_C) (ws ws1 : va_W) (r : Option Value) (sz : Nat) : Array Value → State → Outcome → State → Prop := fun _ st oc t => (oc = .returned r ∧ va_P D cl ws1 t.heap) ∧ va_F (va_A ws sz) st t
/-- the method y, in a world ws with the arguments As: it returns r, the world is ws1 -/
def Ct (l : Launch) (y : MethodName) (cc : ByteArray) (maxL : Nat) (ret : Option FieldType) (fr lo : Nat) (D : va_G) (cl : List vw_C) (tys : List (ClassId × FieldType)) (ws ws1 : va_W) (As : List Value) (r : Option Value) : Prop :=
  ∀ sz : Nat, Met l y (.code y cc maxL ret :: wALL) (rmc fr lo 0 0) (pcW D cl tys ws As sz) (qcW D cl ws ws1 r sz) 0 0 (va_A ws sz)
theorem pcW_blind {D : va_G} {cl : List vw_C} {tys : List (ClassId × FieldType)} {ws : va_W} {As : List Value} {sz : Nat} : FrameBlind (pcW D cl tys ws As sz) := fun a U g mk h => by
  obtain ⟨ha, h1, h2, h3, h4, h5⟩ := h
  exact ⟨ha, h1, h2, va_K.moved (u := U) (U := U.calling g mk a) (Vm.Alike.refl U.vm) h3, h4, h5.call⟩
theorem pcW_pre {D : va_G} {cl : List vw_C} {tys : List (ClassId × FieldType)} {ws : va_W} {As : List Value} {s : State} {H : Heap} {A0 : Nat → Prop} (hP : va_P D cl ws H) (hK : va_K D cl tys s) (hD : va_D A0 ws) (hN : NWs s) : PreS s H (pcW D cl tys ws As H.size) As :=
  ⟨pcW_blind, fun U hU hW => ⟨rfl, by rw [hU], by rw [hU]; exact hP, va_K.moved hW.alike hK, hD.weaken (fun _ _ _ _ => trivial), hN.warm hW⟩⟩
theorem va_A_in {A0 : Nat → Prop} {ws : va_W} {H0 H : Heap} {locs : List Loc} (hD : va_D A0 ws) (hS : va_S A0 H0 H locs) (hA : ∀ q, H0.size ≤ q → A0 q) : ∀ q, va_A ws H.size q → A0 q := by
  intro q h
  rcases h with ⟨k, e, h⟩ | h
  · exact hD.2 k (q, e) h
  · exact hA q (Nat.le_trans hS.1 h)
theorem isZ_narrow {v : Int32} (h : v &&& 1 = v) : narrow .boolean (.int v) = .int v := by
  show Value.int (v &&& 1) = .int v
  rw [h]
theorem isZ_or {v : Int32} (h : v &&& 1 = v) : v = 0 ∨ v = 1 := by
  have h1 : (v.toBitVec &&& 1#32) = v.toBitVec := congrArg Int32.toBitVec h
  have h2 : v.toBitVec.toNat % 2 = v.toBitVec.toNat := by
    have h3 := congrArg BitVec.toNat h1
    rw [BitVec.toNat_and] at h3
    have h4 : (1#32).toNat = 1 := rfl
    rw [h4, Nat.and_one_is_mod] at h3
    exact h3
  have h5 : v.toBitVec.toNat = 0 ∨ v.toBitVec.toNat = 1 := by omega
  rcases h5 with h5 | h5
  · exact Or.inl (Int32.toBitVec_inj.mp (BitVec.eq_of_toNat_eq (by rw [h5]; rfl)))
  · exact Or.inr (Int32.toBitVec_inj.mp (BitVec.eq_of_toNat_eq (by rw [h5]; rfl)))
theorem isZ_fits {v : Int32} (h : v &&& 1 = v) : fits .boolean (.int v) = true := by
  rcases isZ_or h with rfl | rfl <;> rfl
theorem os2 {α β : Type} {a c : α} {b d : β} (h : some (a, b) = some (c, d)) : a = c ∧ b = d := by cases h; exact ⟨rfl, rfl⟩
theorem os1 {α : Type} {a c : α} (h : some a = some c) : a = c := Option.some.inj h
theorem ct_of {l : Launch} {y : MethodName} {cc : ByteArray} {maxL : Nat} {ret : Option FieldType} {fr lo : Nat} {D : va_G} {cl : List vw_C} {tys : List (ClassId × FieldType)} {ws ws1 : va_W} {As : List Value} {r : Option Value} (hy : plainName y.cls = true) (hlen : (lg_sl As).length ≤ maxL)
    (body : ∀ (p : Program) (e : Env) (s : State) (m : MethodId) (args : Array Value) (below : List Frame) (meth : Method) (c : Code), p.tables.exec = Jvm.exec → c.code = cc → meth.sig.returnType = ret → meth.locks = false → c.maxLocals = maxL → s.vm.findClass y.cls = some m.cls → (∀ w ∈ wALL, w.before args s = true) → va_K D cl tys s → va_D (va_A ws s.heap.size) ws → NWs s → (∀ q, s.heap.size ≤ q → va_A ws s.heap.size q) →
      WW p l e (rmc fr lo 0 0) s m args below meth c D cl (va_A ws s.heap.size) maxL 0 0 (MQ below (qcW D cl ws ws1 r s.heap.size) args s 0 0 (va_A ws s.heap.size)) ws 0 (lv_args 0 As) []) : Ct l y cc maxL ret fr lo D cl tys ws ws1 As r := by
  intro sz
  refine Met.ofW (cc := cc) (maxL := maxL) (ret := ret) hy rfl ?_
  intro p e s m args below meth c s₁ B hml hv
  obtain ⟨rfl, hsz, hP, hK, hD0, hN⟩ := hv
  have hts := atoms_spec (ws := .code y cc maxL ret :: wALL) B.pre
  subst hsz
  have hl := lv_entry As (n := maxL) hlen
  rw [lg_entry_eq]
  exact body p e s m As.toArray below meth c B.exec B.bytes B.returns B.notSynchronized hml (findClass_of_methodNamed B.named) (fun w hw => hts w (List.mem_cons_of_mem _ hw)) hK hD0.self hN (fun q h => Or.inr h) s.heap [] _ hP va_S.rf hl
/-- what a call's site and its target owe to the tables -/
def csV (own C : String) (index : Nat) (y : MethodName) (cc : ByteArray) (maxL : Nat) (ret : Option FieldType) (n : Nat) : Prop :=
  Cond.methodLink own index y ∈ wALL ∧ Cond.instanceMethod y ∈ wALL ∧ Cond.selects C y y ∈ wALL ∧ Cond.initialized C ∈ wALL ∧ Cond.code y cc maxL ret ∈ wALL ∧ (y.cls = C ∧ y.cls ≠ "java/lang/invoke/MethodHandle" ∧ y.cls ≠ "java/lang/invoke/VarHandle" ∧ (parseMethodDescriptor y.desc).map (fun d => d.parameters.length) = some n)
def csS (own : String) (index : Nat) (y : MethodName) (cc : ByteArray) (maxL : Nat) (ret : Option FieldType) (n : Nat) : Prop :=
  Cond.methodLink own index y ∈ wALL ∧ Cond.static y ∈ wALL ∧ Cond.initialized y.cls ∈ wALL ∧ Cond.code y cc maxL ret ∈ wALL ∧ (y.cls ≠ "java/lang/invoke/MethodHandle" ∧ y.cls ≠ "java/lang/invoke/VarHandle" ∧ (parseMethodDescriptor y.desc).map (fun d => d.parameters.length) = some n)
def csN (own : String) (index : Nat) (y : MethodName) (host : String) (cc : ByteArray) (maxL : Nat) (ret : Option FieldType) (n : Nat) : Prop :=
  (own, index, y, host) ∈ nestL ∧ Cond.static y ∈ wALL ∧ Cond.initialized y.cls ∈ wALL ∧ Cond.code y cc maxL ret ∈ wALL ∧ (y.cls ≠ "java/lang/invoke/MethodHandle" ∧ y.cls ≠ "java/lang/invoke/VarHandle" ∧ (parseMethodDescriptor y.desc).map (fun d => d.parameters.length) = some n)
section CLS
variable {p : Program} {l : Launch} {e : Env} {R : Room} {s : State} {m : MethodId} {args : Array Value} {below : List Frame} {meth : Method} {c : Code} {cells slots : Nat} {Q : State → Prop}
variable {D : va_G} {cl : List vw_C} {tys : List (ClassId × FieldType)} {A0 : Nat → Prop} {nL : Nat} {ws ws1 : va_W} {cc : ByteArray} {pc : Nat} {lv lv1 : List (Nat × Value)} {st : List Value}
/-- behind a call by Ct -/
theorem ww_run {H : Heap} {locs : List Loc} {ls : Array Slot} {g : JFrame} {rest : List Value} {a : Array Value} {r : Option Value} (hr : va_Run p l e R s m args below meth c H locs cells slots 0 0 g rest (qcW D cl ws ws1 r H.size a) (va_A ws H.size)) (hg : g = F0 m pc ls st) (hD : va_D A0 ws) (hA : ∀ q, s.heap.size ≤ q → A0 q) (hS : va_S A0 s.heap H locs) (hl : lv_has ls nL lv)
    (kk : WW p l e R s m args below meth c D cl A0 nL cells slots Q ws1 (pc + 3) lv (r.toList ++ rest)) : W p l e R s m args below meth c H locs cells slots Q (F0 m pc ls st) := by
  subst hg
  intro T hT X
  obtain ⟨v, st₀, t, T', L, h0, X', hL, e1, e2, ⟨⟨hv, hP1⟩, hF⟩, stp⟩ := hr T hT X
  cases hv
  have hfree := va_A_in hD hS hA
  obtain ⟨-, -, k3⟩ := vx_keep h0 e1 hS (fun q _ h => hfree q h) hfree hL hF
  obtain ⟨t2, a1, b1⟩ := kk T'.heap (locs ++ L) ls (by rw [e1]; exact hP1) k3 hl T' rfl X'
  exact ⟨t2, stp t2 a1, b1⟩
theorem ww_callV (hx : p.tables.exec = Jvm.exec) (hb : c.code = cc) (hml : c.maxLocals = nL) {own : String} (hown : s.vm.findClass own = some m.cls) (hts : ∀ w ∈ wALL, w.before args s = true) (hK : va_K D cl tys s) (hN : NWs s) (hA : ∀ q, s.heap.size ≤ q → A0 q) (hD : va_D A0 ws) (hc : cells ≤ R.cells) (hs : slots ≤ R.slots) {y : MethodName} {bytes : ByteArray} {maxL index n fr lo b ci : Nat} {ret : Option FieldType} {C : String} {r : Option Value} {T : u_T} {N : Nat} {fs : List Value} (As rest : List Value) (hC : Ct l y bytes maxL ret fr lo D cl tys ws ws1 (.ref b :: As) r) (hk : csV own C index y bytes maxL ret n) (hn : As.length = n) (hR : fr + 1 ≤ R.frames ∧ 8 + (maxL + 11) + lo ≤ R.locals) (q0 : Nat) (he : ws[q0]? = some (b, .inr (ci, fs))) (hcl : cl[ci]? = some (C, T, N)) (hst : st = As.reverse ++ .ref b :: rest) (hW : (rest.map fun v => v.category).sum ≤ 8) (hd : decode cc pc = .ok (.invokevirtual index, 3)) {st1 : List Value} (hr1 : r.toList ++ rest = st1)
    (kk : WW p l e R s m args below meth c D cl A0 nL cells slots Q ws1 (pc + 3) lv st1) : WW p l e R s m args below meth c D cl A0 nL cells slots Q ws pc lv st := by
  intro H locs ls hP hS hl
  obtain ⟨k1, k2, k3, k4, k5, hd5⟩ := hk
  obtain ⟨hC5, hd5⟩ := hd5
  have cw : CallW R s args own C index y bytes maxL ret (.code y bytes maxL ret :: wALL) (rmc fr lo 0 0) 0 0 n := ⟨callB_of n hts (all_in0 k5) rfl rfl rfl (hts _ (by rw [hC5]; exact k4)) (hts _ k1) hd5 hR, hts _ k2, hts _ k3⟩
  have hp : PreV s H C b (pcW D cl tys ws (.ref b :: As) H.size) As := ⟨pcW_blind, va_recv hK hP hcl he, (pcW_pre hP hK hD hN).2⟩
  exact ww_run (va_runV (g := F0 m pc ls st) (rest := rest) ⟨hx, hb, hml, hown, hts⟩ (hC H.size) cw hp rfl hn hl.1 hst (lv_room hW) hd ⟨hc, hs⟩) rfl hD hA hS hl (hr1 ▸ kk)
theorem ww_callS (hx : p.tables.exec = Jvm.exec) (hb : c.code = cc) (hml : c.maxLocals = nL) {own : String} (hown : s.vm.findClass own = some m.cls) (hts : ∀ w ∈ wALL, w.before args s = true) (hK : va_K D cl tys s) (hN : NWs s) (hA : ∀ q, s.heap.size ≤ q → A0 q) (hD : va_D A0 ws) (hc : cells ≤ R.cells) (hs : slots ≤ R.slots) {y : MethodName} {bytes : ByteArray} {maxL index n fr lo : Nat} {ret : Option FieldType} {r : Option Value} (As rest : List Value) (hC : Ct l y bytes maxL ret fr lo D cl tys ws ws1 As r) (hk : csS own index y bytes maxL ret n) (hn : As.length = n) (hR : fr + 1 ≤ R.frames ∧ 8 + (maxL + 11) + lo ≤ R.locals) (hst : st = As.reverse ++ rest) (hW : (rest.map fun v => v.category).sum ≤ 8) (hd : decode cc pc = .ok (.invokestatic index, 3)) {st1 : List Value} (hr1 : r.toList ++ rest = st1)
    (kk : WW p l e R s m args below meth c D cl A0 nL cells slots Q ws1 (pc + 3) lv st1) : WW p l e R s m args below meth c D cl A0 nL cells slots Q ws pc lv st := by
  intro H locs ls hP hS hl
  obtain ⟨k1, k2, k3, k5, hd5⟩ := hk
  have cw : CallB R s args own index y bytes maxL ret (.code y bytes maxL ret :: wALL) (rmc fr lo 0 0) 0 0 n ∧ (Cond.static y).before args s = true := ⟨callB_of n hts (all_in0 k5) rfl rfl rfl (hts _ k3) (hts _ k1) hd5 hR, hts _ k2⟩
  exact ww_run (va_runS (g := F0 m pc ls st) (rest := rest) ⟨hx, hb, hml, hown, hts⟩ (hC H.size) cw (pcW_pre hP hK hD hN) rfl hn hl.1 hst (lv_room hW) hd ⟨hc, hs⟩) rfl hD hA hS hl (hr1 ▸ kk)
theorem ww_callN (hx : p.tables.exec = Jvm.exec) (hb : c.code = cc) (hml : c.maxLocals = nL) {own : String} (hown : s.vm.findClass own = some m.cls) (hts : ∀ w ∈ wALL, w.before args s = true) (hK : va_K D cl tys s) (hN : NWs s) (hA : ∀ q, s.heap.size ≤ q → A0 q) (hD : va_D A0 ws) (hc : cells ≤ R.cells) (hs : slots ≤ R.slots) {y : MethodName} {bytes : ByteArray} {maxL index n fr lo : Nat} {host : String} {ret : Option FieldType} {r : Option Value} (As rest : List Value) (hC : Ct l y bytes maxL ret fr lo D cl tys ws ws1 As r) (hk : csN own index y host bytes maxL ret n) (hn : As.length = n) (hR : fr + 1 ≤ R.frames ∧ 8 + (maxL + 11) + lo ≤ R.locals) (hst : st = As.reverse ++ rest) (hW : (rest.map fun v => v.category).sum ≤ 8) (hd : decode cc pc = .ok (.invokestatic index, 3)) {st1 : List Value} (hr1 : r.toList ++ rest = st1)
    (kk : WW p l e R s m args below meth c D cl A0 nL cells slots Q ws1 (pc + 3) lv st1) : WW p l e R s m args below meth c D cl A0 nL cells slots Q ws pc lv st := by
  intro H locs ls hP hS hl
  obtain ⟨k1, k2, k3, k5, hd5⟩ := hk
  have cw : va_CN R s args own index y host bytes maxL ret (.code y bytes maxL ret :: wALL) (rmc fr lo 0 0) 0 0 n ∧ (Cond.static y).before args s = true ∧ True := ⟨va_cnB n hts (all_in0 k5) rfl rfl rfl (hN.1 _ k1) (hts _ k3) hd5 hR, hts _ k2, trivial⟩
  exact ww_run (va_runSN (g := F0 m pc ls st) (rest := rest) ⟨hx, hb, hml, hown, hts⟩ (hC H.size) cw (pcW_pre hP hK hD hN) rfl hn hl.1 hst (lv_room hW) hd ⟨hc, hs⟩) rfl hD hA hS hl (hr1 ▸ kk)
def imax (x y : Int32) : Int32 := if x < y then y else x
def imin (x y : Int32) : Int32 := if y < x then y else x
theorem ww_iret (hx : p.tables.exec = Jvm.exec) (hb : c.code = cc) {ws0 : va_W} {v : Int32} {r : Option Value} (hr : meth.sig.returnType = some .int) (hlk : meth.locks = false) (hv : some (.int v) = r) (hd : decode cc pc = .ok (.ireturn, 1)) : WW p l e R s m args below meth c D cl (va_A ws0 s.heap.size) nL cells slots (MQ below (qcW D cl ws0 ws r s.heap.size) args s cells slots (va_A ws0 s.heap.size)) ws pc lv [.int v] :=
  fun _ _ _ hP hS _ => W.iret hx hb hr (fun t ht _ => ⟨⟨by rw [hv], by rw [ht]; exact hP⟩, hS.F ht⟩) hS.2.2 hd hlk
theorem ww_zret (hx : p.tables.exec = Jvm.exec) (hb : c.code = cc) {ws0 : va_W} {v : Int32} {r : Option Value} (hr : meth.sig.returnType = some .boolean) (hlk : meth.locks = false) (hz : v &&& 1 = v) (hv : some (.int v) = r) (hd : decode cc pc = .ok (.ireturn, 1)) : WW p l e R s m args below meth c D cl (va_A ws0 s.heap.size) nL cells slots (MQ below (qcW D cl ws0 ws r s.heap.size) args s cells slots (va_A ws0 s.heap.size)) ws pc lv [.int v] :=
  fun _ _ _ hP hS _ => W.zret hx hb hr (isZ_narrow hz) (fun t ht _ => ⟨⟨by rw [hv], by rw [ht]; exact hP⟩, hS.F ht⟩) hS.2.2 hd hlk
theorem ww_vret (hx : p.tables.exec = Jvm.exec) (hb : c.code = cc) {ws0 : va_W} (hr : meth.sig.returnType = none) (hlk : meth.locks = false) (hd : decode cc pc = .ok (.return_, 1)) : WW p l e R s m args below meth c D cl (va_A ws0 s.heap.size) nL cells slots (MQ below (qcW D cl ws0 ws none s.heap.size) args s cells slots (va_A ws0 s.heap.size)) ws pc lv [] :=
  fun _ _ _ hP hS _ => W.vret hx hb hr (fun t ht _ => ⟨⟨rfl, by rw [ht]; exact hP⟩, hS.F ht⟩) hS.2.2 hd hlk
theorem ww_max (hx : p.tables.exec = Jvm.exec) (hb : c.code = cc) (hml : c.maxLocals = nL) {own : String} (hown : s.vm.findClass own = some m.cls) (hts : ∀ w ∈ wALL, w.before args s = true) (hc : cells ≤ R.cells) (hs : slots ≤ R.slots) {x y : Int32} {index : Nat} {rest : List Value} (k1 : Cond.methodLink own index Lib.Math.max.name ∈ wALL) (k2 : Cond.static Lib.Math.max.name ∈ wALL) (k3 : Cond.initialized "java/lang/Math" ∈ wALL) (k4 : Cond.code Lib.Math.max.name Lib.Math.max.code 2 (some .int) ∈ wALL) (hR : 1 ≤ R.frames ∧ (rest.map fun v => v.category).sum + 13 ≤ R.locals) (hd : decode cc pc = .ok (.invokestatic index, 3))
    (kk : WW p l e R s m args below meth c D cl A0 nL cells slots Q ws (pc + 3) lv (.int (imax x y) :: rest)) : WW p l e R s m args below meth c D cl A0 nL cells slots Q ws pc lv (.int y :: .int x :: rest) :=
  fun H locs ls hP hS hl => va_mmax hx hb (hml.trans hl.1.symm) hown (hts _ k1) (hts _ k2) (hts _ k3) (hts _ k4) hR.1 hR.2 hc hs hd (kk H locs ls hP hS hl)
theorem ww_min (hx : p.tables.exec = Jvm.exec) (hb : c.code = cc) (hml : c.maxLocals = nL) {own : String} (hown : s.vm.findClass own = some m.cls) (hts : ∀ w ∈ wALL, w.before args s = true) (hc : cells ≤ R.cells) (hs : slots ≤ R.slots) {x y : Int32} {index : Nat} {rest : List Value} (k1 : Cond.methodLink own index Lib.Math.min.name ∈ wALL) (k2 : Cond.static Lib.Math.min.name ∈ wALL) (k3 : Cond.initialized "java/lang/Math" ∈ wALL) (k4 : Cond.code Lib.Math.min.name Lib.Math.min.code 2 (some .int) ∈ wALL) (hR : 1 ≤ R.frames ∧ (rest.map fun v => v.category).sum + 13 ≤ R.locals) (hd : decode cc pc = .ok (.invokestatic index, 3))
    (kk : WW p l e R s m args below meth c D cl A0 nL cells slots Q ws (pc + 3) lv (.int (imin x y) :: rest)) : WW p l e R s m args below meth c D cl A0 nL cells slots Q ws pc lv (.int y :: .int x :: rest) :=
  fun H locs ls hP hS hl => va_mmin hx hb (hml.trans hl.1.symm) hown (hts _ k1) (hts _ k2) (hts _ k3) (hts _ k4) hR.1 hR.2 hc hs hd (kk H locs ls hP hS hl)
end CLS
end
section
/-- the class's world: its five objects and seventeen rows -/
abbrev WC (q : Nat → Nat) (cA : ClassId) (σ : SS) : va_W := [(q 0, .inr (4, [.ref (q 2), .ref (q 1), .ref (q 3), .ref (q 4), .int (σ 0 4), .int (σ 0 5), .int (σ 0 6)])), (q 1, .inr (2, [.ref (q 2), .ref (q 10), .ref (q 11), .ref (q 12), .ref (q 13), .int (σ 1 5), .int (σ 1 6), .int (σ 1 7)])), (q 2, .inr (3, [.ref (q 5), .ref (q 6), .ref (q 7), .ref (q 8), .ref (q 9), .int (σ 2 5), .int (σ 2 6), .int (σ 2 7), .int (σ 2 8)])), (q 3, .inr (0, [.ref (q 14), .int (σ 3 1), .int (σ 3 2), .int (σ 3 3)])), (q 4, .inr (1, [.ref (q 15), .ref (q 16), .ref (q 17), .ref (q 18), .ref (q 19), .ref (q 20), .ref (q 21), .int (σ 4 7), .int (σ 4 8), .int (σ 4 9)])), (q 5, .inl (cA, 8, .inl (σ 5))), (q 6, .inl (cA, 8, .inl (σ 6))), (q 7, .inl (cA, 8, .inl (σ 7))), (q 8, .inl (cA, 8, .inl (σ 8))), (q 9, .inl (cA, 8, .inl (σ 9))), (q 10, .inl (cA, 8, .inl (σ 10))), (q 11, .inl (cA, 8, .inl (σ 11))), (q 12, .inl (cA, 8, .inl (σ 12))), (q 13, .inl (cA, 8, .inl (σ 13))), (q 14, .inl (cA, 4, .inl (σ 14))), (q 15, .inl (cA, 10, .inl (σ 15))), (q 16, .inl (cA, 10, .inl (σ 16))), (q 17, .inl (cA, 12, .inl (σ 17))), (q 18, .inl (cA, 12, .inl (σ 18))), (q 19, .inl (cA, 12, .inl (σ 19))), (q 20, .inl (cA, 12, .inl (σ 20))), (q 21, .inl (cA, 6, .inl (σ 21)))]
theorem inA0 : ∀ w ∈ u_ws RX0 TX0 4, w ∈ wALL := List.forall_mem_cons.mpr ⟨tk1 (i := 117) rfl rfl, List.forall_mem_cons.mpr ⟨tk1 (i := 119) rfl rfl, List.forall_mem_cons.mpr ⟨tk1 (i := 121) rfl rfl, List.forall_mem_cons.mpr ⟨tk1 (i := 123) rfl rfl, fun _ h => absurd h List.not_mem_nil⟩⟩⟩⟩
theorem inA1 : ∀ w ∈ u_ws RX1 TX1 10, w ∈ wALL := List.forall_mem_cons.mpr ⟨tk1 (i := 147) rfl rfl, List.forall_mem_cons.mpr ⟨tk1 (i := 149) rfl rfl, List.forall_mem_cons.mpr ⟨tk1 (i := 151) rfl rfl, List.forall_mem_cons.mpr ⟨tk1 (i := 153) rfl rfl, List.forall_mem_cons.mpr ⟨tk1 (i := 155) rfl rfl, List.forall_mem_cons.mpr ⟨tk1 (i := 157) rfl rfl, List.forall_mem_cons.mpr ⟨tk1 (i := 159) rfl rfl, List.forall_mem_cons.mpr ⟨tk1 (i := 161) rfl rfl, List.forall_mem_cons.mpr ⟨tk1 (i := 163) rfl rfl, List.forall_mem_cons.mpr ⟨tk1 (i := 165) rfl rfl, fun _ h => absurd h List.not_mem_nil⟩⟩⟩⟩⟩⟩⟩⟩⟩⟩
theorem inA2 : ∀ w ∈ u_ws RX2 TX2 8, w ∈ wALL := List.forall_mem_cons.mpr ⟨tk1 (i := 86) rfl rfl, List.forall_mem_cons.mpr ⟨tk1 (i := 88) rfl rfl, List.forall_mem_cons.mpr ⟨tk1 (i := 90) rfl rfl, List.forall_mem_cons.mpr ⟨tk1 (i := 92) rfl rfl, List.forall_mem_cons.mpr ⟨tk1 (i := 94) rfl rfl, List.forall_mem_cons.mpr ⟨tk1 (i := 96) rfl rfl, List.forall_mem_cons.mpr ⟨tk1 (i := 98) rfl rfl, List.forall_mem_cons.mpr ⟨tk1 (i := 100) rfl rfl, fun _ h => absurd h List.not_mem_nil⟩⟩⟩⟩⟩⟩⟩⟩
theorem inA3 : ∀ w ∈ u_ws RX3 TX3 9, w ∈ wALL := List.forall_mem_cons.mpr ⟨tk1 (i := 53) rfl rfl, List.forall_mem_cons.mpr ⟨tk1 (i := 55) rfl rfl, List.forall_mem_cons.mpr ⟨tk1 (i := 57) rfl rfl, List.forall_mem_cons.mpr ⟨tk1 (i := 59) rfl rfl, List.forall_mem_cons.mpr ⟨tk1 (i := 61) rfl rfl, List.forall_mem_cons.mpr ⟨tk1 (i := 63) rfl rfl, List.forall_mem_cons.mpr ⟨tk1 (i := 65) rfl rfl, List.forall_mem_cons.mpr ⟨tk1 (i := 67) rfl rfl, List.forall_mem_cons.mpr ⟨tk1 (i := 69) rfl rfl, fun _ h => absurd h List.not_mem_nil⟩⟩⟩⟩⟩⟩⟩⟩⟩
theorem inA4 : ∀ w ∈ u_ws RX4 TX4 7, w ∈ wALL := List.forall_mem_cons.mpr ⟨tk1 (i := 175) rfl rfl, List.forall_mem_cons.mpr ⟨tk1 (i := 177) rfl rfl, List.forall_mem_cons.mpr ⟨tk1 (i := 179) rfl rfl, List.forall_mem_cons.mpr ⟨tk1 (i := 181) rfl rfl, List.forall_mem_cons.mpr ⟨tk1 (i := 183) rfl rfl, List.forall_mem_cons.mpr ⟨tk1 (i := 185) rfl rfl, List.forall_mem_cons.mpr ⟨tk1 (i := 187) rfl rfl, fun _ h => absurd h List.not_mem_nil⟩⟩⟩⟩⟩⟩⟩
theorem kw_0 : Cond.fieldLink RX3 27 "Scripthouse$Scenes" "count" "I" ∈ wALL := tk1 (i := 43) rfl rfl
theorem kw_1 : Cond.fieldLink RX2 31 "Scripthouse$Planner" "isMade" "Z" ∈ wALL := tk1 (i := 85) rfl rfl
theorem kw_2 : Cond.fieldLink RX3 9 "Scripthouse$Scenes" "hours" "[I" ∈ wALL := tk1 (i := 34) rfl rfl
theorem kw_3 : Cond.static yX4_put ∈ wALL := tk2 (i := 48) rfl rfl
theorem kw_4 : Cond.initialized RX4 ∈ wALL := tk1 (i := 1) rfl rfl
theorem kw_5 : Cond.code yX4_put cX4_put 3 none ∈ wALL := tk2 (i := 49) rfl rfl
theorem kw_6 : Cond.fieldLink RX3 15 "Scripthouse$Scenes" "places" "[I" ∈ wALL := tk1 (i := 36) rfl rfl
theorem kw_7 : Cond.fieldLink RX3 18 "Scripthouse$Scenes" "players" "[I" ∈ wALL := tk1 (i := 38) rfl rfl
theorem kw_8 : Cond.fieldLink RX3 21 "Scripthouse$Scenes" "lights" "[I" ∈ wALL := tk1 (i := 40) rfl rfl
theorem kw_9 : Cond.fieldLink RX3 24 "Scripthouse$Scenes" "aheads" "[I" ∈ wALL := tk1 (i := 42) rfl rfl
theorem kw_10 : Cond.methodLink RX4 42 yX4_isWithin ∈ wALL := tk1 (i := 194) rfl rfl
theorem kw_11 : Cond.static yX4_isWithin ∈ wALL := tk1 (i := 195) rfl rfl
theorem kw_12 : Cond.code yX4_isWithin cX4_isWithin 3 (some .boolean) ∈ wALL := tk1 (i := 196) rfl rfl
theorem kw_13 : Cond.fieldLink RX4 20 "Scripthouse" "scenes" "LScripthouse$Scenes;" ∈ wALL := tk1 (i := 168) rfl rfl
theorem kw_14 : Cond.methodLink RX4 46 yX3_everyScene ∈ wALL := tk1 (i := 197) rfl rfl
theorem kw_15 : Cond.instanceMethod yX3_everyScene ∈ wALL := tk1 (i := 198) rfl rfl
theorem kw_16 : Cond.selects RX3 yX3_everyScene yX3_everyScene ∈ wALL := tk1 (i := 199) rfl rfl
theorem kw_17 : Cond.initialized RX3 ∈ wALL := tk1 (i := 3) rfl rfl
theorem kw_18 : Cond.code yX3_everyScene cX3_everyScene 1 (some .int) ∈ wALL := tk1 (i := 200) rfl rfl
theorem kw_19 : Cond.fieldLink RX4 55 "Scripthouse$Scenes" "count" "I" ∈ wALL := tk1 (i := 44) rfl rfl
theorem kw_20 : Cond.fieldLink RX4 10 "Scripthouse" "planner" "LScripthouse$Planner;" ∈ wALL := tk1 (i := 169) rfl rfl
theorem kw_21 : Cond.methodLink RX4 61 yX2_forget ∈ wALL := tk2 (i := 39) rfl rfl
theorem kw_22 : Cond.instanceMethod yX2_forget ∈ wALL := tk2 (i := 40) rfl rfl
theorem kw_23 : Cond.selects RX2 yX2_forget yX2_forget ∈ wALL := tk2 (i := 41) rfl rfl
theorem kw_24 : Cond.initialized RX2 ∈ wALL := tk1 (i := 2) rfl rfl
theorem kw_25 : Cond.code yX2_forget cX2_forget 1 none ∈ wALL := tk2 (i := 42) rfl rfl
theorem kw_26 : Cond.methodLink RX4 64 yX3_append ∈ wALL := tk2 (i := 43) rfl rfl
theorem kw_27 : Cond.instanceMethod yX3_append ∈ wALL := tk2 (i := 44) rfl rfl
theorem kw_28 : Cond.selects RX3 yX3_append yX3_append ∈ wALL := tk2 (i := 45) rfl rfl
theorem kw_29 : Cond.code yX3_append cX3_append 6 (some .int) ∈ wALL := tk2 (i := 46) rfl rfl
theorem kw_30 : Cond.classLink RX4 58 "java/lang/IllegalStateException" ∈ wALL := tk2 (i := 24) rfl rfl
theorem kw_31 : Cond.initialized "java/lang/IllegalStateException" ∈ wALL := tk1 (i := 11) rfl rfl
theorem kw_32 : Cond.classLink RX4 52 "java/lang/IllegalArgumentException" ∈ wALL := tk1 (i := 201) rfl rfl
theorem kw_33 : Cond.initialized "java/lang/IllegalArgumentException" ∈ wALL := tk1 (i := 13) rfl rfl
theorem kw_34 : Cond.fieldLink RX4 71 "Scripthouse$Scenes" "outdoors" "I" ∈ wALL := tk1 (i := 49) rfl rfl
theorem kw_35 : Cond.methodLink RX4 74 yX4_isIn ∈ wALL := tk3 (i := 14) rfl rfl
theorem kw_36 : Cond.static yX4_isIn ∈ wALL := tk2 (i := 86) rfl rfl
theorem kw_37 : Cond.code yX4_isIn cX4_isIn 2 (some .boolean) ∈ wALL := tk2 (i := 87) rfl rfl
theorem kw_38 : Cond.methodLink RX4 78 yX4_with ∈ wALL := tk3 (i := 15) rfl rfl
theorem kw_39 : Cond.static yX4_with ∈ wALL := tk2 (i := 125) rfl rfl
theorem kw_40 : Cond.code yX4_with cX4_with 3 (some .int) ∈ wALL := tk2 (i := 126) rfl rfl
theorem kw_41 : Cond.classLink RX4 68 "java/lang/IndexOutOfBoundsException" ∈ wALL := tk2 (i := 229) rfl rfl
theorem kw_42 : Cond.initialized "java/lang/IndexOutOfBoundsException" ∈ wALL := tk1 (i := 12) rfl rfl
theorem kw_43 : Cond.fieldLink RX4 82 "Scripthouse$Scenes" "children" "I" ∈ wALL := tk1 (i := 51) rfl rfl
theorem kw_44 : Cond.fieldLink RX4 35 "Scripthouse" "rate" "I" ∈ wALL := tk1 (i := 172) rfl rfl
theorem kw_45 : Cond.fieldLink RX4 39 "Scripthouse" "cover" "I" ∈ wALL := tk1 (i := 173) rfl rfl
theorem kw_46 : Cond.fieldLink RX4 85 "Scripthouse" "isCovered" "Z" ∈ wALL := tk1 (i := 174) rfl rfl
theorem kw_47 : Cond.fieldLink RX2 22 "Scripthouse$Planner" "begin" "[I" ∈ wALL := tk1 (i := 76) rfl rfl
theorem kw_48 : Cond.fieldLink RX2 18 "Scripthouse$Planner" "order" "[I" ∈ wALL := tk1 (i := 75) rfl rfl
theorem kw_49 : Cond.static yX4_at ∈ wALL := tk2 (i := 75) rfl rfl
theorem kw_50 : Cond.code yX4_at cX4_at 2 (some .int) ∈ wALL := tk2 (i := 76) rfl rfl
theorem kw_51 : Cond.methodLink RX2 58 yX2_dayOf ∈ wALL := tk2 (i := 77) rfl rfl
theorem kw_52 : Cond.static yX2_dayOf ∈ wALL := tk2 (i := 78) rfl rfl
theorem kw_53 : Cond.code yX2_dayOf cX2_dayOf 1 (some .int) ∈ wALL := tk2 (i := 79) rfl rfl
theorem kw_54 : Cond.fieldLink RX2 62 "Scripthouse$Planner" "today" "I" ∈ wALL := tk1 (i := 83) rfl rfl
theorem kw_55 : Cond.methodLink RX2 107 yX2_daysUpTo ∈ wALL := tk2 (i := 70) rfl rfl
theorem kw_56 : Cond.instanceMethod yX2_daysUpTo ∈ wALL := tk2 (i := 71) rfl rfl
theorem kw_57 : Cond.selects RX2 yX2_daysUpTo yX2_daysUpTo ∈ wALL := tk2 (i := 72) rfl rfl
theorem kw_58 : Cond.code yX2_daysUpTo cX2_daysUpTo 2 (some .int) ∈ wALL := tk2 (i := 73) rfl rfl
theorem kw_59 : Cond.fieldLink RX2 35 "Scripthouse$Planner" "bestDays" "I" ∈ wALL := tk1 (i := 81) rfl rfl
theorem kw_60 : Cond.fieldLink RX2 25 "Scripthouse$Planner" "bestOrder" "[I" ∈ wALL := tk1 (i := 77) rfl rfl
theorem kw_61 : Cond.fieldLink RX2 28 "Scripthouse$Planner" "bestBegin" "[I" ∈ wALL := tk1 (i := 79) rfl rfl
theorem kw_62 : Cond.methodLink RX3 52 yX3_isFree ∈ wALL := tk2 (i := 88) rfl rfl
theorem kw_63 : Cond.instanceMethod yX3_isFree ∈ wALL := tk2 (i := 89) rfl rfl
theorem kw_64 : Cond.selects RX3 yX3_isFree yX3_isFree ∈ wALL := tk2 (i := 90) rfl rfl
theorem kw_65 : Cond.code yX3_isFree cX3_isFree 3 (some .boolean) ∈ wALL := tk2 (i := 91) rfl rfl
theorem kw_66 : Cond.fieldLink RX2 12 "Scripthouse$Planner" "scenes" "LScripthouse$Scenes;" ∈ wALL := tk1 (i := 73) rfl rfl
theorem kw_67 : Cond.fieldLink RX2 148 "Scripthouse$Scenes" "hours" "[I" ∈ wALL := tk1 (i := 35) rfl rfl
theorem kw_68 : Cond.fieldLink RX2 145 "Scripthouse$Scenes" "lights" "[I" ∈ wALL := tk1 (i := 41) rfl rfl
theorem kw_69 : Cond.methodLink RX2 133 Lib.Math.max.name ∈ wALL := tk2 (i := 108) rfl rfl
theorem kw_70 : Cond.static Lib.Math.max.name ∈ wALL := tk2 (i := 109) rfl rfl
theorem kw_71 : Cond.initialized RJ9 ∈ wALL := tk1 (i := 6) rfl rfl
theorem kw_72 : Cond.code Lib.Math.max.name Lib.Math.max.code 2 (some .int) ∈ wALL := tk2 (i := 110) rfl rfl
theorem kw_73 : Cond.fieldLink RX2 77 "Scripthouse$Scenes" "count" "I" ∈ wALL := tk1 (i := 45) rfl rfl
theorem kw_74 : Cond.fieldLink RX2 167 "Scripthouse$Scenes" "players" "[I" ∈ wALL := tk1 (i := 39) rfl rfl
theorem kw_75 : Cond.methodLink RX2 124 yX2_endOf ∈ wALL := tk2 (i := 100) rfl rfl
theorem kw_76 : Cond.instanceMethod yX2_endOf ∈ wALL := tk2 (i := 101) rfl rfl
theorem kw_77 : Cond.selects RX2 yX2_endOf yX2_endOf ∈ wALL := tk2 (i := 102) rfl rfl
theorem kw_78 : Cond.code yX2_endOf cX2_endOf 2 (some .int) ∈ wALL := tk2 (i := 103) rfl rfl
theorem kw_79 : Cond.fieldLink RX2 136 "Scripthouse$Scenes" "children" "I" ∈ wALL := tk1 (i := 52) rfl rfl
theorem kw_80 : Cond.methodLink RX2 142 yX2_placedOn ∈ wALL := tk2 (i := 120) rfl rfl
theorem kw_81 : Cond.instanceMethod yX2_placedOn ∈ wALL := tk2 (i := 121) rfl rfl
theorem kw_82 : Cond.selects RX2 yX2_placedOn yX2_placedOn ∈ wALL := tk2 (i := 122) rfl rfl
theorem kw_83 : Cond.code yX2_placedOn cX2_placedOn 5 (some .int) ∈ wALL := tk2 (i := 123) rfl rfl
theorem kw_84 : Cond.methodLink RX2 139 yX2_hoursFor ∈ wALL := tk2 (i := 127) rfl rfl
theorem kw_85 : Cond.instanceMethod yX2_hoursFor ∈ wALL := tk2 (i := 128) rfl rfl
theorem kw_86 : Cond.selects RX2 yX2_hoursFor yX2_hoursFor ∈ wALL := tk2 (i := 129) rfl rfl
theorem kw_87 : Cond.code yX2_hoursFor cX2_hoursFor 5 (some .int) ∈ wALL := tk2 (i := 130) rfl rfl
theorem kw_88 : Cond.methodLink RX2 151 yX2_startOf ∈ wALL := tk2 (i := 97) rfl rfl
theorem kw_89 : Cond.static yX2_startOf ∈ wALL := tk2 (i := 98) rfl rfl
theorem kw_90 : Cond.code yX2_startOf cX2_startOf 1 (some .int) ∈ wALL := tk2 (i := 99) rfl rfl
theorem kw_91 : Cond.fieldLink RX2 154 "Scripthouse$Scenes" "places" "[I" ∈ wALL := tk1 (i := 37) rfl rfl
theorem kw_92 : Cond.methodLink RX2 157 yX2_beginFrom ∈ wALL := tk2 (i := 104) rfl rfl
theorem kw_93 : Cond.instanceMethod yX2_beginFrom ∈ wALL := tk2 (i := 105) rfl rfl
theorem kw_94 : Cond.selects RX2 yX2_beginFrom yX2_beginFrom ∈ wALL := tk2 (i := 106) rfl rfl
theorem kw_95 : Cond.code yX2_beginFrom cX2_beginFrom 8 (some .int) ∈ wALL := tk2 (i := 107) rfl rfl
theorem kw_96 : Cond.methodLink RX2 161 yX2_endsInTime ∈ wALL := tk2 (i := 112) rfl rfl
theorem kw_97 : Cond.instanceMethod yX2_endsInTime ∈ wALL := tk2 (i := 113) rfl rfl
theorem kw_98 : Cond.selects RX2 yX2_endsInTime yX2_endsInTime ∈ wALL := tk2 (i := 114) rfl rfl
theorem kw_99 : Cond.code yX2_endsInTime cX2_endsInTime 5 (some .boolean) ∈ wALL := tk2 (i := 115) rfl rfl
theorem kw_100 : Cond.methodLink RX2 164 yX2_isFitForChildren ∈ wALL := tk2 (i := 116) rfl rfl
theorem kw_101 : Cond.instanceMethod yX2_isFitForChildren ∈ wALL := tk2 (i := 117) rfl rfl
theorem kw_102 : Cond.selects RX2 yX2_isFitForChildren yX2_isFitForChildren ∈ wALL := tk2 (i := 118) rfl rfl
theorem kw_103 : Cond.code yX2_isFitForChildren cX2_isFitForChildren 6 (some .boolean) ∈ wALL := tk2 (i := 119) rfl rfl
theorem kw_104 : Cond.methodLink RX2 127 yX3_hoursOf ∈ wALL := tk2 (i := 139) rfl rfl
theorem kw_105 : Cond.instanceMethod yX3_hoursOf ∈ wALL := tk2 (i := 140) rfl rfl
theorem kw_106 : Cond.selects RX3 yX3_hoursOf yX3_hoursOf ∈ wALL := tk2 (i := 141) rfl rfl
theorem kw_107 : Cond.code yX3_hoursOf cX3_hoursOf 4 (some .int) ∈ wALL := tk2 (i := 142) rfl rfl
theorem kw_108 : Cond.methodLink RX2 130 yX2_hoursIn ∈ wALL := tk2 (i := 143) rfl rfl
theorem kw_109 : Cond.instanceMethod yX2_hoursIn ∈ wALL := tk2 (i := 144) rfl rfl
theorem kw_110 : Cond.selects RX2 yX2_hoursIn yX2_hoursIn ∈ wALL := tk2 (i := 145) rfl rfl
theorem kw_111 : Cond.code yX2_hoursIn cX2_hoursIn 5 (some .int) ∈ wALL := tk2 (i := 146) rfl rfl
theorem kw_112 : Cond.methodLink RX2 90 yX3_everyScene ∈ wALL := tk2 (i := 65) rfl rfl
theorem kw_113 : Cond.methodLink RX2 116 yX2_hasRoom ∈ wALL := tk2 (i := 135) rfl rfl
theorem kw_114 : Cond.instanceMethod yX2_hasRoom ∈ wALL := tk2 (i := 136) rfl rfl
theorem kw_115 : Cond.selects RX2 yX2_hasRoom yX2_hasRoom ∈ wALL := tk2 (i := 137) rfl rfl
theorem kw_116 : Cond.code yX2_hasRoom cX2_hasRoom 5 (some .boolean) ∈ wALL := tk2 (i := 138) rfl rfl
theorem kw_117 : Cond.methodLink RX2 120 yX2_hasRoomForChildren ∈ wALL := tk2 (i := 147) rfl rfl
theorem kw_118 : Cond.instanceMethod yX2_hasRoomForChildren ∈ wALL := tk2 (i := 148) rfl rfl
theorem kw_119 : Cond.selects RX2 yX2_hasRoomForChildren yX2_hasRoomForChildren ∈ wALL := tk2 (i := 149) rfl rfl
theorem kw_120 : Cond.code yX2_hasRoomForChildren cX2_hasRoomForChildren 7 (some .boolean) ∈ wALL := tk2 (i := 150) rfl rfl
theorem kw_121 : Cond.methodLink RX2 97 yX3_canFollow ∈ wALL := tk2 (i := 81) rfl rfl
theorem kw_122 : Cond.instanceMethod yX3_canFollow ∈ wALL := tk2 (i := 82) rfl rfl
theorem kw_123 : Cond.selects RX3 yX3_canFollow yX3_canFollow ∈ wALL := tk2 (i := 83) rfl rfl
theorem kw_124 : Cond.code yX3_canFollow cX3_canFollow 3 (some .boolean) ∈ wALL := tk2 (i := 84) rfl rfl
theorem kw_125 : Cond.methodLink RX2 100 yX2_place ∈ wALL := tk2 (i := 93) rfl rfl
theorem kw_126 : Cond.instanceMethod yX2_place ∈ wALL := tk2 (i := 94) rfl rfl
theorem kw_127 : Cond.selects RX2 yX2_place yX2_place ∈ wALL := tk2 (i := 95) rfl rfl
theorem kw_128 : Cond.code yX2_place cX2_place 7 none ∈ wALL := tk2 (i := 96) rfl rfl
theorem kw_129 : Cond.methodLink RX2 104 yX2_canBeBetter ∈ wALL := tk2 (i := 131) rfl rfl
theorem kw_130 : Cond.instanceMethod yX2_canBeBetter ∈ wALL := tk2 (i := 132) rfl rfl
theorem kw_131 : Cond.selects RX2 yX2_canBeBetter yX2_canBeBetter ∈ wALL := tk2 (i := 133) rfl rfl
theorem kw_132 : Cond.code yX2_canBeBetter cX2_canBeBetter 6 (some .boolean) ∈ wALL := tk2 (i := 134) rfl rfl
theorem kw_133 : Cond.methodLink RX2 42 yX2_tryOrders ∈ wALL := tk2 (i := 62) rfl rfl
theorem kw_134 : Cond.static yX2_tryOrders ∈ wALL := tk2 (i := 63) rfl rfl
theorem kw_135 : Cond.code yX2_tryOrders cX2_tryOrders 5 none ∈ wALL := tk2 (i := 64) rfl rfl
theorem kw_136 : Cond.methodLink RX2 93 yX2_keepIfBetter ∈ wALL := tk2 (i := 66) rfl rfl
theorem kw_137 : Cond.instanceMethod yX2_keepIfBetter ∈ wALL := tk2 (i := 67) rfl rfl
theorem kw_138 : Cond.selects RX2 yX2_keepIfBetter yX2_keepIfBetter ∈ wALL := tk2 (i := 68) rfl rfl
theorem kw_139 : Cond.code yX2_keepIfBetter cX2_keepIfBetter 3 none ∈ wALL := tk2 (i := 69) rfl rfl
theorem kw_140 : Cond.fieldLink RX2 39 "Scripthouse$Scenes" "done" "I" ∈ wALL := tk1 (i := 46) rfl rfl
theorem kw_141 : Cond.constant RJ6 265 (1431655765) ∈ wALL := tk2 (i := 162) rfl rfl
theorem kw_142 : Cond.constant RJ6 266 (858993459) ∈ wALL := tk2 (i := 163) rfl rfl
theorem kw_143 : Cond.constant RJ6 267 (252645135) ∈ wALL := tk2 (i := 164) rfl rfl
theorem kw_144 : Cond.fieldLink RX3 35 "Scripthouse$Scenes" "done" "I" ∈ wALL := tk1 (i := 47) rfl rfl
theorem kw_145 : Cond.methodLink RX3 38 yJ6_bitCount_0f7a4 ∈ wALL := tk2 (i := 159) rfl rfl
theorem kw_146 : Cond.static yJ6_bitCount_0f7a4 ∈ wALL := tk2 (i := 160) rfl rfl
theorem kw_147 : Cond.initialized RJ6 ∈ wALL := tk1 (i := 7) rfl rfl
theorem kw_148 : Cond.code yJ6_bitCount_0f7a4 cJ6_bitCount_0f7a4 1 (some .int) ∈ wALL := tk2 (i := 161) rfl rfl
theorem kw_149 : Cond.fieldLink RX3 55 "Scripthouse$Scenes" "outdoors" "I" ∈ wALL := tk1 (i := 50) rfl rfl
theorem kw_150 : Cond.methodLink RX2 50 yX3_countOpen ∈ wALL := tk2 (i := 155) rfl rfl
theorem kw_151 : Cond.instanceMethod yX3_countOpen ∈ wALL := tk2 (i := 156) rfl rfl
theorem kw_152 : Cond.selects RX3 yX3_countOpen yX3_countOpen ∈ wALL := tk2 (i := 157) rfl rfl
theorem kw_153 : Cond.code yX3_countOpen cX3_countOpen 1 (some .int) ∈ wALL := tk2 (i := 158) rfl rfl
theorem kw_154 : Cond.methodLink RX2 65 yX3_isOutdoors ∈ wALL := tk2 (i := 165) rfl rfl
theorem kw_155 : Cond.instanceMethod yX3_isOutdoors ∈ wALL := tk2 (i := 166) rfl rfl
theorem kw_156 : Cond.selects RX3 yX3_isOutdoors yX3_isOutdoors ∈ wALL := tk2 (i := 167) rfl rfl
theorem kw_157 : Cond.code yX3_isOutdoors cX3_isOutdoors 2 (some .boolean) ∈ wALL := tk2 (i := 168) rfl rfl
theorem kw_158 : Cond.methodLink RX2 69 yX3_isFree ∈ wALL := tk2 (i := 169) rfl rfl
theorem kw_159 : Cond.fieldLink RX0 9 "Scripthouse$Budget" "lines" "[I" ∈ wALL := tk1 (i := 109) rfl rfl
theorem kw_160 : Cond.methodLink RX0 19 Lib.Math.max.name ∈ wALL := tk2 (i := 176) rfl rfl
theorem kw_161 : Cond.methodLink RX0 25 yX0_lackOf ∈ wALL := tk2 (i := 181) rfl rfl
theorem kw_162 : Cond.instanceMethod yX0_lackOf ∈ wALL := tk2 (i := 172) rfl rfl
theorem kw_163 : Cond.selects RX0 yX0_lackOf yX0_lackOf ∈ wALL := tk2 (i := 173) rfl rfl
theorem kw_164 : Cond.initialized RX0 ∈ wALL := tk1 (i := 4) rfl rfl
theorem kw_165 : Cond.code yX0_lackOf cX0_lackOf 3 (some .int) ∈ wALL := tk2 (i := 174) rfl rfl
theorem kw_166 : Cond.static yX4_add ∈ wALL := tk2 (i := 183) rfl rfl
theorem kw_167 : Cond.code yX4_add cX4_add 3 none ∈ wALL := tk2 (i := 184) rfl rfl
theorem kw_168 : Cond.fieldLink RX0 32 "Scripthouse$Budget" "fee" "I" ∈ wALL := tk1 (i := 111) rfl rfl
theorem kw_169 : Cond.fieldLink RX0 36 "Scripthouse$Budget" "costs" "I" ∈ wALL := tk1 (i := 113) rfl rfl
theorem kw_170 : Cond.fieldLink RX0 39 "Scripthouse$Budget" "unreturned" "I" ∈ wALL := tk1 (i := 115) rfl rfl
theorem kw_171 : Cond.methodLink RX2 87 yX2_forget ∈ wALL := tk2 (i := 191) rfl rfl
theorem kw_172 : Cond.methodLink RX4 89 yX2_makePlan ∈ wALL := tk2 (i := 58) rfl rfl
theorem kw_173 : Cond.instanceMethod yX2_makePlan ∈ wALL := tk2 (i := 59) rfl rfl
theorem kw_174 : Cond.selects RX2 yX2_makePlan yX2_makePlan ∈ wALL := tk2 (i := 60) rfl rfl
theorem kw_175 : Cond.code yX2_makePlan cX2_makePlan 1 none ∈ wALL := tk2 (i := 61) rfl rfl
theorem kw_176 : Cond.methodLink RX4 92 yX2_shootable ∈ wALL := tk2 (i := 151) rfl rfl
theorem kw_177 : Cond.instanceMethod yX2_shootable ∈ wALL := tk2 (i := 152) rfl rfl
theorem kw_178 : Cond.selects RX2 yX2_shootable yX2_shootable ∈ wALL := tk2 (i := 153) rfl rfl
theorem kw_179 : Cond.code yX2_shootable cX2_shootable 5 (some .int) ∈ wALL := tk2 (i := 154) rfl rfl
theorem kw_180 : Cond.methodLink RX4 96 yX3_hoursOf ∈ wALL := tk2 (i := 170) rfl rfl
theorem kw_181 : Cond.fieldLink RX4 24 "Scripthouse" "budget" "LScripthouse$Budget;" ∈ wALL := tk1 (i := 170) rfl rfl
theorem kw_182 : Cond.methodLink RX4 100 yX0_lackOf ∈ wALL := tk2 (i := 171) rfl rfl
theorem kw_183 : Cond.fieldLink RX4 104 "Scripthouse$Budget" "fee" "I" ∈ wALL := tk1 (i := 112) rfl rfl
theorem kw_184 : Cond.fieldLink RX4 107 "Scripthouse$Planner" "today" "I" ∈ wALL := tk1 (i := 84) rfl rfl
theorem kw_185 : Cond.methodLink RX4 110 yX0_pay ∈ wALL := tk2 (i := 177) rfl rfl
theorem kw_186 : Cond.instanceMethod yX0_pay ∈ wALL := tk2 (i := 178) rfl rfl
theorem kw_187 : Cond.selects RX0 yX0_pay yX0_pay ∈ wALL := tk2 (i := 179) rfl rfl
theorem kw_188 : Cond.code yX0_pay cX0_pay 4 (some .int) ∈ wALL := tk2 (i := 180) rfl rfl
theorem kw_189 : Cond.methodLink RX4 113 yX2_endDay ∈ wALL := tk2 (i := 187) rfl rfl
theorem kw_190 : Cond.instanceMethod yX2_endDay ∈ wALL := tk2 (i := 188) rfl rfl
theorem kw_191 : Cond.selects RX2 yX2_endDay yX2_endDay ∈ wALL := tk2 (i := 189) rfl rfl
theorem kw_192 : Cond.code yX2_endDay cX2_endDay 3 none ∈ wALL := tk2 (i := 190) rfl rfl
theorem kw_193 : Cond.methodLink RX4 117 yJ6_bitCount_0f7a4 ∈ wALL := tk2 (i := 192) rfl rfl
theorem kw_194 : Cond.constant RX4 122 (100000) ∈ wALL := tk2 (i := 197) rfl rfl
theorem kw_195 : Cond.fieldLink RX4 123 "Scripthouse$Budget" "lines" "[I" ∈ wALL := tk1 (i := 110) rfl rfl
theorem kw_196 : Cond.methodLink RX4 127 yX4_add ∈ wALL := tk3 (i := 24) rfl rfl
theorem kw_197 : Cond.methodLink RX4 131 yX4_at ∈ wALL := tk2 (i := 185) rfl rfl
theorem kw_198 : Cond.fieldLink RX1 9 "Scripthouse$Layers" "lenders" "[I" ∈ wALL := tk1 (i := 132) rfl rfl
theorem kw_199 : Cond.fieldLink RX1 33 "Scripthouse$Layers" "loans" "I" ∈ wALL := tk1 (i := 141) rfl rfl
theorem kw_200 : Cond.fieldLink RX1 15 "Scripthouse$Layers" "loanOpen" "[I" ∈ wALL := tk1 (i := 133) rfl rfl
theorem kw_201 : Cond.fieldLink RX4 31 "Scripthouse" "layers" "LScripthouse$Layers;" ∈ wALL := tk1 (i := 171) rfl rfl
theorem kw_202 : Cond.fieldLink RX4 135 "Scripthouse$Layers" "loans" "I" ∈ wALL := tk1 (i := 142) rfl rfl
theorem kw_203 : Cond.methodLink RX4 138 yX1_appendLoan ∈ wALL := tk3 (i := 33) rfl rfl
theorem kw_204 : Cond.instanceMethod yX1_appendLoan ∈ wALL := tk3 (i := 34) rfl rfl
theorem kw_205 : Cond.selects RX1 yX1_appendLoan yX1_appendLoan ∈ wALL := tk3 (i := 35) rfl rfl
theorem kw_206 : Cond.initialized RX1 ∈ wALL := tk1 (i := 5) rfl rfl
theorem kw_207 : Cond.code yX1_appendLoan cX1_appendLoan 3 (some .int) ∈ wALL := tk3 (i := 36) rfl rfl
theorem kw_208 : Cond.fieldLink RX1 41 "Scripthouse$Layers" "parts" "I" ∈ wALL := tk1 (i := 143) rfl rfl
theorem kw_209 : Cond.fieldLink RX1 18 "Scripthouse$Layers" "wholes" "[I" ∈ wALL := tk1 (i := 135) rfl rfl
theorem kw_210 : Cond.fieldLink RX1 24 "Scripthouse$Layers" "percents" "[I" ∈ wALL := tk1 (i := 137) rfl rfl
theorem kw_211 : Cond.fieldLink RX1 21 "Scripthouse$Layers" "holders" "[I" ∈ wALL := tk1 (i := 136) rfl rfl
theorem kw_212 : Cond.fieldLink RX4 141 "Scripthouse$Layers" "parts" "I" ∈ wALL := tk1 (i := 144) rfl rfl
theorem kw_213 : Cond.methodLink RX4 144 yX1_percentOf ∈ wALL := tk3 (i := 42) rfl rfl
theorem kw_214 : Cond.instanceMethod yX1_percentOf ∈ wALL := tk3 (i := 43) rfl rfl
theorem kw_215 : Cond.selects RX1 yX1_percentOf yX1_percentOf ∈ wALL := tk3 (i := 44) rfl rfl
theorem kw_216 : Cond.code yX1_percentOf cX1_percentOf 4 (some .int) ∈ wALL := tk3 (i := 45) rfl rfl
theorem kw_217 : Cond.methodLink RX4 147 yX1_appendPart ∈ wALL := tk3 (i := 47) rfl rfl
theorem kw_218 : Cond.instanceMethod yX1_appendPart ∈ wALL := tk3 (i := 48) rfl rfl
theorem kw_219 : Cond.selects RX1 yX1_appendPart yX1_appendPart ∈ wALL := tk3 (i := 49) rfl rfl
theorem kw_220 : Cond.code yX1_appendPart cX1_appendPart 4 (some .int) ∈ wALL := tk3 (i := 50) rfl rfl
theorem kw_221 : Cond.methodLink RX0 42 Lib.Math.min.name ∈ wALL := tk3 (i := 60) rfl rfl
theorem kw_222 : Cond.static Lib.Math.min.name ∈ wALL := tk2 (i := 223) rfl rfl
theorem kw_223 : Cond.code Lib.Math.min.name Lib.Math.min.code 2 (some .int) ∈ wALL := tk2 (i := 224) rfl rfl
theorem kw_224 : Cond.methodLink RX1 48 Lib.Math.min.name ∈ wALL := tk3 (i := 65) rfl rfl
theorem kw_225 : Cond.fieldLink RX1 30 "Scripthouse$Layers" "gains" "[I" ∈ wALL := tk1 (i := 139) rfl rfl
theorem kw_226 : Cond.fieldLink RX1 57 "Scripthouse$Layers" "houseGain" "I" ∈ wALL := tk1 (i := 145) rfl rfl
theorem kw_227 : Cond.fieldLink RX1 27 "Scripthouse$Layers" "shares" "[I" ∈ wALL := tk1 (i := 138) rfl rfl
theorem kw_228 : Cond.constant RX4 151 (1000000) ∈ wALL := tk3 (i := 55) rfl rfl
theorem kw_229 : Cond.methodLink RX4 152 yX0_payBack ∈ wALL := tk3 (i := 56) rfl rfl
theorem kw_230 : Cond.instanceMethod yX0_payBack ∈ wALL := tk3 (i := 57) rfl rfl
theorem kw_231 : Cond.selects RX0 yX0_payBack yX0_payBack ∈ wALL := tk3 (i := 58) rfl rfl
theorem kw_232 : Cond.code yX0_payBack cX0_payBack 3 (some .int) ∈ wALL := tk3 (i := 59) rfl rfl
theorem kw_233 : Cond.methodLink RX4 155 yX1_payBackLoans ∈ wALL := tk3 (i := 61) rfl rfl
theorem kw_234 : Cond.instanceMethod yX1_payBackLoans ∈ wALL := tk3 (i := 62) rfl rfl
theorem kw_235 : Cond.selects RX1 yX1_payBackLoans yX1_payBackLoans ∈ wALL := tk3 (i := 63) rfl rfl
theorem kw_236 : Cond.code yX1_payBackLoans cX1_payBackLoans 5 (some .int) ∈ wALL := tk3 (i := 64) rfl rfl
theorem kw_237 : Cond.methodLink RX4 158 yX1_share ∈ wALL := tk3 (i := 67) rfl rfl
theorem kw_238 : Cond.instanceMethod yX1_share ∈ wALL := tk3 (i := 68) rfl rfl
theorem kw_239 : Cond.selects RX1 yX1_share yX1_share ∈ wALL := tk3 (i := 69) rfl rfl
theorem kw_240 : Cond.code yX1_share cX1_share 6 none ∈ wALL := tk3 (i := 70) rfl rfl
theorem kw_241 : Cond.fieldLink RX4 161 "Scripthouse$Scenes" "done" "I" ∈ wALL := tk1 (i := 48) rfl rfl
theorem kw_242 : Cond.fieldLink RX4 164 "Scripthouse$Planner" "bestDays" "I" ∈ wALL := tk1 (i := 82) rfl rfl
theorem kw_243 : Cond.methodLink RX2 46 yX2_fewestOfAll ∈ wALL := tk2 (i := 219) rfl rfl
theorem kw_244 : Cond.static yX2_fewestOfAll ∈ wALL := tk2 (i := 220) rfl rfl
theorem kw_245 : Cond.code yX2_fewestOfAll cX2_fewestOfAll 5 (some .int) ∈ wALL := tk2 (i := 221) rfl rfl
theorem kw_246 : Cond.methodLink RX2 110 Lib.Math.min.name ∈ wALL := tk2 (i := 222) rfl rfl
theorem kw_247 : Cond.methodLink RX4 167 yX3_countOpen ∈ wALL := tk2 (i := 214) rfl rfl
theorem kw_248 : Cond.methodLink RX4 170 yX2_fewestDays ∈ wALL := tk2 (i := 215) rfl rfl
theorem kw_249 : Cond.instanceMethod yX2_fewestDays ∈ wALL := tk2 (i := 216) rfl rfl
theorem kw_250 : Cond.selects RX2 yX2_fewestDays yX2_fewestDays ∈ wALL := tk2 (i := 217) rfl rfl
theorem kw_251 : Cond.code yX2_fewestDays cX2_fewestDays 1 (some .int) ∈ wALL := tk2 (i := 218) rfl rfl
theorem kw_252 : Cond.fieldLink RX4 173 "Scripthouse$Planner" "bestOrder" "[I" ∈ wALL := tk1 (i := 78) rfl rfl
theorem kw_253 : Cond.fieldLink RX4 176 "Scripthouse$Planner" "bestBegin" "[I" ∈ wALL := tk1 (i := 80) rfl rfl
theorem kw_254 : Cond.fieldLink RX4 179 "Scripthouse$Budget" "costs" "I" ∈ wALL := tk1 (i := 114) rfl rfl
theorem kw_255 : Cond.fieldLink RX4 182 "Scripthouse$Budget" "unreturned" "I" ∈ wALL := tk1 (i := 116) rfl rfl
theorem kw_256 : Cond.fieldLink RX4 185 "Scripthouse$Layers" "loanOpen" "[I" ∈ wALL := tk1 (i := 134) rfl rfl
theorem kw_257 : Cond.fieldLink RX4 188 "Scripthouse$Layers" "gains" "[I" ∈ wALL := tk1 (i := 140) rfl rfl
theorem kw_258 : Cond.fieldLink RX4 191 "Scripthouse$Layers" "houseGain" "I" ∈ wALL := tk1 (i := 146) rfl rfl
theorem kw_259 : Cond.methodLink RX4 194 yX4_put ∈ wALL := tk2 (i := 186) rfl rfl
theorem cs_X3_31 : csN RX3 31 yX4_put RX4 cX4_put 3 none 3 := ⟨List.mem_of_getElem? (i := 10) rfl, kw_3, kw_4, kw_5, by decide +kernel⟩
theorem cs_X4_42 : csS RX4 42 yX4_isWithin cX4_isWithin 3 (some .boolean) 3 := ⟨kw_10, kw_11, kw_4, kw_12, by decide +kernel⟩
theorem cs_X4_46 : csV RX4 RX3 46 yX3_everyScene cX3_everyScene 1 (some .int) 0 := ⟨kw_14, kw_15, kw_16, kw_17, kw_18, by decide +kernel⟩
theorem cs_X4_61 : csV RX4 RX2 61 yX2_forget cX2_forget 1 none 0 := ⟨kw_21, kw_22, kw_23, kw_24, kw_25, by decide +kernel⟩
theorem cs_X4_64 : csV RX4 RX3 64 yX3_append cX3_append 6 (some .int) 5 := ⟨kw_26, kw_27, kw_28, kw_17, kw_29, by decide +kernel⟩
theorem cs_X4_74 : csS RX4 74 yX4_isIn cX4_isIn 2 (some .boolean) 2 := ⟨kw_35, kw_36, kw_4, kw_37, by decide +kernel⟩
theorem cs_X4_78 : csS RX4 78 yX4_with cX4_with 3 (some .int) 3 := ⟨kw_38, kw_39, kw_4, kw_40, by decide +kernel⟩
theorem cs_X2_54 : csN RX2 54 yX4_at RX4 cX4_at 2 (some .int) 2 := ⟨List.mem_of_getElem? (i := 4) rfl, kw_49, kw_4, kw_50, by decide +kernel⟩
theorem cs_X2_58 : csS RX2 58 yX2_dayOf cX2_dayOf 1 (some .int) 1 := ⟨kw_51, kw_52, kw_24, kw_53, by decide +kernel⟩
theorem cs_X2_107 : csV RX2 RX2 107 yX2_daysUpTo cX2_daysUpTo 2 (some .int) 1 := ⟨kw_55, kw_56, kw_57, kw_24, kw_58, by decide +kernel⟩
theorem cs_X2_83 : csN RX2 83 yX4_put RX4 cX4_put 3 none 3 := ⟨List.mem_of_getElem? (i := 5) rfl, kw_3, kw_4, kw_5, by decide +kernel⟩
theorem cs_X3_48 : csN RX3 48 yX4_at RX4 cX4_at 2 (some .int) 2 := ⟨List.mem_of_getElem? (i := 7) rfl, kw_49, kw_4, kw_50, by decide +kernel⟩
theorem cs_X3_44 : csN RX3 44 yX4_isIn RX4 cX4_isIn 2 (some .boolean) 2 := ⟨List.mem_of_getElem? (i := 6) rfl, kw_36, kw_4, kw_37, by decide +kernel⟩
theorem cs_X3_52 : csV RX3 RX3 52 yX3_isFree cX3_isFree 3 (some .boolean) 2 := ⟨kw_62, kw_63, kw_64, kw_17, kw_65, by decide +kernel⟩
theorem cs_X2_80 : csN RX2 80 yX4_isIn RX4 cX4_isIn 2 (some .boolean) 2 := ⟨List.mem_of_getElem? (i := 8) rfl, kw_36, kw_4, kw_37, by decide +kernel⟩
theorem cs_X2_124 : csV RX2 RX2 124 yX2_endOf cX2_endOf 2 (some .int) 1 := ⟨kw_75, kw_76, kw_77, kw_24, kw_78, by decide +kernel⟩
theorem cs_X2_73 : csN RX2 73 yX4_with RX4 cX4_with 3 (some .int) 3 := ⟨List.mem_of_getElem? (i := 9) rfl, kw_39, kw_4, kw_40, by decide +kernel⟩
theorem cs_X2_142 : csV RX2 RX2 142 yX2_placedOn cX2_placedOn 5 (some .int) 2 := ⟨kw_80, kw_81, kw_82, kw_24, kw_83, by decide +kernel⟩
theorem cs_X2_139 : csV RX2 RX2 139 yX2_hoursFor cX2_hoursFor 5 (some .int) 2 := ⟨kw_84, kw_85, kw_86, kw_24, kw_87, by decide +kernel⟩
theorem cs_X2_151 : csS RX2 151 yX2_startOf cX2_startOf 1 (some .int) 1 := ⟨kw_88, kw_89, kw_24, kw_90, by decide +kernel⟩
theorem cs_X2_157 : csV RX2 RX2 157 yX2_beginFrom cX2_beginFrom 8 (some .int) 4 := ⟨kw_92, kw_93, kw_94, kw_24, kw_95, by decide +kernel⟩
theorem cs_X2_161 : csV RX2 RX2 161 yX2_endsInTime cX2_endsInTime 5 (some .boolean) 3 := ⟨kw_96, kw_97, kw_98, kw_24, kw_99, by decide +kernel⟩
theorem cs_X2_164 : csV RX2 RX2 164 yX2_isFitForChildren cX2_isFitForChildren 6 (some .boolean) 3 := ⟨kw_100, kw_101, kw_102, kw_24, kw_103, by decide +kernel⟩
theorem cs_X2_127 : csV RX2 RX3 127 yX3_hoursOf cX3_hoursOf 4 (some .int) 1 := ⟨kw_104, kw_105, kw_106, kw_17, kw_107, by decide +kernel⟩
theorem cs_X2_130 : csV RX2 RX2 130 yX2_hoursIn cX2_hoursIn 5 (some .int) 2 := ⟨kw_108, kw_109, kw_110, kw_24, kw_111, by decide +kernel⟩
theorem cs_X2_90 : csV RX2 RX3 90 yX3_everyScene cX3_everyScene 1 (some .int) 0 := ⟨kw_112, kw_15, kw_16, kw_17, kw_18, by decide +kernel⟩
theorem cs_X2_116 : csV RX2 RX2 116 yX2_hasRoom cX2_hasRoom 5 (some .boolean) 3 := ⟨kw_113, kw_114, kw_115, kw_24, kw_116, by decide +kernel⟩
theorem cs_X2_120 : csV RX2 RX2 120 yX2_hasRoomForChildren cX2_hasRoomForChildren 7 (some .boolean) 4 := ⟨kw_117, kw_118, kw_119, kw_24, kw_120, by decide +kernel⟩
theorem cs_X2_97 : csV RX2 RX3 97 yX3_canFollow cX3_canFollow 3 (some .boolean) 2 := ⟨kw_121, kw_122, kw_123, kw_17, kw_124, by decide +kernel⟩
theorem cs_X2_100 : csV RX2 RX2 100 yX2_place cX2_place 7 none 3 := ⟨kw_125, kw_126, kw_127, kw_24, kw_128, by decide +kernel⟩
theorem cs_X2_104 : csV RX2 RX2 104 yX2_canBeBetter cX2_canBeBetter 6 (some .boolean) 2 := ⟨kw_129, kw_130, kw_131, kw_24, kw_132, by decide +kernel⟩
theorem cs_X2_42 : csS RX2 42 yX2_tryOrders cX2_tryOrders 5 none 3 := ⟨kw_133, kw_134, kw_24, kw_135, by decide +kernel⟩
theorem cs_X2_93 : csV RX2 RX2 93 yX2_keepIfBetter cX2_keepIfBetter 3 none 1 := ⟨kw_136, kw_137, kw_138, kw_24, kw_139, by decide +kernel⟩
theorem cs_X3_38 : csS RX3 38 yJ6_bitCount_0f7a4 cJ6_bitCount_0f7a4 1 (some .int) 1 := ⟨kw_145, kw_146, kw_147, kw_148, by decide +kernel⟩
theorem cs_X2_50 : csV RX2 RX3 50 yX3_countOpen cX3_countOpen 1 (some .int) 0 := ⟨kw_150, kw_151, kw_152, kw_17, kw_153, by decide +kernel⟩
theorem cs_X2_65 : csV RX2 RX3 65 yX3_isOutdoors cX3_isOutdoors 2 (some .boolean) 1 := ⟨kw_154, kw_155, kw_156, kw_17, kw_157, by decide +kernel⟩
theorem cs_X2_69 : csV RX2 RX3 69 yX3_isFree cX3_isFree 3 (some .boolean) 2 := ⟨kw_158, kw_63, kw_64, kw_17, kw_65, by decide +kernel⟩
theorem cs_X0_15 : csN RX0 15 yX4_at RX4 cX4_at 2 (some .int) 2 := ⟨List.mem_of_getElem? (i := 11) rfl, kw_49, kw_4, kw_50, by decide +kernel⟩
theorem cs_X0_25 : csV RX0 RX0 25 yX0_lackOf cX0_lackOf 3 (some .int) 2 := ⟨kw_161, kw_162, kw_163, kw_164, kw_165, by decide +kernel⟩
theorem cs_X0_28 : csN RX0 28 yX4_add RX4 cX4_add 3 none 3 := ⟨List.mem_of_getElem? (i := 12) rfl, kw_166, kw_4, kw_167, by decide +kernel⟩
theorem cs_X2_87 : csV RX2 RX2 87 yX2_forget cX2_forget 1 none 0 := ⟨kw_171, kw_22, kw_23, kw_24, kw_25, by decide +kernel⟩
theorem cs_X4_89 : csV RX4 RX2 89 yX2_makePlan cX2_makePlan 1 none 0 := ⟨kw_172, kw_173, kw_174, kw_24, kw_175, by decide +kernel⟩
theorem cs_X4_92 : csV RX4 RX2 92 yX2_shootable cX2_shootable 5 (some .int) 1 := ⟨kw_176, kw_177, kw_178, kw_24, kw_179, by decide +kernel⟩
theorem cs_X4_96 : csV RX4 RX3 96 yX3_hoursOf cX3_hoursOf 4 (some .int) 1 := ⟨kw_180, kw_105, kw_106, kw_17, kw_107, by decide +kernel⟩
theorem cs_X4_100 : csV RX4 RX0 100 yX0_lackOf cX0_lackOf 3 (some .int) 2 := ⟨kw_182, kw_162, kw_163, kw_164, kw_165, by decide +kernel⟩
theorem cs_X4_110 : csV RX4 RX0 110 yX0_pay cX0_pay 4 (some .int) 2 := ⟨kw_185, kw_186, kw_187, kw_164, kw_188, by decide +kernel⟩
theorem cs_X4_113 : csV RX4 RX2 113 yX2_endDay cX2_endDay 3 none 1 := ⟨kw_189, kw_190, kw_191, kw_24, kw_192, by decide +kernel⟩
theorem cs_X4_117 : csS RX4 117 yJ6_bitCount_0f7a4 cJ6_bitCount_0f7a4 1 (some .int) 1 := ⟨kw_193, kw_146, kw_147, kw_148, by decide +kernel⟩
theorem cs_X4_127 : csS RX4 127 yX4_add cX4_add 3 none 3 := ⟨kw_196, kw_166, kw_4, kw_167, by decide +kernel⟩
theorem cs_X4_131 : csS RX4 131 yX4_at cX4_at 2 (some .int) 2 := ⟨kw_197, kw_49, kw_4, kw_50, by decide +kernel⟩
theorem cs_X1_37 : csN RX1 37 yX4_put RX4 cX4_put 3 none 3 := ⟨List.mem_of_getElem? (i := 13) rfl, kw_3, kw_4, kw_5, by decide +kernel⟩
theorem cs_X4_138 : csV RX4 RX1 138 yX1_appendLoan cX1_appendLoan 3 (some .int) 2 := ⟨kw_203, kw_204, kw_205, kw_206, kw_207, by decide +kernel⟩
theorem cs_X1_44 : csN RX1 44 yX4_at RX4 cX4_at 2 (some .int) 2 := ⟨List.mem_of_getElem? (i := 14) rfl, kw_49, kw_4, kw_50, by decide +kernel⟩
theorem cs_X4_144 : csV RX4 RX1 144 yX1_percentOf cX1_percentOf 4 (some .int) 1 := ⟨kw_213, kw_214, kw_215, kw_206, kw_216, by decide +kernel⟩
theorem cs_X4_147 : csV RX4 RX1 147 yX1_appendPart cX1_appendPart 4 (some .int) 3 := ⟨kw_217, kw_218, kw_219, kw_206, kw_220, by decide +kernel⟩
theorem cs_X1_54 : csN RX1 54 yX4_add RX4 cX4_add 3 none 3 := ⟨List.mem_of_getElem? (i := 15) rfl, kw_166, kw_4, kw_167, by decide +kernel⟩
theorem cs_X4_152 : csV RX4 RX0 152 yX0_payBack cX0_payBack 3 (some .int) 1 := ⟨kw_229, kw_230, kw_231, kw_164, kw_232, by decide +kernel⟩
theorem cs_X4_155 : csV RX4 RX1 155 yX1_payBackLoans cX1_payBackLoans 5 (some .int) 1 := ⟨kw_233, kw_234, kw_235, kw_206, kw_236, by decide +kernel⟩
theorem cs_X4_158 : csV RX4 RX1 158 yX1_share cX1_share 6 none 1 := ⟨kw_237, kw_238, kw_239, kw_206, kw_240, by decide +kernel⟩
theorem cs_X2_46 : csS RX2 46 yX2_fewestOfAll cX2_fewestOfAll 5 (some .int) 3 := ⟨kw_243, kw_244, kw_24, kw_245, by decide +kernel⟩
theorem cs_X4_167 : csV RX4 RX3 167 yX3_countOpen cX3_countOpen 1 (some .int) 0 := ⟨kw_247, kw_151, kw_152, kw_17, kw_153, by decide +kernel⟩
theorem cs_X4_170 : csV RX4 RX2 170 yX2_fewestDays cX2_fewestDays 1 (some .int) 0 := ⟨kw_248, kw_249, kw_250, kw_24, kw_251, by decide +kernel⟩
theorem cs_X4_194 : csS RX4 194 yX4_put cX4_put 3 none 3 := ⟨kw_259, kw_3, kw_4, kw_5, by decide +kernel⟩
end
section
/-! The functions that the methods compute, laid by program out of javap's listing (wip/whole/gen): σ k i is the i-th field or element of the k-th cell. -/
def fat (σ : SS) (k n : Nat) (i : Int32) : Int32 := if i < 0 then 0 else if Int32.ofNat n ≤ i then 0 else σ k i.toNatClampNeg
def fput (σ : SS) (k n : Nat) (i x : Int32) : SS := if i < 0 then σ else if Int32.ofNat n ≤ i then σ else wr σ k i.toNatClampNeg x
def fadd (σ : SS) (k n : Nat) (i x : Int32) : SS := fput σ k n i (fat σ k n i + x)
def X4_isWithin (x0 x1 x2 : Int32) : Int32 := (if x0 < x1 then (0 : Int32) else (if x2 < x0 then (0 : Int32) else (1 : Int32)))
theorem z_X4_isWithin  (x0 x1 x2 : Int32) : (X4_isWithin x0 x1 x2) &&& 1 = X4_isWithin x0 x1 x2 := by unfold X4_isWithin; (repeat' split) <;> first | rfl | decide | exact z_X4_isIn _ _
def X3_everyScene (σ : SS) : Int32 := ((1 : Int32) <<< ((σ 2 5) &&& 31)) - (1 : Int32)
def X2_forget (σ : SS) : Option SS := (lt (wr σ 1 7 (0 : Int32)) (fun σ_1 => some σ_1))
def X3_append (σ : SS) (x1 x2 x3 x4 x5 : Int32) : Option (Int32 × SS) := (lt (fput σ 5 8 (σ 2 5) x1) (fun σ_1 => (lt (fput σ_1 6 8 (σ_1 2 5) x2) (fun σ_2 => (lt (fput σ_2 7 8 (σ_2 2 5) x3) (fun σ_3 => (lt (fput σ_3 8 8 (σ_3 2 5) x4) (fun σ_4 => (lt (fput σ_4 9 8 (σ_4 2 5) x5) (fun σ_5 => (lt (wr σ_5 2 5 ((σ_5 2 5) + (1 : Int32))) (fun σ_6 => some ((σ_6 2 5) - (1 : Int32), σ_6)))))))))))))
def X4_addScene_b54 (τ : SS) : Option ((Int32 ⊕ String) × SS) := some (.inr "java/lang/IllegalArgumentException", τ)
def X4_addScene (σ : SS) (x1 x2 x3 x4 x5 : Int32) : Option ((Int32 ⊕ String) × SS) := (if (X4_isWithin x1 (1 : Int32) (6 : Int32)) = 0 then (X4_addScene_b54 σ) else (if (X4_isWithin x2 (0 : Int32) (3 : Int32)) = 0 then (X4_addScene_b54 σ) else (if (X4_isWithin x3 (0 : Int32) (63 : Int32)) = 0 then (X4_addScene_b54 σ) else (if (X4_isWithin x4 (0 : Int32) (2 : Int32)) = 0 then (X4_addScene_b54 σ) else (if (x5 &&& ((X3_everyScene σ) ^^^ (-1 : Int32))) = 0 then (if (σ 2 5) < (8 : Int32) then ((X2_forget σ).bind (fun σ_7 => (bd2 (X3_append σ_7 x1 x2 x3 x4 x5) (fun r_8 σ_8 => some (.inl r_8, σ_8))))) else some (.inr "java/lang/IllegalStateException", σ)) else (X4_addScene_b54 σ))))))
def X4_isIn (x0 x1 : Int32) : Int32 := (if ((x0 >>> (x1 &&& 31)) &&& (1 : Int32)) = 0 then (0 : Int32) else (1 : Int32))
theorem z_X4_isIn  (x0 x1 : Int32) : (X4_isIn x0 x1) &&& 1 = X4_isIn x0 x1 := by unfold X4_isIn; (repeat' split) <;> first | rfl | decide | exact z_X4_isIn _ _
def X4_with (x0 x1 x2 : Int32) : Int32 := (if x2 = 0 then x0 &&& (((1 : Int32) <<< (x1 &&& 31)) ^^^ (-1 : Int32)) else x0 ||| ((1 : Int32) <<< (x1 &&& 31)))
def X4_setOut (σ : SS) (x1 x2 : Int32) : Option ((Int32 ⊕ String) × SS) := (if (X4_isWithin x1 (0 : Int32) (3 : Int32)) = 0 then some (.inr "java/lang/IndexOutOfBoundsException", σ) else (lt (wr σ 2 7 (X4_with (σ 2 7) x1 x2)) (fun σ_2 => some (.inl (X4_isIn (σ 2 7) x1), σ_2))))
def X4_setChild (σ : SS) (x1 x2 : Int32) : Option ((Int32 ⊕ String) × SS) := (if (X4_isWithin x1 (0 : Int32) (5 : Int32)) = 0 then some (.inr "java/lang/IndexOutOfBoundsException", σ) else (if (X4_isIn (σ 2 8) x1) = x2 then some (.inl (X4_isIn (σ 2 8) x1), σ) else ((X2_forget σ).bind (fun σ_3 => (lt (wr σ_3 2 8 (X4_with (σ_3 2 8) x1 x2)) (fun σ_4 => some (.inl (X4_isIn (σ 2 8) x1), σ_4)))))))
def X4_setRates_b22 (τ : SS) : Option ((Int32 ⊕ String) × SS) := some (.inr "java/lang/IllegalArgumentException", τ)
def X4_setRates (σ : SS) (x1 x2 : Int32) : Option ((Int32 ⊕ String) × SS) := (if (X4_isWithin x1 (0 : Int32) (1000 : Int32)) = 0 then (X4_setRates_b22 σ) else (if (X4_isWithin x2 (0 : Int32) (1000 : Int32)) = 0 then (X4_setRates_b22 σ) else (lt (wr σ 0 4 x1) (fun σ_3 => (lt (wr σ_3 0 5 x2) (fun σ_4 => some (.inl (σ 0 4), σ_4)))))))
def X4_hold (σ : SS) (x1 : Int32) : Option (Int32 × SS) := (if x1 &&& 1 = x1 then (lt (wr σ 0 6 x1) (fun σ_2 => (if (σ 0 6) &&& 1 = (σ 0 6) then some (σ 0 6, σ_2) else none))) else none)
def X2_dayOf (x0 : Int32) : Int32 := x0 / (24 : Int32)
def X2_daysUpTo (σ : SS) (x1 : Int32) : Int32 := (if x1 = 0 then (0 : Int32) else ((X2_dayOf (fat σ 11 8 (fat σ 10 8 (x1 - (1 : Int32))))) - (σ 1 6)) + (1 : Int32))
def fuel_X2_keepIfBetter_24 : Nat := 64
def X2_keepIfBetter_l24 : Nat → SS → Int32 → Option SS
  | 0, _, _ => none
  | n + 1, τ, x2 => (if (8 : Int32) ≤ x2 then some τ else (lt (fput τ 12 8 x2 (fat τ 10 8 x2)) (fun σ_4 => (lt (fput σ_4 13 8 x2 (fat σ_4 11 8 x2)) (fun σ_5 => (X2_keepIfBetter_l24 n σ_5 (x2 + 1)))))))
def X2_keepIfBetter (σ : SS) (x1 : Int32) : Option SS := (if (X2_daysUpTo σ x1) < (σ 1 5) then (lt (wr σ 1 5 (X2_daysUpTo σ x1)) (fun σ_2 => (X2_keepIfBetter_l24 fuel_X2_keepIfBetter_24 σ_2 (0 : Int32)))) else some σ)
def X3_isFree (σ : SS) (x1 x2 : Int32) : Int32 := (if ((fat σ 9 8 x1) &&& (x2 ^^^ (-1 : Int32))) = 0 then (1 : Int32) else (0 : Int32))
theorem z_X3_isFree (σ : SS) (x1 x2 : Int32) : (X3_isFree σ x1 x2) &&& 1 = X3_isFree σ x1 x2 := by unfold X3_isFree; (repeat' split) <;> first | rfl | decide | exact z_X4_isIn _ _
def X3_canFollow (σ : SS) (x1 x2 : Int32) : Int32 := (if (X4_isIn x2 x1) = 0 then (if (X3_isFree σ x1 x2) = 0 then (0 : Int32) else (1 : Int32)) else (0 : Int32))
theorem z_X3_canFollow (σ : SS) (x1 x2 : Int32) : (X3_canFollow σ x1 x2) &&& 1 = X3_canFollow σ x1 x2 := by unfold X3_canFollow; (repeat' split) <;> first | rfl | decide | exact z_X4_isIn _ _
def X2_startOf (x0 : Int32) : Int32 := ((24 : Int32) * x0) + (8 : Int32)
def X2_endOf (σ : SS) (x1 : Int32) : Int32 := (fat σ 11 8 x1) + (fat σ 5 8 x1)
def X2_beginFrom_b121 (k : SS → Int32 → Int32 → Int32 → Int32 → Int32 → Option Int32) (σ : SS) (x2 x3 x4 x6 x7 : Int32) : Option Int32 := (k σ x2 x3 x4 x6 (x7 + 1))
def fuel_X2_beginFrom_40 : Nat := 64
def X2_beginFrom_l40 : Nat → SS → Int32 → Int32 → Int32 → Int32 → Int32 → Option Int32
  | 0, _, _, _, _, _, _ => none
  | n + 1, σ, x2, x3, x4, x6, x7 => (if (σ 2 5) ≤ x7 then some x6 else (if (X4_isIn x4 x7) = 0 then (X2_beginFrom_b121 (X2_beginFrom_l40 n) σ x2 x3 x4 x6 x7) else (if ((fat σ 7 8 x7) &&& (fat σ 7 8 x2)) = 0 then (X2_beginFrom_b121 (X2_beginFrom_l40 n) σ x2 x3 x4 x6 x7) else (if x3 ≤ (X2_dayOf (fat σ 11 8 x7)) then (X2_beginFrom_b121 (X2_beginFrom_l40 n) σ x2 x3 x4 x6 x7) else (X2_beginFrom_b121 (X2_beginFrom_l40 n) σ x2 x3 x4 (imax x6 ((X2_endOf σ x7) + (11 : Int32))) x7)))))
def X2_beginFrom_b26 (σ : SS) (x1 x2 x3 x4 y0 y1 : Int32) : Option Int32 := (X2_beginFrom_l40 fuel_X2_beginFrom_40 σ x2 x3 x4 (imax x1 (y0 + y1)) (0 : Int32))
def X2_beginFrom (σ : SS) (x1 x2 x3 x4 : Int32) : Option Int32 := (if (fat σ 8 8 x2) = (2 : Int32) then (X2_beginFrom_b26 σ x1 x2 x3 x4 ((24 : Int32) * x3) (18 : Int32)) else (X2_beginFrom_b26 σ x1 x2 x3 x4 ((24 : Int32) * x3) (8 : Int32)))
def X2_endsInTime_b22 (σ : SS) (x1 x2 x3 y0 : Int32) : Int32 := (if (((24 : Int32) * x3) + y0) < (x2 + (fat σ 5 8 x1)) then (0 : Int32) else (1 : Int32))
def X2_endsInTime (σ : SS) (x1 x2 x3 : Int32) : Int32 := (if (fat σ 8 8 x1) = (1 : Int32) then (X2_endsInTime_b22 σ x1 x2 x3 (18 : Int32)) else (X2_endsInTime_b22 σ x1 x2 x3 (24 : Int32)))
theorem z_X2_endsInTime (σ : SS) (x1 x2 x3 : Int32) : (X2_endsInTime σ x1 x2 x3) &&& 1 = X2_endsInTime σ x1 x2 x3 := by unfold X2_endsInTime X2_endsInTime_b22; (repeat' split) <;> first | rfl | decide | exact z_X4_isIn _ _
def X2_placedOn_b50 (k : SS → Int32 → Int32 → Int32 → Int32 → Option Int32) (σ : SS) (x1 x2 x3 x4 : Int32) : Option Int32 := (k σ x1 x2 x3 (x4 + 1))
def fuel_X2_placedOn_5 : Nat := 64
def X2_placedOn_l5 : Nat → SS → Int32 → Int32 → Int32 → Int32 → Option Int32
  | 0, _, _, _, _, _ => none
  | n + 1, σ, x1, x2, x3, x4 => (if (σ 2 5) ≤ x4 then some x3 else (if (X4_isIn x2 x4) = 0 then (X2_placedOn_b50 (X2_placedOn_l5 n) σ x1 x2 x3 x4) else (if (X2_dayOf (fat σ 11 8 x4)) = x1 then (X2_placedOn_b50 (X2_placedOn_l5 n) σ x1 x2 (X4_with x3 x4 (1 : Int32)) x4) else (X2_placedOn_b50 (X2_placedOn_l5 n) σ x1 x2 x3 x4))))
def X2_placedOn (σ : SS) (x1 x2 : Int32) : Option Int32 := (X2_placedOn_l5 fuel_X2_placedOn_5 σ x1 x2 (0 : Int32) (0 : Int32))
def X2_hoursFor_b60 (k : SS → Int32 → Int32 → Int32 → Int32 → Option Int32) (σ : SS) (x1 x2 x3 x4 : Int32) : Option Int32 := (k σ x1 x2 x3 (x4 + 1))
def fuel_X2_hoursFor_5 : Nat := 64
def X2_hoursFor_l5 : Nat → SS → Int32 → Int32 → Int32 → Int32 → Option Int32
  | 0, _, _, _, _, _ => none
  | n + 1, σ, x1, x2, x3, x4 => (if (σ 2 5) ≤ x4 then some x3 else (if (X4_isIn x2 x4) = 0 then (X2_hoursFor_b60 (X2_hoursFor_l5 n) σ x1 x2 x3 x4) else (if (X4_isIn (fat σ 7 8 x4) x1) = 0 then (X2_hoursFor_b60 (X2_hoursFor_l5 n) σ x1 x2 x3 x4) else (X2_hoursFor_b60 (X2_hoursFor_l5 n) σ x1 x2 (x3 + (fat σ 5 8 x4)) x4))))
def X2_hoursFor (σ : SS) (x1 x2 : Int32) : Option Int32 := (X2_hoursFor_l5 fuel_X2_hoursFor_5 σ x1 x2 (0 : Int32) (0 : Int32))
def X2_isFitForChildren_b72 (k : SS → Int32 → Int32 → Int32 → Int32 → Int32 → Option Int32) (σ : SS) (x1 x2 x3 x4 x5 : Int32) : Option Int32 := (k σ x1 x2 x3 x4 (x5 + 1))
def fuel_X2_isFitForChildren_24 : Nat := 64
def X2_isFitForChildren_l24 : Nat → SS → Int32 → Int32 → Int32 → Int32 → Int32 → Option Int32
  | 0, _, _, _, _, _, _ => none
  | n + 1, σ, x1, x2, x3, x4, x5 => (if (6 : Int32) ≤ x5 then some (1 : Int32) else (if (X4_isIn x4 x5) = 0 then (X2_isFitForChildren_b72 (X2_isFitForChildren_l24 n) σ x1 x2 x3 x4 x5) else ((X2_placedOn σ x2 x3).bind (fun r_3 => ((X2_hoursFor σ x5 r_3).bind (fun r_4 => (if (r_4 + (fat σ 5 8 x1)) ≤ (6 : Int32) then (X2_isFitForChildren_b72 (X2_isFitForChildren_l24 n) σ x1 x2 x3 x4 x5) else some (0 : Int32))))))))
def X2_isFitForChildren (σ : SS) (x1 x2 x3 : Int32) : Option Int32 := (X2_isFitForChildren_l24 fuel_X2_isFitForChildren_24 σ x1 x2 x3 ((σ 2 8) &&& (fat σ 7 8 x1)) (0 : Int32))
def X2_place_b136 (τ : SS) (x1 x2 x5 : Int32) : Option SS := (lt (fput τ 10 8 x2 x1) (fun σ_7 => (lt (fput σ_7 11 8 x1 x5) (fun σ_8 => some σ_8))))
def X2_place_b118 (τ : SS) (x1 x2 x3 x4 : Int32) : Option SS := ((X2_beginFrom τ (X2_startOf (x4 + 1)) x1 (x4 + 1) x3).bind (fun r_9 => (X2_place_b136 τ x1 x2 r_9)))
def X2_place_b83 (τ : SS) (x1 x2 x3 x4 x5 : Int32) : Option SS := ((X2_beginFrom τ x5 x1 x4 x3).bind (fun r_3 => (if (X2_endsInTime τ x1 r_3 x4) = 0 then (X2_place_b118 τ x1 x2 x3 x4) else ((X2_isFitForChildren τ x1 x4 x3).bind (fun r_5 => (if r_5 = 0 then (X2_place_b118 τ x1 x2 x3 x4) else (X2_place_b136 τ x1 x2 r_3)))))))
def X2_place_b80 (τ : SS) (x1 x2 x3 x4 y0 y1 : Int32) : Option SS := (X2_place_b83 τ x1 x2 x3 x4 (y0 + y1))
def X2_place (σ : SS) (x1 x2 x3 : Int32) : Option SS := (if x2 ≤ 0 then (X2_place_b83 σ x1 x2 x3 (σ 1 6) (X2_startOf (σ 1 6))) else (if (fat σ 6 8 (fat σ 10 8 (x2 - (1 : Int32)))) = (fat σ 6 8 x1) then (X2_place_b80 σ x1 x2 x3 (X2_dayOf (fat σ 11 8 (fat σ 10 8 (x2 - (1 : Int32))))) (X2_endOf σ (fat σ 10 8 (x2 - (1 : Int32)))) (0 : Int32)) else (X2_place_b80 σ x1 x2 x3 (X2_dayOf (fat σ 11 8 (fat σ 10 8 (x2 - (1 : Int32))))) (X2_endOf σ (fat σ 10 8 (x2 - (1 : Int32)))) (1 : Int32))))
def X3_hoursOf_b31 (k : SS → Int32 → Int32 → Int32 → Option Int32) (σ : SS) (x1 x2 x3 : Int32) : Option Int32 := (k σ x1 x2 (x3 + 1))
def fuel_X3_hoursOf_4 : Nat := 64
def X3_hoursOf_l4 : Nat → SS → Int32 → Int32 → Int32 → Option Int32
  | 0, _, _, _, _ => none
  | n + 1, σ, x1, x2, x3 => (if (σ 2 5) ≤ x3 then some x2 else (if (X4_isIn x1 x3) = 0 then (X3_hoursOf_b31 (X3_hoursOf_l4 n) σ x1 x2 x3) else (X3_hoursOf_b31 (X3_hoursOf_l4 n) σ x1 (x2 + (fat σ 5 8 x3)) x3)))
def X3_hoursOf (σ : SS) (x1 : Int32) : Option Int32 := (X3_hoursOf_l4 fuel_X3_hoursOf_4 σ x1 (0 : Int32) (0 : Int32))
def X2_hoursIn_b57 (k : SS → Int32 → Int32 → Int32 → Int32 → Option Int32) (σ : SS) (x1 x2 x3 x4 : Int32) : Option Int32 := (k σ x1 x2 x3 (x4 + 1))
def fuel_X2_hoursIn_5 : Nat := 64
def X2_hoursIn_l5 : Nat → SS → Int32 → Int32 → Int32 → Int32 → Option Int32
  | 0, _, _, _, _, _ => none
  | n + 1, σ, x1, x2, x3, x4 => (if (σ 2 5) ≤ x4 then some x3 else (if (X4_isIn x1 x4) = 0 then (X2_hoursIn_b57 (X2_hoursIn_l5 n) σ x1 x2 x3 x4) else (if (fat σ 8 8 x4) = x2 then (X2_hoursIn_b57 (X2_hoursIn_l5 n) σ x1 x2 (x3 + (fat σ 5 8 x4)) x4) else (X2_hoursIn_b57 (X2_hoursIn_l5 n) σ x1 x2 x3 x4))))
def X2_hoursIn (σ : SS) (x1 x2 : Int32) : Option Int32 := (X2_hoursIn_l5 fuel_X2_hoursIn_5 σ x1 x2 (0 : Int32) (0 : Int32))
def X2_hasRoom (σ : SS) (x1 x2 x3 : Int32) : Option Int32 := ((X3_hoursOf σ x1).bind (fun r_1 => (if (((24 : Int32) - ((X2_endOf σ x2) - ((24 : Int32) * (X2_dayOf (fat σ 11 8 x2))))) + (x3 * (16 : Int32))) < r_1 then some (0 : Int32) else ((X2_hoursIn σ x1 (1 : Int32)).bind (fun r_3 => (if ((imax (0 : Int32) ((18 : Int32) - ((X2_endOf σ x2) - ((24 : Int32) * (X2_dayOf (fat σ 11 8 x2)))))) + (x3 * (10 : Int32))) < r_3 then some (0 : Int32) else ((X2_hoursIn σ x1 (2 : Int32)).bind (fun r_5 => (if (((24 : Int32) - (imax (18 : Int32) ((X2_endOf σ x2) - ((24 : Int32) * (X2_dayOf (fat σ 11 8 x2)))))) + (x3 * (6 : Int32))) < r_5 then some (0 : Int32) else some (1 : Int32))))))))))
def X2_hasRoomForChildren_b71 (k : SS → Int32 → Int32 → Int32 → Int32 → Int32 → Option Int32) (σ : SS) (x1 x2 x4 x5 x6 : Int32) : Option Int32 := (k σ x1 x2 x4 x5 (x6 + 1))
def fuel_X2_hasRoomForChildren_16 : Nat := 64
def X2_hasRoomForChildren_l16 : Nat → SS → Int32 → Int32 → Int32 → Int32 → Int32 → Option Int32
  | 0, _, _, _, _, _, _ => none
  | n + 1, σ, x1, x2, x4, x5, x6 => (if (6 : Int32) ≤ x6 then some (1 : Int32) else (if (X4_isIn (σ 2 8) x6) = 0 then (X2_hasRoomForChildren_b71 (X2_hasRoomForChildren_l16 n) σ x1 x2 x4 x5 x6) else ((X2_hoursFor σ x6 x1).bind (fun r_3 => ((X2_placedOn σ x5 x2).bind (fun r_4 => ((X2_hoursFor σ x6 r_4).bind (fun r_5 => (if r_3 ≤ (((6 : Int32) * (x4 + (1 : Int32))) - r_5) then (X2_hasRoomForChildren_b71 (X2_hasRoomForChildren_l16 n) σ x1 x2 x4 x5 x6) else some (0 : Int32))))))))))
def X2_hasRoomForChildren (σ : SS) (x1 x2 x3 x4 : Int32) : Option Int32 := (X2_hasRoomForChildren_l16 fuel_X2_hasRoomForChildren_16 σ x1 x2 x4 (X2_dayOf (fat σ 11 8 x3)) (0 : Int32))
def X2_canBeBetter (σ : SS) (x1 x2 : Int32) : Option Int32 := (if (((σ 1 5) - (1 : Int32)) - (X2_daysUpTo σ x1)) < 0 then some (0 : Int32) else ((X2_hasRoom σ ((X3_everyScene σ) &&& (x2 ^^^ (-1 : Int32))) (fat σ 10 8 (x1 - (1 : Int32))) (((σ 1 5) - (1 : Int32)) - (X2_daysUpTo σ x1))).bind (fun r_2 => (if r_2 = 0 then some (0 : Int32) else ((X2_hasRoomForChildren σ ((X3_everyScene σ) &&& (x2 ^^^ (-1 : Int32))) x2 (fat σ 10 8 (x1 - (1 : Int32))) (((σ 1 5) - (1 : Int32)) - (X2_daysUpTo σ x1))).bind (fun r_4 => (if r_4 = 0 then some (0 : Int32) else some (1 : Int32))))))))
def X2_tryOrders_b84 (rec : SS → Int32 → Int32 → Option SS) (k : SS → Int32 → Int32 → Int32 → Option SS) (τ : SS) (x1 x2 x3 : Int32) : Option SS := (k τ x1 x2 (x3 + 1))
def fuel_X2_tryOrders_25 : Nat := 64
def X2_tryOrders_l25 (rec : SS → Int32 → Int32 → Option SS) : Nat → SS → Int32 → Int32 → Int32 → Option SS
  | 0, _, _, _, _ => none
  | n + 1, τ, x1, x2, x3 => (if (τ 2 5) ≤ x3 then some τ else (if (X3_canFollow τ x3 x2) = 0 then (X2_tryOrders_b84 rec (X2_tryOrders_l25 rec n) τ x1 x2 x3) else ((X2_place τ x3 x1 x2).bind (fun σ_5 => ((X2_canBeBetter σ_5 (x1 + (1 : Int32)) (X4_with x2 x3 (1 : Int32))).bind (fun r_6 => (if r_6 = 0 then (X2_tryOrders_b84 rec (X2_tryOrders_l25 rec n) σ_5 x1 x2 x3) else ((rec σ_5 (x1 + (1 : Int32)) (X4_with x2 x3 (1 : Int32))).bind (fun σ_8 => (X2_tryOrders_b84 rec (X2_tryOrders_l25 rec n) σ_8 x1 x2 x3))))))))))
def X2_tryOrders_b17 (rec : SS → Int32 → Int32 → Option SS) (τ : SS) (x1 : Int32) : Option SS := ((X2_keepIfBetter τ x1).bind (fun σ_9 => some σ_9))
def X2_tryOrders : Nat → SS → Int32 → Int32 → Option SS
  | 0, _, _, _ => none
  | n + 1, σ, x1, x2 => (if x2 = (X3_everyScene σ) then (X2_tryOrders_b17 (X2_tryOrders n) σ x1) else (if x1 < (8 : Int32) then (X2_tryOrders_l25 (X2_tryOrders n) fuel_X2_tryOrders_25 σ x1 x2 (0 : Int32)) else (X2_tryOrders_b17 (X2_tryOrders n) σ x1)))
def X2_makePlan (σ : SS) : Option SS := (if (σ 1 7) = 0 then (lt (wr σ 1 5 (9 : Int32)) (fun σ_2 => ((X2_tryOrders 16 σ_2 (0 : Int32) (σ_2 2 6)).bind (fun σ_3 => (lt (wr σ_3 1 7 (1 : Int32)) (fun σ_4 => some σ_4)))))) else some σ)
def J6_bitCount_b48 (x0 : Int32) : Int32 := x0 &&& (63 : Int32)
def J6_bitCount_b41 (x0 : Int32) : Int32 := (J6_bitCount_b48 (x0 + (ius x0 (16 : Int32))))
def J6_bitCount_b34 (x0 : Int32) : Int32 := (J6_bitCount_b41 (x0 + (ius x0 (8 : Int32))))
def J6_bitCount_b24 (x0 : Int32) : Int32 := (J6_bitCount_b34 ((x0 + (ius x0 (4 : Int32))) &&& (252645135 : Int32)))
def J6_bitCount_b10 (x0 : Int32) : Int32 := (J6_bitCount_b24 ((x0 &&& (858993459 : Int32)) + ((ius x0 (2 : Int32)) &&& (858993459 : Int32))))
def J6_bitCount (x0 : Int32) : Int32 := (J6_bitCount_b10 (x0 - ((ius x0 (1 : Int32)) &&& (1431655765 : Int32))))
def X3_countOpen (σ : SS) : Int32 := (σ 2 5) - (J6_bitCount (σ 2 6))
def X3_isOutdoors (σ : SS) (x1 : Int32) : Int32 := X4_isIn (σ 2 7) (fat σ 6 8 x1)
theorem z_X3_isOutdoors (σ : SS) (x1 : Int32) : (X3_isOutdoors σ x1) &&& 1 = X3_isOutdoors σ x1 := by unfold X3_isOutdoors; (repeat' split) <;> first | rfl | decide | exact z_X4_isIn _ _
def X2_shootable_b89 (k : SS → Int32 → Int32 → Int32 → Option Int32) (σ : SS) (x1 x2 x3 : Int32) : Option Int32 := (k σ x1 x2 (x3 + 1))
def X2_shootable_b60 (k : SS → Int32 → Int32 → Int32 → Option Int32) (σ : SS) (x1 x2 x3 x4 : Int32) : Option Int32 := (if (X3_isFree σ x4 ((σ 2 6) ||| x2)) = 0 then (X2_shootable_b89 k σ x1 x2 x3) else (X2_shootable_b89 k σ x1 (X4_with x2 x4 (1 : Int32)) x3))
def fuel_X2_shootable_4 : Nat := 64
def X2_shootable_l4 : Nat → SS → Int32 → Int32 → Int32 → Option Int32
  | 0, _, _, _, _ => none
  | n + 1, σ, x1, x2, x3 => (if (X3_countOpen σ) ≤ x3 then some x2 else (if (X2_dayOf (fat σ 13 8 (fat σ 12 8 x3))) = (σ 1 6) then (if x1 = 0 then (X2_shootable_b60 (X2_shootable_l4 n) σ x1 x2 x3 (fat σ 12 8 x3)) else (if (X3_isOutdoors σ (fat σ 12 8 x3)) = 0 then (X2_shootable_b60 (X2_shootable_l4 n) σ x1 x2 x3 (fat σ 12 8 x3)) else (X2_shootable_b89 (X2_shootable_l4 n) σ x1 x2 x3))) else (X2_shootable_b89 (X2_shootable_l4 n) σ x1 x2 x3)))
def X2_shootable (σ : SS) (x1 : Int32) : Option Int32 := (X2_shootable_l4 fuel_X2_shootable_4 σ x1 (0 : Int32) (0 : Int32))
def X0_lackOf (σ : SS) (x1 x2 : Int32) : Int32 := imax (0 : Int32) (x2 - (fat σ 14 4 x1))
def X0_pay (σ : SS) (x1 x2 : Int32) : Option (Int32 × SS) := (lt (fadd σ 14 4 x1 ((X0_lackOf σ x1 x2) - x2)) (fun σ_1 => (lt (wr σ_1 3 1 ((σ_1 3 1) - (X0_lackOf σ x1 x2))) (fun σ_2 => (lt (wr σ_2 3 2 ((σ_2 3 2) + x2)) (fun σ_3 => (lt (wr σ_3 3 3 ((σ_3 3 3) + x2)) (fun σ_4 => some (X0_lackOf σ x1 x2, σ_4)))))))))
def X2_endDay_b37 (k : SS → Int32 → Int32 → Option SS) (τ : SS) (x1 x2 : Int32) : Option SS := (k τ x1 (x2 + 1))
def fuel_X2_endDay_2 : Nat := 64
def X2_endDay_l2 : Nat → SS → Int32 → Int32 → Option SS
  | 0, _, _, _ => none
  | n + 1, τ, x1, x2 => (if (τ 2 5) ≤ x2 then (lt (wr τ 2 6 ((τ 2 6) ||| x1)) (fun σ_2 => (lt (wr σ_2 1 6 ((σ_2 1 6) + (1 : Int32))) (fun σ_3 => ((X2_forget σ_3).bind (fun σ_4 => some σ_4)))))) else (if (X4_isIn x1 x2) = 0 then (X2_endDay_b37 (X2_endDay_l2 n) τ x1 x2) else (lt (fput τ 11 8 x2 (fat τ 13 8 x2)) (fun σ_6 => (X2_endDay_b37 (X2_endDay_l2 n) σ_6 x1 x2)))))
def X2_endDay (σ : SS) (x1 : Int32) : Option SS := (X2_endDay_l2 fuel_X2_endDay_2 σ x1 (0 : Int32))
def X4_shoot_b109 (τ : SS) : Option ((Int32 ⊕ String) × SS) := some (.inr "java/lang/IllegalStateException", τ)
def X4_shoot_b60 (τ : SS) (x2 x3 y0 : Int32) : Option ((Int32 ⊕ String) × SS) := (if (τ 3 1) < ((X0_lackOf τ (0 : Int32) x3) + (X0_lackOf τ (1 : Int32) y0)) then (X4_shoot_b109 τ) else (if (τ 1 6) < (1000 : Int32) then (bd2 (X0_pay τ (0 : Int32) x3) (fun r_9 σ_9 => (bd2 (X0_pay σ_9 (1 : Int32) y0) (fun r_10 σ_10 => ((X2_endDay σ_10 x2).bind (fun σ_11 => some (.inl (J6_bitCount x2), σ_11))))))) else (X4_shoot_b109 τ)))
def X4_shoot_b27 (τ : SS) (y1 : Int32) : Option ((Int32 ⊕ String) × SS) := ((X2_shootable τ y1).bind (fun r_4 => ((X3_hoursOf τ r_4).bind (fun r_5 => (if (τ 0 6) = 0 then (X4_shoot_b60 τ r_4 (r_5 * (τ 0 4)) (0 : Int32)) else (X4_shoot_b60 τ r_4 (r_5 * (τ 0 4)) (τ 0 5)))))))
def X4_shoot_b26 (τ : SS) : Option ((Int32 ⊕ String) × SS) := (X4_shoot_b27 τ (0 : Int32))
def X4_shoot (σ : SS) (x1 : Int32) : Option ((Int32 ⊕ String) × SS) := ((X2_makePlan σ).bind (fun σ_1 => (if x1 = 0 then (X4_shoot_b26 σ_1) else (if (σ_1 0 6) = 0 then (X4_shoot_b27 σ_1 (1 : Int32)) else (X4_shoot_b26 σ_1)))))
def X4_approve (σ : SS) (x1 x2 : Int32) : Option ((Int32 ⊕ String) × SS) := (if (X4_isWithin x1 (0 : Int32) (3 : Int32)) = 0 then some (.inr "java/lang/IndexOutOfBoundsException", σ) else (if (X4_isWithin x2 (1 : Int32) (100000 : Int32)) = 0 then some (.inr "java/lang/IllegalArgumentException", σ) else (lt (fadd σ 14 4 x1 x2) (fun σ_3 => some (.inl (fat σ_3 14 4 x1), σ_3)))))
def X4_grant (σ : SS) (x1 : Int32) : Option ((Int32 ⊕ String) × SS) := (if (X4_isWithin x1 (1 : Int32) (100000 : Int32)) = 0 then some (.inr "java/lang/IllegalArgumentException", σ) else (lt (wr σ 3 1 ((σ 3 1) + x1)) (fun σ_2 => some (.inl (σ_2 3 1), σ_2))))
def X4_bill (σ : SS) (x1 x2 : Int32) : Option ((Int32 ⊕ String) × SS) := (if (X4_isWithin x1 (0 : Int32) (3 : Int32)) = 0 then some (.inr "java/lang/IndexOutOfBoundsException", σ) else (if (X4_isWithin x2 (1 : Int32) (100000 : Int32)) = 0 then some (.inr "java/lang/IllegalArgumentException", σ) else (if (X0_lackOf σ x1 x2) ≤ (σ 3 1) then (bd2 (X0_pay σ x1 x2) (fun r_4 σ_4 => some (.inl r_4, σ_4))) else some (.inr "java/lang/IllegalStateException", σ))))
def X1_appendLoan (σ : SS) (x1 x2 : Int32) : Option (Int32 × SS) := (lt (fput σ 15 10 (σ 4 7) x1) (fun σ_1 => (lt (fput σ_1 16 10 (σ_1 4 7) x2) (fun σ_2 => (lt (wr σ_2 4 7 ((σ_2 4 7) + (1 : Int32))) (fun σ_3 => some ((σ_3 4 7) - (1 : Int32), σ_3)))))))
def X4_loan (σ : SS) (x1 x2 : Int32) : Option ((Int32 ⊕ String) × SS) := (if (X4_isWithin x1 (0 : Int32) (5 : Int32)) = 0 then some (.inr "java/lang/IndexOutOfBoundsException", σ) else (if (X4_isWithin x2 (1 : Int32) (100000 : Int32)) = 0 then some (.inr "java/lang/IllegalArgumentException", σ) else (if (σ 4 7) < (10 : Int32) then (bd2 (X1_appendLoan σ x1 x2) (fun r_4 σ_4 => some (.inl r_4, σ_4))) else some (.inr "java/lang/IllegalStateException", σ))))
def X1_percentOf_b35 (k : SS → Int32 → Int32 → Int32 → Option Int32) (σ : SS) (x1 x2 x3 : Int32) : Option Int32 := (k σ x1 x2 (x3 + 1))
def fuel_X1_percentOf_4 : Nat := 64
def X1_percentOf_l4 : Nat → SS → Int32 → Int32 → Int32 → Option Int32
  | 0, _, _, _, _ => none
  | n + 1, σ, x1, x2, x3 => (if (σ 4 8) ≤ x3 then some x2 else (if (fat σ 17 12 x3) = x1 then (X1_percentOf_b35 (X1_percentOf_l4 n) σ x1 (x2 + (fat σ 19 12 x3)) x3) else (X1_percentOf_b35 (X1_percentOf_l4 n) σ x1 x2 x3)))
def X1_percentOf (σ : SS) (x1 : Int32) : Option Int32 := (X1_percentOf_l4 fuel_X1_percentOf_4 σ x1 (0 : Int32) (0 : Int32))
def X1_appendPart (σ : SS) (x1 x2 x3 : Int32) : Option (Int32 × SS) := (lt (fput σ 17 12 (σ 4 8) x1) (fun σ_1 => (lt (fput σ_1 18 12 (σ_1 4 8) x2) (fun σ_2 => (lt (fput σ_2 19 12 (σ_2 4 8) x3) (fun σ_3 => (lt (wr σ_3 4 8 ((σ_3 4 8) + (1 : Int32))) (fun σ_4 => some ((σ_4 4 8) - (1 : Int32), σ_4)))))))))
def X4_part_b79 (τ : SS) : Option ((Int32 ⊕ String) × SS) := some (.inr "java/lang/IllegalStateException", τ)
def X4_part_b26 (τ : SS) : Option ((Int32 ⊕ String) × SS) := some (.inr "java/lang/IndexOutOfBoundsException", τ)
def X4_part (σ : SS) (x1 x2 x3 : Int32) : Option ((Int32 ⊕ String) × SS) := (if (X4_isWithin x1 (-1 : Int32) ((σ 4 8) - (1 : Int32))) = 0 then (X4_part_b26 σ) else (if (X4_isWithin x2 (0 : Int32) (5 : Int32)) = 0 then (X4_part_b26 σ) else (if (X4_isWithin x3 (1 : Int32) (100 : Int32)) = 0 then some (.inr "java/lang/IllegalArgumentException", σ) else (if (12 : Int32) ≤ (σ 4 8) then (X4_part_b79 σ) else ((X1_percentOf σ x1).bind (fun r_5 => (if (r_5 + x3) ≤ (100 : Int32) then (bd2 (X1_appendPart σ x1 x2 x3) (fun r_7 σ_7 => some (.inl r_7, σ_7))) else (X4_part_b79 σ))))))))
def X0_payBack (σ : SS) (x1 : Int32) : Option (Int32 × SS) := (lt (wr σ 3 3 ((σ 3 3) - (imin x1 (σ 3 3)))) (fun σ_1 => some (x1 - (imin x1 (σ 3 3)), σ_1)))
def fuel_X1_payBackLoans_4 : Nat := 64
def X1_payBackLoans_l4 : Nat → SS → Int32 → Int32 → Option (Int32 × SS)
  | 0, _, _, _ => none
  | n + 1, τ, x2, x3 => (if (τ 4 7) ≤ x3 then some (x2, τ) else (lt (fadd τ 16 10 x3 (-(imin x2 (fat τ 16 10 x3)))) (fun σ_2 => (lt (fadd σ_2 21 6 (fat σ_2 15 10 x3) (imin x2 (fat τ 16 10 x3))) (fun σ_3 => (X1_payBackLoans_l4 n σ_3 (x2 - (imin x2 (fat τ 16 10 x3))) (x3 + 1)))))))
def X1_payBackLoans (σ : SS) (x1 : Int32) : Option (Int32 × SS) := (X1_payBackLoans_l4 fuel_X1_payBackLoans_4 σ x1 (0 : Int32))
def X1_share_b115 (k : SS → Int32 → Int32 → Int32 → Option SS) (τ : SS) (x1 x2 x3 : Int32) : Option SS := (k τ x1 x2 (x3 + 1))
def X1_share_b41 (k : SS → Int32 → Int32 → Int32 → Option SS) (τ : SS) (x1 x2 x3 x4 y0 : Int32) : Option SS := (lt (fput τ 20 12 x3 ((y0 * (fat τ 19 12 x3)) / (100 : Int32))) (fun σ_4 => (lt (fadd σ_4 21 6 (fat σ_4 18 12 x3) ((y0 * (fat τ 19 12 x3)) / (100 : Int32))) (fun σ_5 => (if x4 = (-1 : Int32) then (X1_share_b115 k σ_5 x1 (x2 - ((y0 * (fat τ 19 12 x3)) / (100 : Int32))) x3) else (lt (fadd σ_5 21 6 (fat σ_5 18 12 x4) (-((y0 * (fat τ 19 12 x3)) / (100 : Int32)))) (fun σ_7 => (X1_share_b115 k σ_7 x1 x2 x3))))))))
def fuel_X1_share_4 : Nat := 64
def X1_share_l4 : Nat → SS → Int32 → Int32 → Int32 → Option SS
  | 0, _, _, _, _ => none
  | n + 1, τ, x1, x2, x3 => (if (τ 4 8) ≤ x3 then (lt (wr τ 4 9 ((τ 4 9) + x2)) (fun σ_2 => some σ_2)) else (if (fat τ 17 12 x3) = (-1 : Int32) then (X1_share_b41 (X1_share_l4 n) τ x1 x2 x3 (fat τ 17 12 x3) x1) else (X1_share_b41 (X1_share_l4 n) τ x1 x2 x3 (fat τ 17 12 x3) (fat τ 20 12 (fat τ 17 12 x3)))))
def X1_share (σ : SS) (x1 : Int32) : Option SS := (X1_share_l4 fuel_X1_share_4 σ x1 x1 (0 : Int32))
def X4_income (σ : SS) (x1 : Int32) : Option ((Int32 ⊕ String) × SS) := (if (X4_isWithin x1 (1 : Int32) (1000000 : Int32)) = 0 then some (.inr "java/lang/IllegalArgumentException", σ) else (bd2 (X0_payBack σ x1) (fun r_2 σ_2 => (bd2 (X1_payBackLoans σ_2 r_2) (fun r_3 σ_3 => ((X1_share σ_3 r_3).bind (fun σ_4 => some (.inl r_3, σ_4))))))))
def X4_today (σ : SS) : Int32 := σ 1 6
def X4_shot (σ : SS) : Int32 := σ 2 6
def X4_days (σ : SS) : Option (Int32 × SS) := ((X2_makePlan σ).bind (fun σ_1 => some (σ_1 1 5, σ_1)))
def X2_fewestOfAll_b81 (rec : SS → Int32 → Int32 → Option (Int32 × SS)) (k : SS → Int32 → Int32 → Int32 → Int32 → Option (Int32 × SS)) (τ : SS) (x1 x2 x3 x4 : Int32) : Option (Int32 × SS) := (k τ x1 x2 x3 (x4 + 1))
def fuel_X2_fewestOfAll_29 : Nat := 64
def X2_fewestOfAll_l29 (rec : SS → Int32 → Int32 → Option (Int32 × SS)) : Nat → SS → Int32 → Int32 → Int32 → Int32 → Option (Int32 × SS)
  | 0, _, _, _, _, _ => none
  | n + 1, τ, x1, x2, x3, x4 => (if (τ 2 5) ≤ x4 then some (x3, τ) else (if (X3_canFollow τ x4 x2) = 0 then (X2_fewestOfAll_b81 rec (X2_fewestOfAll_l29 rec n) τ x1 x2 x3 x4) else ((X2_place τ x4 x1 x2).bind (fun σ_5 => (bd2 (rec σ_5 (x1 + (1 : Int32)) (X4_with x2 x4 (1 : Int32))) (fun r_6 σ_6 => (X2_fewestOfAll_b81 rec (X2_fewestOfAll_l29 rec n) σ_6 x1 x2 (imin x3 r_6) x4)))))))
def X2_fewestOfAll_b17 (rec : SS → Int32 → Int32 → Option (Int32 × SS)) (τ : SS) (x1 : Int32) : Option (Int32 × SS) := some (X2_daysUpTo τ x1, τ)
def X2_fewestOfAll : Nat → SS → Int32 → Int32 → Option (Int32 × SS)
  | 0, _, _, _ => none
  | n + 1, σ, x1, x2 => (if x2 = (X3_everyScene σ) then (X2_fewestOfAll_b17 (X2_fewestOfAll n) σ x1) else (if x1 < (8 : Int32) then (X2_fewestOfAll_l29 (X2_fewestOfAll n) fuel_X2_fewestOfAll_29 σ x1 x2 (9 : Int32) (0 : Int32)) else (X2_fewestOfAll_b17 (X2_fewestOfAll n) σ x1)))
def X2_fewestDays (σ : SS) : Option (Int32 × SS) := (bd2 (X2_fewestOfAll 16 σ (0 : Int32) (σ 2 6)) (fun r_1 σ_1 => some (r_1, σ_1)))
def X4_daysByAll (σ : SS) : Option ((Int32 ⊕ String) × SS) := (if (X3_countOpen σ) ≤ (6 : Int32) then (bd2 (X2_fewestDays σ) (fun r_2 σ_2 => some (.inl r_2, σ_2))) else some (.inr "java/lang/IllegalStateException", σ))
def X4_planned (σ : SS) (x1 : Int32) : Option ((Int32 ⊕ String) × SS) := (if (X4_isWithin x1 (0 : Int32) ((X3_countOpen σ) - (1 : Int32))) = 0 then some (.inr "java/lang/IndexOutOfBoundsException", σ) else ((X2_makePlan σ).bind (fun σ_2 => some (.inl (fat σ_2 12 8 x1), σ_2))))
def X4_begins (σ : SS) (x1 : Int32) : Option ((Int32 ⊕ String) × SS) := (if (X4_isWithin x1 (0 : Int32) ((σ 2 5) - (1 : Int32))) = 0 then some (.inr "java/lang/IndexOutOfBoundsException", σ) else ((X2_makePlan σ).bind (fun σ_2 => some (.inl (fat σ_2 13 8 x1), σ_2))))
def X4_left (σ : SS) (x1 : Int32) : Option ((Int32 ⊕ String) × SS) := (if (X4_isWithin x1 (0 : Int32) (3 : Int32)) = 0 then some (.inr "java/lang/IndexOutOfBoundsException", σ) else some (.inl (fat σ 14 4 x1), σ))
def X4_fee (σ : SS) : Int32 := σ 3 1
def X4_costs (σ : SS) : Int32 := σ 3 2
def X4_open (σ : SS) : Int32 := σ 3 3
def X4_openOf (σ : SS) (x1 : Int32) : Option ((Int32 ⊕ String) × SS) := (if (X4_isWithin x1 (0 : Int32) ((σ 4 7) - (1 : Int32))) = 0 then some (.inr "java/lang/IndexOutOfBoundsException", σ) else some (.inl (fat σ 16 10 x1), σ))
def X4_got (σ : SS) (x1 : Int32) : Option ((Int32 ⊕ String) × SS) := (if (X4_isWithin x1 (0 : Int32) (5 : Int32)) = 0 then some (.inr "java/lang/IndexOutOfBoundsException", σ) else some (.inl (fat σ 21 6 x1), σ))
def X4_house (σ : SS) : Int32 := σ 4 9
end
section
/-- the class's rows of numbers, with their lengths -/
def rowL : List (Nat × Nat) := [(5, 8), (6, 8), (7, 8), (8, 8), (9, 8), (10, 8), (11, 8), (12, 8), (13, 8), (14, 4), (15, 10), (16, 10), (17, 12), (18, 12), (19, 12), (20, 12), (21, 6)]
theorem rowL_at {q : Nat → Nat} {cA : ClassId} {k n : Nat} (h : (k, n) ∈ rowL) (σ : SS) : (WC q cA σ)[k]? = some (q k, .inl (cA, n, .inl (σ k))) ∧ (∀ f : Nat → Int32, (WC q cA σ).set k (q k, .inl (cA, n, .inl f)) = WC q cA (sst σ k f)) ∧ n < 2 ^ 31 := by
  simp only [rowL, List.mem_cons, Prod.mk.injEq, List.not_mem_nil, or_false] at h
  rcases h with ⟨rfl, rfl⟩ | ⟨rfl, rfl⟩ | ⟨rfl, rfl⟩ | ⟨rfl, rfl⟩ | ⟨rfl, rfl⟩ | ⟨rfl, rfl⟩ | ⟨rfl, rfl⟩ | ⟨rfl, rfl⟩ | ⟨rfl, rfl⟩ | ⟨rfl, rfl⟩ | ⟨rfl, rfl⟩ | ⟨rfl, rfl⟩ | ⟨rfl, rfl⟩ | ⟨rfl, rfl⟩ | ⟨rfl, rfl⟩ | ⟨rfl, rfl⟩ | ⟨rfl, rfl⟩ <;> exact ⟨rfl, fun _ => rfl, by decide⟩
theorem in_of {i : Int32} {n : Nat} (hn : n < 2 ^ 31) (h1 : ¬ i < 0) (h2 : ¬ Int32.ofNat n ≤ i) : vp_in i n := by
  rw [vp_in_iff]
  have e := nI_toInt hn
  simp only [nI] at e
  rw [Int32.lt_iff_toInt_lt, Int32.toInt_zero] at h1
  rw [Int32.le_iff_toInt_le, e] at h2
  omega
section
variable {l : Launch} {D : va_G} {q : Nat → Nat} {cA : ClassId}
set_option maxHeartbeats 4000000 in
set_option maxRecDepth 100000 in
theorem m_at {k n : Nat} (hk : (k, n) ∈ rowL) (σ : SS) (x1 : Int32) : Ct l yX4_at cX4_at 2 (some .int) 0 0 D vwCl [(cA, .int)] (WC q cA σ) (WC q cA σ) [.ref (q k), .int x1] (some (.int (fat σ k n x1))) := by
  obtain ⟨hk1, hk2, hn⟩ := rowL_at (q := q) (cA := cA) hk σ
  obtain ⟨r, h⟩ : ∃ r, fat σ k n x1 = r := ⟨_, rfl⟩
  rw [h]
  unfold fat at h
  refine ct_of (by decide +kernel) (Nat.le_of_ble_eq_true rfl) ?_
  intro p e s m args below meth c hx hb hr hlk hml hown hts hK hD hN hA
  have hown : s.vm.findClass RX4 = some m.cls := hown
  refine ww_sub (lv1 := [(0, .ref (q k)), (1, .int x1)]) [0, 1] rfl ?_
  refine ww_iload_n hx hb dX4_at_0 rfl 1 rfl ?_
  refine ww_lt0 (tgt := 16) hx hb dX4_at_1 (by decide) (fun c_1 => ?_) (fun c_1 => ?_)
  · replace h := it_p c_1 h
    obtain rfl := h
    refine ww_iconst (v := 0) hx hb dX4_at_16 (by decide) ?_
    exact ww_iret hx hb hr hlk rfl dX4_at_17
  · replace h := it_n c_1 h
    refine ww_iload_n hx hb dX4_at_4 rfl 1 rfl ?_
    refine ww_aload_n hx hb dX4_at_5 rfl 0 rfl ?_
    refine ww_alen (v := Int32.ofNat n) hx hb hown hts hK k 0 hk1 rfl rfl dX4_at_6 ?_
    refine ww_ge2 (tgt := 16) hx hb dX4_at_7 (by decide) (fun c_2 => ?_) (fun c_2 => ?_)
    · replace h := it_p c_2 h
      obtain rfl := h
      refine ww_iconst (v := 0) hx hb dX4_at_16 (by decide) ?_
      exact ww_iret hx hb hr hlk rfl dX4_at_17
    · replace h := it_n c_2 h
      obtain rfl := h
      refine ww_aload_n hx hb dX4_at_10 rfl 0 rfl ?_
      refine ww_iload_n hx hb dX4_at_11 rfl 1 rfl ?_
      refine ww_iald hx hb hown hts hK k 0 hk1 rfl (in_of hn c_1 c_2) dX4_at_12 ?_
      refine ww_goto (tgt := 17) hx hb dX4_at_13 (by decide) ?_
      exact ww_iret hx hb hr hlk rfl dX4_at_17
set_option maxHeartbeats 4000000 in
set_option maxRecDepth 100000 in
theorem m_put {k n : Nat} (hk : (k, n) ∈ rowL) (σ : SS) (x1 x2 : Int32) (σ1 : SS) (h : fput σ k n x1 x2 = σ1) : Ct l yX4_put cX4_put 3 none 0 0 D vwCl [(cA, .int)] (WC q cA σ) (WC q cA σ1) [.ref (q k), .int x1, .int x2] none := by
  obtain ⟨hk1, hk2, hn⟩ := rowL_at (q := q) (cA := cA) hk σ
  unfold fput at h
  refine ct_of (by decide +kernel) (Nat.le_of_ble_eq_true rfl) ?_
  intro p e s m args below meth c hx hb hr hlk hml hown hts hK hD hN hA
  have hown : s.vm.findClass RX4 = some m.cls := hown
  refine ww_sub (lv1 := [(0, .ref (q k)), (1, .int x1), (2, .int x2)]) [0, 1, 2] rfl ?_
  refine ww_iload_n hx hb dX4_put_0 rfl 1 rfl ?_
  refine ww_lt0 (tgt := 14) hx hb dX4_put_1 (by decide) (fun c_1 => ?_) (fun c_1 => ?_)
  · replace h := it_p c_1 h
    obtain rfl := h
    exact ww_vret hx hb hr hlk dX4_put_14
  · replace h := it_n c_1 h
    refine ww_iload_n hx hb dX4_put_4 rfl 1 rfl ?_
    refine ww_aload_n hx hb dX4_put_5 rfl 0 rfl ?_
    refine ww_alen (v := Int32.ofNat n) hx hb hown hts hK k 0 hk1 rfl rfl dX4_put_6 ?_
    refine ww_ge2 (tgt := 14) hx hb dX4_put_7 (by decide) (fun c_2 => ?_) (fun c_2 => ?_)
    · replace h := it_p c_2 h
      obtain rfl := h
      exact ww_vret hx hb hr hlk dX4_put_14
    · replace h := it_n c_2 h
      obtain rfl := h
      refine ww_aload_n hx hb dX4_put_10 rfl 0 rfl ?_
      refine ww_iload_n hx hb dX4_put_11 rfl 1 rfl ?_
      refine ww_iload_n hx hb dX4_put_12 rfl 2 rfl ?_
      refine ww_iast (ws1 := WC q cA (wr σ k x1.toNatClampNeg x2)) hx hb hown hts hK hD k 0 hk1 rfl (in_of hn c_1 c_2) dX4_put_13 (hk2 _) ?_
      exact ww_vret hx hb hr hlk dX4_put_14
set_option maxHeartbeats 4000000 in
set_option maxRecDepth 100000 in
theorem m_add {k n : Nat} (hk : (k, n) ∈ rowL) (σ : SS) (x1 x2 : Int32) (σ1 : SS) (h : fadd σ k n x1 x2 = σ1) : Ct l yX4_add cX4_add 3 none 1 40 D vwCl [(cA, .int)] (WC q cA σ) (WC q cA σ1) [.ref (q k), .int x1, .int x2] none := by
  refine ct_of (by decide +kernel) (Nat.le_of_ble_eq_true rfl) ?_
  intro p e s m args below meth c hx hb hr hlk hml hown hts hK hD hN hA
  have hown : s.vm.findClass RX4 = some m.cls := hown
  have hDD : ∀ τ : SS, va_D (va_A (WC q cA σ) s.heap.size) (WC q cA τ) := fun τ => hD.adr rfl
  refine ww_sub (lv1 := [(0, .ref (q k)), (1, .int x1), (2, .int x2)]) [0, 1, 2] rfl ?_
  refine ww_aload_n hx hb dX4_add_0 rfl 0 rfl ?_
  refine ww_iload_n hx hb dX4_add_1 rfl 1 rfl ?_
  refine ww_aload_n hx hb dX4_add_2 rfl 0 rfl ?_
  refine ww_iload_n hx hb dX4_add_3 rfl 1 rfl ?_
  refine ww_callS (ws1 := WC q cA σ) (st1 := [.int (fat σ k n x1), .int x1, .ref (q k)]) hx hb hml hown hts hK hN hA (hDD _) (Nat.zero_le _) (Nat.zero_le _) [.ref (q k), .int x1] [.int x1, .ref (q k)] (m_at hk σ x1) cs_X4_131 rfl (by decide) rfl (Nat.le_of_ble_eq_true rfl) dX4_add_4 rfl ?_
  refine ww_iload_n hx hb dX4_add_7 rfl 2 rfl ?_
  refine ww_iadd hx hb dX4_add_8 ?_
  refine ww_callS (ws1 := WC q cA σ1) (st1 := []) hx hb hml hown hts hK hN hA (hDD _) (Nat.zero_le _) (Nat.zero_le _) [.ref (q k), .int x1, .int (fat σ k n x1 + x2)] [] (m_put hk σ x1 (fat σ k n x1 + x2) σ1 h) cs_X4_194 rfl (by decide) rfl (Nat.le_of_ble_eq_true rfl) dX4_add_9 rfl ?_
  exact ww_vret hx hb hr hlk dX4_add_12
end
section
variable {l : Launch} {D : va_G} {q : Nat → Nat} {cA : ClassId}
set_option maxHeartbeats 4000000 in
set_option maxRecDepth 100000 in
theorem m_X4_isWithin (σ : SS) (x0 x1 x2 : Int32) : Ct l yX4_isWithin cX4_isWithin 3 (some .boolean) 0 0 D vwCl [(cA, .int)] (WC q cA σ) (WC q cA σ) [.int (x0), .int (x1), .int (x2)] (some (.int (X4_isWithin x0 x1 x2))) := by
  refine ct_of (by decide +kernel) (Nat.le_of_ble_eq_true rfl) ?_
  intro p e s m args below meth c hx hb hr hlk hml hown hts hK hD hN hA
  have hown : s.vm.findClass RX4 = some m.cls := hown
  have hDD : ∀ τ : SS, va_D (va_A (WC q cA σ) s.heap.size) (WC q cA τ) := fun τ => hD.adr rfl
  obtain ⟨r, h⟩ : ∃ r, X4_isWithin x0 x1 x2 = r := ⟨_, rfl⟩
  rw [h]
  unfold X4_isWithin at h
  refine ww_sub (lv1 := [(0, .int (x0)), (1, .int (x1)), (2, .int (x2))]) [0, 1, 2] rfl ?_
  refine ww_iload_n hx hb dX4_isWithin_0 rfl 0 rfl ?_
  refine ww_iload_n hx hb dX4_isWithin_1 rfl 1 rfl ?_
  refine ww_lt2 (tgt := 14) hx hb dX4_isWithin_2 (by decide) (fun c_1 => ?_) (fun c_1 => ?_)
  · replace h := it_p c_1 h
    refine ww_iconst (v := 0) hx hb dX4_isWithin_14 (by decide) ?_
    obtain rfl := h
    exact ww_zret hx hb hr hlk (by decide) rfl dX4_isWithin_15
  · replace h := it_n c_1 h
    refine ww_iload_n hx hb dX4_isWithin_5 rfl 0 rfl ?_
    refine ww_iload_n hx hb dX4_isWithin_6 rfl 2 rfl ?_
    refine ww_gt2 (tgt := 14) hx hb dX4_isWithin_7 (by decide) (fun c_2 => ?_) (fun c_2 => ?_)
    · replace h := it_p c_2 h
      refine ww_iconst (v := 0) hx hb dX4_isWithin_14 (by decide) ?_
      obtain rfl := h
      exact ww_zret hx hb hr hlk (by decide) rfl dX4_isWithin_15
    · replace h := it_n c_2 h
      refine ww_iconst (v := 1) hx hb dX4_isWithin_10 (by decide) ?_
      refine ww_goto (tgt := 15) hx hb dX4_isWithin_11 (by decide) ?_
      obtain rfl := h
      exact ww_zret hx hb hr hlk (by decide) rfl dX4_isWithin_15
set_option maxHeartbeats 4000000 in
set_option maxRecDepth 100000 in
theorem m_X3_everyScene (σ : SS) : Ct l yX3_everyScene cX3_everyScene 1 (some .int) 0 0 D vwCl [(cA, .int)] (WC q cA σ) (WC q cA σ) [.ref (q 2)] (some (.int (X3_everyScene σ))) := by
  refine ct_of (by decide +kernel) (Nat.le_of_ble_eq_true rfl) ?_
  intro p e s m args below meth c hx hb hr hlk hml hown hts hK hD hN hA
  have hown : s.vm.findClass RX3 = some m.cls := hown
  have hDD : ∀ τ : SS, va_D (va_A (WC q cA σ) s.heap.size) (WC q cA τ) := fun τ => hD.adr rfl
  obtain ⟨r, h⟩ : ∃ r, X3_everyScene σ = r := ⟨_, rfl⟩
  rw [h]
  unfold X3_everyScene at h
  refine ww_sub (lv1 := [(0, .ref (q 2))]) [0] rfl ?_
  refine ww_iconst (v := 1) hx hb dX3_everyScene_0 (by decide) ?_
  refine ww_aload_n hx hb dX3_everyScene_1 rfl 0 rfl ?_
  refine ww_get (C := RX3) (T := TX3) (N := 9) hx hb hown hts hK inA3 2 rfl rfl 5 (by decide) kw_0 rfl rfl dX3_everyScene_2 ?_
  refine ww_ishl hx hb dX3_everyScene_5 ?_
  refine ww_iconst (v := 1) hx hb dX3_everyScene_6 (by decide) ?_
  refine ww_isub hx hb dX3_everyScene_7 ?_
  obtain rfl := h
  exact ww_iret hx hb hr hlk rfl dX3_everyScene_8
set_option maxHeartbeats 4000000 in
set_option maxRecDepth 100000 in
theorem m_X2_forget (σ : SS) (σ1 : SS) (h : X2_forget σ = some σ1) : Ct l yX2_forget cX2_forget 1 none 0 0 D vwCl [(cA, .int)] (WC q cA σ) (WC q cA σ1) [.ref (q 1)] none := by
  refine ct_of (by decide +kernel) (Nat.le_of_ble_eq_true rfl) ?_
  intro p e s m args below meth c hx hb hr hlk hml hown hts hK hD hN hA
  have hown : s.vm.findClass RX2 = some m.cls := hown
  have hDD : ∀ τ : SS, va_D (va_A (WC q cA σ) s.heap.size) (WC q cA τ) := fun τ => hD.adr rfl
  unfold X2_forget at h
  refine ww_sub (lv1 := [(0, .ref (q 1))]) [0] rfl ?_
  refine ww_aload_n hx hb dX2_forget_0 rfl 0 rfl ?_
  refine ww_iconst (v := 0) hx hb dX2_forget_1 (by decide) ?_
  obtain ⟨σ_1, e_1, h⟩ := lt_e h
  refine ww_put (C := RX2) (T := TX2) (N := 8) (ty := .boolean) (ws1 := WC q cA (σ_1)) hx hb hown hts hK inA2 tyX2 tyX2_ok nmX2 (hDD _) 1 rfl rfl 7 (by decide) kw_1 rfl rfl rfl (isZ_narrow (by decide)) (isZ_fits (by decide)) (Nat.le_of_ble_eq_true rfl) dX2_forget_2 (e_1 ▸ rfl) ?_
  obtain rfl := os1 h
  exact ww_vret hx hb hr hlk dX2_forget_5
set_option maxHeartbeats 4000000 in
set_option maxRecDepth 100000 in
theorem m_X3_append (σ : SS) (x1 x2 x3 x4 x5 : Int32) (r : Int32) (σ1 : SS) (h : X3_append σ x1 x2 x3 x4 x5 = some (r, σ1)) : Ct l yX3_append cX3_append 6 (some .int) 1 40 D vwCl [(cA, .int)] (WC q cA σ) (WC q cA σ1) [.ref (q 2), .int (x1), .int (x2), .int (x3), .int (x4), .int (x5)] (some (.int r)) := by
  refine ct_of (by decide +kernel) (Nat.le_of_ble_eq_true rfl) ?_
  intro p e s m args below meth c hx hb hr hlk hml hown hts hK hD hN hA
  have hown : s.vm.findClass RX3 = some m.cls := hown
  have hDD : ∀ τ : SS, va_D (va_A (WC q cA σ) s.heap.size) (WC q cA τ) := fun τ => hD.adr rfl
  unfold X3_append at h
  refine ww_sub (lv1 := [(0, .ref (q 2)), (1, .int (x1)), (2, .int (x2)), (3, .int (x3)), (4, .int (x4)), (5, .int (x5))]) [0, 1, 2, 3, 4, 5] rfl ?_
  refine ww_aload_n hx hb dX3_append_0 rfl 0 rfl ?_
  refine ww_get (C := RX3) (T := TX3) (N := 9) hx hb hown hts hK inA3 2 rfl rfl 0 (by decide) kw_2 rfl rfl dX3_append_1 ?_
  refine ww_aload_n hx hb dX3_append_4 rfl 0 rfl ?_
  refine ww_get (C := RX3) (T := TX3) (N := 9) hx hb hown hts hK inA3 2 rfl rfl 5 (by decide) kw_0 rfl rfl dX3_append_5 ?_
  refine ww_iload_n hx hb dX3_append_8 rfl 1 rfl ?_
  obtain ⟨σ_1, e_1, h⟩ := lt_e h
  refine ww_callN (ws1 := WC q cA σ_1) (st1 := []) hx hb hml hown hts hK hN hA (hDD _) (Nat.zero_le _) (Nat.zero_le _) [.ref (q 5), .int (σ 2 5), .int (x1)] [] (m_put (by decide) _ _ _ _ e_1) cs_X3_31 rfl (by decide) rfl (Nat.le_of_ble_eq_true rfl) dX3_append_9 rfl ?_
  refine ww_aload_n hx hb dX3_append_12 rfl 0 rfl ?_
  refine ww_get (C := RX3) (T := TX3) (N := 9) hx hb hown hts hK inA3 2 rfl rfl 1 (by decide) kw_6 rfl rfl dX3_append_13 ?_
  refine ww_aload_n hx hb dX3_append_16 rfl 0 rfl ?_
  refine ww_get (C := RX3) (T := TX3) (N := 9) hx hb hown hts hK inA3 2 rfl rfl 5 (by decide) kw_0 rfl rfl dX3_append_17 ?_
  refine ww_iload_n hx hb dX3_append_20 rfl 2 rfl ?_
  obtain ⟨σ_2, e_2, h⟩ := lt_e h
  refine ww_callN (ws1 := WC q cA σ_2) (st1 := []) hx hb hml hown hts hK hN hA (hDD _) (Nat.zero_le _) (Nat.zero_le _) [.ref (q 6), .int (σ_1 2 5), .int (x2)] [] (m_put (by decide) _ _ _ _ e_2) cs_X3_31 rfl (by decide) rfl (Nat.le_of_ble_eq_true rfl) dX3_append_21 rfl ?_
  refine ww_aload_n hx hb dX3_append_24 rfl 0 rfl ?_
  refine ww_get (C := RX3) (T := TX3) (N := 9) hx hb hown hts hK inA3 2 rfl rfl 2 (by decide) kw_7 rfl rfl dX3_append_25 ?_
  refine ww_aload_n hx hb dX3_append_28 rfl 0 rfl ?_
  refine ww_get (C := RX3) (T := TX3) (N := 9) hx hb hown hts hK inA3 2 rfl rfl 5 (by decide) kw_0 rfl rfl dX3_append_29 ?_
  refine ww_iload_n hx hb dX3_append_32 rfl 3 rfl ?_
  obtain ⟨σ_3, e_3, h⟩ := lt_e h
  refine ww_callN (ws1 := WC q cA σ_3) (st1 := []) hx hb hml hown hts hK hN hA (hDD _) (Nat.zero_le _) (Nat.zero_le _) [.ref (q 7), .int (σ_2 2 5), .int (x3)] [] (m_put (by decide) _ _ _ _ e_3) cs_X3_31 rfl (by decide) rfl (Nat.le_of_ble_eq_true rfl) dX3_append_33 rfl ?_
  refine ww_aload_n hx hb dX3_append_36 rfl 0 rfl ?_
  refine ww_get (C := RX3) (T := TX3) (N := 9) hx hb hown hts hK inA3 2 rfl rfl 3 (by decide) kw_8 rfl rfl dX3_append_37 ?_
  refine ww_aload_n hx hb dX3_append_40 rfl 0 rfl ?_
  refine ww_get (C := RX3) (T := TX3) (N := 9) hx hb hown hts hK inA3 2 rfl rfl 5 (by decide) kw_0 rfl rfl dX3_append_41 ?_
  refine ww_iload hx hb dX3_append_44 4 rfl ?_
  obtain ⟨σ_4, e_4, h⟩ := lt_e h
  refine ww_callN (ws1 := WC q cA σ_4) (st1 := []) hx hb hml hown hts hK hN hA (hDD _) (Nat.zero_le _) (Nat.zero_le _) [.ref (q 8), .int (σ_3 2 5), .int (x4)] [] (m_put (by decide) _ _ _ _ e_4) cs_X3_31 rfl (by decide) rfl (Nat.le_of_ble_eq_true rfl) dX3_append_46 rfl ?_
  refine ww_aload_n hx hb dX3_append_49 rfl 0 rfl ?_
  refine ww_get (C := RX3) (T := TX3) (N := 9) hx hb hown hts hK inA3 2 rfl rfl 4 (by decide) kw_9 rfl rfl dX3_append_50 ?_
  refine ww_aload_n hx hb dX3_append_53 rfl 0 rfl ?_
  refine ww_get (C := RX3) (T := TX3) (N := 9) hx hb hown hts hK inA3 2 rfl rfl 5 (by decide) kw_0 rfl rfl dX3_append_54 ?_
  refine ww_iload hx hb dX3_append_57 5 rfl ?_
  obtain ⟨σ_5, e_5, h⟩ := lt_e h
  refine ww_callN (ws1 := WC q cA σ_5) (st1 := []) hx hb hml hown hts hK hN hA (hDD _) (Nat.zero_le _) (Nat.zero_le _) [.ref (q 9), .int (σ_4 2 5), .int (x5)] [] (m_put (by decide) _ _ _ _ e_5) cs_X3_31 rfl (by decide) rfl (Nat.le_of_ble_eq_true rfl) dX3_append_59 rfl ?_
  refine ww_aload_n hx hb dX3_append_62 rfl 0 rfl ?_
  refine ww_dup hx hb dX3_append_63 rfl ?_
  refine ww_get (C := RX3) (T := TX3) (N := 9) hx hb hown hts hK inA3 2 rfl rfl 5 (by decide) kw_0 rfl rfl dX3_append_64 ?_
  refine ww_iconst (v := 1) hx hb dX3_append_67 (by decide) ?_
  refine ww_iadd hx hb dX3_append_68 ?_
  obtain ⟨σ_6, e_6, h⟩ := lt_e h
  refine ww_put (C := RX3) (T := TX3) (N := 9) (ty := .int) (ws1 := WC q cA (σ_6)) hx hb hown hts hK inA3 tyX3 tyX3_ok nmX3 (hDD _) 2 rfl rfl 5 (by decide) kw_0 rfl rfl rfl rfl rfl (Nat.le_of_ble_eq_true rfl) dX3_append_69 (e_6 ▸ rfl) ?_
  refine ww_aload_n hx hb dX3_append_72 rfl 0 rfl ?_
  refine ww_get (C := RX3) (T := TX3) (N := 9) hx hb hown hts hK inA3 2 rfl rfl 5 (by decide) kw_0 rfl rfl dX3_append_73 ?_
  refine ww_iconst (v := 1) hx hb dX3_append_76 (by decide) ?_
  refine ww_isub hx hb dX3_append_77 ?_
  obtain ⟨rfl, rfl⟩ := os2 h
  exact ww_iret hx hb hr hlk rfl dX3_append_78
set_option maxHeartbeats 4000000 in
set_option maxRecDepth 100000 in
theorem m_X4_isIn (σ : SS) (x0 x1 : Int32) : Ct l yX4_isIn cX4_isIn 2 (some .boolean) 0 0 D vwCl [(cA, .int)] (WC q cA σ) (WC q cA σ) [.int (x0), .int (x1)] (some (.int (X4_isIn x0 x1))) := by
  refine ct_of (by decide +kernel) (Nat.le_of_ble_eq_true rfl) ?_
  intro p e s m args below meth c hx hb hr hlk hml hown hts hK hD hN hA
  have hown : s.vm.findClass RX4 = some m.cls := hown
  have hDD : ∀ τ : SS, va_D (va_A (WC q cA σ) s.heap.size) (WC q cA τ) := fun τ => hD.adr rfl
  obtain ⟨r, h⟩ : ∃ r, X4_isIn x0 x1 = r := ⟨_, rfl⟩
  rw [h]
  unfold X4_isIn at h
  refine ww_sub (lv1 := [(0, .int (x0)), (1, .int (x1))]) [0, 1] rfl ?_
  refine ww_iload_n hx hb dX4_isIn_0 rfl 0 rfl ?_
  refine ww_iload_n hx hb dX4_isIn_1 rfl 1 rfl ?_
  refine ww_ishr hx hb dX4_isIn_2 ?_
  refine ww_iconst (v := 1) hx hb dX4_isIn_3 (by decide) ?_
  refine ww_iand hx hb dX4_isIn_4 ?_
  refine ww_eq0 (tgt := 12) hx hb dX4_isIn_5 (by decide) (fun c_1 => ?_) (fun c_1 => ?_)
  · replace h := it_p c_1 h
    refine ww_iconst (v := 0) hx hb dX4_isIn_12 (by decide) ?_
    obtain rfl := h
    exact ww_zret hx hb hr hlk (by decide) rfl dX4_isIn_13
  · replace h := it_n c_1 h
    refine ww_iconst (v := 1) hx hb dX4_isIn_8 (by decide) ?_
    refine ww_goto (tgt := 13) hx hb dX4_isIn_9 (by decide) ?_
    obtain rfl := h
    exact ww_zret hx hb hr hlk (by decide) rfl dX4_isIn_13
set_option maxHeartbeats 4000000 in
set_option maxRecDepth 100000 in
theorem m_X4_with (σ : SS) (x0 x1 x2 : Int32) : Ct l yX4_with cX4_with 3 (some .int) 0 0 D vwCl [(cA, .int)] (WC q cA σ) (WC q cA σ) [.int (x0), .int (x1), .int (x2)] (some (.int (X4_with x0 x1 x2))) := by
  refine ct_of (by decide +kernel) (Nat.le_of_ble_eq_true rfl) ?_
  intro p e s m args below meth c hx hb hr hlk hml hown hts hK hD hN hA
  have hown : s.vm.findClass RX4 = some m.cls := hown
  have hDD : ∀ τ : SS, va_D (va_A (WC q cA σ) s.heap.size) (WC q cA τ) := fun τ => hD.adr rfl
  obtain ⟨r, h⟩ : ∃ r, X4_with x0 x1 x2 = r := ⟨_, rfl⟩
  rw [h]
  unfold X4_with at h
  refine ww_sub (lv1 := [(0, .int (x0)), (1, .int (x1)), (2, .int (x2))]) [0, 1, 2] rfl ?_
  refine ww_iload_n hx hb dX4_with_0 rfl 2 rfl ?_
  refine ww_eq0 (tgt := 12) hx hb dX4_with_1 (by decide) (fun c_1 => ?_) (fun c_1 => ?_)
  · replace h := it_p c_1 h
    refine ww_iload_n hx hb dX4_with_12 rfl 0 rfl ?_
    refine ww_iconst (v := 1) hx hb dX4_with_13 (by decide) ?_
    refine ww_iload_n hx hb dX4_with_14 rfl 1 rfl ?_
    refine ww_ishl hx hb dX4_with_15 ?_
    refine ww_iconst (v := -1) hx hb dX4_with_16 (by decide) ?_
    refine ww_ixor hx hb dX4_with_17 ?_
    refine ww_iand hx hb dX4_with_18 ?_
    obtain rfl := h
    exact ww_iret hx hb hr hlk rfl dX4_with_19
  · replace h := it_n c_1 h
    refine ww_iload_n hx hb dX4_with_4 rfl 0 rfl ?_
    refine ww_iconst (v := 1) hx hb dX4_with_5 (by decide) ?_
    refine ww_iload_n hx hb dX4_with_6 rfl 1 rfl ?_
    refine ww_ishl hx hb dX4_with_7 ?_
    refine ww_ior hx hb dX4_with_8 ?_
    refine ww_goto (tgt := 19) hx hb dX4_with_9 (by decide) ?_
    obtain rfl := h
    exact ww_iret hx hb hr hlk rfl dX4_with_19
set_option maxHeartbeats 4000000 in
set_option maxRecDepth 100000 in
theorem m_X4_hold (σ : SS) (x1 : Int32) (r : Int32) (σ1 : SS) (h : X4_hold σ x1 = some (r, σ1)) : Ct l yX4_hold cX4_hold 3 (some .boolean) 0 0 D vwCl [(cA, .int)] (WC q cA σ) (WC q cA σ1) [.ref (q 0), .int (x1)] (some (.int r)) := by
  refine ct_of (by decide +kernel) (Nat.le_of_ble_eq_true rfl) ?_
  intro p e s m args below meth c hx hb hr hlk hml hown hts hK hD hN hA
  have hown : s.vm.findClass RX4 = some m.cls := hown
  have hDD : ∀ τ : SS, va_D (va_A (WC q cA σ) s.heap.size) (WC q cA τ) := fun τ => hD.adr rfl
  unfold X4_hold at h
  refine ww_sub (lv1 := [(0, .ref (q 0)), (1, .int (x1))]) [0, 1] rfl ?_
  refine ww_aload_n hx hb dX4_hold_0 rfl 0 rfl ?_
  refine ww_get (C := RX4) (T := TX4) (N := 7) hx hb hown hts hK inA4 0 rfl rfl 6 (by decide) kw_46 rfl rfl dX4_hold_1 ?_
  refine ww_istore_n (i := 2) (lv1 := [(0, .ref (q 0)), (1, .int (x1)), (2, .int (σ 0 6))]) hx hb dX4_hold_4 rfl (by decide) [1, 2, 0] rfl ?_
  refine ww_aload_n hx hb dX4_hold_5 rfl 0 rfl ?_
  refine ww_iload_n hx hb dX4_hold_6 rfl 1 rfl ?_
  obtain ⟨g_1, h⟩ := og h
  obtain ⟨σ_2, e_2, h⟩ := lt_e h
  refine ww_put (C := RX4) (T := TX4) (N := 7) (ty := .boolean) (ws1 := WC q cA (σ_2)) hx hb hown hts hK inA4 tyX4 tyX4_ok nmX4 (hDD _) 0 rfl rfl 6 (by decide) kw_46 rfl rfl rfl (isZ_narrow g_1) (isZ_fits g_1) (Nat.le_of_ble_eq_true rfl) dX4_hold_7 (e_2 ▸ rfl) ?_
  refine ww_iload_n hx hb dX4_hold_10 rfl 2 rfl ?_
  obtain ⟨g_3, h⟩ := og h
  obtain ⟨rfl, rfl⟩ := os2 h
  exact ww_zret hx hb hr hlk g_3 rfl dX4_hold_11
set_option maxHeartbeats 4000000 in
set_option maxRecDepth 100000 in
theorem m_X2_dayOf (σ : SS) (x0 : Int32) : Ct l yX2_dayOf cX2_dayOf 1 (some .int) 0 0 D vwCl [(cA, .int)] (WC q cA σ) (WC q cA σ) [.int (x0)] (some (.int (X2_dayOf x0))) := by
  refine ct_of (by decide +kernel) (Nat.le_of_ble_eq_true rfl) ?_
  intro p e s m args below meth c hx hb hr hlk hml hown hts hK hD hN hA
  have hown : s.vm.findClass RX2 = some m.cls := hown
  have hDD : ∀ τ : SS, va_D (va_A (WC q cA σ) s.heap.size) (WC q cA τ) := fun τ => hD.adr rfl
  obtain ⟨r, h⟩ : ∃ r, X2_dayOf x0 = r := ⟨_, rfl⟩
  rw [h]
  unfold X2_dayOf at h
  refine ww_sub (lv1 := [(0, .int (x0))]) [0] rfl ?_
  refine ww_iload_n hx hb dX2_dayOf_0 rfl 0 rfl ?_
  refine ww_bipush (v := 24) hx hb dX2_dayOf_1 (by decide) ?_
  refine ww_idiv hx hb dX2_dayOf_3 (by decide) ?_
  obtain rfl := h
  exact ww_iret hx hb hr hlk rfl dX2_dayOf_4
set_option maxHeartbeats 4000000 in
set_option maxRecDepth 100000 in
theorem m_X2_daysUpTo (σ : SS) (x1 : Int32) : Ct l yX2_daysUpTo cX2_daysUpTo 2 (some .int) 1 40 D vwCl [(cA, .int)] (WC q cA σ) (WC q cA σ) [.ref (q 1), .int (x1)] (some (.int (X2_daysUpTo σ x1))) := by
  refine ct_of (by decide +kernel) (Nat.le_of_ble_eq_true rfl) ?_
  intro p e s m args below meth c hx hb hr hlk hml hown hts hK hD hN hA
  have hown : s.vm.findClass RX2 = some m.cls := hown
  have hDD : ∀ τ : SS, va_D (va_A (WC q cA σ) s.heap.size) (WC q cA τ) := fun τ => hD.adr rfl
  obtain ⟨r, h⟩ : ∃ r, X2_daysUpTo σ x1 = r := ⟨_, rfl⟩
  rw [h]
  unfold X2_daysUpTo at h
  refine ww_sub (lv1 := [(0, .ref (q 1)), (1, .int (x1))]) [0, 1] rfl ?_
  refine ww_iload_n hx hb dX2_daysUpTo_0 rfl 1 rfl ?_
  refine ww_ne0 (tgt := 8) hx hb dX2_daysUpTo_1 (by decide) (fun c_1 => ?_) (fun c_1 => ?_)
  · replace h := it_n c_1 h
    refine ww_aload_n hx hb dX2_daysUpTo_8 rfl 0 rfl ?_
    refine ww_get (C := RX2) (T := TX2) (N := 8) hx hb hown hts hK inA2 1 rfl rfl 2 (by decide) kw_47 rfl rfl dX2_daysUpTo_9 ?_
    refine ww_aload_n hx hb dX2_daysUpTo_12 rfl 0 rfl ?_
    refine ww_get (C := RX2) (T := TX2) (N := 8) hx hb hown hts hK inA2 1 rfl rfl 1 (by decide) kw_48 rfl rfl dX2_daysUpTo_13 ?_
    refine ww_iload_n hx hb dX2_daysUpTo_16 rfl 1 rfl ?_
    refine ww_iconst (v := 1) hx hb dX2_daysUpTo_17 (by decide) ?_
    refine ww_isub hx hb dX2_daysUpTo_18 ?_
    refine ww_callN (ws1 := WC q cA σ) (st1 := [.int (fat σ 10 8 (x1 - (1 : Int32))), .ref (q 11)]) hx hb hml hown hts hK hN hA (hDD _) (Nat.zero_le _) (Nat.zero_le _) [.ref (q 10), .int (x1 - (1 : Int32))] [.ref (q 11)] (m_at (by decide) σ (x1 - (1 : Int32))) cs_X2_54 rfl (by decide) rfl (Nat.le_of_ble_eq_true rfl) dX2_daysUpTo_19 rfl ?_
    refine ww_callN (ws1 := WC q cA σ) (st1 := [.int (fat σ 11 8 (fat σ 10 8 (x1 - (1 : Int32))))]) hx hb hml hown hts hK hN hA (hDD _) (Nat.zero_le _) (Nat.zero_le _) [.ref (q 11), .int (fat σ 10 8 (x1 - (1 : Int32)))] [] (m_at (by decide) σ (fat σ 10 8 (x1 - (1 : Int32)))) cs_X2_54 rfl (by decide) rfl (Nat.le_of_ble_eq_true rfl) dX2_daysUpTo_22 rfl ?_
    refine ww_callS (ws1 := WC q cA σ) (st1 := [.int (X2_dayOf (fat σ 11 8 (fat σ 10 8 (x1 - (1 : Int32)))))]) hx hb hml hown hts hK hN hA (hDD _) (Nat.zero_le _) (Nat.zero_le _) [.int (fat σ 11 8 (fat σ 10 8 (x1 - (1 : Int32))))] [] (m_X2_dayOf σ (fat σ 11 8 (fat σ 10 8 (x1 - (1 : Int32))))) cs_X2_58 rfl (by decide) rfl (Nat.le_of_ble_eq_true rfl) dX2_daysUpTo_25 rfl ?_
    refine ww_aload_n hx hb dX2_daysUpTo_28 rfl 0 rfl ?_
    refine ww_get (C := RX2) (T := TX2) (N := 8) hx hb hown hts hK inA2 1 rfl rfl 6 (by decide) kw_54 rfl rfl dX2_daysUpTo_29 ?_
    refine ww_isub hx hb dX2_daysUpTo_32 ?_
    refine ww_iconst (v := 1) hx hb dX2_daysUpTo_33 (by decide) ?_
    refine ww_iadd hx hb dX2_daysUpTo_34 ?_
    obtain rfl := h
    exact ww_iret hx hb hr hlk rfl dX2_daysUpTo_35
  · replace h := it_p c_1 h
    refine ww_iconst (v := 0) hx hb dX2_daysUpTo_4 (by decide) ?_
    refine ww_goto (tgt := 35) hx hb dX2_daysUpTo_5 (by decide) ?_
    obtain rfl := h
    exact ww_iret hx hb hr hlk rfl dX2_daysUpTo_35
set_option maxHeartbeats 4000000 in
set_option maxRecDepth 100000 in
theorem m_X2_keepIfBetter (σ : SS) (x1 : Int32) (σ1 : SS) (h : X2_keepIfBetter σ x1 = some σ1) : Ct l yX2_keepIfBetter cX2_keepIfBetter 3 none 2 80 D vwCl [(cA, .int)] (WC q cA σ) (WC q cA σ1) [.ref (q 1), .int (x1)] none := by
  refine ct_of (by decide +kernel) (Nat.le_of_ble_eq_true rfl) ?_
  intro p e s m args below meth c hx hb hr hlk hml hown hts hK hD hN hA
  have hown : s.vm.findClass RX2 = some m.cls := hown
  have hDD : ∀ τ : SS, va_D (va_A (WC q cA σ) s.heap.size) (WC q cA τ) := fun τ => hD.adr rfl
  unfold X2_keepIfBetter at h
  have lp24 : ∀ (n : Nat) (τ : SS) (x2 : Int32), X2_keepIfBetter_l24 n τ x2 = some σ1 → WW p l e (rmc 2 80 0 0) s m args below meth c D vwCl (va_A (WC q cA σ) s.heap.size) 3 0 0 (MQ below (qcW D vwCl (WC q cA σ) (WC q cA σ1) none s.heap.size) args s 0 0 (va_A (WC q cA σ) s.heap.size)) (WC q cA τ) 24 [(0, .ref (q 1)), (2, .int (x2))] [] := by
    intro n
    induction n with
    | zero => intro τ x2 h; rw [X2_keepIfBetter_l24] at h; cases h
    | succ n ih =>
      intro τ x2 h
      rw [X2_keepIfBetter_l24] at h
      refine ww_iload_n hx hb dX2_keepIfBetter_24 rfl 1 rfl ?_
      refine ww_bipush (v := 8) hx hb dX2_keepIfBetter_25 (by decide) ?_
      refine ww_ge2 (tgt := 68) hx hb dX2_keepIfBetter_27 (by decide) (fun c_3 => ?_) (fun c_3 => ?_)
      · replace h := it_p c_3 h
        obtain rfl := os1 h
        exact ww_vret hx hb hr hlk dX2_keepIfBetter_68
      · replace h := it_n c_3 h
        refine ww_aload_n hx hb dX2_keepIfBetter_30 rfl 0 rfl ?_
        refine ww_get (C := RX2) (T := TX2) (N := 8) hx hb hown hts hK inA2 1 rfl rfl 3 (by decide) kw_60 rfl rfl dX2_keepIfBetter_31 ?_
        refine ww_iload_n hx hb dX2_keepIfBetter_34 rfl 1 rfl ?_
        refine ww_aload_n hx hb dX2_keepIfBetter_35 rfl 0 rfl ?_
        refine ww_get (C := RX2) (T := TX2) (N := 8) hx hb hown hts hK inA2 1 rfl rfl 1 (by decide) kw_48 rfl rfl dX2_keepIfBetter_36 ?_
        refine ww_iload_n hx hb dX2_keepIfBetter_39 rfl 1 rfl ?_
        refine ww_callN (ws1 := WC q cA τ) (st1 := [.int (fat τ 10 8 x2), .int (x2), .ref (q 12)]) hx hb hml hown hts hK hN hA (hDD _) (Nat.zero_le _) (Nat.zero_le _) [.ref (q 10), .int (x2)] [.int (x2), .ref (q 12)] (m_at (by decide) τ x2) cs_X2_54 rfl (by decide) rfl (Nat.le_of_ble_eq_true rfl) dX2_keepIfBetter_40 rfl ?_
        obtain ⟨σ_4, e_4, h⟩ := lt_e h
        refine ww_callN (ws1 := WC q cA σ_4) (st1 := []) hx hb hml hown hts hK hN hA (hDD _) (Nat.zero_le _) (Nat.zero_le _) [.ref (q 12), .int (x2), .int (fat τ 10 8 x2)] [] (m_put (by decide) _ _ _ _ e_4) cs_X2_83 rfl (by decide) rfl (Nat.le_of_ble_eq_true rfl) dX2_keepIfBetter_43 rfl ?_
        refine ww_aload_n hx hb dX2_keepIfBetter_46 rfl 0 rfl ?_
        refine ww_get (C := RX2) (T := TX2) (N := 8) hx hb hown hts hK inA2 1 rfl rfl 4 (by decide) kw_61 rfl rfl dX2_keepIfBetter_47 ?_
        refine ww_iload_n hx hb dX2_keepIfBetter_50 rfl 1 rfl ?_
        refine ww_aload_n hx hb dX2_keepIfBetter_51 rfl 0 rfl ?_
        refine ww_get (C := RX2) (T := TX2) (N := 8) hx hb hown hts hK inA2 1 rfl rfl 2 (by decide) kw_47 rfl rfl dX2_keepIfBetter_52 ?_
        refine ww_iload_n hx hb dX2_keepIfBetter_55 rfl 1 rfl ?_
        refine ww_callN (ws1 := WC q cA σ_4) (st1 := [.int (fat σ_4 11 8 x2), .int (x2), .ref (q 13)]) hx hb hml hown hts hK hN hA (hDD _) (Nat.zero_le _) (Nat.zero_le _) [.ref (q 11), .int (x2)] [.int (x2), .ref (q 13)] (m_at (by decide) σ_4 x2) cs_X2_54 rfl (by decide) rfl (Nat.le_of_ble_eq_true rfl) dX2_keepIfBetter_56 rfl ?_
        obtain ⟨σ_5, e_5, h⟩ := lt_e h
        refine ww_callN (ws1 := WC q cA σ_5) (st1 := []) hx hb hml hown hts hK hN hA (hDD _) (Nat.zero_le _) (Nat.zero_le _) [.ref (q 13), .int (x2), .int (fat σ_4 11 8 x2)] [] (m_put (by decide) _ _ _ _ e_5) cs_X2_83 rfl (by decide) rfl (Nat.le_of_ble_eq_true rfl) dX2_keepIfBetter_59 rfl ?_
        refine ww_iinc (i := 2) (k := 1) (v := 1) (lv1 := [(0, .ref (q 1)), (2, .int (x2 + 1))]) hx hb dX2_keepIfBetter_62 rfl (by decide) (by decide) [1, 0] rfl ?_
        refine ww_goto (tgt := 24) hx hb dX2_keepIfBetter_65 (by decide) ?_
        exact ww_sub (lv1 := [(0, .ref (q 1)), (2, .int (x2 + 1))]) [0, 1] rfl (ih _ _ h)
  refine ww_sub (lv1 := [(0, .ref (q 1)), (1, .int (x1))]) [0, 1] rfl ?_
  refine ww_aload_n hx hb dX2_keepIfBetter_0 rfl 0 rfl ?_
  refine ww_iload_n hx hb dX2_keepIfBetter_1 rfl 1 rfl ?_
  refine ww_callV (ws1 := WC q cA σ) (st1 := [.int (X2_daysUpTo σ x1)]) hx hb hml hown hts hK hN hA (hDD _) (Nat.zero_le _) (Nat.zero_le _) [.int (x1)] [] (m_X2_daysUpTo σ x1) cs_X2_107 rfl (by decide) 1 rfl rfl rfl (Nat.le_of_ble_eq_true rfl) dX2_keepIfBetter_2 rfl ?_
  refine ww_aload_n hx hb dX2_keepIfBetter_5 rfl 0 rfl ?_
  refine ww_get (C := RX2) (T := TX2) (N := 8) hx hb hown hts hK inA2 1 rfl rfl 5 (by decide) kw_59 rfl rfl dX2_keepIfBetter_6 ?_
  refine ww_lt2 (tgt := 13) hx hb dX2_keepIfBetter_9 (by decide) (fun c_1 => ?_) (fun c_1 => ?_)
  · replace h := it_p c_1 h
    refine ww_aload_n hx hb dX2_keepIfBetter_13 rfl 0 rfl ?_
    refine ww_aload_n hx hb dX2_keepIfBetter_14 rfl 0 rfl ?_
    refine ww_iload_n hx hb dX2_keepIfBetter_15 rfl 1 rfl ?_
    refine ww_callV (ws1 := WC q cA σ) (st1 := [.int (X2_daysUpTo σ x1), .ref (q 1)]) hx hb hml hown hts hK hN hA (hDD _) (Nat.zero_le _) (Nat.zero_le _) [.int (x1)] [.ref (q 1)] (m_X2_daysUpTo σ x1) cs_X2_107 rfl (by decide) 1 rfl rfl rfl (Nat.le_of_ble_eq_true rfl) dX2_keepIfBetter_16 rfl ?_
    obtain ⟨σ_2, e_2, h⟩ := lt_e h
    refine ww_put (C := RX2) (T := TX2) (N := 8) (ty := .int) (ws1 := WC q cA (σ_2)) hx hb hown hts hK inA2 tyX2 tyX2_ok nmX2 (hDD _) 1 rfl rfl 5 (by decide) kw_59 rfl rfl rfl rfl rfl (Nat.le_of_ble_eq_true rfl) dX2_keepIfBetter_19 (e_2 ▸ rfl) ?_
    refine ww_iconst (v := 0) hx hb dX2_keepIfBetter_22 (by decide) ?_
    refine ww_istore_n (i := 2) (lv1 := [(0, .ref (q 1)), (2, .int ((0 : Int32)))]) hx hb dX2_keepIfBetter_23 rfl (by decide) [1, 0] rfl ?_
    exact ww_sub (lv1 := [(0, .ref (q 1)), (2, .int ((0 : Int32)))]) [0, 1] rfl (lp24 _ _ _ h)
  · replace h := it_n c_1 h
    obtain rfl := os1 h
    exact ww_vret hx hb hr hlk dX2_keepIfBetter_12
set_option maxHeartbeats 4000000 in
set_option maxRecDepth 100000 in
theorem m_X3_isFree (σ : SS) (x1 x2 : Int32) : Ct l yX3_isFree cX3_isFree 3 (some .boolean) 1 40 D vwCl [(cA, .int)] (WC q cA σ) (WC q cA σ) [.ref (q 2), .int (x1), .int (x2)] (some (.int (X3_isFree σ x1 x2))) := by
  refine ct_of (by decide +kernel) (Nat.le_of_ble_eq_true rfl) ?_
  intro p e s m args below meth c hx hb hr hlk hml hown hts hK hD hN hA
  have hown : s.vm.findClass RX3 = some m.cls := hown
  have hDD : ∀ τ : SS, va_D (va_A (WC q cA σ) s.heap.size) (WC q cA τ) := fun τ => hD.adr rfl
  obtain ⟨r, h⟩ : ∃ r, X3_isFree σ x1 x2 = r := ⟨_, rfl⟩
  rw [h]
  unfold X3_isFree at h
  refine ww_sub (lv1 := [(0, .ref (q 2)), (1, .int (x1)), (2, .int (x2))]) [0, 1, 2] rfl ?_
  refine ww_aload_n hx hb dX3_isFree_0 rfl 0 rfl ?_
  refine ww_get (C := RX3) (T := TX3) (N := 9) hx hb hown hts hK inA3 2 rfl rfl 4 (by decide) kw_9 rfl rfl dX3_isFree_1 ?_
  refine ww_iload_n hx hb dX3_isFree_4 rfl 1 rfl ?_
  refine ww_callN (ws1 := WC q cA σ) (st1 := [.int (fat σ 9 8 x1)]) hx hb hml hown hts hK hN hA (hDD _) (Nat.zero_le _) (Nat.zero_le _) [.ref (q 9), .int (x1)] [] (m_at (by decide) σ x1) cs_X3_48 rfl (by decide) rfl (Nat.le_of_ble_eq_true rfl) dX3_isFree_5 rfl ?_
  refine ww_iload_n hx hb dX3_isFree_8 rfl 2 rfl ?_
  refine ww_iconst (v := -1) hx hb dX3_isFree_9 (by decide) ?_
  refine ww_ixor hx hb dX3_isFree_10 ?_
  refine ww_iand hx hb dX3_isFree_11 ?_
  refine ww_ne0 (tgt := 19) hx hb dX3_isFree_12 (by decide) (fun c_1 => ?_) (fun c_1 => ?_)
  · replace h := it_n c_1 h
    refine ww_iconst (v := 0) hx hb dX3_isFree_19 (by decide) ?_
    obtain rfl := h
    exact ww_zret hx hb hr hlk (by decide) rfl dX3_isFree_20
  · replace h := it_p c_1 h
    refine ww_iconst (v := 1) hx hb dX3_isFree_15 (by decide) ?_
    refine ww_goto (tgt := 20) hx hb dX3_isFree_16 (by decide) ?_
    obtain rfl := h
    exact ww_zret hx hb hr hlk (by decide) rfl dX3_isFree_20
set_option maxHeartbeats 4000000 in
set_option maxRecDepth 100000 in
theorem m_X3_canFollow (σ : SS) (x1 x2 : Int32) : Ct l yX3_canFollow cX3_canFollow 3 (some .boolean) 2 80 D vwCl [(cA, .int)] (WC q cA σ) (WC q cA σ) [.ref (q 2), .int (x1), .int (x2)] (some (.int (X3_canFollow σ x1 x2))) := by
  refine ct_of (by decide +kernel) (Nat.le_of_ble_eq_true rfl) ?_
  intro p e s m args below meth c hx hb hr hlk hml hown hts hK hD hN hA
  have hown : s.vm.findClass RX3 = some m.cls := hown
  have hDD : ∀ τ : SS, va_D (va_A (WC q cA σ) s.heap.size) (WC q cA τ) := fun τ => hD.adr rfl
  obtain ⟨r, h⟩ : ∃ r, X3_canFollow σ x1 x2 = r := ⟨_, rfl⟩
  rw [h]
  unfold X3_canFollow at h
  refine ww_sub (lv1 := [(0, .ref (q 2)), (1, .int (x1)), (2, .int (x2))]) [0, 1, 2] rfl ?_
  refine ww_iload_n hx hb dX3_canFollow_0 rfl 2 rfl ?_
  refine ww_iload_n hx hb dX3_canFollow_1 rfl 1 rfl ?_
  refine ww_callN (ws1 := WC q cA σ) (st1 := [.int (X4_isIn x2 x1)]) hx hb hml hown hts hK hN hA (hDD _) (Nat.zero_le _) (Nat.zero_le _) [.int (x2), .int (x1)] [] (m_X4_isIn σ x2 x1) cs_X3_44 rfl (by decide) rfl (Nat.le_of_ble_eq_true rfl) dX3_canFollow_2 rfl ?_
  refine ww_ne0 (tgt := 21) hx hb dX3_canFollow_5 (by decide) (fun c_1 => ?_) (fun c_1 => ?_)
  · replace h := it_n c_1 h
    refine ww_iconst (v := 0) hx hb dX3_canFollow_21 (by decide) ?_
    obtain rfl := h
    exact ww_zret hx hb hr hlk (by decide) rfl dX3_canFollow_22
  · replace h := it_p c_1 h
    refine ww_aload_n hx hb dX3_canFollow_8 rfl 0 rfl ?_
    refine ww_iload_n hx hb dX3_canFollow_9 rfl 1 rfl ?_
    refine ww_iload_n hx hb dX3_canFollow_10 rfl 2 rfl ?_
    refine ww_callV (ws1 := WC q cA σ) (st1 := [.int (X3_isFree σ x1 x2)]) hx hb hml hown hts hK hN hA (hDD _) (Nat.zero_le _) (Nat.zero_le _) [.int (x1), .int (x2)] [] (m_X3_isFree σ x1 x2) cs_X3_52 rfl (by decide) 2 rfl rfl rfl (Nat.le_of_ble_eq_true rfl) dX3_canFollow_11 rfl ?_
    refine ww_eq0 (tgt := 21) hx hb dX3_canFollow_14 (by decide) (fun c_2 => ?_) (fun c_2 => ?_)
    · replace h := it_p c_2 h
      refine ww_iconst (v := 0) hx hb dX3_canFollow_21 (by decide) ?_
      obtain rfl := h
      exact ww_zret hx hb hr hlk (by decide) rfl dX3_canFollow_22
    · replace h := it_n c_2 h
      refine ww_iconst (v := 1) hx hb dX3_canFollow_17 (by decide) ?_
      refine ww_goto (tgt := 22) hx hb dX3_canFollow_18 (by decide) ?_
      obtain rfl := h
      exact ww_zret hx hb hr hlk (by decide) rfl dX3_canFollow_22
set_option maxHeartbeats 4000000 in
set_option maxRecDepth 100000 in
theorem m_X2_startOf (σ : SS) (x0 : Int32) : Ct l yX2_startOf cX2_startOf 1 (some .int) 0 0 D vwCl [(cA, .int)] (WC q cA σ) (WC q cA σ) [.int (x0)] (some (.int (X2_startOf x0))) := by
  refine ct_of (by decide +kernel) (Nat.le_of_ble_eq_true rfl) ?_
  intro p e s m args below meth c hx hb hr hlk hml hown hts hK hD hN hA
  have hown : s.vm.findClass RX2 = some m.cls := hown
  have hDD : ∀ τ : SS, va_D (va_A (WC q cA σ) s.heap.size) (WC q cA τ) := fun τ => hD.adr rfl
  obtain ⟨r, h⟩ : ∃ r, X2_startOf x0 = r := ⟨_, rfl⟩
  rw [h]
  unfold X2_startOf at h
  refine ww_sub (lv1 := [(0, .int (x0))]) [0] rfl ?_
  refine ww_bipush (v := 24) hx hb dX2_startOf_0 (by decide) ?_
  refine ww_iload_n hx hb dX2_startOf_2 rfl 0 rfl ?_
  refine ww_imul hx hb dX2_startOf_3 ?_
  refine ww_bipush (v := 8) hx hb dX2_startOf_4 (by decide) ?_
  refine ww_iadd hx hb dX2_startOf_6 ?_
  obtain rfl := h
  exact ww_iret hx hb hr hlk rfl dX2_startOf_7
set_option maxHeartbeats 4000000 in
set_option maxRecDepth 100000 in
theorem m_X2_endOf (σ : SS) (x1 : Int32) : Ct l yX2_endOf cX2_endOf 2 (some .int) 1 40 D vwCl [(cA, .int)] (WC q cA σ) (WC q cA σ) [.ref (q 1), .int (x1)] (some (.int (X2_endOf σ x1))) := by
  refine ct_of (by decide +kernel) (Nat.le_of_ble_eq_true rfl) ?_
  intro p e s m args below meth c hx hb hr hlk hml hown hts hK hD hN hA
  have hown : s.vm.findClass RX2 = some m.cls := hown
  have hDD : ∀ τ : SS, va_D (va_A (WC q cA σ) s.heap.size) (WC q cA τ) := fun τ => hD.adr rfl
  obtain ⟨r, h⟩ : ∃ r, X2_endOf σ x1 = r := ⟨_, rfl⟩
  rw [h]
  unfold X2_endOf at h
  refine ww_sub (lv1 := [(0, .ref (q 1)), (1, .int (x1))]) [0, 1] rfl ?_
  refine ww_aload_n hx hb dX2_endOf_0 rfl 0 rfl ?_
  refine ww_get (C := RX2) (T := TX2) (N := 8) hx hb hown hts hK inA2 1 rfl rfl 2 (by decide) kw_47 rfl rfl dX2_endOf_1 ?_
  refine ww_iload_n hx hb dX2_endOf_4 rfl 1 rfl ?_
  refine ww_callN (ws1 := WC q cA σ) (st1 := [.int (fat σ 11 8 x1)]) hx hb hml hown hts hK hN hA (hDD _) (Nat.zero_le _) (Nat.zero_le _) [.ref (q 11), .int (x1)] [] (m_at (by decide) σ x1) cs_X2_54 rfl (by decide) rfl (Nat.le_of_ble_eq_true rfl) dX2_endOf_5 rfl ?_
  refine ww_aload_n hx hb dX2_endOf_8 rfl 0 rfl ?_
  refine ww_get (C := RX2) (T := TX2) (N := 8) hx hb hown hts hK inA2 1 rfl rfl 0 (by decide) kw_66 rfl rfl dX2_endOf_9 ?_
  refine ww_get (C := RX3) (T := TX3) (N := 9) hx hb hown hts hK inA3 2 rfl rfl 0 (by decide) kw_67 rfl rfl dX2_endOf_12 ?_
  refine ww_iload_n hx hb dX2_endOf_15 rfl 1 rfl ?_
  refine ww_callN (ws1 := WC q cA σ) (st1 := [.int (fat σ 5 8 x1), .int (fat σ 11 8 x1)]) hx hb hml hown hts hK hN hA (hDD _) (Nat.zero_le _) (Nat.zero_le _) [.ref (q 5), .int (x1)] [.int (fat σ 11 8 x1)] (m_at (by decide) σ x1) cs_X2_54 rfl (by decide) rfl (Nat.le_of_ble_eq_true rfl) dX2_endOf_16 rfl ?_
  refine ww_iadd hx hb dX2_endOf_19 ?_
  obtain rfl := h
  exact ww_iret hx hb hr hlk rfl dX2_endOf_20
set_option maxHeartbeats 4000000 in
set_option maxRecDepth 100000 in
theorem m_X2_beginFrom (σ : SS) (x1 x2 x3 x4 : Int32) (r : Int32) (h : X2_beginFrom σ x1 x2 x3 x4 = some r) : Ct l yX2_beginFrom cX2_beginFrom 8 (some .int) 2 80 D vwCl [(cA, .int)] (WC q cA σ) (WC q cA σ) [.ref (q 1), .int (x1), .int (x2), .int (x3), .int (x4)] (some (.int r)) := by
  refine ct_of (by decide +kernel) (Nat.le_of_ble_eq_true rfl) ?_
  intro p e s m args below meth c hx hb hr hlk hml hown hts hK hD hN hA
  have hown : s.vm.findClass RX2 = some m.cls := hown
  have hDD : ∀ τ : SS, va_D (va_A (WC q cA σ) s.heap.size) (WC q cA τ) := fun τ => hD.adr rfl
  unfold X2_beginFrom at h
  have lp40 : ∀ (n : Nat) (x2 : Int32) (x3 : Int32) (x4 : Int32) (x6 : Int32) (x7 : Int32), X2_beginFrom_l40 n σ x2 x3 x4 x6 x7 = some r → WW p l e (rmc 2 80 0 0) s m args below meth c D vwCl (va_A (WC q cA σ) s.heap.size) 8 0 0 (MQ below (qcW D vwCl (WC q cA σ) (WC q cA σ) (some (.int r)) s.heap.size) args s 0 0 (va_A (WC q cA σ) s.heap.size)) (WC q cA σ) 40 [(0, .ref (q 1)), (2, .int (x2)), (3, .int (x3)), (4, .int (x4)), (6, .int (x6)), (7, .int (x7))] [] := by
    intro n
    induction n with
    | zero => intro x2 x3 x4 x6 x7 h; rw [X2_beginFrom_l40] at h; cases h
    | succ n ih =>
      have bk121 : ∀ (x2 : Int32) (x3 : Int32) (x4 : Int32) (x6 : Int32) (x7 : Int32), X2_beginFrom_b121 (X2_beginFrom_l40 n) σ x2 x3 x4 x6 x7 = some r → WW p l e (rmc 2 80 0 0) s m args below meth c D vwCl (va_A (WC q cA σ) s.heap.size) 8 0 0 (MQ below (qcW D vwCl (WC q cA σ) (WC q cA σ) (some (.int r)) s.heap.size) args s 0 0 (va_A (WC q cA σ) s.heap.size)) (WC q cA σ) 121 [(0, .ref (q 1)), (2, .int (x2)), (3, .int (x3)), (4, .int (x4)), (6, .int (x6)), (7, .int (x7))] [] := by
        intro x2 x3 x4 x6 x7 h
        unfold X2_beginFrom_b121 at h
        refine ww_iinc (i := 7) (k := 5) (v := 1) (lv1 := [(0, .ref (q 1)), (2, .int (x2)), (3, .int (x3)), (4, .int (x4)), (6, .int (x6)), (7, .int (x7 + 1))]) hx hb dX2_beginFrom_121 rfl (by decide) (by decide) [1, 2, 3, 4, 5, 0] rfl ?_
        refine ww_goto (tgt := 40) hx hb dX2_beginFrom_124 (by decide) ?_
        exact ww_sub (lv1 := [(0, .ref (q 1)), (2, .int (x2)), (3, .int (x3)), (4, .int (x4)), (6, .int (x6)), (7, .int (x7 + 1))]) [0, 1, 2, 3, 4, 5] rfl (ih _ _ _ _ _ h)
      intro x2 x3 x4 x6 x7 h
      rw [X2_beginFrom_l40] at h
      refine ww_iload hx hb dX2_beginFrom_40 5 rfl ?_
      refine ww_aload_n hx hb dX2_beginFrom_42 rfl 0 rfl ?_
      refine ww_get (C := RX2) (T := TX2) (N := 8) hx hb hown hts hK inA2 1 rfl rfl 0 (by decide) kw_66 rfl rfl dX2_beginFrom_43 ?_
      refine ww_get (C := RX3) (T := TX3) (N := 9) hx hb hown hts hK inA3 2 rfl rfl 5 (by decide) kw_73 rfl rfl dX2_beginFrom_46 ?_
      refine ww_ge2 (tgt := 127) hx hb dX2_beginFrom_49 (by decide) (fun c_2 => ?_) (fun c_2 => ?_)
      · replace h := it_p c_2 h
        refine ww_iload hx hb dX2_beginFrom_127 4 rfl ?_
        obtain rfl := os1 h
        exact ww_iret hx hb hr hlk rfl dX2_beginFrom_129
      · replace h := it_n c_2 h
        refine ww_iload hx hb dX2_beginFrom_52 3 rfl ?_
        refine ww_iload hx hb dX2_beginFrom_54 5 rfl ?_
        refine ww_callN (ws1 := WC q cA σ) (st1 := [.int (X4_isIn x4 x7)]) hx hb hml hown hts hK hN hA (hDD _) (Nat.zero_le _) (Nat.zero_le _) [.int (x4), .int (x7)] [] (m_X4_isIn σ x4 x7) cs_X2_80 rfl (by decide) rfl (Nat.le_of_ble_eq_true rfl) dX2_beginFrom_56 rfl ?_
        refine ww_eq0 (tgt := 121) hx hb dX2_beginFrom_59 (by decide) (fun c_3 => ?_) (fun c_3 => ?_)
        · replace h := it_p c_3 h
          exact ww_sub (lv1 := [(0, .ref (q 1)), (2, .int (x2)), (3, .int (x3)), (4, .int (x4)), (6, .int (x6)), (7, .int (x7))]) [0, 1, 2, 3, 4, 5] rfl (bk121 _ _ _ _ _ h)
        · replace h := it_n c_3 h
          refine ww_aload_n hx hb dX2_beginFrom_62 rfl 0 rfl ?_
          refine ww_get (C := RX2) (T := TX2) (N := 8) hx hb hown hts hK inA2 1 rfl rfl 0 (by decide) kw_66 rfl rfl dX2_beginFrom_63 ?_
          refine ww_get (C := RX3) (T := TX3) (N := 9) hx hb hown hts hK inA3 2 rfl rfl 2 (by decide) kw_74 rfl rfl dX2_beginFrom_66 ?_
          refine ww_iload hx hb dX2_beginFrom_69 5 rfl ?_
          refine ww_callN (ws1 := WC q cA σ) (st1 := [.int (fat σ 7 8 x7)]) hx hb hml hown hts hK hN hA (hDD _) (Nat.zero_le _) (Nat.zero_le _) [.ref (q 7), .int (x7)] [] (m_at (by decide) σ x7) cs_X2_54 rfl (by decide) rfl (Nat.le_of_ble_eq_true rfl) dX2_beginFrom_71 rfl ?_
          refine ww_aload_n hx hb dX2_beginFrom_74 rfl 0 rfl ?_
          refine ww_get (C := RX2) (T := TX2) (N := 8) hx hb hown hts hK inA2 1 rfl rfl 0 (by decide) kw_66 rfl rfl dX2_beginFrom_75 ?_
          refine ww_get (C := RX3) (T := TX3) (N := 9) hx hb hown hts hK inA3 2 rfl rfl 2 (by decide) kw_74 rfl rfl dX2_beginFrom_78 ?_
          refine ww_iload_n hx hb dX2_beginFrom_81 rfl 1 rfl ?_
          refine ww_callN (ws1 := WC q cA σ) (st1 := [.int (fat σ 7 8 x2), .int (fat σ 7 8 x7)]) hx hb hml hown hts hK hN hA (hDD _) (Nat.zero_le _) (Nat.zero_le _) [.ref (q 7), .int (x2)] [.int (fat σ 7 8 x7)] (m_at (by decide) σ x2) cs_X2_54 rfl (by decide) rfl (Nat.le_of_ble_eq_true rfl) dX2_beginFrom_82 rfl ?_
          refine ww_iand hx hb dX2_beginFrom_85 ?_
          refine ww_eq0 (tgt := 121) hx hb dX2_beginFrom_86 (by decide) (fun c_4 => ?_) (fun c_4 => ?_)
          · replace h := it_p c_4 h
            exact ww_sub (lv1 := [(0, .ref (q 1)), (2, .int (x2)), (3, .int (x3)), (4, .int (x4)), (6, .int (x6)), (7, .int (x7))]) [0, 1, 2, 3, 4, 5] rfl (bk121 _ _ _ _ _ h)
          · replace h := it_n c_4 h
            refine ww_aload_n hx hb dX2_beginFrom_89 rfl 0 rfl ?_
            refine ww_get (C := RX2) (T := TX2) (N := 8) hx hb hown hts hK inA2 1 rfl rfl 2 (by decide) kw_47 rfl rfl dX2_beginFrom_90 ?_
            refine ww_iload hx hb dX2_beginFrom_93 5 rfl ?_
            refine ww_callN (ws1 := WC q cA σ) (st1 := [.int (fat σ 11 8 x7)]) hx hb hml hown hts hK hN hA (hDD _) (Nat.zero_le _) (Nat.zero_le _) [.ref (q 11), .int (x7)] [] (m_at (by decide) σ x7) cs_X2_54 rfl (by decide) rfl (Nat.le_of_ble_eq_true rfl) dX2_beginFrom_95 rfl ?_
            refine ww_callS (ws1 := WC q cA σ) (st1 := [.int (X2_dayOf (fat σ 11 8 x7))]) hx hb hml hown hts hK hN hA (hDD _) (Nat.zero_le _) (Nat.zero_le _) [.int (fat σ 11 8 x7)] [] (m_X2_dayOf σ (fat σ 11 8 x7)) cs_X2_58 rfl (by decide) rfl (Nat.le_of_ble_eq_true rfl) dX2_beginFrom_98 rfl ?_
            refine ww_iload_n hx hb dX2_beginFrom_101 rfl 2 rfl ?_
            refine ww_ge2 (tgt := 121) hx hb dX2_beginFrom_102 (by decide) (fun c_5 => ?_) (fun c_5 => ?_)
            · replace h := it_p c_5 h
              exact ww_sub (lv1 := [(0, .ref (q 1)), (2, .int (x2)), (3, .int (x3)), (4, .int (x4)), (6, .int (x6)), (7, .int (x7))]) [0, 1, 2, 3, 4, 5] rfl (bk121 _ _ _ _ _ h)
            · replace h := it_n c_5 h
              refine ww_iload hx hb dX2_beginFrom_105 4 rfl ?_
              refine ww_aload_n hx hb dX2_beginFrom_107 rfl 0 rfl ?_
              refine ww_iload hx hb dX2_beginFrom_108 5 rfl ?_
              refine ww_callV (ws1 := WC q cA σ) (st1 := [.int (X2_endOf σ x7), .int (x6)]) hx hb hml hown hts hK hN hA (hDD _) (Nat.zero_le _) (Nat.zero_le _) [.int (x7)] [.int (x6)] (m_X2_endOf σ x7) cs_X2_124 rfl (by decide) 1 rfl rfl rfl (Nat.le_of_ble_eq_true rfl) dX2_beginFrom_110 rfl ?_
              refine ww_bipush (v := 11) hx hb dX2_beginFrom_113 (by decide) ?_
              refine ww_iadd hx hb dX2_beginFrom_115 ?_
              refine ww_max hx hb hml hown hts (Nat.zero_le _) (Nat.zero_le _) kw_69 kw_70 kw_71 kw_72 ⟨Nat.le_of_ble_eq_true rfl, Nat.le_of_ble_eq_true rfl⟩ dX2_beginFrom_116 ?_
              refine ww_istore (i := 6) (lv1 := [(0, .ref (q 1)), (2, .int (x2)), (3, .int (x3)), (4, .int (x4)), (6, .int (imax x6 ((X2_endOf σ x7) + (11 : Int32)))), (7, .int (x7))]) hx hb dX2_beginFrom_119 (by decide) [1, 2, 3, 4, 0, 5] rfl ?_
              exact ww_sub (lv1 := [(0, .ref (q 1)), (2, .int (x2)), (3, .int (x3)), (4, .int (x4)), (6, .int (imax x6 ((X2_endOf σ x7) + (11 : Int32)))), (7, .int (x7))]) [0, 1, 2, 3, 4, 5] rfl (bk121 _ _ _ _ _ h)
  have bk26 : ∀ (x1 : Int32) (x2 : Int32) (x3 : Int32) (x4 : Int32) (y0 : Int32) (y1 : Int32), X2_beginFrom_b26 σ x1 x2 x3 x4 y0 y1 = some r → WW p l e (rmc 2 80 0 0) s m args below meth c D vwCl (va_A (WC q cA σ) s.heap.size) 8 0 0 (MQ below (qcW D vwCl (WC q cA σ) (WC q cA σ) (some (.int r)) s.heap.size) args s 0 0 (va_A (WC q cA σ) s.heap.size)) (WC q cA σ) 26 [(0, .ref (q 1)), (1, .int (x1)), (2, .int (x2)), (3, .int (x3)), (4, .int (x4))] [.int (y1), .int (y0)] := by
    intro x1 x2 x3 x4 y0 y1 h
    unfold X2_beginFrom_b26 at h
    refine ww_iadd hx hb dX2_beginFrom_26 ?_
    refine ww_istore (i := 5) (lv1 := [(0, .ref (q 1)), (1, .int (x1)), (2, .int (x2)), (3, .int (x3)), (4, .int (x4)), (5, .int (y0 + y1))]) hx hb dX2_beginFrom_27 (by decide) [1, 2, 3, 4, 5, 0] rfl ?_
    refine ww_iload_n hx hb dX2_beginFrom_29 rfl 1 rfl ?_
    refine ww_iload hx hb dX2_beginFrom_30 5 rfl ?_
    refine ww_max hx hb hml hown hts (Nat.zero_le _) (Nat.zero_le _) kw_69 kw_70 kw_71 kw_72 ⟨Nat.le_of_ble_eq_true rfl, Nat.le_of_ble_eq_true rfl⟩ dX2_beginFrom_32 ?_
    refine ww_istore (i := 6) (lv1 := [(0, .ref (q 1)), (2, .int (x2)), (3, .int (x3)), (4, .int (x4)), (6, .int (imax x1 (y0 + y1)))]) hx hb dX2_beginFrom_35 (by decide) [1, 3, 4, 5, 0] rfl ?_
    refine ww_iconst (v := 0) hx hb dX2_beginFrom_37 (by decide) ?_
    refine ww_istore (i := 7) (lv1 := [(0, .ref (q 1)), (2, .int (x2)), (3, .int (x3)), (4, .int (x4)), (6, .int (imax x1 (y0 + y1))), (7, .int ((0 : Int32)))]) hx hb dX2_beginFrom_38 (by decide) [1, 2, 3, 4, 5, 0] rfl ?_
    exact ww_sub (lv1 := [(0, .ref (q 1)), (2, .int (x2)), (3, .int (x3)), (4, .int (x4)), (6, .int (imax x1 (y0 + y1))), (7, .int ((0 : Int32)))]) [0, 1, 2, 3, 4, 5] rfl (lp40 _ _ _ _ _ _ h)
  refine ww_sub (lv1 := [(0, .ref (q 1)), (1, .int (x1)), (2, .int (x2)), (3, .int (x3)), (4, .int (x4))]) [0, 1, 2, 3, 4] rfl ?_
  refine ww_bipush (v := 24) hx hb dX2_beginFrom_0 (by decide) ?_
  refine ww_iload_n hx hb dX2_beginFrom_2 rfl 3 rfl ?_
  refine ww_imul hx hb dX2_beginFrom_3 ?_
  refine ww_aload_n hx hb dX2_beginFrom_4 rfl 0 rfl ?_
  refine ww_get (C := RX2) (T := TX2) (N := 8) hx hb hown hts hK inA2 1 rfl rfl 0 (by decide) kw_66 rfl rfl dX2_beginFrom_5 ?_
  refine ww_get (C := RX3) (T := TX3) (N := 9) hx hb hown hts hK inA3 2 rfl rfl 3 (by decide) kw_68 rfl rfl dX2_beginFrom_8 ?_
  refine ww_iload_n hx hb dX2_beginFrom_11 rfl 2 rfl ?_
  refine ww_callN (ws1 := WC q cA σ) (st1 := [.int (fat σ 8 8 x2), .int ((24 : Int32) * x3)]) hx hb hml hown hts hK hN hA (hDD _) (Nat.zero_le _) (Nat.zero_le _) [.ref (q 8), .int (x2)] [.int ((24 : Int32) * x3)] (m_at (by decide) σ x2) cs_X2_54 rfl (by decide) rfl (Nat.le_of_ble_eq_true rfl) dX2_beginFrom_12 rfl ?_
  refine ww_iconst (v := 2) hx hb dX2_beginFrom_15 (by decide) ?_
  refine ww_ne2 (tgt := 24) hx hb dX2_beginFrom_16 (by decide) (fun c_1 => ?_) (fun c_1 => ?_)
  · replace h := it_n c_1 h
    refine ww_bipush (v := 8) hx hb dX2_beginFrom_24 (by decide) ?_
    exact ww_sub (lv1 := [(0, .ref (q 1)), (1, .int (x1)), (2, .int (x2)), (3, .int (x3)), (4, .int (x4))]) [0, 1, 2, 3, 4] rfl (bk26 _ _ _ _ _ _ h)
  · replace h := it_p c_1 h
    refine ww_bipush (v := 18) hx hb dX2_beginFrom_19 (by decide) ?_
    refine ww_goto (tgt := 26) hx hb dX2_beginFrom_21 (by decide) ?_
    exact ww_sub (lv1 := [(0, .ref (q 1)), (1, .int (x1)), (2, .int (x2)), (3, .int (x3)), (4, .int (x4))]) [0, 1, 2, 3, 4] rfl (bk26 _ _ _ _ _ _ h)
set_option maxHeartbeats 4000000 in
set_option maxRecDepth 100000 in
theorem m_X2_endsInTime (σ : SS) (x1 x2 x3 : Int32) : Ct l yX2_endsInTime cX2_endsInTime 5 (some .boolean) 1 40 D vwCl [(cA, .int)] (WC q cA σ) (WC q cA σ) [.ref (q 1), .int (x1), .int (x2), .int (x3)] (some (.int (X2_endsInTime σ x1 x2 x3))) := by
  refine ct_of (by decide +kernel) (Nat.le_of_ble_eq_true rfl) ?_
  intro p e s m args below meth c hx hb hr hlk hml hown hts hK hD hN hA
  have hown : s.vm.findClass RX2 = some m.cls := hown
  have hDD : ∀ τ : SS, va_D (va_A (WC q cA σ) s.heap.size) (WC q cA τ) := fun τ => hD.adr rfl
  obtain ⟨r, h⟩ : ∃ r, X2_endsInTime σ x1 x2 x3 = r := ⟨_, rfl⟩
  rw [h]
  unfold X2_endsInTime at h
  have bk22 : ∀ (x1 : Int32) (x2 : Int32) (x3 : Int32) (y0 : Int32), X2_endsInTime_b22 σ x1 x2 x3 y0 = r → WW p l e (rmc 1 40 0 0) s m args below meth c D vwCl (va_A (WC q cA σ) s.heap.size) 5 0 0 (MQ below (qcW D vwCl (WC q cA σ) (WC q cA σ) (some (.int r)) s.heap.size) args s 0 0 (va_A (WC q cA σ) s.heap.size)) (WC q cA σ) 22 [(0, .ref (q 1)), (1, .int (x1)), (2, .int (x2)), (3, .int (x3))] [.int (y0)] := by
    intro x1 x2 x3 y0 h
    unfold X2_endsInTime_b22 at h
    refine ww_istore (i := 4) (lv1 := [(0, .ref (q 1)), (1, .int (x1)), (2, .int (x2)), (3, .int (x3)), (4, .int (y0))]) hx hb dX2_endsInTime_22 (by decide) [1, 2, 3, 4, 0] rfl ?_
    refine ww_iload_n hx hb dX2_endsInTime_24 rfl 2 rfl ?_
    refine ww_aload_n hx hb dX2_endsInTime_25 rfl 0 rfl ?_
    refine ww_get (C := RX2) (T := TX2) (N := 8) hx hb hown hts hK inA2 1 rfl rfl 0 (by decide) kw_66 rfl rfl dX2_endsInTime_26 ?_
    refine ww_get (C := RX3) (T := TX3) (N := 9) hx hb hown hts hK inA3 2 rfl rfl 0 (by decide) kw_67 rfl rfl dX2_endsInTime_29 ?_
    refine ww_iload_n hx hb dX2_endsInTime_32 rfl 1 rfl ?_
    refine ww_callN (ws1 := WC q cA σ) (st1 := [.int (fat σ 5 8 x1), .int (x2)]) hx hb hml hown hts hK hN hA (hDD _) (Nat.zero_le _) (Nat.zero_le _) [.ref (q 5), .int (x1)] [.int (x2)] (m_at (by decide) σ x1) cs_X2_54 rfl (by decide) rfl (Nat.le_of_ble_eq_true rfl) dX2_endsInTime_33 rfl ?_
    refine ww_iadd hx hb dX2_endsInTime_36 ?_
    refine ww_bipush (v := 24) hx hb dX2_endsInTime_37 (by decide) ?_
    refine ww_iload_n hx hb dX2_endsInTime_39 rfl 3 rfl ?_
    refine ww_imul hx hb dX2_endsInTime_40 ?_
    refine ww_iload hx hb dX2_endsInTime_41 4 rfl ?_
    refine ww_iadd hx hb dX2_endsInTime_43 ?_
    refine ww_gt2 (tgt := 51) hx hb dX2_endsInTime_44 (by decide) (fun c_2 => ?_) (fun c_2 => ?_)
    · replace h := it_p c_2 h
      refine ww_iconst (v := 0) hx hb dX2_endsInTime_51 (by decide) ?_
      obtain rfl := h
      exact ww_zret hx hb hr hlk (by decide) rfl dX2_endsInTime_52
    · replace h := it_n c_2 h
      refine ww_iconst (v := 1) hx hb dX2_endsInTime_47 (by decide) ?_
      refine ww_goto (tgt := 52) hx hb dX2_endsInTime_48 (by decide) ?_
      obtain rfl := h
      exact ww_zret hx hb hr hlk (by decide) rfl dX2_endsInTime_52
  refine ww_sub (lv1 := [(0, .ref (q 1)), (1, .int (x1)), (2, .int (x2)), (3, .int (x3))]) [0, 1, 2, 3] rfl ?_
  refine ww_aload_n hx hb dX2_endsInTime_0 rfl 0 rfl ?_
  refine ww_get (C := RX2) (T := TX2) (N := 8) hx hb hown hts hK inA2 1 rfl rfl 0 (by decide) kw_66 rfl rfl dX2_endsInTime_1 ?_
  refine ww_get (C := RX3) (T := TX3) (N := 9) hx hb hown hts hK inA3 2 rfl rfl 3 (by decide) kw_68 rfl rfl dX2_endsInTime_4 ?_
  refine ww_iload_n hx hb dX2_endsInTime_7 rfl 1 rfl ?_
  refine ww_callN (ws1 := WC q cA σ) (st1 := [.int (fat σ 8 8 x1)]) hx hb hml hown hts hK hN hA (hDD _) (Nat.zero_le _) (Nat.zero_le _) [.ref (q 8), .int (x1)] [] (m_at (by decide) σ x1) cs_X2_54 rfl (by decide) rfl (Nat.le_of_ble_eq_true rfl) dX2_endsInTime_8 rfl ?_
  refine ww_iconst (v := 1) hx hb dX2_endsInTime_11 (by decide) ?_
  refine ww_ne2 (tgt := 20) hx hb dX2_endsInTime_12 (by decide) (fun c_1 => ?_) (fun c_1 => ?_)
  · replace h := it_n c_1 h
    refine ww_bipush (v := 24) hx hb dX2_endsInTime_20 (by decide) ?_
    exact ww_sub (lv1 := [(0, .ref (q 1)), (1, .int (x1)), (2, .int (x2)), (3, .int (x3))]) [0, 1, 2, 3] rfl (bk22 _ _ _ _ h)
  · replace h := it_p c_1 h
    refine ww_bipush (v := 18) hx hb dX2_endsInTime_15 (by decide) ?_
    refine ww_goto (tgt := 22) hx hb dX2_endsInTime_17 (by decide) ?_
    exact ww_sub (lv1 := [(0, .ref (q 1)), (1, .int (x1)), (2, .int (x2)), (3, .int (x3))]) [0, 1, 2, 3] rfl (bk22 _ _ _ _ h)
set_option maxHeartbeats 4000000 in
set_option maxRecDepth 100000 in
theorem m_X2_placedOn (σ : SS) (x1 x2 : Int32) (r : Int32) (h : X2_placedOn σ x1 x2 = some r) : Ct l yX2_placedOn cX2_placedOn 5 (some .int) 1 40 D vwCl [(cA, .int)] (WC q cA σ) (WC q cA σ) [.ref (q 1), .int (x1), .int (x2)] (some (.int r)) := by
  refine ct_of (by decide +kernel) (Nat.le_of_ble_eq_true rfl) ?_
  intro p e s m args below meth c hx hb hr hlk hml hown hts hK hD hN hA
  have hown : s.vm.findClass RX2 = some m.cls := hown
  have hDD : ∀ τ : SS, va_D (va_A (WC q cA σ) s.heap.size) (WC q cA τ) := fun τ => hD.adr rfl
  unfold X2_placedOn at h
  have lp5 : ∀ (n : Nat) (x1 : Int32) (x2 : Int32) (x3 : Int32) (x4 : Int32), X2_placedOn_l5 n σ x1 x2 x3 x4 = some r → WW p l e (rmc 1 40 0 0) s m args below meth c D vwCl (va_A (WC q cA σ) s.heap.size) 5 0 0 (MQ below (qcW D vwCl (WC q cA σ) (WC q cA σ) (some (.int r)) s.heap.size) args s 0 0 (va_A (WC q cA σ) s.heap.size)) (WC q cA σ) 5 [(0, .ref (q 1)), (1, .int (x1)), (2, .int (x2)), (3, .int (x3)), (4, .int (x4))] [] := by
    intro n
    induction n with
    | zero => intro x1 x2 x3 x4 h; rw [X2_placedOn_l5] at h; cases h
    | succ n ih =>
      have bk50 : ∀ (x1 : Int32) (x2 : Int32) (x3 : Int32) (x4 : Int32), X2_placedOn_b50 (X2_placedOn_l5 n) σ x1 x2 x3 x4 = some r → WW p l e (rmc 1 40 0 0) s m args below meth c D vwCl (va_A (WC q cA σ) s.heap.size) 5 0 0 (MQ below (qcW D vwCl (WC q cA σ) (WC q cA σ) (some (.int r)) s.heap.size) args s 0 0 (va_A (WC q cA σ) s.heap.size)) (WC q cA σ) 50 [(0, .ref (q 1)), (1, .int (x1)), (2, .int (x2)), (3, .int (x3)), (4, .int (x4))] [] := by
        intro x1 x2 x3 x4 h
        unfold X2_placedOn_b50 at h
        refine ww_iinc (i := 4) (k := 4) (v := 1) (lv1 := [(0, .ref (q 1)), (1, .int (x1)), (2, .int (x2)), (3, .int (x3)), (4, .int (x4 + 1))]) hx hb dX2_placedOn_50 rfl (by decide) (by decide) [1, 2, 3, 4, 0] rfl ?_
        refine ww_goto (tgt := 5) hx hb dX2_placedOn_53 (by decide) ?_
        exact ww_sub (lv1 := [(0, .ref (q 1)), (1, .int (x1)), (2, .int (x2)), (3, .int (x3)), (4, .int (x4 + 1))]) [0, 1, 2, 3, 4] rfl (ih _ _ _ _ h)
      intro x1 x2 x3 x4 h
      rw [X2_placedOn_l5] at h
      refine ww_iload hx hb dX2_placedOn_5 4 rfl ?_
      refine ww_aload_n hx hb dX2_placedOn_7 rfl 0 rfl ?_
      refine ww_get (C := RX2) (T := TX2) (N := 8) hx hb hown hts hK inA2 1 rfl rfl 0 (by decide) kw_66 rfl rfl dX2_placedOn_8 ?_
      refine ww_get (C := RX3) (T := TX3) (N := 9) hx hb hown hts hK inA3 2 rfl rfl 5 (by decide) kw_73 rfl rfl dX2_placedOn_11 ?_
      refine ww_ge2 (tgt := 56) hx hb dX2_placedOn_14 (by decide) (fun c_1 => ?_) (fun c_1 => ?_)
      · replace h := it_p c_1 h
        refine ww_iload_n hx hb dX2_placedOn_56 rfl 3 rfl ?_
        obtain rfl := os1 h
        exact ww_iret hx hb hr hlk rfl dX2_placedOn_57
      · replace h := it_n c_1 h
        refine ww_iload_n hx hb dX2_placedOn_17 rfl 2 rfl ?_
        refine ww_iload hx hb dX2_placedOn_18 4 rfl ?_
        refine ww_callN (ws1 := WC q cA σ) (st1 := [.int (X4_isIn x2 x4)]) hx hb hml hown hts hK hN hA (hDD _) (Nat.zero_le _) (Nat.zero_le _) [.int (x2), .int (x4)] [] (m_X4_isIn σ x2 x4) cs_X2_80 rfl (by decide) rfl (Nat.le_of_ble_eq_true rfl) dX2_placedOn_20 rfl ?_
        refine ww_eq0 (tgt := 50) hx hb dX2_placedOn_23 (by decide) (fun c_2 => ?_) (fun c_2 => ?_)
        · replace h := it_p c_2 h
          exact ww_sub (lv1 := [(0, .ref (q 1)), (1, .int (x1)), (2, .int (x2)), (3, .int (x3)), (4, .int (x4))]) [0, 1, 2, 3, 4] rfl (bk50 _ _ _ _ h)
        · replace h := it_n c_2 h
          refine ww_aload_n hx hb dX2_placedOn_26 rfl 0 rfl ?_
          refine ww_get (C := RX2) (T := TX2) (N := 8) hx hb hown hts hK inA2 1 rfl rfl 2 (by decide) kw_47 rfl rfl dX2_placedOn_27 ?_
          refine ww_iload hx hb dX2_placedOn_30 4 rfl ?_
          refine ww_callN (ws1 := WC q cA σ) (st1 := [.int (fat σ 11 8 x4)]) hx hb hml hown hts hK hN hA (hDD _) (Nat.zero_le _) (Nat.zero_le _) [.ref (q 11), .int (x4)] [] (m_at (by decide) σ x4) cs_X2_54 rfl (by decide) rfl (Nat.le_of_ble_eq_true rfl) dX2_placedOn_32 rfl ?_
          refine ww_callS (ws1 := WC q cA σ) (st1 := [.int (X2_dayOf (fat σ 11 8 x4))]) hx hb hml hown hts hK hN hA (hDD _) (Nat.zero_le _) (Nat.zero_le _) [.int (fat σ 11 8 x4)] [] (m_X2_dayOf σ (fat σ 11 8 x4)) cs_X2_58 rfl (by decide) rfl (Nat.le_of_ble_eq_true rfl) dX2_placedOn_35 rfl ?_
          refine ww_iload_n hx hb dX2_placedOn_38 rfl 1 rfl ?_
          refine ww_ne2 (tgt := 50) hx hb dX2_placedOn_39 (by decide) (fun c_3 => ?_) (fun c_3 => ?_)
          · replace h := it_n c_3 h
            exact ww_sub (lv1 := [(0, .ref (q 1)), (1, .int (x1)), (2, .int (x2)), (3, .int (x3)), (4, .int (x4))]) [0, 1, 2, 3, 4] rfl (bk50 _ _ _ _ h)
          · replace h := it_p c_3 h
            refine ww_iload_n hx hb dX2_placedOn_42 rfl 3 rfl ?_
            refine ww_iload hx hb dX2_placedOn_43 4 rfl ?_
            refine ww_iconst (v := 1) hx hb dX2_placedOn_45 (by decide) ?_
            refine ww_callN (ws1 := WC q cA σ) (st1 := [.int (X4_with x3 x4 (1 : Int32))]) hx hb hml hown hts hK hN hA (hDD _) (Nat.zero_le _) (Nat.zero_le _) [.int (x3), .int (x4), .int ((1 : Int32))] [] (m_X4_with σ x3 x4 (1 : Int32)) cs_X2_73 rfl (by decide) rfl (Nat.le_of_ble_eq_true rfl) dX2_placedOn_46 rfl ?_
            refine ww_istore_n (i := 3) (lv1 := [(0, .ref (q 1)), (1, .int (x1)), (2, .int (x2)), (3, .int (X4_with x3 x4 (1 : Int32))), (4, .int (x4))]) hx hb dX2_placedOn_49 rfl (by decide) [1, 2, 3, 0, 4] rfl ?_
            exact ww_sub (lv1 := [(0, .ref (q 1)), (1, .int (x1)), (2, .int (x2)), (3, .int (X4_with x3 x4 (1 : Int32))), (4, .int (x4))]) [0, 1, 2, 3, 4] rfl (bk50 _ _ _ _ h)
  refine ww_sub (lv1 := [(0, .ref (q 1)), (1, .int (x1)), (2, .int (x2))]) [0, 1, 2] rfl ?_
  refine ww_iconst (v := 0) hx hb dX2_placedOn_0 (by decide) ?_
  refine ww_istore_n (i := 3) (lv1 := [(0, .ref (q 1)), (1, .int (x1)), (2, .int (x2)), (3, .int ((0 : Int32)))]) hx hb dX2_placedOn_1 rfl (by decide) [1, 2, 3, 0] rfl ?_
  refine ww_iconst (v := 0) hx hb dX2_placedOn_2 (by decide) ?_
  refine ww_istore (i := 4) (lv1 := [(0, .ref (q 1)), (1, .int (x1)), (2, .int (x2)), (3, .int ((0 : Int32))), (4, .int ((0 : Int32)))]) hx hb dX2_placedOn_3 (by decide) [1, 2, 3, 4, 0] rfl ?_
  exact ww_sub (lv1 := [(0, .ref (q 1)), (1, .int (x1)), (2, .int (x2)), (3, .int ((0 : Int32))), (4, .int ((0 : Int32)))]) [0, 1, 2, 3, 4] rfl (lp5 _ _ _ _ _ h)
set_option maxHeartbeats 4000000 in
set_option maxRecDepth 100000 in
theorem m_X2_hoursFor (σ : SS) (x1 x2 : Int32) (r : Int32) (h : X2_hoursFor σ x1 x2 = some r) : Ct l yX2_hoursFor cX2_hoursFor 5 (some .int) 1 40 D vwCl [(cA, .int)] (WC q cA σ) (WC q cA σ) [.ref (q 1), .int (x1), .int (x2)] (some (.int r)) := by
  refine ct_of (by decide +kernel) (Nat.le_of_ble_eq_true rfl) ?_
  intro p e s m args below meth c hx hb hr hlk hml hown hts hK hD hN hA
  have hown : s.vm.findClass RX2 = some m.cls := hown
  have hDD : ∀ τ : SS, va_D (va_A (WC q cA σ) s.heap.size) (WC q cA τ) := fun τ => hD.adr rfl
  unfold X2_hoursFor at h
  have lp5 : ∀ (n : Nat) (x1 : Int32) (x2 : Int32) (x3 : Int32) (x4 : Int32), X2_hoursFor_l5 n σ x1 x2 x3 x4 = some r → WW p l e (rmc 1 40 0 0) s m args below meth c D vwCl (va_A (WC q cA σ) s.heap.size) 5 0 0 (MQ below (qcW D vwCl (WC q cA σ) (WC q cA σ) (some (.int r)) s.heap.size) args s 0 0 (va_A (WC q cA σ) s.heap.size)) (WC q cA σ) 5 [(0, .ref (q 1)), (1, .int (x1)), (2, .int (x2)), (3, .int (x3)), (4, .int (x4))] [] := by
    intro n
    induction n with
    | zero => intro x1 x2 x3 x4 h; rw [X2_hoursFor_l5] at h; cases h
    | succ n ih =>
      have bk60 : ∀ (x1 : Int32) (x2 : Int32) (x3 : Int32) (x4 : Int32), X2_hoursFor_b60 (X2_hoursFor_l5 n) σ x1 x2 x3 x4 = some r → WW p l e (rmc 1 40 0 0) s m args below meth c D vwCl (va_A (WC q cA σ) s.heap.size) 5 0 0 (MQ below (qcW D vwCl (WC q cA σ) (WC q cA σ) (some (.int r)) s.heap.size) args s 0 0 (va_A (WC q cA σ) s.heap.size)) (WC q cA σ) 60 [(0, .ref (q 1)), (1, .int (x1)), (2, .int (x2)), (3, .int (x3)), (4, .int (x4))] [] := by
        intro x1 x2 x3 x4 h
        unfold X2_hoursFor_b60 at h
        refine ww_iinc (i := 4) (k := 4) (v := 1) (lv1 := [(0, .ref (q 1)), (1, .int (x1)), (2, .int (x2)), (3, .int (x3)), (4, .int (x4 + 1))]) hx hb dX2_hoursFor_60 rfl (by decide) (by decide) [1, 2, 3, 4, 0] rfl ?_
        refine ww_goto (tgt := 5) hx hb dX2_hoursFor_63 (by decide) ?_
        exact ww_sub (lv1 := [(0, .ref (q 1)), (1, .int (x1)), (2, .int (x2)), (3, .int (x3)), (4, .int (x4 + 1))]) [0, 1, 2, 3, 4] rfl (ih _ _ _ _ h)
      intro x1 x2 x3 x4 h
      rw [X2_hoursFor_l5] at h
      refine ww_iload hx hb dX2_hoursFor_5 4 rfl ?_
      refine ww_aload_n hx hb dX2_hoursFor_7 rfl 0 rfl ?_
      refine ww_get (C := RX2) (T := TX2) (N := 8) hx hb hown hts hK inA2 1 rfl rfl 0 (by decide) kw_66 rfl rfl dX2_hoursFor_8 ?_
      refine ww_get (C := RX3) (T := TX3) (N := 9) hx hb hown hts hK inA3 2 rfl rfl 5 (by decide) kw_73 rfl rfl dX2_hoursFor_11 ?_
      refine ww_ge2 (tgt := 66) hx hb dX2_hoursFor_14 (by decide) (fun c_1 => ?_) (fun c_1 => ?_)
      · replace h := it_p c_1 h
        refine ww_iload_n hx hb dX2_hoursFor_66 rfl 3 rfl ?_
        obtain rfl := os1 h
        exact ww_iret hx hb hr hlk rfl dX2_hoursFor_67
      · replace h := it_n c_1 h
        refine ww_iload_n hx hb dX2_hoursFor_17 rfl 2 rfl ?_
        refine ww_iload hx hb dX2_hoursFor_18 4 rfl ?_
        refine ww_callN (ws1 := WC q cA σ) (st1 := [.int (X4_isIn x2 x4)]) hx hb hml hown hts hK hN hA (hDD _) (Nat.zero_le _) (Nat.zero_le _) [.int (x2), .int (x4)] [] (m_X4_isIn σ x2 x4) cs_X2_80 rfl (by decide) rfl (Nat.le_of_ble_eq_true rfl) dX2_hoursFor_20 rfl ?_
        refine ww_eq0 (tgt := 60) hx hb dX2_hoursFor_23 (by decide) (fun c_2 => ?_) (fun c_2 => ?_)
        · replace h := it_p c_2 h
          exact ww_sub (lv1 := [(0, .ref (q 1)), (1, .int (x1)), (2, .int (x2)), (3, .int (x3)), (4, .int (x4))]) [0, 1, 2, 3, 4] rfl (bk60 _ _ _ _ h)
        · replace h := it_n c_2 h
          refine ww_aload_n hx hb dX2_hoursFor_26 rfl 0 rfl ?_
          refine ww_get (C := RX2) (T := TX2) (N := 8) hx hb hown hts hK inA2 1 rfl rfl 0 (by decide) kw_66 rfl rfl dX2_hoursFor_27 ?_
          refine ww_get (C := RX3) (T := TX3) (N := 9) hx hb hown hts hK inA3 2 rfl rfl 2 (by decide) kw_74 rfl rfl dX2_hoursFor_30 ?_
          refine ww_iload hx hb dX2_hoursFor_33 4 rfl ?_
          refine ww_callN (ws1 := WC q cA σ) (st1 := [.int (fat σ 7 8 x4)]) hx hb hml hown hts hK hN hA (hDD _) (Nat.zero_le _) (Nat.zero_le _) [.ref (q 7), .int (x4)] [] (m_at (by decide) σ x4) cs_X2_54 rfl (by decide) rfl (Nat.le_of_ble_eq_true rfl) dX2_hoursFor_35 rfl ?_
          refine ww_iload_n hx hb dX2_hoursFor_38 rfl 1 rfl ?_
          refine ww_callN (ws1 := WC q cA σ) (st1 := [.int (X4_isIn (fat σ 7 8 x4) x1)]) hx hb hml hown hts hK hN hA (hDD _) (Nat.zero_le _) (Nat.zero_le _) [.int (fat σ 7 8 x4), .int (x1)] [] (m_X4_isIn σ (fat σ 7 8 x4) x1) cs_X2_80 rfl (by decide) rfl (Nat.le_of_ble_eq_true rfl) dX2_hoursFor_39 rfl ?_
          refine ww_eq0 (tgt := 60) hx hb dX2_hoursFor_42 (by decide) (fun c_3 => ?_) (fun c_3 => ?_)
          · replace h := it_p c_3 h
            exact ww_sub (lv1 := [(0, .ref (q 1)), (1, .int (x1)), (2, .int (x2)), (3, .int (x3)), (4, .int (x4))]) [0, 1, 2, 3, 4] rfl (bk60 _ _ _ _ h)
          · replace h := it_n c_3 h
            refine ww_iload_n hx hb dX2_hoursFor_45 rfl 3 rfl ?_
            refine ww_aload_n hx hb dX2_hoursFor_46 rfl 0 rfl ?_
            refine ww_get (C := RX2) (T := TX2) (N := 8) hx hb hown hts hK inA2 1 rfl rfl 0 (by decide) kw_66 rfl rfl dX2_hoursFor_47 ?_
            refine ww_get (C := RX3) (T := TX3) (N := 9) hx hb hown hts hK inA3 2 rfl rfl 0 (by decide) kw_67 rfl rfl dX2_hoursFor_50 ?_
            refine ww_iload hx hb dX2_hoursFor_53 4 rfl ?_
            refine ww_callN (ws1 := WC q cA σ) (st1 := [.int (fat σ 5 8 x4), .int (x3)]) hx hb hml hown hts hK hN hA (hDD _) (Nat.zero_le _) (Nat.zero_le _) [.ref (q 5), .int (x4)] [.int (x3)] (m_at (by decide) σ x4) cs_X2_54 rfl (by decide) rfl (Nat.le_of_ble_eq_true rfl) dX2_hoursFor_55 rfl ?_
            refine ww_iadd hx hb dX2_hoursFor_58 ?_
            refine ww_istore_n (i := 3) (lv1 := [(0, .ref (q 1)), (1, .int (x1)), (2, .int (x2)), (3, .int (x3 + (fat σ 5 8 x4))), (4, .int (x4))]) hx hb dX2_hoursFor_59 rfl (by decide) [1, 2, 3, 0, 4] rfl ?_
            exact ww_sub (lv1 := [(0, .ref (q 1)), (1, .int (x1)), (2, .int (x2)), (3, .int (x3 + (fat σ 5 8 x4))), (4, .int (x4))]) [0, 1, 2, 3, 4] rfl (bk60 _ _ _ _ h)
  refine ww_sub (lv1 := [(0, .ref (q 1)), (1, .int (x1)), (2, .int (x2))]) [0, 1, 2] rfl ?_
  refine ww_iconst (v := 0) hx hb dX2_hoursFor_0 (by decide) ?_
  refine ww_istore_n (i := 3) (lv1 := [(0, .ref (q 1)), (1, .int (x1)), (2, .int (x2)), (3, .int ((0 : Int32)))]) hx hb dX2_hoursFor_1 rfl (by decide) [1, 2, 3, 0] rfl ?_
  refine ww_iconst (v := 0) hx hb dX2_hoursFor_2 (by decide) ?_
  refine ww_istore (i := 4) (lv1 := [(0, .ref (q 1)), (1, .int (x1)), (2, .int (x2)), (3, .int ((0 : Int32))), (4, .int ((0 : Int32)))]) hx hb dX2_hoursFor_3 (by decide) [1, 2, 3, 4, 0] rfl ?_
  exact ww_sub (lv1 := [(0, .ref (q 1)), (1, .int (x1)), (2, .int (x2)), (3, .int ((0 : Int32))), (4, .int ((0 : Int32)))]) [0, 1, 2, 3, 4] rfl (lp5 _ _ _ _ _ h)
set_option maxHeartbeats 4000000 in
set_option maxRecDepth 100000 in
theorem m_X2_isFitForChildren (σ : SS) (x1 x2 x3 : Int32) (r : Int32) (h : X2_isFitForChildren σ x1 x2 x3 = some r) : Ct l yX2_isFitForChildren cX2_isFitForChildren 6 (some .boolean) 2 80 D vwCl [(cA, .int)] (WC q cA σ) (WC q cA σ) [.ref (q 1), .int (x1), .int (x2), .int (x3)] (some (.int r)) := by
  refine ct_of (by decide +kernel) (Nat.le_of_ble_eq_true rfl) ?_
  intro p e s m args below meth c hx hb hr hlk hml hown hts hK hD hN hA
  have hown : s.vm.findClass RX2 = some m.cls := hown
  have hDD : ∀ τ : SS, va_D (va_A (WC q cA σ) s.heap.size) (WC q cA τ) := fun τ => hD.adr rfl
  unfold X2_isFitForChildren at h
  have lp24 : ∀ (n : Nat) (x1 : Int32) (x2 : Int32) (x3 : Int32) (x4 : Int32) (x5 : Int32), X2_isFitForChildren_l24 n σ x1 x2 x3 x4 x5 = some r → WW p l e (rmc 2 80 0 0) s m args below meth c D vwCl (va_A (WC q cA σ) s.heap.size) 6 0 0 (MQ below (qcW D vwCl (WC q cA σ) (WC q cA σ) (some (.int r)) s.heap.size) args s 0 0 (va_A (WC q cA σ) s.heap.size)) (WC q cA σ) 24 [(0, .ref (q 1)), (1, .int (x1)), (2, .int (x2)), (3, .int (x3)), (4, .int (x4)), (5, .int (x5))] [] := by
    intro n
    induction n with
    | zero => intro x1 x2 x3 x4 x5 h; rw [X2_isFitForChildren_l24] at h; cases h
    | succ n ih =>
      have bk72 : ∀ (x1 : Int32) (x2 : Int32) (x3 : Int32) (x4 : Int32) (x5 : Int32), X2_isFitForChildren_b72 (X2_isFitForChildren_l24 n) σ x1 x2 x3 x4 x5 = some r → WW p l e (rmc 2 80 0 0) s m args below meth c D vwCl (va_A (WC q cA σ) s.heap.size) 6 0 0 (MQ below (qcW D vwCl (WC q cA σ) (WC q cA σ) (some (.int r)) s.heap.size) args s 0 0 (va_A (WC q cA σ) s.heap.size)) (WC q cA σ) 72 [(0, .ref (q 1)), (1, .int (x1)), (2, .int (x2)), (3, .int (x3)), (4, .int (x4)), (5, .int (x5))] [] := by
        intro x1 x2 x3 x4 x5 h
        unfold X2_isFitForChildren_b72 at h
        refine ww_iinc (i := 5) (k := 5) (v := 1) (lv1 := [(0, .ref (q 1)), (1, .int (x1)), (2, .int (x2)), (3, .int (x3)), (4, .int (x4)), (5, .int (x5 + 1))]) hx hb dX2_isFitForChildren_72 rfl (by decide) (by decide) [1, 2, 3, 4, 5, 0] rfl ?_
        refine ww_goto (tgt := 24) hx hb dX2_isFitForChildren_75 (by decide) ?_
        exact ww_sub (lv1 := [(0, .ref (q 1)), (1, .int (x1)), (2, .int (x2)), (3, .int (x3)), (4, .int (x4)), (5, .int (x5 + 1))]) [0, 1, 2, 3, 4, 5] rfl (ih _ _ _ _ _ h)
      intro x1 x2 x3 x4 x5 h
      rw [X2_isFitForChildren_l24] at h
      refine ww_iload hx hb dX2_isFitForChildren_24 5 rfl ?_
      refine ww_bipush (v := 6) hx hb dX2_isFitForChildren_26 (by decide) ?_
      refine ww_ge2 (tgt := 78) hx hb dX2_isFitForChildren_28 (by decide) (fun c_1 => ?_) (fun c_1 => ?_)
      · replace h := it_p c_1 h
        refine ww_iconst (v := 1) hx hb dX2_isFitForChildren_78 (by decide) ?_
        obtain rfl := os1 h
        exact ww_zret hx hb hr hlk (by decide) rfl dX2_isFitForChildren_79
      · replace h := it_n c_1 h
        refine ww_iload hx hb dX2_isFitForChildren_31 4 rfl ?_
        refine ww_iload hx hb dX2_isFitForChildren_33 5 rfl ?_
        refine ww_callN (ws1 := WC q cA σ) (st1 := [.int (X4_isIn x4 x5)]) hx hb hml hown hts hK hN hA (hDD _) (Nat.zero_le _) (Nat.zero_le _) [.int (x4), .int (x5)] [] (m_X4_isIn σ x4 x5) cs_X2_80 rfl (by decide) rfl (Nat.le_of_ble_eq_true rfl) dX2_isFitForChildren_35 rfl ?_
        refine ww_eq0 (tgt := 72) hx hb dX2_isFitForChildren_38 (by decide) (fun c_2 => ?_) (fun c_2 => ?_)
        · replace h := it_p c_2 h
          exact ww_sub (lv1 := [(0, .ref (q 1)), (1, .int (x1)), (2, .int (x2)), (3, .int (x3)), (4, .int (x4)), (5, .int (x5))]) [0, 1, 2, 3, 4, 5] rfl (bk72 _ _ _ _ _ h)
        · replace h := it_n c_2 h
          refine ww_aload_n hx hb dX2_isFitForChildren_41 rfl 0 rfl ?_
          refine ww_iload hx hb dX2_isFitForChildren_42 5 rfl ?_
          refine ww_aload_n hx hb dX2_isFitForChildren_44 rfl 0 rfl ?_
          refine ww_iload_n hx hb dX2_isFitForChildren_45 rfl 2 rfl ?_
          refine ww_iload_n hx hb dX2_isFitForChildren_46 rfl 3 rfl ?_
          obtain ⟨r_3, e_3, h⟩ := ob h
          refine ww_callV (ws1 := WC q cA σ) (st1 := [.int (r_3), .int (x5), .ref (q 1)]) hx hb hml hown hts hK hN hA (hDD _) (Nat.zero_le _) (Nat.zero_le _) [.int (x2), .int (x3)] [.int (x5), .ref (q 1)] (m_X2_placedOn _ _ _ _ e_3) cs_X2_142 rfl (by decide) 1 rfl rfl rfl (Nat.le_of_ble_eq_true rfl) dX2_isFitForChildren_47 rfl ?_
          obtain ⟨r_4, e_4, h⟩ := ob h
          refine ww_callV (ws1 := WC q cA σ) (st1 := [.int (r_4)]) hx hb hml hown hts hK hN hA (hDD _) (Nat.zero_le _) (Nat.zero_le _) [.int (x5), .int (r_3)] [] (m_X2_hoursFor _ _ _ _ e_4) cs_X2_139 rfl (by decide) 1 rfl rfl rfl (Nat.le_of_ble_eq_true rfl) dX2_isFitForChildren_50 rfl ?_
          refine ww_aload_n hx hb dX2_isFitForChildren_53 rfl 0 rfl ?_
          refine ww_get (C := RX2) (T := TX2) (N := 8) hx hb hown hts hK inA2 1 rfl rfl 0 (by decide) kw_66 rfl rfl dX2_isFitForChildren_54 ?_
          refine ww_get (C := RX3) (T := TX3) (N := 9) hx hb hown hts hK inA3 2 rfl rfl 0 (by decide) kw_67 rfl rfl dX2_isFitForChildren_57 ?_
          refine ww_iload_n hx hb dX2_isFitForChildren_60 rfl 1 rfl ?_
          refine ww_callN (ws1 := WC q cA σ) (st1 := [.int (fat σ 5 8 x1), .int (r_4)]) hx hb hml hown hts hK hN hA (hDD _) (Nat.zero_le _) (Nat.zero_le _) [.ref (q 5), .int (x1)] [.int (r_4)] (m_at (by decide) σ x1) cs_X2_54 rfl (by decide) rfl (Nat.le_of_ble_eq_true rfl) dX2_isFitForChildren_61 rfl ?_
          refine ww_iadd hx hb dX2_isFitForChildren_64 ?_
          refine ww_bipush (v := 6) hx hb dX2_isFitForChildren_65 (by decide) ?_
          refine ww_le2 (tgt := 72) hx hb dX2_isFitForChildren_67 (by decide) (fun c_5 => ?_) (fun c_5 => ?_)
          · replace h := it_p c_5 h
            exact ww_sub (lv1 := [(0, .ref (q 1)), (1, .int (x1)), (2, .int (x2)), (3, .int (x3)), (4, .int (x4)), (5, .int (x5))]) [0, 1, 2, 3, 4, 5] rfl (bk72 _ _ _ _ _ h)
          · replace h := it_n c_5 h
            refine ww_iconst (v := 0) hx hb dX2_isFitForChildren_70 (by decide) ?_
            obtain rfl := os1 h
            exact ww_zret hx hb hr hlk (by decide) rfl dX2_isFitForChildren_71
  refine ww_sub (lv1 := [(0, .ref (q 1)), (1, .int (x1)), (2, .int (x2)), (3, .int (x3))]) [0, 1, 2, 3] rfl ?_
  refine ww_aload_n hx hb dX2_isFitForChildren_0 rfl 0 rfl ?_
  refine ww_get (C := RX2) (T := TX2) (N := 8) hx hb hown hts hK inA2 1 rfl rfl 0 (by decide) kw_66 rfl rfl dX2_isFitForChildren_1 ?_
  refine ww_get (C := RX3) (T := TX3) (N := 9) hx hb hown hts hK inA3 2 rfl rfl 8 (by decide) kw_79 rfl rfl dX2_isFitForChildren_4 ?_
  refine ww_aload_n hx hb dX2_isFitForChildren_7 rfl 0 rfl ?_
  refine ww_get (C := RX2) (T := TX2) (N := 8) hx hb hown hts hK inA2 1 rfl rfl 0 (by decide) kw_66 rfl rfl dX2_isFitForChildren_8 ?_
  refine ww_get (C := RX3) (T := TX3) (N := 9) hx hb hown hts hK inA3 2 rfl rfl 2 (by decide) kw_74 rfl rfl dX2_isFitForChildren_11 ?_
  refine ww_iload_n hx hb dX2_isFitForChildren_14 rfl 1 rfl ?_
  refine ww_callN (ws1 := WC q cA σ) (st1 := [.int (fat σ 7 8 x1), .int (σ 2 8)]) hx hb hml hown hts hK hN hA (hDD _) (Nat.zero_le _) (Nat.zero_le _) [.ref (q 7), .int (x1)] [.int (σ 2 8)] (m_at (by decide) σ x1) cs_X2_54 rfl (by decide) rfl (Nat.le_of_ble_eq_true rfl) dX2_isFitForChildren_15 rfl ?_
  refine ww_iand hx hb dX2_isFitForChildren_18 ?_
  refine ww_istore (i := 4) (lv1 := [(0, .ref (q 1)), (1, .int (x1)), (2, .int (x2)), (3, .int (x3)), (4, .int ((σ 2 8) &&& (fat σ 7 8 x1)))]) hx hb dX2_isFitForChildren_19 (by decide) [1, 2, 3, 4, 0] rfl ?_
  refine ww_iconst (v := 0) hx hb dX2_isFitForChildren_21 (by decide) ?_
  refine ww_istore (i := 5) (lv1 := [(0, .ref (q 1)), (1, .int (x1)), (2, .int (x2)), (3, .int (x3)), (4, .int ((σ 2 8) &&& (fat σ 7 8 x1))), (5, .int ((0 : Int32)))]) hx hb dX2_isFitForChildren_22 (by decide) [1, 2, 3, 4, 5, 0] rfl ?_
  exact ww_sub (lv1 := [(0, .ref (q 1)), (1, .int (x1)), (2, .int (x2)), (3, .int (x3)), (4, .int ((σ 2 8) &&& (fat σ 7 8 x1))), (5, .int ((0 : Int32)))]) [0, 1, 2, 3, 4, 5] rfl (lp24 _ _ _ _ _ _ h)
set_option maxHeartbeats 4000000 in
set_option maxRecDepth 100000 in
theorem m_X2_place (σ : SS) (x1 x2 x3 : Int32) (σ1 : SS) (h : X2_place σ x1 x2 x3 = some σ1) : Ct l yX2_place cX2_place 7 none 3 120 D vwCl [(cA, .int)] (WC q cA σ) (WC q cA σ1) [.ref (q 1), .int (x1), .int (x2), .int (x3)] none := by
  refine ct_of (by decide +kernel) (Nat.le_of_ble_eq_true rfl) ?_
  intro p e s m args below meth c hx hb hr hlk hml hown hts hK hD hN hA
  have hown : s.vm.findClass RX2 = some m.cls := hown
  have hDD : ∀ τ : SS, va_D (va_A (WC q cA σ) s.heap.size) (WC q cA τ) := fun τ => hD.adr rfl
  unfold X2_place at h
  have bk136 : ∀ (τ : SS) (x1 : Int32) (x2 : Int32) (x5 : Int32), X2_place_b136 τ x1 x2 x5 = some σ1 → WW p l e (rmc 3 120 0 0) s m args below meth c D vwCl (va_A (WC q cA σ) s.heap.size) 7 0 0 (MQ below (qcW D vwCl (WC q cA σ) (WC q cA σ1) none s.heap.size) args s 0 0 (va_A (WC q cA σ) s.heap.size)) (WC q cA τ) 136 [(0, .ref (q 1)), (1, .int (x1)), (2, .int (x2)), (5, .int (x5))] [] := by
    intro τ x1 x2 x5 h
    unfold X2_place_b136 at h
    refine ww_aload_n hx hb dX2_place_136 rfl 0 rfl ?_
    refine ww_get (C := RX2) (T := TX2) (N := 8) hx hb hown hts hK inA2 1 rfl rfl 1 (by decide) kw_48 rfl rfl dX2_place_137 ?_
    refine ww_iload_n hx hb dX2_place_140 rfl 2 rfl ?_
    refine ww_iload_n hx hb dX2_place_141 rfl 1 rfl ?_
    obtain ⟨σ_7, e_7, h⟩ := lt_e h
    refine ww_callN (ws1 := WC q cA σ_7) (st1 := []) hx hb hml hown hts hK hN hA (hDD _) (Nat.zero_le _) (Nat.zero_le _) [.ref (q 10), .int (x2), .int (x1)] [] (m_put (by decide) _ _ _ _ e_7) cs_X2_83 rfl (by decide) rfl (Nat.le_of_ble_eq_true rfl) dX2_place_142 rfl ?_
    refine ww_aload_n hx hb dX2_place_145 rfl 0 rfl ?_
    refine ww_get (C := RX2) (T := TX2) (N := 8) hx hb hown hts hK inA2 1 rfl rfl 2 (by decide) kw_47 rfl rfl dX2_place_146 ?_
    refine ww_iload_n hx hb dX2_place_149 rfl 1 rfl ?_
    refine ww_iload hx hb dX2_place_150 3 rfl ?_
    obtain ⟨σ_8, e_8, h⟩ := lt_e h
    refine ww_callN (ws1 := WC q cA σ_8) (st1 := []) hx hb hml hown hts hK hN hA (hDD _) (Nat.zero_le _) (Nat.zero_le _) [.ref (q 11), .int (x1), .int (x5)] [] (m_put (by decide) _ _ _ _ e_8) cs_X2_83 rfl (by decide) rfl (Nat.le_of_ble_eq_true rfl) dX2_place_152 rfl ?_
    obtain rfl := os1 h
    exact ww_vret hx hb hr hlk dX2_place_155
  have bk118 : ∀ (τ : SS) (x1 : Int32) (x2 : Int32) (x3 : Int32) (x4 : Int32), X2_place_b118 τ x1 x2 x3 x4 = some σ1 → WW p l e (rmc 3 120 0 0) s m args below meth c D vwCl (va_A (WC q cA σ) s.heap.size) 7 0 0 (MQ below (qcW D vwCl (WC q cA σ) (WC q cA σ1) none s.heap.size) args s 0 0 (va_A (WC q cA σ) s.heap.size)) (WC q cA τ) 118 [(0, .ref (q 1)), (1, .int (x1)), (2, .int (x2)), (3, .int (x3)), (4, .int (x4))] [] := by
    intro τ x1 x2 x3 x4 h
    unfold X2_place_b118 at h
    refine ww_iinc (i := 4) (k := 4) (v := 1) (lv1 := [(0, .ref (q 1)), (1, .int (x1)), (2, .int (x2)), (3, .int (x3)), (4, .int (x4 + 1))]) hx hb dX2_place_118 rfl (by decide) (by decide) [1, 2, 3, 4, 0] rfl ?_
    refine ww_aload_n hx hb dX2_place_121 rfl 0 rfl ?_
    refine ww_iload hx hb dX2_place_122 4 rfl ?_
    refine ww_callS (ws1 := WC q cA τ) (st1 := [.int (X2_startOf (x4 + 1)), .ref (q 1)]) hx hb hml hown hts hK hN hA (hDD _) (Nat.zero_le _) (Nat.zero_le _) [.int (x4 + 1)] [.ref (q 1)] (m_X2_startOf τ (x4 + 1)) cs_X2_151 rfl (by decide) rfl (Nat.le_of_ble_eq_true rfl) dX2_place_124 rfl ?_
    refine ww_iload_n hx hb dX2_place_127 rfl 1 rfl ?_
    refine ww_iload hx hb dX2_place_128 4 rfl ?_
    refine ww_iload_n hx hb dX2_place_130 rfl 3 rfl ?_
    obtain ⟨r_9, e_9, h⟩ := ob h
    refine ww_callV (ws1 := WC q cA τ) (st1 := [.int (r_9)]) hx hb hml hown hts hK hN hA (hDD _) (Nat.zero_le _) (Nat.zero_le _) [.int (X2_startOf (x4 + 1)), .int (x1), .int (x4 + 1), .int (x3)] [] (m_X2_beginFrom _ _ _ _ _ _ e_9) cs_X2_157 rfl (by decide) 1 rfl rfl rfl (Nat.le_of_ble_eq_true rfl) dX2_place_131 rfl ?_
    refine ww_istore (i := 5) (lv1 := [(0, .ref (q 1)), (1, .int (x1)), (2, .int (x2)), (5, .int (r_9))]) hx hb dX2_place_134 (by decide) [1, 2, 3, 0] rfl ?_
    exact ww_sub (lv1 := [(0, .ref (q 1)), (1, .int (x1)), (2, .int (x2)), (5, .int (r_9))]) [0, 1, 2, 3] rfl (bk136 _ _ _ _ h)
  have bk83 : ∀ (τ : SS) (x1 : Int32) (x2 : Int32) (x3 : Int32) (x4 : Int32) (x5 : Int32), X2_place_b83 τ x1 x2 x3 x4 x5 = some σ1 → WW p l e (rmc 3 120 0 0) s m args below meth c D vwCl (va_A (WC q cA σ) s.heap.size) 7 0 0 (MQ below (qcW D vwCl (WC q cA σ) (WC q cA σ1) none s.heap.size) args s 0 0 (va_A (WC q cA σ) s.heap.size)) (WC q cA τ) 83 [(0, .ref (q 1)), (1, .int (x1)), (2, .int (x2)), (3, .int (x3)), (4, .int (x4)), (5, .int (x5))] [] := by
    intro τ x1 x2 x3 x4 x5 h
    unfold X2_place_b83 at h
    refine ww_aload_n hx hb dX2_place_83 rfl 0 rfl ?_
    refine ww_iload hx hb dX2_place_84 5 rfl ?_
    refine ww_iload_n hx hb dX2_place_86 rfl 1 rfl ?_
    refine ww_iload hx hb dX2_place_87 4 rfl ?_
    refine ww_iload_n hx hb dX2_place_89 rfl 3 rfl ?_
    obtain ⟨r_3, e_3, h⟩ := ob h
    refine ww_callV (ws1 := WC q cA τ) (st1 := [.int (r_3)]) hx hb hml hown hts hK hN hA (hDD _) (Nat.zero_le _) (Nat.zero_le _) [.int (x5), .int (x1), .int (x4), .int (x3)] [] (m_X2_beginFrom _ _ _ _ _ _ e_3) cs_X2_157 rfl (by decide) 1 rfl rfl rfl (Nat.le_of_ble_eq_true rfl) dX2_place_90 rfl ?_
    refine ww_istore (i := 5) (lv1 := [(0, .ref (q 1)), (1, .int (x1)), (2, .int (x2)), (3, .int (x3)), (4, .int (x4)), (5, .int (r_3))]) hx hb dX2_place_93 (by decide) [1, 2, 3, 4, 5, 0] rfl ?_
    refine ww_aload_n hx hb dX2_place_95 rfl 0 rfl ?_
    refine ww_iload_n hx hb dX2_place_96 rfl 1 rfl ?_
    refine ww_iload hx hb dX2_place_97 5 rfl ?_
    refine ww_iload hx hb dX2_place_99 4 rfl ?_
    refine ww_callV (ws1 := WC q cA τ) (st1 := [.int (X2_endsInTime τ x1 r_3 x4)]) hx hb hml hown hts hK hN hA (hDD _) (Nat.zero_le _) (Nat.zero_le _) [.int (x1), .int (r_3), .int (x4)] [] (m_X2_endsInTime τ x1 r_3 x4) cs_X2_161 rfl (by decide) 1 rfl rfl rfl (Nat.le_of_ble_eq_true rfl) dX2_place_101 rfl ?_
    refine ww_eq0 (tgt := 118) hx hb dX2_place_104 (by decide) (fun c_4 => ?_) (fun c_4 => ?_)
    · replace h := it_p c_4 h
      exact ww_sub (lv1 := [(0, .ref (q 1)), (1, .int (x1)), (2, .int (x2)), (3, .int (x3)), (4, .int (x4))]) [0, 1, 2, 3, 4] rfl (bk118 _ _ _ _ _ h)
    · replace h := it_n c_4 h
      refine ww_aload_n hx hb dX2_place_107 rfl 0 rfl ?_
      refine ww_iload_n hx hb dX2_place_108 rfl 1 rfl ?_
      refine ww_iload hx hb dX2_place_109 4 rfl ?_
      refine ww_iload_n hx hb dX2_place_111 rfl 3 rfl ?_
      obtain ⟨r_5, e_5, h⟩ := ob h
      refine ww_callV (ws1 := WC q cA τ) (st1 := [.int (r_5)]) hx hb hml hown hts hK hN hA (hDD _) (Nat.zero_le _) (Nat.zero_le _) [.int (x1), .int (x4), .int (x3)] [] (m_X2_isFitForChildren _ _ _ _ _ e_5) cs_X2_164 rfl (by decide) 1 rfl rfl rfl (Nat.le_of_ble_eq_true rfl) dX2_place_112 rfl ?_
      refine ww_ne0 (tgt := 136) hx hb dX2_place_115 (by decide) (fun c_6 => ?_) (fun c_6 => ?_)
      · replace h := it_n c_6 h
        exact ww_sub (lv1 := [(0, .ref (q 1)), (1, .int (x1)), (2, .int (x2)), (5, .int (r_3))]) [0, 1, 2, 5] rfl (bk136 _ _ _ _ h)
      · replace h := it_p c_6 h
        exact ww_sub (lv1 := [(0, .ref (q 1)), (1, .int (x1)), (2, .int (x2)), (3, .int (x3)), (4, .int (x4))]) [0, 1, 2, 3, 4] rfl (bk118 _ _ _ _ _ h)
  have bk80 : ∀ (τ : SS) (x1 : Int32) (x2 : Int32) (x3 : Int32) (x4 : Int32) (y0 : Int32) (y1 : Int32), X2_place_b80 τ x1 x2 x3 x4 y0 y1 = some σ1 → WW p l e (rmc 3 120 0 0) s m args below meth c D vwCl (va_A (WC q cA σ) s.heap.size) 7 0 0 (MQ below (qcW D vwCl (WC q cA σ) (WC q cA σ1) none s.heap.size) args s 0 0 (va_A (WC q cA σ) s.heap.size)) (WC q cA τ) 80 [(0, .ref (q 1)), (1, .int (x1)), (2, .int (x2)), (3, .int (x3)), (4, .int (x4))] [.int (y1), .int (y0)] := by
    intro τ x1 x2 x3 x4 y0 y1 h
    unfold X2_place_b80 at h
    refine ww_iadd hx hb dX2_place_80 ?_
    refine ww_istore (i := 5) (lv1 := [(0, .ref (q 1)), (1, .int (x1)), (2, .int (x2)), (3, .int (x3)), (4, .int (x4)), (5, .int (y0 + y1))]) hx hb dX2_place_81 (by decide) [1, 2, 3, 4, 5, 0] rfl ?_
    exact ww_sub (lv1 := [(0, .ref (q 1)), (1, .int (x1)), (2, .int (x2)), (3, .int (x3)), (4, .int (x4)), (5, .int (y0 + y1))]) [0, 1, 2, 3, 4, 5] rfl (bk83 _ _ _ _ _ _ h)
  refine ww_sub (lv1 := [(0, .ref (q 1)), (1, .int (x1)), (2, .int (x2)), (3, .int (x3))]) [0, 1, 2, 3] rfl ?_
  refine ww_aload_n hx hb dX2_place_0 rfl 0 rfl ?_
  refine ww_get (C := RX2) (T := TX2) (N := 8) hx hb hown hts hK inA2 1 rfl rfl 6 (by decide) kw_54 rfl rfl dX2_place_1 ?_
  refine ww_istore (i := 4) (lv1 := [(0, .ref (q 1)), (1, .int (x1)), (2, .int (x2)), (3, .int (x3)), (4, .int (σ 1 6))]) hx hb dX2_place_4 (by decide) [1, 2, 3, 4, 0] rfl ?_
  refine ww_iload hx hb dX2_place_6 4 rfl ?_
  refine ww_callS (ws1 := WC q cA σ) (st1 := [.int (X2_startOf (σ 1 6))]) hx hb hml hown hts hK hN hA (hDD _) (Nat.zero_le _) (Nat.zero_le _) [.int (σ 1 6)] [] (m_X2_startOf σ (σ 1 6)) cs_X2_151 rfl (by decide) rfl (Nat.le_of_ble_eq_true rfl) dX2_place_8 rfl ?_
  refine ww_istore (i := 5) (lv1 := [(0, .ref (q 1)), (1, .int (x1)), (2, .int (x2)), (3, .int (x3)), (4, .int (σ 1 6)), (5, .int (X2_startOf (σ 1 6)))]) hx hb dX2_place_11 (by decide) [1, 2, 3, 4, 5, 0] rfl ?_
  refine ww_iload_n hx hb dX2_place_13 rfl 2 rfl ?_
  refine ww_le0 (tgt := 83) hx hb dX2_place_14 (by decide) (fun c_1 => ?_) (fun c_1 => ?_)
  · replace h := it_p c_1 h
    exact ww_sub (lv1 := [(0, .ref (q 1)), (1, .int (x1)), (2, .int (x2)), (3, .int (x3)), (4, .int (σ 1 6)), (5, .int (X2_startOf (σ 1 6)))]) [0, 1, 2, 3, 4, 5] rfl (bk83 _ _ _ _ _ _ h)
  · replace h := it_n c_1 h
    refine ww_aload_n hx hb dX2_place_17 rfl 0 rfl ?_
    refine ww_get (C := RX2) (T := TX2) (N := 8) hx hb hown hts hK inA2 1 rfl rfl 1 (by decide) kw_48 rfl rfl dX2_place_18 ?_
    refine ww_iload_n hx hb dX2_place_21 rfl 2 rfl ?_
    refine ww_iconst (v := 1) hx hb dX2_place_22 (by decide) ?_
    refine ww_isub hx hb dX2_place_23 ?_
    refine ww_callN (ws1 := WC q cA σ) (st1 := [.int (fat σ 10 8 (x2 - (1 : Int32)))]) hx hb hml hown hts hK hN hA (hDD _) (Nat.zero_le _) (Nat.zero_le _) [.ref (q 10), .int (x2 - (1 : Int32))] [] (m_at (by decide) σ (x2 - (1 : Int32))) cs_X2_54 rfl (by decide) rfl (Nat.le_of_ble_eq_true rfl) dX2_place_24 rfl ?_
    refine ww_istore (i := 6) (lv1 := [(0, .ref (q 1)), (1, .int (x1)), (2, .int (x2)), (3, .int (x3)), (6, .int (fat σ 10 8 (x2 - (1 : Int32))))]) hx hb dX2_place_27 (by decide) [1, 2, 3, 4, 0] rfl ?_
    refine ww_aload_n hx hb dX2_place_29 rfl 0 rfl ?_
    refine ww_get (C := RX2) (T := TX2) (N := 8) hx hb hown hts hK inA2 1 rfl rfl 2 (by decide) kw_47 rfl rfl dX2_place_30 ?_
    refine ww_iload hx hb dX2_place_33 4 rfl ?_
    refine ww_callN (ws1 := WC q cA σ) (st1 := [.int (fat σ 11 8 (fat σ 10 8 (x2 - (1 : Int32))))]) hx hb hml hown hts hK hN hA (hDD _) (Nat.zero_le _) (Nat.zero_le _) [.ref (q 11), .int (fat σ 10 8 (x2 - (1 : Int32)))] [] (m_at (by decide) σ (fat σ 10 8 (x2 - (1 : Int32)))) cs_X2_54 rfl (by decide) rfl (Nat.le_of_ble_eq_true rfl) dX2_place_35 rfl ?_
    refine ww_callS (ws1 := WC q cA σ) (st1 := [.int (X2_dayOf (fat σ 11 8 (fat σ 10 8 (x2 - (1 : Int32)))))]) hx hb hml hown hts hK hN hA (hDD _) (Nat.zero_le _) (Nat.zero_le _) [.int (fat σ 11 8 (fat σ 10 8 (x2 - (1 : Int32))))] [] (m_X2_dayOf σ (fat σ 11 8 (fat σ 10 8 (x2 - (1 : Int32))))) cs_X2_58 rfl (by decide) rfl (Nat.le_of_ble_eq_true rfl) dX2_place_38 rfl ?_
    refine ww_istore (i := 4) (lv1 := [(0, .ref (q 1)), (1, .int (x1)), (2, .int (x2)), (3, .int (x3)), (4, .int (X2_dayOf (fat σ 11 8 (fat σ 10 8 (x2 - (1 : Int32)))))), (6, .int (fat σ 10 8 (x2 - (1 : Int32))))]) hx hb dX2_place_41 (by decide) [1, 2, 3, 4, 0, 5] rfl ?_
    refine ww_aload_n hx hb dX2_place_43 rfl 0 rfl ?_
    refine ww_iload hx hb dX2_place_44 5 rfl ?_
    refine ww_callV (ws1 := WC q cA σ) (st1 := [.int (X2_endOf σ (fat σ 10 8 (x2 - (1 : Int32))))]) hx hb hml hown hts hK hN hA (hDD _) (Nat.zero_le _) (Nat.zero_le _) [.int (fat σ 10 8 (x2 - (1 : Int32)))] [] (m_X2_endOf σ (fat σ 10 8 (x2 - (1 : Int32)))) cs_X2_124 rfl (by decide) 1 rfl rfl rfl (Nat.le_of_ble_eq_true rfl) dX2_place_46 rfl ?_
    refine ww_aload_n hx hb dX2_place_49 rfl 0 rfl ?_
    refine ww_get (C := RX2) (T := TX2) (N := 8) hx hb hown hts hK inA2 1 rfl rfl 0 (by decide) kw_66 rfl rfl dX2_place_50 ?_
    refine ww_get (C := RX3) (T := TX3) (N := 9) hx hb hown hts hK inA3 2 rfl rfl 1 (by decide) kw_91 rfl rfl dX2_place_53 ?_
    refine ww_iload hx hb dX2_place_56 5 rfl ?_
    refine ww_callN (ws1 := WC q cA σ) (st1 := [.int (fat σ 6 8 (fat σ 10 8 (x2 - (1 : Int32)))), .int (X2_endOf σ (fat σ 10 8 (x2 - (1 : Int32))))]) hx hb hml hown hts hK hN hA (hDD _) (Nat.zero_le _) (Nat.zero_le _) [.ref (q 6), .int (fat σ 10 8 (x2 - (1 : Int32)))] [.int (X2_endOf σ (fat σ 10 8 (x2 - (1 : Int32))))] (m_at (by decide) σ (fat σ 10 8 (x2 - (1 : Int32)))) cs_X2_54 rfl (by decide) rfl (Nat.le_of_ble_eq_true rfl) dX2_place_58 rfl ?_
    refine ww_aload_n hx hb dX2_place_61 rfl 0 rfl ?_
    refine ww_get (C := RX2) (T := TX2) (N := 8) hx hb hown hts hK inA2 1 rfl rfl 0 (by decide) kw_66 rfl rfl dX2_place_62 ?_
    refine ww_get (C := RX3) (T := TX3) (N := 9) hx hb hown hts hK inA3 2 rfl rfl 1 (by decide) kw_91 rfl rfl dX2_place_65 ?_
    refine ww_iload_n hx hb dX2_place_68 rfl 1 rfl ?_
    refine ww_callN (ws1 := WC q cA σ) (st1 := [.int (fat σ 6 8 x1), .int (fat σ 6 8 (fat σ 10 8 (x2 - (1 : Int32)))), .int (X2_endOf σ (fat σ 10 8 (x2 - (1 : Int32))))]) hx hb hml hown hts hK hN hA (hDD _) (Nat.zero_le _) (Nat.zero_le _) [.ref (q 6), .int (x1)] [.int (fat σ 6 8 (fat σ 10 8 (x2 - (1 : Int32)))), .int (X2_endOf σ (fat σ 10 8 (x2 - (1 : Int32))))] (m_at (by decide) σ x1) cs_X2_54 rfl (by decide) rfl (Nat.le_of_ble_eq_true rfl) dX2_place_69 rfl ?_
    refine ww_ne2 (tgt := 79) hx hb dX2_place_72 (by decide) (fun c_2 => ?_) (fun c_2 => ?_)
    · replace h := it_n c_2 h
      refine ww_iconst (v := 1) hx hb dX2_place_79 (by decide) ?_
      exact ww_sub (lv1 := [(0, .ref (q 1)), (1, .int (x1)), (2, .int (x2)), (3, .int (x3)), (4, .int (X2_dayOf (fat σ 11 8 (fat σ 10 8 (x2 - (1 : Int32))))))]) [0, 1, 2, 3, 4] rfl (bk80 _ _ _ _ _ _ _ h)
    · replace h := it_p c_2 h
      refine ww_iconst (v := 0) hx hb dX2_place_75 (by decide) ?_
      refine ww_goto (tgt := 80) hx hb dX2_place_76 (by decide) ?_
      exact ww_sub (lv1 := [(0, .ref (q 1)), (1, .int (x1)), (2, .int (x2)), (3, .int (x3)), (4, .int (X2_dayOf (fat σ 11 8 (fat σ 10 8 (x2 - (1 : Int32))))))]) [0, 1, 2, 3, 4] rfl (bk80 _ _ _ _ _ _ _ h)
set_option maxHeartbeats 4000000 in
set_option maxRecDepth 100000 in
theorem m_X3_hoursOf (σ : SS) (x1 : Int32) (r : Int32) (h : X3_hoursOf σ x1 = some r) : Ct l yX3_hoursOf cX3_hoursOf 4 (some .int) 1 40 D vwCl [(cA, .int)] (WC q cA σ) (WC q cA σ) [.ref (q 2), .int (x1)] (some (.int r)) := by
  refine ct_of (by decide +kernel) (Nat.le_of_ble_eq_true rfl) ?_
  intro p e s m args below meth c hx hb hr hlk hml hown hts hK hD hN hA
  have hown : s.vm.findClass RX3 = some m.cls := hown
  have hDD : ∀ τ : SS, va_D (va_A (WC q cA σ) s.heap.size) (WC q cA τ) := fun τ => hD.adr rfl
  unfold X3_hoursOf at h
  have lp4 : ∀ (n : Nat) (x1 : Int32) (x2 : Int32) (x3 : Int32), X3_hoursOf_l4 n σ x1 x2 x3 = some r → WW p l e (rmc 1 40 0 0) s m args below meth c D vwCl (va_A (WC q cA σ) s.heap.size) 4 0 0 (MQ below (qcW D vwCl (WC q cA σ) (WC q cA σ) (some (.int r)) s.heap.size) args s 0 0 (va_A (WC q cA σ) s.heap.size)) (WC q cA σ) 4 [(0, .ref (q 2)), (1, .int (x1)), (2, .int (x2)), (3, .int (x3))] [] := by
    intro n
    induction n with
    | zero => intro x1 x2 x3 h; rw [X3_hoursOf_l4] at h; cases h
    | succ n ih =>
      have bk31 : ∀ (x1 : Int32) (x2 : Int32) (x3 : Int32), X3_hoursOf_b31 (X3_hoursOf_l4 n) σ x1 x2 x3 = some r → WW p l e (rmc 1 40 0 0) s m args below meth c D vwCl (va_A (WC q cA σ) s.heap.size) 4 0 0 (MQ below (qcW D vwCl (WC q cA σ) (WC q cA σ) (some (.int r)) s.heap.size) args s 0 0 (va_A (WC q cA σ) s.heap.size)) (WC q cA σ) 31 [(0, .ref (q 2)), (1, .int (x1)), (2, .int (x2)), (3, .int (x3))] [] := by
        intro x1 x2 x3 h
        unfold X3_hoursOf_b31 at h
        refine ww_iinc (i := 3) (k := 3) (v := 1) (lv1 := [(0, .ref (q 2)), (1, .int (x1)), (2, .int (x2)), (3, .int (x3 + 1))]) hx hb dX3_hoursOf_31 rfl (by decide) (by decide) [1, 2, 3, 0] rfl ?_
        refine ww_goto (tgt := 4) hx hb dX3_hoursOf_34 (by decide) ?_
        exact ww_sub (lv1 := [(0, .ref (q 2)), (1, .int (x1)), (2, .int (x2)), (3, .int (x3 + 1))]) [0, 1, 2, 3] rfl (ih _ _ _ h)
      intro x1 x2 x3 h
      rw [X3_hoursOf_l4] at h
      refine ww_iload_n hx hb dX3_hoursOf_4 rfl 3 rfl ?_
      refine ww_aload_n hx hb dX3_hoursOf_5 rfl 0 rfl ?_
      refine ww_get (C := RX3) (T := TX3) (N := 9) hx hb hown hts hK inA3 2 rfl rfl 5 (by decide) kw_0 rfl rfl dX3_hoursOf_6 ?_
      refine ww_ge2 (tgt := 37) hx hb dX3_hoursOf_9 (by decide) (fun c_1 => ?_) (fun c_1 => ?_)
      · replace h := it_p c_1 h
        refine ww_iload_n hx hb dX3_hoursOf_37 rfl 2 rfl ?_
        obtain rfl := os1 h
        exact ww_iret hx hb hr hlk rfl dX3_hoursOf_38
      · replace h := it_n c_1 h
        refine ww_iload_n hx hb dX3_hoursOf_12 rfl 1 rfl ?_
        refine ww_iload_n hx hb dX3_hoursOf_13 rfl 3 rfl ?_
        refine ww_callN (ws1 := WC q cA σ) (st1 := [.int (X4_isIn x1 x3)]) hx hb hml hown hts hK hN hA (hDD _) (Nat.zero_le _) (Nat.zero_le _) [.int (x1), .int (x3)] [] (m_X4_isIn σ x1 x3) cs_X3_44 rfl (by decide) rfl (Nat.le_of_ble_eq_true rfl) dX3_hoursOf_14 rfl ?_
        refine ww_eq0 (tgt := 31) hx hb dX3_hoursOf_17 (by decide) (fun c_2 => ?_) (fun c_2 => ?_)
        · replace h := it_p c_2 h
          exact ww_sub (lv1 := [(0, .ref (q 2)), (1, .int (x1)), (2, .int (x2)), (3, .int (x3))]) [0, 1, 2, 3] rfl (bk31 _ _ _ h)
        · replace h := it_n c_2 h
          refine ww_iload_n hx hb dX3_hoursOf_20 rfl 2 rfl ?_
          refine ww_aload_n hx hb dX3_hoursOf_21 rfl 0 rfl ?_
          refine ww_get (C := RX3) (T := TX3) (N := 9) hx hb hown hts hK inA3 2 rfl rfl 0 (by decide) kw_2 rfl rfl dX3_hoursOf_22 ?_
          refine ww_iload_n hx hb dX3_hoursOf_25 rfl 3 rfl ?_
          refine ww_callN (ws1 := WC q cA σ) (st1 := [.int (fat σ 5 8 x3), .int (x2)]) hx hb hml hown hts hK hN hA (hDD _) (Nat.zero_le _) (Nat.zero_le _) [.ref (q 5), .int (x3)] [.int (x2)] (m_at (by decide) σ x3) cs_X3_48 rfl (by decide) rfl (Nat.le_of_ble_eq_true rfl) dX3_hoursOf_26 rfl ?_
          refine ww_iadd hx hb dX3_hoursOf_29 ?_
          refine ww_istore_n (i := 2) (lv1 := [(0, .ref (q 2)), (1, .int (x1)), (2, .int (x2 + (fat σ 5 8 x3))), (3, .int (x3))]) hx hb dX3_hoursOf_30 rfl (by decide) [1, 2, 0, 3] rfl ?_
          exact ww_sub (lv1 := [(0, .ref (q 2)), (1, .int (x1)), (2, .int (x2 + (fat σ 5 8 x3))), (3, .int (x3))]) [0, 1, 2, 3] rfl (bk31 _ _ _ h)
  refine ww_sub (lv1 := [(0, .ref (q 2)), (1, .int (x1))]) [0, 1] rfl ?_
  refine ww_iconst (v := 0) hx hb dX3_hoursOf_0 (by decide) ?_
  refine ww_istore_n (i := 2) (lv1 := [(0, .ref (q 2)), (1, .int (x1)), (2, .int ((0 : Int32)))]) hx hb dX3_hoursOf_1 rfl (by decide) [1, 2, 0] rfl ?_
  refine ww_iconst (v := 0) hx hb dX3_hoursOf_2 (by decide) ?_
  refine ww_istore_n (i := 3) (lv1 := [(0, .ref (q 2)), (1, .int (x1)), (2, .int ((0 : Int32))), (3, .int ((0 : Int32)))]) hx hb dX3_hoursOf_3 rfl (by decide) [1, 2, 3, 0] rfl ?_
  exact ww_sub (lv1 := [(0, .ref (q 2)), (1, .int (x1)), (2, .int ((0 : Int32))), (3, .int ((0 : Int32)))]) [0, 1, 2, 3] rfl (lp4 _ _ _ _ h)
set_option maxHeartbeats 4000000 in
set_option maxRecDepth 100000 in
theorem m_X2_hoursIn (σ : SS) (x1 x2 : Int32) (r : Int32) (h : X2_hoursIn σ x1 x2 = some r) : Ct l yX2_hoursIn cX2_hoursIn 5 (some .int) 1 40 D vwCl [(cA, .int)] (WC q cA σ) (WC q cA σ) [.ref (q 1), .int (x1), .int (x2)] (some (.int r)) := by
  refine ct_of (by decide +kernel) (Nat.le_of_ble_eq_true rfl) ?_
  intro p e s m args below meth c hx hb hr hlk hml hown hts hK hD hN hA
  have hown : s.vm.findClass RX2 = some m.cls := hown
  have hDD : ∀ τ : SS, va_D (va_A (WC q cA σ) s.heap.size) (WC q cA τ) := fun τ => hD.adr rfl
  unfold X2_hoursIn at h
  have lp5 : ∀ (n : Nat) (x1 : Int32) (x2 : Int32) (x3 : Int32) (x4 : Int32), X2_hoursIn_l5 n σ x1 x2 x3 x4 = some r → WW p l e (rmc 1 40 0 0) s m args below meth c D vwCl (va_A (WC q cA σ) s.heap.size) 5 0 0 (MQ below (qcW D vwCl (WC q cA σ) (WC q cA σ) (some (.int r)) s.heap.size) args s 0 0 (va_A (WC q cA σ) s.heap.size)) (WC q cA σ) 5 [(0, .ref (q 1)), (1, .int (x1)), (2, .int (x2)), (3, .int (x3)), (4, .int (x4))] [] := by
    intro n
    induction n with
    | zero => intro x1 x2 x3 x4 h; rw [X2_hoursIn_l5] at h; cases h
    | succ n ih =>
      have bk57 : ∀ (x1 : Int32) (x2 : Int32) (x3 : Int32) (x4 : Int32), X2_hoursIn_b57 (X2_hoursIn_l5 n) σ x1 x2 x3 x4 = some r → WW p l e (rmc 1 40 0 0) s m args below meth c D vwCl (va_A (WC q cA σ) s.heap.size) 5 0 0 (MQ below (qcW D vwCl (WC q cA σ) (WC q cA σ) (some (.int r)) s.heap.size) args s 0 0 (va_A (WC q cA σ) s.heap.size)) (WC q cA σ) 57 [(0, .ref (q 1)), (1, .int (x1)), (2, .int (x2)), (3, .int (x3)), (4, .int (x4))] [] := by
        intro x1 x2 x3 x4 h
        unfold X2_hoursIn_b57 at h
        refine ww_iinc (i := 4) (k := 4) (v := 1) (lv1 := [(0, .ref (q 1)), (1, .int (x1)), (2, .int (x2)), (3, .int (x3)), (4, .int (x4 + 1))]) hx hb dX2_hoursIn_57 rfl (by decide) (by decide) [1, 2, 3, 4, 0] rfl ?_
        refine ww_goto (tgt := 5) hx hb dX2_hoursIn_60 (by decide) ?_
        exact ww_sub (lv1 := [(0, .ref (q 1)), (1, .int (x1)), (2, .int (x2)), (3, .int (x3)), (4, .int (x4 + 1))]) [0, 1, 2, 3, 4] rfl (ih _ _ _ _ h)
      intro x1 x2 x3 x4 h
      rw [X2_hoursIn_l5] at h
      refine ww_iload hx hb dX2_hoursIn_5 4 rfl ?_
      refine ww_aload_n hx hb dX2_hoursIn_7 rfl 0 rfl ?_
      refine ww_get (C := RX2) (T := TX2) (N := 8) hx hb hown hts hK inA2 1 rfl rfl 0 (by decide) kw_66 rfl rfl dX2_hoursIn_8 ?_
      refine ww_get (C := RX3) (T := TX3) (N := 9) hx hb hown hts hK inA3 2 rfl rfl 5 (by decide) kw_73 rfl rfl dX2_hoursIn_11 ?_
      refine ww_ge2 (tgt := 63) hx hb dX2_hoursIn_14 (by decide) (fun c_1 => ?_) (fun c_1 => ?_)
      · replace h := it_p c_1 h
        refine ww_iload_n hx hb dX2_hoursIn_63 rfl 3 rfl ?_
        obtain rfl := os1 h
        exact ww_iret hx hb hr hlk rfl dX2_hoursIn_64
      · replace h := it_n c_1 h
        refine ww_iload_n hx hb dX2_hoursIn_17 rfl 1 rfl ?_
        refine ww_iload hx hb dX2_hoursIn_18 4 rfl ?_
        refine ww_callN (ws1 := WC q cA σ) (st1 := [.int (X4_isIn x1 x4)]) hx hb hml hown hts hK hN hA (hDD _) (Nat.zero_le _) (Nat.zero_le _) [.int (x1), .int (x4)] [] (m_X4_isIn σ x1 x4) cs_X2_80 rfl (by decide) rfl (Nat.le_of_ble_eq_true rfl) dX2_hoursIn_20 rfl ?_
        refine ww_eq0 (tgt := 57) hx hb dX2_hoursIn_23 (by decide) (fun c_2 => ?_) (fun c_2 => ?_)
        · replace h := it_p c_2 h
          exact ww_sub (lv1 := [(0, .ref (q 1)), (1, .int (x1)), (2, .int (x2)), (3, .int (x3)), (4, .int (x4))]) [0, 1, 2, 3, 4] rfl (bk57 _ _ _ _ h)
        · replace h := it_n c_2 h
          refine ww_aload_n hx hb dX2_hoursIn_26 rfl 0 rfl ?_
          refine ww_get (C := RX2) (T := TX2) (N := 8) hx hb hown hts hK inA2 1 rfl rfl 0 (by decide) kw_66 rfl rfl dX2_hoursIn_27 ?_
          refine ww_get (C := RX3) (T := TX3) (N := 9) hx hb hown hts hK inA3 2 rfl rfl 3 (by decide) kw_68 rfl rfl dX2_hoursIn_30 ?_
          refine ww_iload hx hb dX2_hoursIn_33 4 rfl ?_
          refine ww_callN (ws1 := WC q cA σ) (st1 := [.int (fat σ 8 8 x4)]) hx hb hml hown hts hK hN hA (hDD _) (Nat.zero_le _) (Nat.zero_le _) [.ref (q 8), .int (x4)] [] (m_at (by decide) σ x4) cs_X2_54 rfl (by decide) rfl (Nat.le_of_ble_eq_true rfl) dX2_hoursIn_35 rfl ?_
          refine ww_iload_n hx hb dX2_hoursIn_38 rfl 2 rfl ?_
          refine ww_ne2 (tgt := 57) hx hb dX2_hoursIn_39 (by decide) (fun c_3 => ?_) (fun c_3 => ?_)
          · replace h := it_n c_3 h
            exact ww_sub (lv1 := [(0, .ref (q 1)), (1, .int (x1)), (2, .int (x2)), (3, .int (x3)), (4, .int (x4))]) [0, 1, 2, 3, 4] rfl (bk57 _ _ _ _ h)
          · replace h := it_p c_3 h
            refine ww_iload_n hx hb dX2_hoursIn_42 rfl 3 rfl ?_
            refine ww_aload_n hx hb dX2_hoursIn_43 rfl 0 rfl ?_
            refine ww_get (C := RX2) (T := TX2) (N := 8) hx hb hown hts hK inA2 1 rfl rfl 0 (by decide) kw_66 rfl rfl dX2_hoursIn_44 ?_
            refine ww_get (C := RX3) (T := TX3) (N := 9) hx hb hown hts hK inA3 2 rfl rfl 0 (by decide) kw_67 rfl rfl dX2_hoursIn_47 ?_
            refine ww_iload hx hb dX2_hoursIn_50 4 rfl ?_
            refine ww_callN (ws1 := WC q cA σ) (st1 := [.int (fat σ 5 8 x4), .int (x3)]) hx hb hml hown hts hK hN hA (hDD _) (Nat.zero_le _) (Nat.zero_le _) [.ref (q 5), .int (x4)] [.int (x3)] (m_at (by decide) σ x4) cs_X2_54 rfl (by decide) rfl (Nat.le_of_ble_eq_true rfl) dX2_hoursIn_52 rfl ?_
            refine ww_iadd hx hb dX2_hoursIn_55 ?_
            refine ww_istore_n (i := 3) (lv1 := [(0, .ref (q 1)), (1, .int (x1)), (2, .int (x2)), (3, .int (x3 + (fat σ 5 8 x4))), (4, .int (x4))]) hx hb dX2_hoursIn_56 rfl (by decide) [1, 2, 3, 0, 4] rfl ?_
            exact ww_sub (lv1 := [(0, .ref (q 1)), (1, .int (x1)), (2, .int (x2)), (3, .int (x3 + (fat σ 5 8 x4))), (4, .int (x4))]) [0, 1, 2, 3, 4] rfl (bk57 _ _ _ _ h)
  refine ww_sub (lv1 := [(0, .ref (q 1)), (1, .int (x1)), (2, .int (x2))]) [0, 1, 2] rfl ?_
  refine ww_iconst (v := 0) hx hb dX2_hoursIn_0 (by decide) ?_
  refine ww_istore_n (i := 3) (lv1 := [(0, .ref (q 1)), (1, .int (x1)), (2, .int (x2)), (3, .int ((0 : Int32)))]) hx hb dX2_hoursIn_1 rfl (by decide) [1, 2, 3, 0] rfl ?_
  refine ww_iconst (v := 0) hx hb dX2_hoursIn_2 (by decide) ?_
  refine ww_istore (i := 4) (lv1 := [(0, .ref (q 1)), (1, .int (x1)), (2, .int (x2)), (3, .int ((0 : Int32))), (4, .int ((0 : Int32)))]) hx hb dX2_hoursIn_3 (by decide) [1, 2, 3, 4, 0] rfl ?_
  exact ww_sub (lv1 := [(0, .ref (q 1)), (1, .int (x1)), (2, .int (x2)), (3, .int ((0 : Int32))), (4, .int ((0 : Int32)))]) [0, 1, 2, 3, 4] rfl (lp5 _ _ _ _ _ h)
set_option maxHeartbeats 4000000 in
set_option maxRecDepth 100000 in
theorem m_X2_hasRoom (σ : SS) (x1 x2 x3 : Int32) (r : Int32) (h : X2_hasRoom σ x1 x2 x3 = some r) : Ct l yX2_hasRoom cX2_hasRoom 5 (some .boolean) 2 80 D vwCl [(cA, .int)] (WC q cA σ) (WC q cA σ) [.ref (q 1), .int (x1), .int (x2), .int (x3)] (some (.int r)) := by
  refine ct_of (by decide +kernel) (Nat.le_of_ble_eq_true rfl) ?_
  intro p e s m args below meth c hx hb hr hlk hml hown hts hK hD hN hA
  have hown : s.vm.findClass RX2 = some m.cls := hown
  have hDD : ∀ τ : SS, va_D (va_A (WC q cA σ) s.heap.size) (WC q cA τ) := fun τ => hD.adr rfl
  unfold X2_hasRoom at h
  refine ww_sub (lv1 := [(0, .ref (q 1)), (1, .int (x1)), (2, .int (x2)), (3, .int (x3))]) [0, 1, 2, 3] rfl ?_
  refine ww_aload_n hx hb dX2_hasRoom_0 rfl 0 rfl ?_
  refine ww_iload_n hx hb dX2_hasRoom_1 rfl 2 rfl ?_
  refine ww_callV (ws1 := WC q cA σ) (st1 := [.int (X2_endOf σ x2)]) hx hb hml hown hts hK hN hA (hDD _) (Nat.zero_le _) (Nat.zero_le _) [.int (x2)] [] (m_X2_endOf σ x2) cs_X2_124 rfl (by decide) 1 rfl rfl rfl (Nat.le_of_ble_eq_true rfl) dX2_hasRoom_2 rfl ?_
  refine ww_bipush (v := 24) hx hb dX2_hasRoom_5 (by decide) ?_
  refine ww_aload_n hx hb dX2_hasRoom_7 rfl 0 rfl ?_
  refine ww_get (C := RX2) (T := TX2) (N := 8) hx hb hown hts hK inA2 1 rfl rfl 2 (by decide) kw_47 rfl rfl dX2_hasRoom_8 ?_
  refine ww_iload_n hx hb dX2_hasRoom_11 rfl 2 rfl ?_
  refine ww_callN (ws1 := WC q cA σ) (st1 := [.int (fat σ 11 8 x2), .int ((24 : Int32)), .int (X2_endOf σ x2)]) hx hb hml hown hts hK hN hA (hDD _) (Nat.zero_le _) (Nat.zero_le _) [.ref (q 11), .int (x2)] [.int ((24 : Int32)), .int (X2_endOf σ x2)] (m_at (by decide) σ x2) cs_X2_54 rfl (by decide) rfl (Nat.le_of_ble_eq_true rfl) dX2_hasRoom_12 rfl ?_
  refine ww_callS (ws1 := WC q cA σ) (st1 := [.int (X2_dayOf (fat σ 11 8 x2)), .int ((24 : Int32)), .int (X2_endOf σ x2)]) hx hb hml hown hts hK hN hA (hDD _) (Nat.zero_le _) (Nat.zero_le _) [.int (fat σ 11 8 x2)] [.int ((24 : Int32)), .int (X2_endOf σ x2)] (m_X2_dayOf σ (fat σ 11 8 x2)) cs_X2_58 rfl (by decide) rfl (Nat.le_of_ble_eq_true rfl) dX2_hasRoom_15 rfl ?_
  refine ww_imul hx hb dX2_hasRoom_18 ?_
  refine ww_isub hx hb dX2_hasRoom_19 ?_
  refine ww_istore (i := 4) (lv1 := [(0, .ref (q 1)), (1, .int (x1)), (3, .int (x3)), (4, .int ((X2_endOf σ x2) - ((24 : Int32) * (X2_dayOf (fat σ 11 8 x2)))))]) hx hb dX2_hasRoom_20 (by decide) [1, 2, 4, 0] rfl ?_
  refine ww_aload_n hx hb dX2_hasRoom_22 rfl 0 rfl ?_
  refine ww_get (C := RX2) (T := TX2) (N := 8) hx hb hown hts hK inA2 1 rfl rfl 0 (by decide) kw_66 rfl rfl dX2_hasRoom_23 ?_
  refine ww_iload_n hx hb dX2_hasRoom_26 rfl 1 rfl ?_
  obtain ⟨r_1, e_1, h⟩ := ob h
  refine ww_callV (ws1 := WC q cA σ) (st1 := [.int (r_1)]) hx hb hml hown hts hK hN hA (hDD _) (Nat.zero_le _) (Nat.zero_le _) [.int (x1)] [] (m_X3_hoursOf _ _ _ e_1) cs_X2_127 rfl (by decide) 2 rfl rfl rfl (Nat.le_of_ble_eq_true rfl) dX2_hasRoom_27 rfl ?_
  refine ww_bipush (v := 24) hx hb dX2_hasRoom_30 (by decide) ?_
  refine ww_iload hx hb dX2_hasRoom_32 3 rfl ?_
  refine ww_isub hx hb dX2_hasRoom_34 ?_
  refine ww_iload_n hx hb dX2_hasRoom_35 rfl 2 rfl ?_
  refine ww_bipush (v := 16) hx hb dX2_hasRoom_36 (by decide) ?_
  refine ww_imul hx hb dX2_hasRoom_38 ?_
  refine ww_iadd hx hb dX2_hasRoom_39 ?_
  refine ww_gt2 (tgt := 94) hx hb dX2_hasRoom_40 (by decide) (fun c_2 => ?_) (fun c_2 => ?_)
  · replace h := it_p c_2 h
    refine ww_iconst (v := 0) hx hb dX2_hasRoom_94 (by decide) ?_
    obtain rfl := os1 h
    exact ww_zret hx hb hr hlk (by decide) rfl dX2_hasRoom_95
  · replace h := it_n c_2 h
    refine ww_aload_n hx hb dX2_hasRoom_43 rfl 0 rfl ?_
    refine ww_iload_n hx hb dX2_hasRoom_44 rfl 1 rfl ?_
    refine ww_iconst (v := 1) hx hb dX2_hasRoom_45 (by decide) ?_
    obtain ⟨r_3, e_3, h⟩ := ob h
    refine ww_callV (ws1 := WC q cA σ) (st1 := [.int (r_3)]) hx hb hml hown hts hK hN hA (hDD _) (Nat.zero_le _) (Nat.zero_le _) [.int (x1), .int ((1 : Int32))] [] (m_X2_hoursIn _ _ _ _ e_3) cs_X2_130 rfl (by decide) 1 rfl rfl rfl (Nat.le_of_ble_eq_true rfl) dX2_hasRoom_46 rfl ?_
    refine ww_iconst (v := 0) hx hb dX2_hasRoom_49 (by decide) ?_
    refine ww_bipush (v := 18) hx hb dX2_hasRoom_50 (by decide) ?_
    refine ww_iload hx hb dX2_hasRoom_52 3 rfl ?_
    refine ww_isub hx hb dX2_hasRoom_54 ?_
    refine ww_max hx hb hml hown hts (Nat.zero_le _) (Nat.zero_le _) kw_69 kw_70 kw_71 kw_72 ⟨Nat.le_of_ble_eq_true rfl, Nat.le_of_ble_eq_true rfl⟩ dX2_hasRoom_55 ?_
    refine ww_iload_n hx hb dX2_hasRoom_58 rfl 2 rfl ?_
    refine ww_bipush (v := 10) hx hb dX2_hasRoom_59 (by decide) ?_
    refine ww_imul hx hb dX2_hasRoom_61 ?_
    refine ww_iadd hx hb dX2_hasRoom_62 ?_
    refine ww_gt2 (tgt := 94) hx hb dX2_hasRoom_63 (by decide) (fun c_4 => ?_) (fun c_4 => ?_)
    · replace h := it_p c_4 h
      refine ww_iconst (v := 0) hx hb dX2_hasRoom_94 (by decide) ?_
      obtain rfl := os1 h
      exact ww_zret hx hb hr hlk (by decide) rfl dX2_hasRoom_95
    · replace h := it_n c_4 h
      refine ww_aload_n hx hb dX2_hasRoom_66 rfl 0 rfl ?_
      refine ww_iload_n hx hb dX2_hasRoom_67 rfl 1 rfl ?_
      refine ww_iconst (v := 2) hx hb dX2_hasRoom_68 (by decide) ?_
      obtain ⟨r_5, e_5, h⟩ := ob h
      refine ww_callV (ws1 := WC q cA σ) (st1 := [.int (r_5)]) hx hb hml hown hts hK hN hA (hDD _) (Nat.zero_le _) (Nat.zero_le _) [.int (x1), .int ((2 : Int32))] [] (m_X2_hoursIn _ _ _ _ e_5) cs_X2_130 rfl (by decide) 1 rfl rfl rfl (Nat.le_of_ble_eq_true rfl) dX2_hasRoom_69 rfl ?_
      refine ww_bipush (v := 24) hx hb dX2_hasRoom_72 (by decide) ?_
      refine ww_bipush (v := 18) hx hb dX2_hasRoom_74 (by decide) ?_
      refine ww_iload hx hb dX2_hasRoom_76 3 rfl ?_
      refine ww_max hx hb hml hown hts (Nat.zero_le _) (Nat.zero_le _) kw_69 kw_70 kw_71 kw_72 ⟨Nat.le_of_ble_eq_true rfl, Nat.le_of_ble_eq_true rfl⟩ dX2_hasRoom_78 ?_
      refine ww_isub hx hb dX2_hasRoom_81 ?_
      refine ww_iload_n hx hb dX2_hasRoom_82 rfl 2 rfl ?_
      refine ww_bipush (v := 6) hx hb dX2_hasRoom_83 (by decide) ?_
      refine ww_imul hx hb dX2_hasRoom_85 ?_
      refine ww_iadd hx hb dX2_hasRoom_86 ?_
      refine ww_gt2 (tgt := 94) hx hb dX2_hasRoom_87 (by decide) (fun c_6 => ?_) (fun c_6 => ?_)
      · replace h := it_p c_6 h
        refine ww_iconst (v := 0) hx hb dX2_hasRoom_94 (by decide) ?_
        obtain rfl := os1 h
        exact ww_zret hx hb hr hlk (by decide) rfl dX2_hasRoom_95
      · replace h := it_n c_6 h
        refine ww_iconst (v := 1) hx hb dX2_hasRoom_90 (by decide) ?_
        refine ww_goto (tgt := 95) hx hb dX2_hasRoom_91 (by decide) ?_
        obtain rfl := os1 h
        exact ww_zret hx hb hr hlk (by decide) rfl dX2_hasRoom_95
set_option maxHeartbeats 4000000 in
set_option maxRecDepth 100000 in
theorem m_X2_hasRoomForChildren (σ : SS) (x1 x2 x3 x4 : Int32) (r : Int32) (h : X2_hasRoomForChildren σ x1 x2 x3 x4 = some r) : Ct l yX2_hasRoomForChildren cX2_hasRoomForChildren 7 (some .boolean) 2 80 D vwCl [(cA, .int)] (WC q cA σ) (WC q cA σ) [.ref (q 1), .int (x1), .int (x2), .int (x3), .int (x4)] (some (.int r)) := by
  refine ct_of (by decide +kernel) (Nat.le_of_ble_eq_true rfl) ?_
  intro p e s m args below meth c hx hb hr hlk hml hown hts hK hD hN hA
  have hown : s.vm.findClass RX2 = some m.cls := hown
  have hDD : ∀ τ : SS, va_D (va_A (WC q cA σ) s.heap.size) (WC q cA τ) := fun τ => hD.adr rfl
  unfold X2_hasRoomForChildren at h
  have lp16 : ∀ (n : Nat) (x1 : Int32) (x2 : Int32) (x4 : Int32) (x5 : Int32) (x6 : Int32), X2_hasRoomForChildren_l16 n σ x1 x2 x4 x5 x6 = some r → WW p l e (rmc 2 80 0 0) s m args below meth c D vwCl (va_A (WC q cA σ) s.heap.size) 7 0 0 (MQ below (qcW D vwCl (WC q cA σ) (WC q cA σ) (some (.int r)) s.heap.size) args s 0 0 (va_A (WC q cA σ) s.heap.size)) (WC q cA σ) 16 [(0, .ref (q 1)), (1, .int (x1)), (2, .int (x2)), (4, .int (x4)), (5, .int (x5)), (6, .int (x6))] [] := by
    intro n
    induction n with
    | zero => intro x1 x2 x4 x5 x6 h; rw [X2_hasRoomForChildren_l16] at h; cases h
    | succ n ih =>
      have bk71 : ∀ (x1 : Int32) (x2 : Int32) (x4 : Int32) (x5 : Int32) (x6 : Int32), X2_hasRoomForChildren_b71 (X2_hasRoomForChildren_l16 n) σ x1 x2 x4 x5 x6 = some r → WW p l e (rmc 2 80 0 0) s m args below meth c D vwCl (va_A (WC q cA σ) s.heap.size) 7 0 0 (MQ below (qcW D vwCl (WC q cA σ) (WC q cA σ) (some (.int r)) s.heap.size) args s 0 0 (va_A (WC q cA σ) s.heap.size)) (WC q cA σ) 71 [(0, .ref (q 1)), (1, .int (x1)), (2, .int (x2)), (4, .int (x4)), (5, .int (x5)), (6, .int (x6))] [] := by
        intro x1 x2 x4 x5 x6 h
        unfold X2_hasRoomForChildren_b71 at h
        refine ww_iinc (i := 6) (k := 5) (v := 1) (lv1 := [(0, .ref (q 1)), (1, .int (x1)), (2, .int (x2)), (4, .int (x4)), (5, .int (x5)), (6, .int (x6 + 1))]) hx hb dX2_hasRoomForChildren_71 rfl (by decide) (by decide) [1, 2, 3, 4, 5, 0] rfl ?_
        refine ww_goto (tgt := 16) hx hb dX2_hasRoomForChildren_74 (by decide) ?_
        exact ww_sub (lv1 := [(0, .ref (q 1)), (1, .int (x1)), (2, .int (x2)), (4, .int (x4)), (5, .int (x5)), (6, .int (x6 + 1))]) [0, 1, 2, 3, 4, 5] rfl (ih _ _ _ _ _ h)
      intro x1 x2 x4 x5 x6 h
      rw [X2_hasRoomForChildren_l16] at h
      refine ww_iload hx hb dX2_hasRoomForChildren_16 5 rfl ?_
      refine ww_bipush (v := 6) hx hb dX2_hasRoomForChildren_18 (by decide) ?_
      refine ww_ge2 (tgt := 77) hx hb dX2_hasRoomForChildren_20 (by decide) (fun c_1 => ?_) (fun c_1 => ?_)
      · replace h := it_p c_1 h
        refine ww_iconst (v := 1) hx hb dX2_hasRoomForChildren_77 (by decide) ?_
        obtain rfl := os1 h
        exact ww_zret hx hb hr hlk (by decide) rfl dX2_hasRoomForChildren_78
      · replace h := it_n c_1 h
        refine ww_aload_n hx hb dX2_hasRoomForChildren_23 rfl 0 rfl ?_
        refine ww_get (C := RX2) (T := TX2) (N := 8) hx hb hown hts hK inA2 1 rfl rfl 0 (by decide) kw_66 rfl rfl dX2_hasRoomForChildren_24 ?_
        refine ww_get (C := RX3) (T := TX3) (N := 9) hx hb hown hts hK inA3 2 rfl rfl 8 (by decide) kw_79 rfl rfl dX2_hasRoomForChildren_27 ?_
        refine ww_iload hx hb dX2_hasRoomForChildren_30 5 rfl ?_
        refine ww_callN (ws1 := WC q cA σ) (st1 := [.int (X4_isIn (σ 2 8) x6)]) hx hb hml hown hts hK hN hA (hDD _) (Nat.zero_le _) (Nat.zero_le _) [.int (σ 2 8), .int (x6)] [] (m_X4_isIn σ (σ 2 8) x6) cs_X2_80 rfl (by decide) rfl (Nat.le_of_ble_eq_true rfl) dX2_hasRoomForChildren_32 rfl ?_
        refine ww_eq0 (tgt := 71) hx hb dX2_hasRoomForChildren_35 (by decide) (fun c_2 => ?_) (fun c_2 => ?_)
        · replace h := it_p c_2 h
          exact ww_sub (lv1 := [(0, .ref (q 1)), (1, .int (x1)), (2, .int (x2)), (4, .int (x4)), (5, .int (x5)), (6, .int (x6))]) [0, 1, 2, 3, 4, 5] rfl (bk71 _ _ _ _ _ h)
        · replace h := it_n c_2 h
          refine ww_aload_n hx hb dX2_hasRoomForChildren_38 rfl 0 rfl ?_
          refine ww_iload hx hb dX2_hasRoomForChildren_39 5 rfl ?_
          refine ww_iload_n hx hb dX2_hasRoomForChildren_41 rfl 1 rfl ?_
          obtain ⟨r_3, e_3, h⟩ := ob h
          refine ww_callV (ws1 := WC q cA σ) (st1 := [.int (r_3)]) hx hb hml hown hts hK hN hA (hDD _) (Nat.zero_le _) (Nat.zero_le _) [.int (x6), .int (x1)] [] (m_X2_hoursFor _ _ _ _ e_3) cs_X2_139 rfl (by decide) 1 rfl rfl rfl (Nat.le_of_ble_eq_true rfl) dX2_hasRoomForChildren_42 rfl ?_
          refine ww_bipush (v := 6) hx hb dX2_hasRoomForChildren_45 (by decide) ?_
          refine ww_iload hx hb dX2_hasRoomForChildren_47 3 rfl ?_
          refine ww_iconst (v := 1) hx hb dX2_hasRoomForChildren_49 (by decide) ?_
          refine ww_iadd hx hb dX2_hasRoomForChildren_50 ?_
          refine ww_imul hx hb dX2_hasRoomForChildren_51 ?_
          refine ww_aload_n hx hb dX2_hasRoomForChildren_52 rfl 0 rfl ?_
          refine ww_iload hx hb dX2_hasRoomForChildren_53 5 rfl ?_
          refine ww_aload_n hx hb dX2_hasRoomForChildren_55 rfl 0 rfl ?_
          refine ww_iload hx hb dX2_hasRoomForChildren_56 4 rfl ?_
          refine ww_iload_n hx hb dX2_hasRoomForChildren_58 rfl 2 rfl ?_
          obtain ⟨r_4, e_4, h⟩ := ob h
          refine ww_callV (ws1 := WC q cA σ) (st1 := [.int (r_4), .int (x6), .ref (q 1), .int ((6 : Int32) * (x4 + (1 : Int32))), .int (r_3)]) hx hb hml hown hts hK hN hA (hDD _) (Nat.zero_le _) (Nat.zero_le _) [.int (x5), .int (x2)] [.int (x6), .ref (q 1), .int ((6 : Int32) * (x4 + (1 : Int32))), .int (r_3)] (m_X2_placedOn _ _ _ _ e_4) cs_X2_142 rfl (by decide) 1 rfl rfl rfl (Nat.le_of_ble_eq_true rfl) dX2_hasRoomForChildren_59 rfl ?_
          obtain ⟨r_5, e_5, h⟩ := ob h
          refine ww_callV (ws1 := WC q cA σ) (st1 := [.int (r_5), .int ((6 : Int32) * (x4 + (1 : Int32))), .int (r_3)]) hx hb hml hown hts hK hN hA (hDD _) (Nat.zero_le _) (Nat.zero_le _) [.int (x6), .int (r_4)] [.int ((6 : Int32) * (x4 + (1 : Int32))), .int (r_3)] (m_X2_hoursFor _ _ _ _ e_5) cs_X2_139 rfl (by decide) 1 rfl rfl rfl (Nat.le_of_ble_eq_true rfl) dX2_hasRoomForChildren_62 rfl ?_
          refine ww_isub hx hb dX2_hasRoomForChildren_65 ?_
          refine ww_le2 (tgt := 71) hx hb dX2_hasRoomForChildren_66 (by decide) (fun c_6 => ?_) (fun c_6 => ?_)
          · replace h := it_p c_6 h
            exact ww_sub (lv1 := [(0, .ref (q 1)), (1, .int (x1)), (2, .int (x2)), (4, .int (x4)), (5, .int (x5)), (6, .int (x6))]) [0, 1, 2, 3, 4, 5] rfl (bk71 _ _ _ _ _ h)
          · replace h := it_n c_6 h
            refine ww_iconst (v := 0) hx hb dX2_hasRoomForChildren_69 (by decide) ?_
            obtain rfl := os1 h
            exact ww_zret hx hb hr hlk (by decide) rfl dX2_hasRoomForChildren_70
  refine ww_sub (lv1 := [(0, .ref (q 1)), (1, .int (x1)), (2, .int (x2)), (3, .int (x3)), (4, .int (x4))]) [0, 1, 2, 3, 4] rfl ?_
  refine ww_aload_n hx hb dX2_hasRoomForChildren_0 rfl 0 rfl ?_
  refine ww_get (C := RX2) (T := TX2) (N := 8) hx hb hown hts hK inA2 1 rfl rfl 2 (by decide) kw_47 rfl rfl dX2_hasRoomForChildren_1 ?_
  refine ww_iload_n hx hb dX2_hasRoomForChildren_4 rfl 3 rfl ?_
  refine ww_callN (ws1 := WC q cA σ) (st1 := [.int (fat σ 11 8 x3)]) hx hb hml hown hts hK hN hA (hDD _) (Nat.zero_le _) (Nat.zero_le _) [.ref (q 11), .int (x3)] [] (m_at (by decide) σ x3) cs_X2_54 rfl (by decide) rfl (Nat.le_of_ble_eq_true rfl) dX2_hasRoomForChildren_5 rfl ?_
  refine ww_callS (ws1 := WC q cA σ) (st1 := [.int (X2_dayOf (fat σ 11 8 x3))]) hx hb hml hown hts hK hN hA (hDD _) (Nat.zero_le _) (Nat.zero_le _) [.int (fat σ 11 8 x3)] [] (m_X2_dayOf σ (fat σ 11 8 x3)) cs_X2_58 rfl (by decide) rfl (Nat.le_of_ble_eq_true rfl) dX2_hasRoomForChildren_8 rfl ?_
  refine ww_istore (i := 5) (lv1 := [(0, .ref (q 1)), (1, .int (x1)), (2, .int (x2)), (4, .int (x4)), (5, .int (X2_dayOf (fat σ 11 8 x3)))]) hx hb dX2_hasRoomForChildren_11 (by decide) [1, 2, 3, 5, 0] rfl ?_
  refine ww_iconst (v := 0) hx hb dX2_hasRoomForChildren_13 (by decide) ?_
  refine ww_istore (i := 6) (lv1 := [(0, .ref (q 1)), (1, .int (x1)), (2, .int (x2)), (4, .int (x4)), (5, .int (X2_dayOf (fat σ 11 8 x3))), (6, .int ((0 : Int32)))]) hx hb dX2_hasRoomForChildren_14 (by decide) [1, 2, 3, 4, 5, 0] rfl ?_
  exact ww_sub (lv1 := [(0, .ref (q 1)), (1, .int (x1)), (2, .int (x2)), (4, .int (x4)), (5, .int (X2_dayOf (fat σ 11 8 x3))), (6, .int ((0 : Int32)))]) [0, 1, 2, 3, 4, 5] rfl (lp16 _ _ _ _ _ _ h)
set_option maxHeartbeats 4000000 in
set_option maxRecDepth 100000 in
theorem m_X2_canBeBetter (σ : SS) (x1 x2 : Int32) (r : Int32) (h : X2_canBeBetter σ x1 x2 = some r) : Ct l yX2_canBeBetter cX2_canBeBetter 6 (some .boolean) 3 120 D vwCl [(cA, .int)] (WC q cA σ) (WC q cA σ) [.ref (q 1), .int (x1), .int (x2)] (some (.int r)) := by
  refine ct_of (by decide +kernel) (Nat.le_of_ble_eq_true rfl) ?_
  intro p e s m args below meth c hx hb hr hlk hml hown hts hK hD hN hA
  have hown : s.vm.findClass RX2 = some m.cls := hown
  have hDD : ∀ τ : SS, va_D (va_A (WC q cA σ) s.heap.size) (WC q cA τ) := fun τ => hD.adr rfl
  unfold X2_canBeBetter at h
  refine ww_sub (lv1 := [(0, .ref (q 1)), (1, .int (x1)), (2, .int (x2))]) [0, 1, 2] rfl ?_
  refine ww_aload_n hx hb dX2_canBeBetter_0 rfl 0 rfl ?_
  refine ww_get (C := RX2) (T := TX2) (N := 8) hx hb hown hts hK inA2 1 rfl rfl 5 (by decide) kw_59 rfl rfl dX2_canBeBetter_1 ?_
  refine ww_iconst (v := 1) hx hb dX2_canBeBetter_4 (by decide) ?_
  refine ww_isub hx hb dX2_canBeBetter_5 ?_
  refine ww_aload_n hx hb dX2_canBeBetter_6 rfl 0 rfl ?_
  refine ww_iload_n hx hb dX2_canBeBetter_7 rfl 1 rfl ?_
  refine ww_callV (ws1 := WC q cA σ) (st1 := [.int (X2_daysUpTo σ x1), .int ((σ 1 5) - (1 : Int32))]) hx hb hml hown hts hK hN hA (hDD _) (Nat.zero_le _) (Nat.zero_le _) [.int (x1)] [.int ((σ 1 5) - (1 : Int32))] (m_X2_daysUpTo σ x1) cs_X2_107 rfl (by decide) 1 rfl rfl rfl (Nat.le_of_ble_eq_true rfl) dX2_canBeBetter_8 rfl ?_
  refine ww_isub hx hb dX2_canBeBetter_11 ?_
  refine ww_istore_n (i := 3) (lv1 := [(0, .ref (q 1)), (1, .int (x1)), (2, .int (x2)), (3, .int (((σ 1 5) - (1 : Int32)) - (X2_daysUpTo σ x1)))]) hx hb dX2_canBeBetter_12 rfl (by decide) [1, 2, 3, 0] rfl ?_
  refine ww_aload_n hx hb dX2_canBeBetter_13 rfl 0 rfl ?_
  refine ww_get (C := RX2) (T := TX2) (N := 8) hx hb hown hts hK inA2 1 rfl rfl 1 (by decide) kw_48 rfl rfl dX2_canBeBetter_14 ?_
  refine ww_iload_n hx hb dX2_canBeBetter_17 rfl 1 rfl ?_
  refine ww_iconst (v := 1) hx hb dX2_canBeBetter_18 (by decide) ?_
  refine ww_isub hx hb dX2_canBeBetter_19 ?_
  refine ww_callN (ws1 := WC q cA σ) (st1 := [.int (fat σ 10 8 (x1 - (1 : Int32)))]) hx hb hml hown hts hK hN hA (hDD _) (Nat.zero_le _) (Nat.zero_le _) [.ref (q 10), .int (x1 - (1 : Int32))] [] (m_at (by decide) σ (x1 - (1 : Int32))) cs_X2_54 rfl (by decide) rfl (Nat.le_of_ble_eq_true rfl) dX2_canBeBetter_20 rfl ?_
  refine ww_istore (i := 4) (lv1 := [(0, .ref (q 1)), (2, .int (x2)), (3, .int (((σ 1 5) - (1 : Int32)) - (X2_daysUpTo σ x1))), (4, .int (fat σ 10 8 (x1 - (1 : Int32))))]) hx hb dX2_canBeBetter_23 (by decide) [1, 3, 4, 0] rfl ?_
  refine ww_aload_n hx hb dX2_canBeBetter_25 rfl 0 rfl ?_
  refine ww_get (C := RX2) (T := TX2) (N := 8) hx hb hown hts hK inA2 1 rfl rfl 0 (by decide) kw_66 rfl rfl dX2_canBeBetter_26 ?_
  refine ww_callV (ws1 := WC q cA σ) (st1 := [.int (X3_everyScene σ)]) hx hb hml hown hts hK hN hA (hDD _) (Nat.zero_le _) (Nat.zero_le _) [] [] (m_X3_everyScene σ) cs_X2_90 rfl (by decide) 2 rfl rfl rfl (Nat.le_of_ble_eq_true rfl) dX2_canBeBetter_29 rfl ?_
  refine ww_iload_n hx hb dX2_canBeBetter_32 rfl 1 rfl ?_
  refine ww_iconst (v := -1) hx hb dX2_canBeBetter_33 (by decide) ?_
  refine ww_ixor hx hb dX2_canBeBetter_34 ?_
  refine ww_iand hx hb dX2_canBeBetter_35 ?_
  refine ww_istore (i := 5) (lv1 := [(0, .ref (q 1)), (2, .int (x2)), (3, .int (((σ 1 5) - (1 : Int32)) - (X2_daysUpTo σ x1))), (4, .int (fat σ 10 8 (x1 - (1 : Int32)))), (5, .int ((X3_everyScene σ) &&& (x2 ^^^ (-1 : Int32))))]) hx hb dX2_canBeBetter_36 (by decide) [1, 2, 3, 4, 0] rfl ?_
  refine ww_iload_n hx hb dX2_canBeBetter_38 rfl 2 rfl ?_
  refine ww_lt0 (tgt := 71) hx hb dX2_canBeBetter_39 (by decide) (fun c_1 => ?_) (fun c_1 => ?_)
  · replace h := it_p c_1 h
    refine ww_iconst (v := 0) hx hb dX2_canBeBetter_71 (by decide) ?_
    obtain rfl := os1 h
    exact ww_zret hx hb hr hlk (by decide) rfl dX2_canBeBetter_72
  · replace h := it_n c_1 h
    refine ww_aload_n hx hb dX2_canBeBetter_42 rfl 0 rfl ?_
    refine ww_iload hx hb dX2_canBeBetter_43 4 rfl ?_
    refine ww_iload hx hb dX2_canBeBetter_45 3 rfl ?_
    refine ww_iload_n hx hb dX2_canBeBetter_47 rfl 2 rfl ?_
    obtain ⟨r_2, e_2, h⟩ := ob h
    refine ww_callV (ws1 := WC q cA σ) (st1 := [.int (r_2)]) hx hb hml hown hts hK hN hA (hDD _) (Nat.zero_le _) (Nat.zero_le _) [.int ((X3_everyScene σ) &&& (x2 ^^^ (-1 : Int32))), .int (fat σ 10 8 (x1 - (1 : Int32))), .int (((σ 1 5) - (1 : Int32)) - (X2_daysUpTo σ x1))] [] (m_X2_hasRoom _ _ _ _ _ e_2) cs_X2_116 rfl (by decide) 1 rfl rfl rfl (Nat.le_of_ble_eq_true rfl) dX2_canBeBetter_48 rfl ?_
    refine ww_eq0 (tgt := 71) hx hb dX2_canBeBetter_51 (by decide) (fun c_3 => ?_) (fun c_3 => ?_)
    · replace h := it_p c_3 h
      refine ww_iconst (v := 0) hx hb dX2_canBeBetter_71 (by decide) ?_
      obtain rfl := os1 h
      exact ww_zret hx hb hr hlk (by decide) rfl dX2_canBeBetter_72
    · replace h := it_n c_3 h
      refine ww_aload_n hx hb dX2_canBeBetter_54 rfl 0 rfl ?_
      refine ww_iload hx hb dX2_canBeBetter_55 4 rfl ?_
      refine ww_iload_n hx hb dX2_canBeBetter_57 rfl 1 rfl ?_
      refine ww_iload hx hb dX2_canBeBetter_58 3 rfl ?_
      refine ww_iload_n hx hb dX2_canBeBetter_60 rfl 2 rfl ?_
      obtain ⟨r_4, e_4, h⟩ := ob h
      refine ww_callV (ws1 := WC q cA σ) (st1 := [.int (r_4)]) hx hb hml hown hts hK hN hA (hDD _) (Nat.zero_le _) (Nat.zero_le _) [.int ((X3_everyScene σ) &&& (x2 ^^^ (-1 : Int32))), .int (x2), .int (fat σ 10 8 (x1 - (1 : Int32))), .int (((σ 1 5) - (1 : Int32)) - (X2_daysUpTo σ x1))] [] (m_X2_hasRoomForChildren _ _ _ _ _ _ e_4) cs_X2_120 rfl (by decide) 1 rfl rfl rfl (Nat.le_of_ble_eq_true rfl) dX2_canBeBetter_61 rfl ?_
      refine ww_eq0 (tgt := 71) hx hb dX2_canBeBetter_64 (by decide) (fun c_5 => ?_) (fun c_5 => ?_)
      · replace h := it_p c_5 h
        refine ww_iconst (v := 0) hx hb dX2_canBeBetter_71 (by decide) ?_
        obtain rfl := os1 h
        exact ww_zret hx hb hr hlk (by decide) rfl dX2_canBeBetter_72
      · replace h := it_n c_5 h
        refine ww_iconst (v := 1) hx hb dX2_canBeBetter_67 (by decide) ?_
        refine ww_goto (tgt := 72) hx hb dX2_canBeBetter_68 (by decide) ?_
        obtain rfl := os1 h
        exact ww_zret hx hb hr hlk (by decide) rfl dX2_canBeBetter_72
set_option maxHeartbeats 4000000 in
set_option maxRecDepth 100000 in
theorem m_X2_tryOrders : ∀ (d : Nat) (σ : SS) (x1 x2 : Int32) (σ1 : SS) (h : X2_tryOrders d σ x1 x2 = some σ1), Ct l yX2_tryOrders cX2_tryOrders 5 none (4 + d) (160 + 40 * d) D vwCl [(cA, .int)] (WC q cA σ) (WC q cA σ1) [.ref (q 1), .int (x1), .int (x2)] none := by
  intro d
  induction d with
  | zero => intro σ x1 x2 σ1 h; rw [X2_tryOrders] at h; cases h
  | succ d hrec =>
    intro σ x1 x2 σ1 h
    refine ct_of (by decide +kernel) (Nat.le_of_ble_eq_true rfl) ?_
    intro p e s m args below meth c hx hb hr hlk hml hown hts hK hD hN hA
    have hown : s.vm.findClass RX2 = some m.cls := hown
    have hDD : ∀ τ : SS, va_D (va_A (WC q cA σ) s.heap.size) (WC q cA τ) := fun τ => hD.adr rfl
    rw [X2_tryOrders] at h
    have lp25 : ∀ (n : Nat) (τ : SS) (x1 : Int32) (x2 : Int32) (x3 : Int32), X2_tryOrders_l25 (X2_tryOrders d) n τ x1 x2 x3 = some σ1 → WW p l e (rmc (4 + (d + 1)) (160 + 40 * (d + 1)) 0 0) s m args below meth c D vwCl (va_A (WC q cA σ) s.heap.size) 5 0 0 (MQ below (qcW D vwCl (WC q cA σ) (WC q cA σ1) none s.heap.size) args s 0 0 (va_A (WC q cA σ) s.heap.size)) (WC q cA τ) 25 [(0, .ref (q 1)), (1, .int (x1)), (2, .int (x2)), (3, .int (x3))] [] := by
      intro n
      induction n with
      | zero => intro τ x1 x2 x3 h; rw [X2_tryOrders_l25] at h; cases h
      | succ n ih =>
        have bk84 : ∀ (τ : SS) (x1 : Int32) (x2 : Int32) (x3 : Int32), X2_tryOrders_b84 (X2_tryOrders d) (X2_tryOrders_l25 (X2_tryOrders d) n) τ x1 x2 x3 = some σ1 → WW p l e (rmc (4 + (d + 1)) (160 + 40 * (d + 1)) 0 0) s m args below meth c D vwCl (va_A (WC q cA σ) s.heap.size) 5 0 0 (MQ below (qcW D vwCl (WC q cA σ) (WC q cA σ1) none s.heap.size) args s 0 0 (va_A (WC q cA σ) s.heap.size)) (WC q cA τ) 84 [(0, .ref (q 1)), (1, .int (x1)), (2, .int (x2)), (3, .int (x3))] [] := by
          intro τ x1 x2 x3 h
          unfold X2_tryOrders_b84 at h
          refine ww_iinc (i := 3) (k := 3) (v := 1) (lv1 := [(0, .ref (q 1)), (1, .int (x1)), (2, .int (x2)), (3, .int (x3 + 1))]) hx hb dX2_tryOrders_84 rfl (by decide) (by decide) [1, 2, 3, 0] rfl ?_
          refine ww_goto (tgt := 25) hx hb dX2_tryOrders_87 (by decide) ?_
          exact ww_sub (lv1 := [(0, .ref (q 1)), (1, .int (x1)), (2, .int (x2)), (3, .int (x3 + 1))]) [0, 1, 2, 3] rfl (ih _ _ _ _ h)
        intro τ x1 x2 x3 h
        rw [X2_tryOrders_l25] at h
        refine ww_iload_n hx hb dX2_tryOrders_25 rfl 3 rfl ?_
        refine ww_aload_n hx hb dX2_tryOrders_26 rfl 0 rfl ?_
        refine ww_get (C := RX2) (T := TX2) (N := 8) hx hb hown hts hK inA2 1 rfl rfl 0 (by decide) kw_66 rfl rfl dX2_tryOrders_27 ?_
        refine ww_get (C := RX3) (T := TX3) (N := 9) hx hb hown hts hK inA3 2 rfl rfl 5 (by decide) kw_73 rfl rfl dX2_tryOrders_30 ?_
        refine ww_ge2 (tgt := 90) hx hb dX2_tryOrders_33 (by decide) (fun c_3 => ?_) (fun c_3 => ?_)
        · replace h := it_p c_3 h
          obtain rfl := os1 h
          exact ww_vret hx hb hr hlk dX2_tryOrders_90
        · replace h := it_n c_3 h
          refine ww_aload_n hx hb dX2_tryOrders_36 rfl 0 rfl ?_
          refine ww_get (C := RX2) (T := TX2) (N := 8) hx hb hown hts hK inA2 1 rfl rfl 0 (by decide) kw_66 rfl rfl dX2_tryOrders_37 ?_
          refine ww_iload_n hx hb dX2_tryOrders_40 rfl 3 rfl ?_
          refine ww_iload_n hx hb dX2_tryOrders_41 rfl 2 rfl ?_
          refine ww_callV (ws1 := WC q cA τ) (st1 := [.int (X3_canFollow τ x3 x2)]) hx hb hml hown hts hK hN hA (hDD _) (Nat.zero_le _) (Nat.zero_le _) [.int (x3), .int (x2)] [] (m_X3_canFollow τ x3 x2) cs_X2_97 rfl ⟨by show _ ≤ _ + (_ + 1); omega, by show _ ≤ _ + 40 * (_ + 1); omega⟩ 2 rfl rfl rfl (Nat.le_of_ble_eq_true rfl) dX2_tryOrders_42 rfl ?_
          refine ww_eq0 (tgt := 84) hx hb dX2_tryOrders_45 (by decide) (fun c_4 => ?_) (fun c_4 => ?_)
          · replace h := it_p c_4 h
            exact ww_sub (lv1 := [(0, .ref (q 1)), (1, .int (x1)), (2, .int (x2)), (3, .int (x3))]) [0, 1, 2, 3] rfl (bk84 _ _ _ _ h)
          · replace h := it_n c_4 h
            refine ww_aload_n hx hb dX2_tryOrders_48 rfl 0 rfl ?_
            refine ww_iload_n hx hb dX2_tryOrders_49 rfl 3 rfl ?_
            refine ww_iload_n hx hb dX2_tryOrders_50 rfl 1 rfl ?_
            refine ww_iload_n hx hb dX2_tryOrders_51 rfl 2 rfl ?_
            obtain ⟨σ_5, e_5, h⟩ := ob h
            refine ww_callV (ws1 := WC q cA σ_5) (st1 := []) hx hb hml hown hts hK hN hA (hDD _) (Nat.zero_le _) (Nat.zero_le _) [.int (x3), .int (x1), .int (x2)] [] (m_X2_place _ _ _ _ _ e_5) cs_X2_100 rfl ⟨by show _ ≤ _ + (_ + 1); omega, by show _ ≤ _ + 40 * (_ + 1); omega⟩ 1 rfl rfl rfl (Nat.le_of_ble_eq_true rfl) dX2_tryOrders_52 rfl ?_
            refine ww_iload_n hx hb dX2_tryOrders_55 rfl 2 rfl ?_
            refine ww_iload_n hx hb dX2_tryOrders_56 rfl 3 rfl ?_
            refine ww_iconst (v := 1) hx hb dX2_tryOrders_57 (by decide) ?_
            refine ww_callN (ws1 := WC q cA σ_5) (st1 := [.int (X4_with x2 x3 (1 : Int32))]) hx hb hml hown hts hK hN hA (hDD _) (Nat.zero_le _) (Nat.zero_le _) [.int (x2), .int (x3), .int ((1 : Int32))] [] (m_X4_with σ_5 x2 x3 (1 : Int32)) cs_X2_73 rfl ⟨by show _ ≤ _ + (_ + 1); omega, by show _ ≤ _ + 40 * (_ + 1); omega⟩ rfl (Nat.le_of_ble_eq_true rfl) dX2_tryOrders_58 rfl ?_
            refine ww_istore (i := 4) (lv1 := [(0, .ref (q 1)), (1, .int (x1)), (2, .int (x2)), (3, .int (x3)), (4, .int (X4_with x2 x3 (1 : Int32)))]) hx hb dX2_tryOrders_61 (by decide) [1, 2, 3, 4, 0] rfl ?_
            refine ww_aload_n hx hb dX2_tryOrders_63 rfl 0 rfl ?_
            refine ww_iload_n hx hb dX2_tryOrders_64 rfl 1 rfl ?_
            refine ww_iconst (v := 1) hx hb dX2_tryOrders_65 (by decide) ?_
            refine ww_iadd hx hb dX2_tryOrders_66 ?_
            refine ww_iload hx hb dX2_tryOrders_67 4 rfl ?_
            obtain ⟨r_6, e_6, h⟩ := ob h
            refine ww_callV (ws1 := WC q cA σ_5) (st1 := [.int (r_6)]) hx hb hml hown hts hK hN hA (hDD _) (Nat.zero_le _) (Nat.zero_le _) [.int (x1 + (1 : Int32)), .int (X4_with x2 x3 (1 : Int32))] [] (m_X2_canBeBetter _ _ _ _ e_6) cs_X2_104 rfl ⟨by show _ ≤ _ + (_ + 1); omega, by show _ ≤ _ + 40 * (_ + 1); omega⟩ 1 rfl rfl rfl (Nat.le_of_ble_eq_true rfl) dX2_tryOrders_69 rfl ?_
            refine ww_eq0 (tgt := 84) hx hb dX2_tryOrders_72 (by decide) (fun c_7 => ?_) (fun c_7 => ?_)
            · replace h := it_p c_7 h
              exact ww_sub (lv1 := [(0, .ref (q 1)), (1, .int (x1)), (2, .int (x2)), (3, .int (x3))]) [0, 1, 2, 3] rfl (bk84 _ _ _ _ h)
            · replace h := it_n c_7 h
              refine ww_aload_n hx hb dX2_tryOrders_75 rfl 0 rfl ?_
              refine ww_iload_n hx hb dX2_tryOrders_76 rfl 1 rfl ?_
              refine ww_iconst (v := 1) hx hb dX2_tryOrders_77 (by decide) ?_
              refine ww_iadd hx hb dX2_tryOrders_78 ?_
              refine ww_iload hx hb dX2_tryOrders_79 4 rfl ?_
              obtain ⟨σ_8, e_8, h⟩ := ob h
              refine ww_callS (ws1 := WC q cA σ_8) (st1 := []) hx hb hml hown hts hK hN hA (hDD _) (Nat.zero_le _) (Nat.zero_le _) [.ref (q 1), .int (x1 + (1 : Int32)), .int (X4_with x2 x3 (1 : Int32))] [] (hrec _ _ _ _ e_8) cs_X2_42 rfl ⟨by show _ ≤ _ + (_ + 1); omega, by show _ ≤ _ + 40 * (_ + 1); omega⟩ rfl (Nat.le_of_ble_eq_true rfl) dX2_tryOrders_81 rfl ?_
              exact ww_sub (lv1 := [(0, .ref (q 1)), (1, .int (x1)), (2, .int (x2)), (3, .int (x3))]) [0, 1, 2, 3] rfl (bk84 _ _ _ _ h)
    have bk17 : ∀ (τ : SS) (x1 : Int32), X2_tryOrders_b17 (X2_tryOrders d) τ x1 = some σ1 → WW p l e (rmc (4 + (d + 1)) (160 + 40 * (d + 1)) 0 0) s m args below meth c D vwCl (va_A (WC q cA σ) s.heap.size) 5 0 0 (MQ below (qcW D vwCl (WC q cA σ) (WC q cA σ1) none s.heap.size) args s 0 0 (va_A (WC q cA σ) s.heap.size)) (WC q cA τ) 17 [(0, .ref (q 1)), (1, .int (x1))] [] := by
      intro τ x1 h
      unfold X2_tryOrders_b17 at h
      refine ww_aload_n hx hb dX2_tryOrders_17 rfl 0 rfl ?_
      refine ww_iload_n hx hb dX2_tryOrders_18 rfl 1 rfl ?_
      obtain ⟨σ_9, e_9, h⟩ := ob h
      refine ww_callV (ws1 := WC q cA σ_9) (st1 := []) hx hb hml hown hts hK hN hA (hDD _) (Nat.zero_le _) (Nat.zero_le _) [.int (x1)] [] (m_X2_keepIfBetter _ _ _ e_9) cs_X2_93 rfl ⟨by show _ ≤ _ + (_ + 1); omega, by show _ ≤ _ + 40 * (_ + 1); omega⟩ 1 rfl rfl rfl (Nat.le_of_ble_eq_true rfl) dX2_tryOrders_19 rfl ?_
      obtain rfl := os1 h
      exact ww_vret hx hb hr hlk dX2_tryOrders_22
    refine ww_sub (lv1 := [(0, .ref (q 1)), (1, .int (x1)), (2, .int (x2))]) [0, 1, 2] rfl ?_
    refine ww_iload_n hx hb dX2_tryOrders_0 rfl 2 rfl ?_
    refine ww_aload_n hx hb dX2_tryOrders_1 rfl 0 rfl ?_
    refine ww_get (C := RX2) (T := TX2) (N := 8) hx hb hown hts hK inA2 1 rfl rfl 0 (by decide) kw_66 rfl rfl dX2_tryOrders_2 ?_
    refine ww_callV (ws1 := WC q cA σ) (st1 := [.int (X3_everyScene σ), .int (x2)]) hx hb hml hown hts hK hN hA (hDD _) (Nat.zero_le _) (Nat.zero_le _) [] [.int (x2)] (m_X3_everyScene σ) cs_X2_90 rfl ⟨by show _ ≤ _ + (_ + 1); omega, by show _ ≤ _ + 40 * (_ + 1); omega⟩ 2 rfl rfl rfl (Nat.le_of_ble_eq_true rfl) dX2_tryOrders_5 rfl ?_
    refine ww_eq2 (tgt := 17) hx hb dX2_tryOrders_8 (by decide) (fun c_1 => ?_) (fun c_1 => ?_)
    · replace h := it_p c_1 h
      exact ww_sub (lv1 := [(0, .ref (q 1)), (1, .int (x1))]) [0, 1] rfl (bk17 _ _ h)
    · replace h := it_n c_1 h
      refine ww_iload_n hx hb dX2_tryOrders_11 rfl 1 rfl ?_
      refine ww_bipush (v := 8) hx hb dX2_tryOrders_12 (by decide) ?_
      refine ww_lt2 (tgt := 23) hx hb dX2_tryOrders_14 (by decide) (fun c_2 => ?_) (fun c_2 => ?_)
      · replace h := it_p c_2 h
        refine ww_iconst (v := 0) hx hb dX2_tryOrders_23 (by decide) ?_
        refine ww_istore_n (i := 3) (lv1 := [(0, .ref (q 1)), (1, .int (x1)), (2, .int (x2)), (3, .int ((0 : Int32)))]) hx hb dX2_tryOrders_24 rfl (by decide) [1, 2, 3, 0] rfl ?_
        exact ww_sub (lv1 := [(0, .ref (q 1)), (1, .int (x1)), (2, .int (x2)), (3, .int ((0 : Int32)))]) [0, 1, 2, 3] rfl (lp25 _ _ _ _ _ h)
      · replace h := it_n c_2 h
        exact ww_sub (lv1 := [(0, .ref (q 1)), (1, .int (x1))]) [0, 1] rfl (bk17 _ _ h)
set_option maxHeartbeats 4000000 in
set_option maxRecDepth 100000 in
theorem m_X2_makePlan (σ : SS) (σ1 : SS) (h : X2_makePlan σ = some σ1) : Ct l yX2_makePlan cX2_makePlan 1 none 21 840 D vwCl [(cA, .int)] (WC q cA σ) (WC q cA σ1) [.ref (q 1)] none := by
  refine ct_of (by decide +kernel) (Nat.le_of_ble_eq_true rfl) ?_
  intro p e s m args below meth c hx hb hr hlk hml hown hts hK hD hN hA
  have hown : s.vm.findClass RX2 = some m.cls := hown
  have hDD : ∀ τ : SS, va_D (va_A (WC q cA σ) s.heap.size) (WC q cA τ) := fun τ => hD.adr rfl
  unfold X2_makePlan at h
  refine ww_sub (lv1 := [(0, .ref (q 1))]) [0] rfl ?_
  refine ww_aload_n hx hb dX2_makePlan_0 rfl 0 rfl ?_
  refine ww_get (C := RX2) (T := TX2) (N := 8) hx hb hown hts hK inA2 1 rfl rfl 7 (by decide) kw_1 rfl rfl dX2_makePlan_1 ?_
  refine ww_ne0 (tgt := 30) hx hb dX2_makePlan_4 (by decide) (fun c_1 => ?_) (fun c_1 => ?_)
  · replace h := it_n c_1 h
    obtain rfl := os1 h
    exact ww_vret hx hb hr hlk dX2_makePlan_30
  · replace h := it_p c_1 h
    refine ww_aload_n hx hb dX2_makePlan_7 rfl 0 rfl ?_
    refine ww_bipush (v := 9) hx hb dX2_makePlan_8 (by decide) ?_
    obtain ⟨σ_2, e_2, h⟩ := lt_e h
    refine ww_put (C := RX2) (T := TX2) (N := 8) (ty := .int) (ws1 := WC q cA (σ_2)) hx hb hown hts hK inA2 tyX2 tyX2_ok nmX2 (hDD _) 1 rfl rfl 5 (by decide) kw_59 rfl rfl rfl rfl rfl (Nat.le_of_ble_eq_true rfl) dX2_makePlan_10 (e_2 ▸ rfl) ?_
    refine ww_aload_n hx hb dX2_makePlan_13 rfl 0 rfl ?_
    refine ww_iconst (v := 0) hx hb dX2_makePlan_14 (by decide) ?_
    refine ww_aload_n hx hb dX2_makePlan_15 rfl 0 rfl ?_
    refine ww_get (C := RX2) (T := TX2) (N := 8) hx hb hown hts hK inA2 1 rfl rfl 0 (by decide) kw_66 rfl rfl dX2_makePlan_16 ?_
    refine ww_get (C := RX3) (T := TX3) (N := 9) hx hb hown hts hK inA3 2 rfl rfl 6 (by decide) kw_140 rfl rfl dX2_makePlan_19 ?_
    obtain ⟨σ_3, e_3, h⟩ := ob h
    refine ww_callS (ws1 := WC q cA σ_3) (st1 := []) hx hb hml hown hts hK hN hA (hDD _) (Nat.zero_le _) (Nat.zero_le _) [.ref (q 1), .int ((0 : Int32)), .int (σ_2 2 6)] [] (m_X2_tryOrders 16 _ _ _ _ e_3) cs_X2_42 rfl (by decide) rfl (Nat.le_of_ble_eq_true rfl) dX2_makePlan_22 rfl ?_
    refine ww_aload_n hx hb dX2_makePlan_25 rfl 0 rfl ?_
    refine ww_iconst (v := 1) hx hb dX2_makePlan_26 (by decide) ?_
    obtain ⟨σ_4, e_4, h⟩ := lt_e h
    refine ww_put (C := RX2) (T := TX2) (N := 8) (ty := .boolean) (ws1 := WC q cA (σ_4)) hx hb hown hts hK inA2 tyX2 tyX2_ok nmX2 (hDD _) 1 rfl rfl 7 (by decide) kw_1 rfl rfl rfl (isZ_narrow (by decide)) (isZ_fits (by decide)) (Nat.le_of_ble_eq_true rfl) dX2_makePlan_27 (e_4 ▸ rfl) ?_
    obtain rfl := os1 h
    exact ww_vret hx hb hr hlk dX2_makePlan_30
set_option maxHeartbeats 4000000 in
set_option maxRecDepth 100000 in
theorem m_J6_bitCount (σ : SS) (x0 : Int32) : Ct l yJ6_bitCount_0f7a4 cJ6_bitCount_0f7a4 1 (some .int) 0 0 D vwCl [(cA, .int)] (WC q cA σ) (WC q cA σ) [.int (x0)] (some (.int (J6_bitCount x0))) := by
  refine ct_of (by decide +kernel) (Nat.le_of_ble_eq_true rfl) ?_
  intro p e s m args below meth c hx hb hr hlk hml hown hts hK hD hN hA
  have hown : s.vm.findClass RJ6 = some m.cls := hown
  have hDD : ∀ τ : SS, va_D (va_A (WC q cA σ) s.heap.size) (WC q cA τ) := fun τ => hD.adr rfl
  obtain ⟨r, h⟩ : ∃ r, J6_bitCount x0 = r := ⟨_, rfl⟩
  rw [h]
  unfold J6_bitCount at h
  have bk48 : ∀ (x0 : Int32), J6_bitCount_b48  x0 = r → WW p l e (rmc 0 0 0 0) s m args below meth c D vwCl (va_A (WC q cA σ) s.heap.size) 1 0 0 (MQ below (qcW D vwCl (WC q cA σ) (WC q cA σ) (some (.int r)) s.heap.size) args s 0 0 (va_A (WC q cA σ) s.heap.size)) (WC q cA σ) 48 [(0, .int (x0))] [] := by
    intro x0 h
    unfold J6_bitCount_b48 at h
    refine ww_iload_n hx hb dJ6_bitCount_0f7a4_48 rfl 0 rfl ?_
    refine ww_bipush (v := 63) hx hb dJ6_bitCount_0f7a4_49 (by decide) ?_
    refine ww_iand hx hb dJ6_bitCount_0f7a4_51 ?_
    obtain rfl := h
    exact ww_iret hx hb hr hlk rfl dJ6_bitCount_0f7a4_52
  have bk41 : ∀ (x0 : Int32), J6_bitCount_b41  x0 = r → WW p l e (rmc 0 0 0 0) s m args below meth c D vwCl (va_A (WC q cA σ) s.heap.size) 1 0 0 (MQ below (qcW D vwCl (WC q cA σ) (WC q cA σ) (some (.int r)) s.heap.size) args s 0 0 (va_A (WC q cA σ) s.heap.size)) (WC q cA σ) 41 [(0, .int (x0))] [] := by
    intro x0 h
    unfold J6_bitCount_b41 at h
    refine ww_iload_n hx hb dJ6_bitCount_0f7a4_41 rfl 0 rfl ?_
    refine ww_iload_n hx hb dJ6_bitCount_0f7a4_42 rfl 0 rfl ?_
    refine ww_bipush (v := 16) hx hb dJ6_bitCount_0f7a4_43 (by decide) ?_
    refine ww_iushr hx hb dJ6_bitCount_0f7a4_45 ?_
    refine ww_iadd hx hb dJ6_bitCount_0f7a4_46 ?_
    refine ww_istore_n (i := 0) (lv1 := [(0, .int (x0 + (ius x0 (16 : Int32))))]) hx hb dJ6_bitCount_0f7a4_47 rfl (by decide) [0] rfl ?_
    exact ww_sub (lv1 := [(0, .int (x0 + (ius x0 (16 : Int32))))]) [0] rfl (bk48 _ h)
  have bk34 : ∀ (x0 : Int32), J6_bitCount_b34  x0 = r → WW p l e (rmc 0 0 0 0) s m args below meth c D vwCl (va_A (WC q cA σ) s.heap.size) 1 0 0 (MQ below (qcW D vwCl (WC q cA σ) (WC q cA σ) (some (.int r)) s.heap.size) args s 0 0 (va_A (WC q cA σ) s.heap.size)) (WC q cA σ) 34 [(0, .int (x0))] [] := by
    intro x0 h
    unfold J6_bitCount_b34 at h
    refine ww_iload_n hx hb dJ6_bitCount_0f7a4_34 rfl 0 rfl ?_
    refine ww_iload_n hx hb dJ6_bitCount_0f7a4_35 rfl 0 rfl ?_
    refine ww_bipush (v := 8) hx hb dJ6_bitCount_0f7a4_36 (by decide) ?_
    refine ww_iushr hx hb dJ6_bitCount_0f7a4_38 ?_
    refine ww_iadd hx hb dJ6_bitCount_0f7a4_39 ?_
    refine ww_istore_n (i := 0) (lv1 := [(0, .int (x0 + (ius x0 (8 : Int32))))]) hx hb dJ6_bitCount_0f7a4_40 rfl (by decide) [0] rfl ?_
    exact ww_sub (lv1 := [(0, .int (x0 + (ius x0 (8 : Int32))))]) [0] rfl (bk41 _ h)
  have bk24 : ∀ (x0 : Int32), J6_bitCount_b24  x0 = r → WW p l e (rmc 0 0 0 0) s m args below meth c D vwCl (va_A (WC q cA σ) s.heap.size) 1 0 0 (MQ below (qcW D vwCl (WC q cA σ) (WC q cA σ) (some (.int r)) s.heap.size) args s 0 0 (va_A (WC q cA σ) s.heap.size)) (WC q cA σ) 24 [(0, .int (x0))] [] := by
    intro x0 h
    unfold J6_bitCount_b24 at h
    refine ww_iload_n hx hb dJ6_bitCount_0f7a4_24 rfl 0 rfl ?_
    refine ww_iload_n hx hb dJ6_bitCount_0f7a4_25 rfl 0 rfl ?_
    refine ww_iconst (v := 4) hx hb dJ6_bitCount_0f7a4_26 (by decide) ?_
    refine ww_iushr hx hb dJ6_bitCount_0f7a4_27 ?_
    refine ww_iadd hx hb dJ6_bitCount_0f7a4_28 ?_
    refine ww_ldcw hx hb hown hts kw_143 dJ6_bitCount_0f7a4_29 ?_
    refine ww_iand hx hb dJ6_bitCount_0f7a4_32 ?_
    refine ww_istore_n (i := 0) (lv1 := [(0, .int ((x0 + (ius x0 (4 : Int32))) &&& (252645135 : Int32)))]) hx hb dJ6_bitCount_0f7a4_33 rfl (by decide) [0] rfl ?_
    exact ww_sub (lv1 := [(0, .int ((x0 + (ius x0 (4 : Int32))) &&& (252645135 : Int32)))]) [0] rfl (bk34 _ h)
  have bk10 : ∀ (x0 : Int32), J6_bitCount_b10  x0 = r → WW p l e (rmc 0 0 0 0) s m args below meth c D vwCl (va_A (WC q cA σ) s.heap.size) 1 0 0 (MQ below (qcW D vwCl (WC q cA σ) (WC q cA σ) (some (.int r)) s.heap.size) args s 0 0 (va_A (WC q cA σ) s.heap.size)) (WC q cA σ) 10 [(0, .int (x0))] [] := by
    intro x0 h
    unfold J6_bitCount_b10 at h
    refine ww_iload_n hx hb dJ6_bitCount_0f7a4_10 rfl 0 rfl ?_
    refine ww_ldcw hx hb hown hts kw_142 dJ6_bitCount_0f7a4_11 ?_
    refine ww_iand hx hb dJ6_bitCount_0f7a4_14 ?_
    refine ww_iload_n hx hb dJ6_bitCount_0f7a4_15 rfl 0 rfl ?_
    refine ww_iconst (v := 2) hx hb dJ6_bitCount_0f7a4_16 (by decide) ?_
    refine ww_iushr hx hb dJ6_bitCount_0f7a4_17 ?_
    refine ww_ldcw hx hb hown hts kw_142 dJ6_bitCount_0f7a4_18 ?_
    refine ww_iand hx hb dJ6_bitCount_0f7a4_21 ?_
    refine ww_iadd hx hb dJ6_bitCount_0f7a4_22 ?_
    refine ww_istore_n (i := 0) (lv1 := [(0, .int ((x0 &&& (858993459 : Int32)) + ((ius x0 (2 : Int32)) &&& (858993459 : Int32))))]) hx hb dJ6_bitCount_0f7a4_23 rfl (by decide) [0] rfl ?_
    exact ww_sub (lv1 := [(0, .int ((x0 &&& (858993459 : Int32)) + ((ius x0 (2 : Int32)) &&& (858993459 : Int32))))]) [0] rfl (bk24 _ h)
  refine ww_sub (lv1 := [(0, .int (x0))]) [0] rfl ?_
  refine ww_iload_n hx hb dJ6_bitCount_0f7a4_0 rfl 0 rfl ?_
  refine ww_iload_n hx hb dJ6_bitCount_0f7a4_1 rfl 0 rfl ?_
  refine ww_iconst (v := 1) hx hb dJ6_bitCount_0f7a4_2 (by decide) ?_
  refine ww_iushr hx hb dJ6_bitCount_0f7a4_3 ?_
  refine ww_ldcw hx hb hown hts kw_141 dJ6_bitCount_0f7a4_4 ?_
  refine ww_iand hx hb dJ6_bitCount_0f7a4_7 ?_
  refine ww_isub hx hb dJ6_bitCount_0f7a4_8 ?_
  refine ww_istore_n (i := 0) (lv1 := [(0, .int (x0 - ((ius x0 (1 : Int32)) &&& (1431655765 : Int32))))]) hx hb dJ6_bitCount_0f7a4_9 rfl (by decide) [0] rfl ?_
  exact ww_sub (lv1 := [(0, .int (x0 - ((ius x0 (1 : Int32)) &&& (1431655765 : Int32))))]) [0] rfl (bk10 _ h)
set_option maxHeartbeats 4000000 in
set_option maxRecDepth 100000 in
theorem m_X3_countOpen (σ : SS) : Ct l yX3_countOpen cX3_countOpen 1 (some .int) 1 40 D vwCl [(cA, .int)] (WC q cA σ) (WC q cA σ) [.ref (q 2)] (some (.int (X3_countOpen σ))) := by
  refine ct_of (by decide +kernel) (Nat.le_of_ble_eq_true rfl) ?_
  intro p e s m args below meth c hx hb hr hlk hml hown hts hK hD hN hA
  have hown : s.vm.findClass RX3 = some m.cls := hown
  have hDD : ∀ τ : SS, va_D (va_A (WC q cA σ) s.heap.size) (WC q cA τ) := fun τ => hD.adr rfl
  obtain ⟨r, h⟩ : ∃ r, X3_countOpen σ = r := ⟨_, rfl⟩
  rw [h]
  unfold X3_countOpen at h
  refine ww_sub (lv1 := [(0, .ref (q 2))]) [0] rfl ?_
  refine ww_aload_n hx hb dX3_countOpen_0 rfl 0 rfl ?_
  refine ww_get (C := RX3) (T := TX3) (N := 9) hx hb hown hts hK inA3 2 rfl rfl 5 (by decide) kw_0 rfl rfl dX3_countOpen_1 ?_
  refine ww_aload_n hx hb dX3_countOpen_4 rfl 0 rfl ?_
  refine ww_get (C := RX3) (T := TX3) (N := 9) hx hb hown hts hK inA3 2 rfl rfl 6 (by decide) kw_144 rfl rfl dX3_countOpen_5 ?_
  refine ww_callS (ws1 := WC q cA σ) (st1 := [.int (J6_bitCount (σ 2 6)), .int (σ 2 5)]) hx hb hml hown hts hK hN hA (hDD _) (Nat.zero_le _) (Nat.zero_le _) [.int (σ 2 6)] [.int (σ 2 5)] (m_J6_bitCount σ (σ 2 6)) cs_X3_38 rfl (by decide) rfl (Nat.le_of_ble_eq_true rfl) dX3_countOpen_8 rfl ?_
  refine ww_isub hx hb dX3_countOpen_11 ?_
  obtain rfl := h
  exact ww_iret hx hb hr hlk rfl dX3_countOpen_12
set_option maxHeartbeats 4000000 in
set_option maxRecDepth 100000 in
theorem m_X3_isOutdoors (σ : SS) (x1 : Int32) : Ct l yX3_isOutdoors cX3_isOutdoors 2 (some .boolean) 1 40 D vwCl [(cA, .int)] (WC q cA σ) (WC q cA σ) [.ref (q 2), .int (x1)] (some (.int (X3_isOutdoors σ x1))) := by
  refine ct_of (by decide +kernel) (Nat.le_of_ble_eq_true rfl) ?_
  intro p e s m args below meth c hx hb hr hlk hml hown hts hK hD hN hA
  have hown : s.vm.findClass RX3 = some m.cls := hown
  have hDD : ∀ τ : SS, va_D (va_A (WC q cA σ) s.heap.size) (WC q cA τ) := fun τ => hD.adr rfl
  obtain ⟨r, h⟩ : ∃ r, X3_isOutdoors σ x1 = r := ⟨_, rfl⟩
  rw [h]
  unfold X3_isOutdoors at h
  refine ww_sub (lv1 := [(0, .ref (q 2)), (1, .int (x1))]) [0, 1] rfl ?_
  refine ww_aload_n hx hb dX3_isOutdoors_0 rfl 0 rfl ?_
  refine ww_get (C := RX3) (T := TX3) (N := 9) hx hb hown hts hK inA3 2 rfl rfl 7 (by decide) kw_149 rfl rfl dX3_isOutdoors_1 ?_
  refine ww_aload_n hx hb dX3_isOutdoors_4 rfl 0 rfl ?_
  refine ww_get (C := RX3) (T := TX3) (N := 9) hx hb hown hts hK inA3 2 rfl rfl 1 (by decide) kw_6 rfl rfl dX3_isOutdoors_5 ?_
  refine ww_iload_n hx hb dX3_isOutdoors_8 rfl 1 rfl ?_
  refine ww_callN (ws1 := WC q cA σ) (st1 := [.int (fat σ 6 8 x1), .int (σ 2 7)]) hx hb hml hown hts hK hN hA (hDD _) (Nat.zero_le _) (Nat.zero_le _) [.ref (q 6), .int (x1)] [.int (σ 2 7)] (m_at (by decide) σ x1) cs_X3_48 rfl (by decide) rfl (Nat.le_of_ble_eq_true rfl) dX3_isOutdoors_9 rfl ?_
  refine ww_callN (ws1 := WC q cA σ) (st1 := [.int (X4_isIn (σ 2 7) (fat σ 6 8 x1))]) hx hb hml hown hts hK hN hA (hDD _) (Nat.zero_le _) (Nat.zero_le _) [.int (σ 2 7), .int (fat σ 6 8 x1)] [] (m_X4_isIn σ (σ 2 7) (fat σ 6 8 x1)) cs_X3_44 rfl (by decide) rfl (Nat.le_of_ble_eq_true rfl) dX3_isOutdoors_12 rfl ?_
  obtain rfl := h
  exact ww_zret hx hb hr hlk (z_X4_isIn (σ 2 7) (fat σ 6 8 x1)) rfl dX3_isOutdoors_15
set_option maxHeartbeats 4000000 in
set_option maxRecDepth 100000 in
theorem m_X2_shootable (σ : SS) (x1 : Int32) (r : Int32) (h : X2_shootable σ x1 = some r) : Ct l yX2_shootable cX2_shootable 5 (some .int) 2 80 D vwCl [(cA, .int)] (WC q cA σ) (WC q cA σ) [.ref (q 1), .int (x1)] (some (.int r)) := by
  refine ct_of (by decide +kernel) (Nat.le_of_ble_eq_true rfl) ?_
  intro p e s m args below meth c hx hb hr hlk hml hown hts hK hD hN hA
  have hown : s.vm.findClass RX2 = some m.cls := hown
  have hDD : ∀ τ : SS, va_D (va_A (WC q cA σ) s.heap.size) (WC q cA τ) := fun τ => hD.adr rfl
  unfold X2_shootable at h
  have lp4 : ∀ (n : Nat) (x1 : Int32) (x2 : Int32) (x3 : Int32), X2_shootable_l4 n σ x1 x2 x3 = some r → WW p l e (rmc 2 80 0 0) s m args below meth c D vwCl (va_A (WC q cA σ) s.heap.size) 5 0 0 (MQ below (qcW D vwCl (WC q cA σ) (WC q cA σ) (some (.int r)) s.heap.size) args s 0 0 (va_A (WC q cA σ) s.heap.size)) (WC q cA σ) 4 [(0, .ref (q 1)), (1, .int (x1)), (2, .int (x2)), (3, .int (x3))] [] := by
    intro n
    induction n with
    | zero => intro x1 x2 x3 h; rw [X2_shootable_l4] at h; cases h
    | succ n ih =>
      have bk89 : ∀ (x1 : Int32) (x2 : Int32) (x3 : Int32), X2_shootable_b89 (X2_shootable_l4 n) σ x1 x2 x3 = some r → WW p l e (rmc 2 80 0 0) s m args below meth c D vwCl (va_A (WC q cA σ) s.heap.size) 5 0 0 (MQ below (qcW D vwCl (WC q cA σ) (WC q cA σ) (some (.int r)) s.heap.size) args s 0 0 (va_A (WC q cA σ) s.heap.size)) (WC q cA σ) 89 [(0, .ref (q 1)), (1, .int (x1)), (2, .int (x2)), (3, .int (x3))] [] := by
        intro x1 x2 x3 h
        unfold X2_shootable_b89 at h
        refine ww_iinc (i := 3) (k := 3) (v := 1) (lv1 := [(0, .ref (q 1)), (1, .int (x1)), (2, .int (x2)), (3, .int (x3 + 1))]) hx hb dX2_shootable_89 rfl (by decide) (by decide) [1, 2, 3, 0] rfl ?_
        refine ww_goto (tgt := 4) hx hb dX2_shootable_92 (by decide) ?_
        exact ww_sub (lv1 := [(0, .ref (q 1)), (1, .int (x1)), (2, .int (x2)), (3, .int (x3 + 1))]) [0, 1, 2, 3] rfl (ih _ _ _ h)
      have bk60 : ∀ (x1 : Int32) (x2 : Int32) (x3 : Int32) (x4 : Int32), X2_shootable_b60 (X2_shootable_l4 n) σ x1 x2 x3 x4 = some r → WW p l e (rmc 2 80 0 0) s m args below meth c D vwCl (va_A (WC q cA σ) s.heap.size) 5 0 0 (MQ below (qcW D vwCl (WC q cA σ) (WC q cA σ) (some (.int r)) s.heap.size) args s 0 0 (va_A (WC q cA σ) s.heap.size)) (WC q cA σ) 60 [(0, .ref (q 1)), (1, .int (x1)), (2, .int (x2)), (3, .int (x3)), (4, .int (x4))] [] := by
        intro x1 x2 x3 x4 h
        unfold X2_shootable_b60 at h
        refine ww_aload_n hx hb dX2_shootable_60 rfl 0 rfl ?_
        refine ww_get (C := RX2) (T := TX2) (N := 8) hx hb hown hts hK inA2 1 rfl rfl 0 (by decide) kw_66 rfl rfl dX2_shootable_61 ?_
        refine ww_iload hx hb dX2_shootable_64 4 rfl ?_
        refine ww_aload_n hx hb dX2_shootable_66 rfl 0 rfl ?_
        refine ww_get (C := RX2) (T := TX2) (N := 8) hx hb hown hts hK inA2 1 rfl rfl 0 (by decide) kw_66 rfl rfl dX2_shootable_67 ?_
        refine ww_get (C := RX3) (T := TX3) (N := 9) hx hb hown hts hK inA3 2 rfl rfl 6 (by decide) kw_140 rfl rfl dX2_shootable_70 ?_
        refine ww_iload_n hx hb dX2_shootable_73 rfl 2 rfl ?_
        refine ww_ior hx hb dX2_shootable_74 ?_
        refine ww_callV (ws1 := WC q cA σ) (st1 := [.int (X3_isFree σ x4 ((σ 2 6) ||| x2))]) hx hb hml hown hts hK hN hA (hDD _) (Nat.zero_le _) (Nat.zero_le _) [.int (x4), .int ((σ 2 6) ||| x2)] [] (m_X3_isFree σ x4 ((σ 2 6) ||| x2)) cs_X2_69 rfl (by decide) 2 rfl rfl rfl (Nat.le_of_ble_eq_true rfl) dX2_shootable_75 rfl ?_
        refine ww_eq0 (tgt := 89) hx hb dX2_shootable_78 (by decide) (fun c_5 => ?_) (fun c_5 => ?_)
        · replace h := it_p c_5 h
          exact ww_sub (lv1 := [(0, .ref (q 1)), (1, .int (x1)), (2, .int (x2)), (3, .int (x3))]) [0, 1, 2, 3] rfl (bk89 _ _ _ h)
        · replace h := it_n c_5 h
          refine ww_iload_n hx hb dX2_shootable_81 rfl 2 rfl ?_
          refine ww_iload hx hb dX2_shootable_82 4 rfl ?_
          refine ww_iconst (v := 1) hx hb dX2_shootable_84 (by decide) ?_
          refine ww_callN (ws1 := WC q cA σ) (st1 := [.int (X4_with x2 x4 (1 : Int32))]) hx hb hml hown hts hK hN hA (hDD _) (Nat.zero_le _) (Nat.zero_le _) [.int (x2), .int (x4), .int ((1 : Int32))] [] (m_X4_with σ x2 x4 (1 : Int32)) cs_X2_73 rfl (by decide) rfl (Nat.le_of_ble_eq_true rfl) dX2_shootable_85 rfl ?_
          refine ww_istore_n (i := 2) (lv1 := [(0, .ref (q 1)), (1, .int (x1)), (2, .int (X4_with x2 x4 (1 : Int32))), (3, .int (x3))]) hx hb dX2_shootable_88 rfl (by decide) [1, 2, 0, 3] rfl ?_
          exact ww_sub (lv1 := [(0, .ref (q 1)), (1, .int (x1)), (2, .int (X4_with x2 x4 (1 : Int32))), (3, .int (x3))]) [0, 1, 2, 3] rfl (bk89 _ _ _ h)
      intro x1 x2 x3 h
      rw [X2_shootable_l4] at h
      refine ww_iload_n hx hb dX2_shootable_4 rfl 3 rfl ?_
      refine ww_aload_n hx hb dX2_shootable_5 rfl 0 rfl ?_
      refine ww_get (C := RX2) (T := TX2) (N := 8) hx hb hown hts hK inA2 1 rfl rfl 0 (by decide) kw_66 rfl rfl dX2_shootable_6 ?_
      refine ww_callV (ws1 := WC q cA σ) (st1 := [.int (X3_countOpen σ), .int (x3)]) hx hb hml hown hts hK hN hA (hDD _) (Nat.zero_le _) (Nat.zero_le _) [] [.int (x3)] (m_X3_countOpen σ) cs_X2_50 rfl (by decide) 2 rfl rfl rfl (Nat.le_of_ble_eq_true rfl) dX2_shootable_9 rfl ?_
      refine ww_ge2 (tgt := 95) hx hb dX2_shootable_12 (by decide) (fun c_1 => ?_) (fun c_1 => ?_)
      · replace h := it_p c_1 h
        refine ww_iload_n hx hb dX2_shootable_95 rfl 2 rfl ?_
        obtain rfl := os1 h
        exact ww_iret hx hb hr hlk rfl dX2_shootable_96
      · replace h := it_n c_1 h
        refine ww_aload_n hx hb dX2_shootable_15 rfl 0 rfl ?_
        refine ww_get (C := RX2) (T := TX2) (N := 8) hx hb hown hts hK inA2 1 rfl rfl 3 (by decide) kw_60 rfl rfl dX2_shootable_16 ?_
        refine ww_iload_n hx hb dX2_shootable_19 rfl 3 rfl ?_
        refine ww_callN (ws1 := WC q cA σ) (st1 := [.int (fat σ 12 8 x3)]) hx hb hml hown hts hK hN hA (hDD _) (Nat.zero_le _) (Nat.zero_le _) [.ref (q 12), .int (x3)] [] (m_at (by decide) σ x3) cs_X2_54 rfl (by decide) rfl (Nat.le_of_ble_eq_true rfl) dX2_shootable_20 rfl ?_
        refine ww_istore (i := 4) (lv1 := [(0, .ref (q 1)), (1, .int (x1)), (2, .int (x2)), (3, .int (x3)), (4, .int (fat σ 12 8 x3))]) hx hb dX2_shootable_23 (by decide) [1, 2, 3, 4, 0] rfl ?_
        refine ww_aload_n hx hb dX2_shootable_25 rfl 0 rfl ?_
        refine ww_get (C := RX2) (T := TX2) (N := 8) hx hb hown hts hK inA2 1 rfl rfl 4 (by decide) kw_61 rfl rfl dX2_shootable_26 ?_
        refine ww_iload hx hb dX2_shootable_29 4 rfl ?_
        refine ww_callN (ws1 := WC q cA σ) (st1 := [.int (fat σ 13 8 (fat σ 12 8 x3))]) hx hb hml hown hts hK hN hA (hDD _) (Nat.zero_le _) (Nat.zero_le _) [.ref (q 13), .int (fat σ 12 8 x3)] [] (m_at (by decide) σ (fat σ 12 8 x3)) cs_X2_54 rfl (by decide) rfl (Nat.le_of_ble_eq_true rfl) dX2_shootable_31 rfl ?_
        refine ww_callS (ws1 := WC q cA σ) (st1 := [.int (X2_dayOf (fat σ 13 8 (fat σ 12 8 x3)))]) hx hb hml hown hts hK hN hA (hDD _) (Nat.zero_le _) (Nat.zero_le _) [.int (fat σ 13 8 (fat σ 12 8 x3))] [] (m_X2_dayOf σ (fat σ 13 8 (fat σ 12 8 x3))) cs_X2_58 rfl (by decide) rfl (Nat.le_of_ble_eq_true rfl) dX2_shootable_34 rfl ?_
        refine ww_aload_n hx hb dX2_shootable_37 rfl 0 rfl ?_
        refine ww_get (C := RX2) (T := TX2) (N := 8) hx hb hown hts hK inA2 1 rfl rfl 6 (by decide) kw_54 rfl rfl dX2_shootable_38 ?_
        refine ww_ne2 (tgt := 89) hx hb dX2_shootable_41 (by decide) (fun c_2 => ?_) (fun c_2 => ?_)
        · replace h := it_n c_2 h
          exact ww_sub (lv1 := [(0, .ref (q 1)), (1, .int (x1)), (2, .int (x2)), (3, .int (x3))]) [0, 1, 2, 3] rfl (bk89 _ _ _ h)
        · replace h := it_p c_2 h
          refine ww_iload_n hx hb dX2_shootable_44 rfl 1 rfl ?_
          refine ww_eq0 (tgt := 60) hx hb dX2_shootable_45 (by decide) (fun c_3 => ?_) (fun c_3 => ?_)
          · replace h := it_p c_3 h
            exact ww_sub (lv1 := [(0, .ref (q 1)), (1, .int (x1)), (2, .int (x2)), (3, .int (x3)), (4, .int (fat σ 12 8 x3))]) [0, 1, 2, 3, 4] rfl (bk60 _ _ _ _ h)
          · replace h := it_n c_3 h
            refine ww_aload_n hx hb dX2_shootable_48 rfl 0 rfl ?_
            refine ww_get (C := RX2) (T := TX2) (N := 8) hx hb hown hts hK inA2 1 rfl rfl 0 (by decide) kw_66 rfl rfl dX2_shootable_49 ?_
            refine ww_iload hx hb dX2_shootable_52 4 rfl ?_
            refine ww_callV (ws1 := WC q cA σ) (st1 := [.int (X3_isOutdoors σ (fat σ 12 8 x3))]) hx hb hml hown hts hK hN hA (hDD _) (Nat.zero_le _) (Nat.zero_le _) [.int (fat σ 12 8 x3)] [] (m_X3_isOutdoors σ (fat σ 12 8 x3)) cs_X2_65 rfl (by decide) 2 rfl rfl rfl (Nat.le_of_ble_eq_true rfl) dX2_shootable_54 rfl ?_
            refine ww_ne0 (tgt := 89) hx hb dX2_shootable_57 (by decide) (fun c_4 => ?_) (fun c_4 => ?_)
            · replace h := it_n c_4 h
              exact ww_sub (lv1 := [(0, .ref (q 1)), (1, .int (x1)), (2, .int (x2)), (3, .int (x3))]) [0, 1, 2, 3] rfl (bk89 _ _ _ h)
            · replace h := it_p c_4 h
              exact ww_sub (lv1 := [(0, .ref (q 1)), (1, .int (x1)), (2, .int (x2)), (3, .int (x3)), (4, .int (fat σ 12 8 x3))]) [0, 1, 2, 3, 4] rfl (bk60 _ _ _ _ h)
  refine ww_sub (lv1 := [(0, .ref (q 1)), (1, .int (x1))]) [0, 1] rfl ?_
  refine ww_iconst (v := 0) hx hb dX2_shootable_0 (by decide) ?_
  refine ww_istore_n (i := 2) (lv1 := [(0, .ref (q 1)), (1, .int (x1)), (2, .int ((0 : Int32)))]) hx hb dX2_shootable_1 rfl (by decide) [1, 2, 0] rfl ?_
  refine ww_iconst (v := 0) hx hb dX2_shootable_2 (by decide) ?_
  refine ww_istore_n (i := 3) (lv1 := [(0, .ref (q 1)), (1, .int (x1)), (2, .int ((0 : Int32))), (3, .int ((0 : Int32)))]) hx hb dX2_shootable_3 rfl (by decide) [1, 2, 3, 0] rfl ?_
  exact ww_sub (lv1 := [(0, .ref (q 1)), (1, .int (x1)), (2, .int ((0 : Int32))), (3, .int ((0 : Int32)))]) [0, 1, 2, 3] rfl (lp4 _ _ _ _ h)
set_option maxHeartbeats 4000000 in
set_option maxRecDepth 100000 in
theorem m_X0_lackOf (σ : SS) (x1 x2 : Int32) : Ct l yX0_lackOf cX0_lackOf 3 (some .int) 1 40 D vwCl [(cA, .int)] (WC q cA σ) (WC q cA σ) [.ref (q 3), .int (x1), .int (x2)] (some (.int (X0_lackOf σ x1 x2))) := by
  refine ct_of (by decide +kernel) (Nat.le_of_ble_eq_true rfl) ?_
  intro p e s m args below meth c hx hb hr hlk hml hown hts hK hD hN hA
  have hown : s.vm.findClass RX0 = some m.cls := hown
  have hDD : ∀ τ : SS, va_D (va_A (WC q cA σ) s.heap.size) (WC q cA τ) := fun τ => hD.adr rfl
  obtain ⟨r, h⟩ : ∃ r, X0_lackOf σ x1 x2 = r := ⟨_, rfl⟩
  rw [h]
  unfold X0_lackOf at h
  refine ww_sub (lv1 := [(0, .ref (q 3)), (1, .int (x1)), (2, .int (x2))]) [0, 1, 2] rfl ?_
  refine ww_iconst (v := 0) hx hb dX0_lackOf_0 (by decide) ?_
  refine ww_iload_n hx hb dX0_lackOf_1 rfl 2 rfl ?_
  refine ww_aload_n hx hb dX0_lackOf_2 rfl 0 rfl ?_
  refine ww_get (C := RX0) (T := TX0) (N := 4) hx hb hown hts hK inA0 3 rfl rfl 0 (by decide) kw_159 rfl rfl dX0_lackOf_3 ?_
  refine ww_iload_n hx hb dX0_lackOf_6 rfl 1 rfl ?_
  refine ww_callN (ws1 := WC q cA σ) (st1 := [.int (fat σ 14 4 x1), .int (x2), .int ((0 : Int32))]) hx hb hml hown hts hK hN hA (hDD _) (Nat.zero_le _) (Nat.zero_le _) [.ref (q 14), .int (x1)] [.int (x2), .int ((0 : Int32))] (m_at (by decide) σ x1) cs_X0_15 rfl (by decide) rfl (Nat.le_of_ble_eq_true rfl) dX0_lackOf_7 rfl ?_
  refine ww_isub hx hb dX0_lackOf_10 ?_
  refine ww_max hx hb hml hown hts (Nat.zero_le _) (Nat.zero_le _) kw_160 kw_70 kw_71 kw_72 ⟨Nat.le_of_ble_eq_true rfl, Nat.le_of_ble_eq_true rfl⟩ dX0_lackOf_11 ?_
  obtain rfl := h
  exact ww_iret hx hb hr hlk rfl dX0_lackOf_14
set_option maxHeartbeats 4000000 in
set_option maxRecDepth 100000 in
theorem m_X0_pay (σ : SS) (x1 x2 : Int32) (r : Int32) (σ1 : SS) (h : X0_pay σ x1 x2 = some (r, σ1)) : Ct l yX0_pay cX0_pay 4 (some .int) 2 80 D vwCl [(cA, .int)] (WC q cA σ) (WC q cA σ1) [.ref (q 3), .int (x1), .int (x2)] (some (.int r)) := by
  refine ct_of (by decide +kernel) (Nat.le_of_ble_eq_true rfl) ?_
  intro p e s m args below meth c hx hb hr hlk hml hown hts hK hD hN hA
  have hown : s.vm.findClass RX0 = some m.cls := hown
  have hDD : ∀ τ : SS, va_D (va_A (WC q cA σ) s.heap.size) (WC q cA τ) := fun τ => hD.adr rfl
  unfold X0_pay at h
  refine ww_sub (lv1 := [(0, .ref (q 3)), (1, .int (x1)), (2, .int (x2))]) [0, 1, 2] rfl ?_
  refine ww_aload_n hx hb dX0_pay_0 rfl 0 rfl ?_
  refine ww_iload_n hx hb dX0_pay_1 rfl 1 rfl ?_
  refine ww_iload_n hx hb dX0_pay_2 rfl 2 rfl ?_
  refine ww_callV (ws1 := WC q cA σ) (st1 := [.int (X0_lackOf σ x1 x2)]) hx hb hml hown hts hK hN hA (hDD _) (Nat.zero_le _) (Nat.zero_le _) [.int (x1), .int (x2)] [] (m_X0_lackOf σ x1 x2) cs_X0_25 rfl (by decide) 3 rfl rfl rfl (Nat.le_of_ble_eq_true rfl) dX0_pay_3 rfl ?_
  refine ww_istore_n (i := 3) (lv1 := [(0, .ref (q 3)), (1, .int (x1)), (2, .int (x2)), (3, .int (X0_lackOf σ x1 x2))]) hx hb dX0_pay_6 rfl (by decide) [1, 2, 3, 0] rfl ?_
  refine ww_aload_n hx hb dX0_pay_7 rfl 0 rfl ?_
  refine ww_get (C := RX0) (T := TX0) (N := 4) hx hb hown hts hK inA0 3 rfl rfl 0 (by decide) kw_159 rfl rfl dX0_pay_8 ?_
  refine ww_iload_n hx hb dX0_pay_11 rfl 1 rfl ?_
  refine ww_iload_n hx hb dX0_pay_12 rfl 3 rfl ?_
  refine ww_iload_n hx hb dX0_pay_13 rfl 2 rfl ?_
  refine ww_isub hx hb dX0_pay_14 ?_
  obtain ⟨σ_1, e_1, h⟩ := lt_e h
  refine ww_callN (ws1 := WC q cA σ_1) (st1 := []) hx hb hml hown hts hK hN hA (hDD _) (Nat.zero_le _) (Nat.zero_le _) [.ref (q 14), .int (x1), .int ((X0_lackOf σ x1 x2) - x2)] [] (m_add (by decide) _ _ _ _ e_1) cs_X0_28 rfl (by decide) rfl (Nat.le_of_ble_eq_true rfl) dX0_pay_15 rfl ?_
  refine ww_aload_n hx hb dX0_pay_18 rfl 0 rfl ?_
  refine ww_dup hx hb dX0_pay_19 rfl ?_
  refine ww_get (C := RX0) (T := TX0) (N := 4) hx hb hown hts hK inA0 3 rfl rfl 1 (by decide) kw_168 rfl rfl dX0_pay_20 ?_
  refine ww_iload_n hx hb dX0_pay_23 rfl 3 rfl ?_
  refine ww_isub hx hb dX0_pay_24 ?_
  obtain ⟨σ_2, e_2, h⟩ := lt_e h
  refine ww_put (C := RX0) (T := TX0) (N := 4) (ty := .int) (ws1 := WC q cA (σ_2)) hx hb hown hts hK inA0 tyX0 tyX0_ok nmX0 (hDD _) 3 rfl rfl 1 (by decide) kw_168 rfl rfl rfl rfl rfl (Nat.le_of_ble_eq_true rfl) dX0_pay_25 (e_2 ▸ rfl) ?_
  refine ww_aload_n hx hb dX0_pay_28 rfl 0 rfl ?_
  refine ww_dup hx hb dX0_pay_29 rfl ?_
  refine ww_get (C := RX0) (T := TX0) (N := 4) hx hb hown hts hK inA0 3 rfl rfl 2 (by decide) kw_169 rfl rfl dX0_pay_30 ?_
  refine ww_iload_n hx hb dX0_pay_33 rfl 2 rfl ?_
  refine ww_iadd hx hb dX0_pay_34 ?_
  obtain ⟨σ_3, e_3, h⟩ := lt_e h
  refine ww_put (C := RX0) (T := TX0) (N := 4) (ty := .int) (ws1 := WC q cA (σ_3)) hx hb hown hts hK inA0 tyX0 tyX0_ok nmX0 (hDD _) 3 rfl rfl 2 (by decide) kw_169 rfl rfl rfl rfl rfl (Nat.le_of_ble_eq_true rfl) dX0_pay_35 (e_3 ▸ rfl) ?_
  refine ww_aload_n hx hb dX0_pay_38 rfl 0 rfl ?_
  refine ww_dup hx hb dX0_pay_39 rfl ?_
  refine ww_get (C := RX0) (T := TX0) (N := 4) hx hb hown hts hK inA0 3 rfl rfl 3 (by decide) kw_170 rfl rfl dX0_pay_40 ?_
  refine ww_iload_n hx hb dX0_pay_43 rfl 2 rfl ?_
  refine ww_iadd hx hb dX0_pay_44 ?_
  obtain ⟨σ_4, e_4, h⟩ := lt_e h
  refine ww_put (C := RX0) (T := TX0) (N := 4) (ty := .int) (ws1 := WC q cA (σ_4)) hx hb hown hts hK inA0 tyX0 tyX0_ok nmX0 (hDD _) 3 rfl rfl 3 (by decide) kw_170 rfl rfl rfl rfl rfl (Nat.le_of_ble_eq_true rfl) dX0_pay_45 (e_4 ▸ rfl) ?_
  refine ww_iload_n hx hb dX0_pay_48 rfl 3 rfl ?_
  obtain ⟨rfl, rfl⟩ := os2 h
  exact ww_iret hx hb hr hlk rfl dX0_pay_49
set_option maxHeartbeats 4000000 in
set_option maxRecDepth 100000 in
theorem m_X2_endDay (σ : SS) (x1 : Int32) (σ1 : SS) (h : X2_endDay σ x1 = some σ1) : Ct l yX2_endDay cX2_endDay 3 none 1 40 D vwCl [(cA, .int)] (WC q cA σ) (WC q cA σ1) [.ref (q 1), .int (x1)] none := by
  refine ct_of (by decide +kernel) (Nat.le_of_ble_eq_true rfl) ?_
  intro p e s m args below meth c hx hb hr hlk hml hown hts hK hD hN hA
  have hown : s.vm.findClass RX2 = some m.cls := hown
  have hDD : ∀ τ : SS, va_D (va_A (WC q cA σ) s.heap.size) (WC q cA τ) := fun τ => hD.adr rfl
  unfold X2_endDay at h
  have lp2 : ∀ (n : Nat) (τ : SS) (x1 : Int32) (x2 : Int32), X2_endDay_l2 n τ x1 x2 = some σ1 → WW p l e (rmc 1 40 0 0) s m args below meth c D vwCl (va_A (WC q cA σ) s.heap.size) 3 0 0 (MQ below (qcW D vwCl (WC q cA σ) (WC q cA σ1) none s.heap.size) args s 0 0 (va_A (WC q cA σ) s.heap.size)) (WC q cA τ) 2 [(0, .ref (q 1)), (1, .int (x1)), (2, .int (x2))] [] := by
    intro n
    induction n with
    | zero => intro τ x1 x2 h; rw [X2_endDay_l2] at h; cases h
    | succ n ih =>
      have bk37 : ∀ (τ : SS) (x1 : Int32) (x2 : Int32), X2_endDay_b37 (X2_endDay_l2 n) τ x1 x2 = some σ1 → WW p l e (rmc 1 40 0 0) s m args below meth c D vwCl (va_A (WC q cA σ) s.heap.size) 3 0 0 (MQ below (qcW D vwCl (WC q cA σ) (WC q cA σ1) none s.heap.size) args s 0 0 (va_A (WC q cA σ) s.heap.size)) (WC q cA τ) 37 [(0, .ref (q 1)), (1, .int (x1)), (2, .int (x2))] [] := by
        intro τ x1 x2 h
        unfold X2_endDay_b37 at h
        refine ww_iinc (i := 2) (k := 2) (v := 1) (lv1 := [(0, .ref (q 1)), (1, .int (x1)), (2, .int (x2 + 1))]) hx hb dX2_endDay_37 rfl (by decide) (by decide) [1, 2, 0] rfl ?_
        refine ww_goto (tgt := 2) hx hb dX2_endDay_40 (by decide) ?_
        exact ww_sub (lv1 := [(0, .ref (q 1)), (1, .int (x1)), (2, .int (x2 + 1))]) [0, 1, 2] rfl (ih _ _ _ h)
      intro τ x1 x2 h
      rw [X2_endDay_l2] at h
      refine ww_iload_n hx hb dX2_endDay_2 rfl 2 rfl ?_
      refine ww_aload_n hx hb dX2_endDay_3 rfl 0 rfl ?_
      refine ww_get (C := RX2) (T := TX2) (N := 8) hx hb hown hts hK inA2 1 rfl rfl 0 (by decide) kw_66 rfl rfl dX2_endDay_4 ?_
      refine ww_get (C := RX3) (T := TX3) (N := 9) hx hb hown hts hK inA3 2 rfl rfl 5 (by decide) kw_73 rfl rfl dX2_endDay_7 ?_
      refine ww_ge2 (tgt := 43) hx hb dX2_endDay_10 (by decide) (fun c_1 => ?_) (fun c_1 => ?_)
      · replace h := it_p c_1 h
        refine ww_aload_n hx hb dX2_endDay_43 rfl 0 rfl ?_
        refine ww_get (C := RX2) (T := TX2) (N := 8) hx hb hown hts hK inA2 1 rfl rfl 0 (by decide) kw_66 rfl rfl dX2_endDay_44 ?_
        refine ww_dup hx hb dX2_endDay_47 rfl ?_
        refine ww_get (C := RX3) (T := TX3) (N := 9) hx hb hown hts hK inA3 2 rfl rfl 6 (by decide) kw_140 rfl rfl dX2_endDay_48 ?_
        refine ww_iload_n hx hb dX2_endDay_51 rfl 1 rfl ?_
        refine ww_ior hx hb dX2_endDay_52 ?_
        obtain ⟨σ_2, e_2, h⟩ := lt_e h
        refine ww_put (C := RX3) (T := TX3) (N := 9) (ty := .int) (ws1 := WC q cA (σ_2)) hx hb hown hts hK inA3 tyX3 tyX3_ok nmX3 (hDD _) 2 rfl rfl 6 (by decide) kw_140 rfl rfl rfl rfl rfl (Nat.le_of_ble_eq_true rfl) dX2_endDay_53 (e_2 ▸ rfl) ?_
        refine ww_aload_n hx hb dX2_endDay_56 rfl 0 rfl ?_
        refine ww_dup hx hb dX2_endDay_57 rfl ?_
        refine ww_get (C := RX2) (T := TX2) (N := 8) hx hb hown hts hK inA2 1 rfl rfl 6 (by decide) kw_54 rfl rfl dX2_endDay_58 ?_
        refine ww_iconst (v := 1) hx hb dX2_endDay_61 (by decide) ?_
        refine ww_iadd hx hb dX2_endDay_62 ?_
        obtain ⟨σ_3, e_3, h⟩ := lt_e h
        refine ww_put (C := RX2) (T := TX2) (N := 8) (ty := .int) (ws1 := WC q cA (σ_3)) hx hb hown hts hK inA2 tyX2 tyX2_ok nmX2 (hDD _) 1 rfl rfl 6 (by decide) kw_54 rfl rfl rfl rfl rfl (Nat.le_of_ble_eq_true rfl) dX2_endDay_63 (e_3 ▸ rfl) ?_
        refine ww_aload_n hx hb dX2_endDay_66 rfl 0 rfl ?_
        obtain ⟨σ_4, e_4, h⟩ := ob h
        refine ww_callV (ws1 := WC q cA σ_4) (st1 := []) hx hb hml hown hts hK hN hA (hDD _) (Nat.zero_le _) (Nat.zero_le _) [] [] (m_X2_forget _  _ e_4) cs_X2_87 rfl (by decide) 1 rfl rfl rfl (Nat.le_of_ble_eq_true rfl) dX2_endDay_67 rfl ?_
        obtain rfl := os1 h
        exact ww_vret hx hb hr hlk dX2_endDay_70
      · replace h := it_n c_1 h
        refine ww_iload_n hx hb dX2_endDay_13 rfl 1 rfl ?_
        refine ww_iload_n hx hb dX2_endDay_14 rfl 2 rfl ?_
        refine ww_callN (ws1 := WC q cA τ) (st1 := [.int (X4_isIn x1 x2)]) hx hb hml hown hts hK hN hA (hDD _) (Nat.zero_le _) (Nat.zero_le _) [.int (x1), .int (x2)] [] (m_X4_isIn τ x1 x2) cs_X2_80 rfl (by decide) rfl (Nat.le_of_ble_eq_true rfl) dX2_endDay_15 rfl ?_
        refine ww_eq0 (tgt := 37) hx hb dX2_endDay_18 (by decide) (fun c_5 => ?_) (fun c_5 => ?_)
        · replace h := it_p c_5 h
          exact ww_sub (lv1 := [(0, .ref (q 1)), (1, .int (x1)), (2, .int (x2))]) [0, 1, 2] rfl (bk37 _ _ _ h)
        · replace h := it_n c_5 h
          refine ww_aload_n hx hb dX2_endDay_21 rfl 0 rfl ?_
          refine ww_get (C := RX2) (T := TX2) (N := 8) hx hb hown hts hK inA2 1 rfl rfl 2 (by decide) kw_47 rfl rfl dX2_endDay_22 ?_
          refine ww_iload_n hx hb dX2_endDay_25 rfl 2 rfl ?_
          refine ww_aload_n hx hb dX2_endDay_26 rfl 0 rfl ?_
          refine ww_get (C := RX2) (T := TX2) (N := 8) hx hb hown hts hK inA2 1 rfl rfl 4 (by decide) kw_61 rfl rfl dX2_endDay_27 ?_
          refine ww_iload_n hx hb dX2_endDay_30 rfl 2 rfl ?_
          refine ww_callN (ws1 := WC q cA τ) (st1 := [.int (fat τ 13 8 x2), .int (x2), .ref (q 11)]) hx hb hml hown hts hK hN hA (hDD _) (Nat.zero_le _) (Nat.zero_le _) [.ref (q 13), .int (x2)] [.int (x2), .ref (q 11)] (m_at (by decide) τ x2) cs_X2_54 rfl (by decide) rfl (Nat.le_of_ble_eq_true rfl) dX2_endDay_31 rfl ?_
          obtain ⟨σ_6, e_6, h⟩ := lt_e h
          refine ww_callN (ws1 := WC q cA σ_6) (st1 := []) hx hb hml hown hts hK hN hA (hDD _) (Nat.zero_le _) (Nat.zero_le _) [.ref (q 11), .int (x2), .int (fat τ 13 8 x2)] [] (m_put (by decide) _ _ _ _ e_6) cs_X2_83 rfl (by decide) rfl (Nat.le_of_ble_eq_true rfl) dX2_endDay_34 rfl ?_
          exact ww_sub (lv1 := [(0, .ref (q 1)), (1, .int (x1)), (2, .int (x2))]) [0, 1, 2] rfl (bk37 _ _ _ h)
  refine ww_sub (lv1 := [(0, .ref (q 1)), (1, .int (x1))]) [0, 1] rfl ?_
  refine ww_iconst (v := 0) hx hb dX2_endDay_0 (by decide) ?_
  refine ww_istore_n (i := 2) (lv1 := [(0, .ref (q 1)), (1, .int (x1)), (2, .int ((0 : Int32)))]) hx hb dX2_endDay_1 rfl (by decide) [1, 2, 0] rfl ?_
  exact ww_sub (lv1 := [(0, .ref (q 1)), (1, .int (x1)), (2, .int ((0 : Int32)))]) [0, 1, 2] rfl (lp2 _ _ _ _ h)
set_option maxHeartbeats 4000000 in
set_option maxRecDepth 100000 in
theorem m_X1_appendLoan (σ : SS) (x1 x2 : Int32) (r : Int32) (σ1 : SS) (h : X1_appendLoan σ x1 x2 = some (r, σ1)) : Ct l yX1_appendLoan cX1_appendLoan 3 (some .int) 1 40 D vwCl [(cA, .int)] (WC q cA σ) (WC q cA σ1) [.ref (q 4), .int (x1), .int (x2)] (some (.int r)) := by
  refine ct_of (by decide +kernel) (Nat.le_of_ble_eq_true rfl) ?_
  intro p e s m args below meth c hx hb hr hlk hml hown hts hK hD hN hA
  have hown : s.vm.findClass RX1 = some m.cls := hown
  have hDD : ∀ τ : SS, va_D (va_A (WC q cA σ) s.heap.size) (WC q cA τ) := fun τ => hD.adr rfl
  unfold X1_appendLoan at h
  refine ww_sub (lv1 := [(0, .ref (q 4)), (1, .int (x1)), (2, .int (x2))]) [0, 1, 2] rfl ?_
  refine ww_aload_n hx hb dX1_appendLoan_0 rfl 0 rfl ?_
  refine ww_get (C := RX1) (T := TX1) (N := 10) hx hb hown hts hK inA1 4 rfl rfl 0 (by decide) kw_198 rfl rfl dX1_appendLoan_1 ?_
  refine ww_aload_n hx hb dX1_appendLoan_4 rfl 0 rfl ?_
  refine ww_get (C := RX1) (T := TX1) (N := 10) hx hb hown hts hK inA1 4 rfl rfl 7 (by decide) kw_199 rfl rfl dX1_appendLoan_5 ?_
  refine ww_iload_n hx hb dX1_appendLoan_8 rfl 1 rfl ?_
  obtain ⟨σ_1, e_1, h⟩ := lt_e h
  refine ww_callN (ws1 := WC q cA σ_1) (st1 := []) hx hb hml hown hts hK hN hA (hDD _) (Nat.zero_le _) (Nat.zero_le _) [.ref (q 15), .int (σ 4 7), .int (x1)] [] (m_put (by decide) _ _ _ _ e_1) cs_X1_37 rfl (by decide) rfl (Nat.le_of_ble_eq_true rfl) dX1_appendLoan_9 rfl ?_
  refine ww_aload_n hx hb dX1_appendLoan_12 rfl 0 rfl ?_
  refine ww_get (C := RX1) (T := TX1) (N := 10) hx hb hown hts hK inA1 4 rfl rfl 1 (by decide) kw_200 rfl rfl dX1_appendLoan_13 ?_
  refine ww_aload_n hx hb dX1_appendLoan_16 rfl 0 rfl ?_
  refine ww_get (C := RX1) (T := TX1) (N := 10) hx hb hown hts hK inA1 4 rfl rfl 7 (by decide) kw_199 rfl rfl dX1_appendLoan_17 ?_
  refine ww_iload_n hx hb dX1_appendLoan_20 rfl 2 rfl ?_
  obtain ⟨σ_2, e_2, h⟩ := lt_e h
  refine ww_callN (ws1 := WC q cA σ_2) (st1 := []) hx hb hml hown hts hK hN hA (hDD _) (Nat.zero_le _) (Nat.zero_le _) [.ref (q 16), .int (σ_1 4 7), .int (x2)] [] (m_put (by decide) _ _ _ _ e_2) cs_X1_37 rfl (by decide) rfl (Nat.le_of_ble_eq_true rfl) dX1_appendLoan_21 rfl ?_
  refine ww_aload_n hx hb dX1_appendLoan_24 rfl 0 rfl ?_
  refine ww_dup hx hb dX1_appendLoan_25 rfl ?_
  refine ww_get (C := RX1) (T := TX1) (N := 10) hx hb hown hts hK inA1 4 rfl rfl 7 (by decide) kw_199 rfl rfl dX1_appendLoan_26 ?_
  refine ww_iconst (v := 1) hx hb dX1_appendLoan_29 (by decide) ?_
  refine ww_iadd hx hb dX1_appendLoan_30 ?_
  obtain ⟨σ_3, e_3, h⟩ := lt_e h
  refine ww_put (C := RX1) (T := TX1) (N := 10) (ty := .int) (ws1 := WC q cA (σ_3)) hx hb hown hts hK inA1 tyX1 tyX1_ok nmX1 (hDD _) 4 rfl rfl 7 (by decide) kw_199 rfl rfl rfl rfl rfl (Nat.le_of_ble_eq_true rfl) dX1_appendLoan_31 (e_3 ▸ rfl) ?_
  refine ww_aload_n hx hb dX1_appendLoan_34 rfl 0 rfl ?_
  refine ww_get (C := RX1) (T := TX1) (N := 10) hx hb hown hts hK inA1 4 rfl rfl 7 (by decide) kw_199 rfl rfl dX1_appendLoan_35 ?_
  refine ww_iconst (v := 1) hx hb dX1_appendLoan_38 (by decide) ?_
  refine ww_isub hx hb dX1_appendLoan_39 ?_
  obtain ⟨rfl, rfl⟩ := os2 h
  exact ww_iret hx hb hr hlk rfl dX1_appendLoan_40
set_option maxHeartbeats 4000000 in
set_option maxRecDepth 100000 in
theorem m_X1_percentOf (σ : SS) (x1 : Int32) (r : Int32) (h : X1_percentOf σ x1 = some r) : Ct l yX1_percentOf cX1_percentOf 4 (some .int) 1 40 D vwCl [(cA, .int)] (WC q cA σ) (WC q cA σ) [.ref (q 4), .int (x1)] (some (.int r)) := by
  refine ct_of (by decide +kernel) (Nat.le_of_ble_eq_true rfl) ?_
  intro p e s m args below meth c hx hb hr hlk hml hown hts hK hD hN hA
  have hown : s.vm.findClass RX1 = some m.cls := hown
  have hDD : ∀ τ : SS, va_D (va_A (WC q cA σ) s.heap.size) (WC q cA τ) := fun τ => hD.adr rfl
  unfold X1_percentOf at h
  have lp4 : ∀ (n : Nat) (x1 : Int32) (x2 : Int32) (x3 : Int32), X1_percentOf_l4 n σ x1 x2 x3 = some r → WW p l e (rmc 1 40 0 0) s m args below meth c D vwCl (va_A (WC q cA σ) s.heap.size) 4 0 0 (MQ below (qcW D vwCl (WC q cA σ) (WC q cA σ) (some (.int r)) s.heap.size) args s 0 0 (va_A (WC q cA σ) s.heap.size)) (WC q cA σ) 4 [(0, .ref (q 4)), (1, .int (x1)), (2, .int (x2)), (3, .int (x3))] [] := by
    intro n
    induction n with
    | zero => intro x1 x2 x3 h; rw [X1_percentOf_l4] at h; cases h
    | succ n ih =>
      have bk35 : ∀ (x1 : Int32) (x2 : Int32) (x3 : Int32), X1_percentOf_b35 (X1_percentOf_l4 n) σ x1 x2 x3 = some r → WW p l e (rmc 1 40 0 0) s m args below meth c D vwCl (va_A (WC q cA σ) s.heap.size) 4 0 0 (MQ below (qcW D vwCl (WC q cA σ) (WC q cA σ) (some (.int r)) s.heap.size) args s 0 0 (va_A (WC q cA σ) s.heap.size)) (WC q cA σ) 35 [(0, .ref (q 4)), (1, .int (x1)), (2, .int (x2)), (3, .int (x3))] [] := by
        intro x1 x2 x3 h
        unfold X1_percentOf_b35 at h
        refine ww_iinc (i := 3) (k := 3) (v := 1) (lv1 := [(0, .ref (q 4)), (1, .int (x1)), (2, .int (x2)), (3, .int (x3 + 1))]) hx hb dX1_percentOf_35 rfl (by decide) (by decide) [1, 2, 3, 0] rfl ?_
        refine ww_goto (tgt := 4) hx hb dX1_percentOf_38 (by decide) ?_
        exact ww_sub (lv1 := [(0, .ref (q 4)), (1, .int (x1)), (2, .int (x2)), (3, .int (x3 + 1))]) [0, 1, 2, 3] rfl (ih _ _ _ h)
      intro x1 x2 x3 h
      rw [X1_percentOf_l4] at h
      refine ww_iload_n hx hb dX1_percentOf_4 rfl 3 rfl ?_
      refine ww_aload_n hx hb dX1_percentOf_5 rfl 0 rfl ?_
      refine ww_get (C := RX1) (T := TX1) (N := 10) hx hb hown hts hK inA1 4 rfl rfl 8 (by decide) kw_208 rfl rfl dX1_percentOf_6 ?_
      refine ww_ge2 (tgt := 41) hx hb dX1_percentOf_9 (by decide) (fun c_1 => ?_) (fun c_1 => ?_)
      · replace h := it_p c_1 h
        refine ww_iload_n hx hb dX1_percentOf_41 rfl 2 rfl ?_
        obtain rfl := os1 h
        exact ww_iret hx hb hr hlk rfl dX1_percentOf_42
      · replace h := it_n c_1 h
        refine ww_aload_n hx hb dX1_percentOf_12 rfl 0 rfl ?_
        refine ww_get (C := RX1) (T := TX1) (N := 10) hx hb hown hts hK inA1 4 rfl rfl 2 (by decide) kw_209 rfl rfl dX1_percentOf_13 ?_
        refine ww_iload_n hx hb dX1_percentOf_16 rfl 3 rfl ?_
        refine ww_callN (ws1 := WC q cA σ) (st1 := [.int (fat σ 17 12 x3)]) hx hb hml hown hts hK hN hA (hDD _) (Nat.zero_le _) (Nat.zero_le _) [.ref (q 17), .int (x3)] [] (m_at (by decide) σ x3) cs_X1_44 rfl (by decide) rfl (Nat.le_of_ble_eq_true rfl) dX1_percentOf_17 rfl ?_
        refine ww_iload_n hx hb dX1_percentOf_20 rfl 1 rfl ?_
        refine ww_ne2 (tgt := 35) hx hb dX1_percentOf_21 (by decide) (fun c_2 => ?_) (fun c_2 => ?_)
        · replace h := it_n c_2 h
          exact ww_sub (lv1 := [(0, .ref (q 4)), (1, .int (x1)), (2, .int (x2)), (3, .int (x3))]) [0, 1, 2, 3] rfl (bk35 _ _ _ h)
        · replace h := it_p c_2 h
          refine ww_iload_n hx hb dX1_percentOf_24 rfl 2 rfl ?_
          refine ww_aload_n hx hb dX1_percentOf_25 rfl 0 rfl ?_
          refine ww_get (C := RX1) (T := TX1) (N := 10) hx hb hown hts hK inA1 4 rfl rfl 4 (by decide) kw_210 rfl rfl dX1_percentOf_26 ?_
          refine ww_iload_n hx hb dX1_percentOf_29 rfl 3 rfl ?_
          refine ww_callN (ws1 := WC q cA σ) (st1 := [.int (fat σ 19 12 x3), .int (x2)]) hx hb hml hown hts hK hN hA (hDD _) (Nat.zero_le _) (Nat.zero_le _) [.ref (q 19), .int (x3)] [.int (x2)] (m_at (by decide) σ x3) cs_X1_44 rfl (by decide) rfl (Nat.le_of_ble_eq_true rfl) dX1_percentOf_30 rfl ?_
          refine ww_iadd hx hb dX1_percentOf_33 ?_
          refine ww_istore_n (i := 2) (lv1 := [(0, .ref (q 4)), (1, .int (x1)), (2, .int (x2 + (fat σ 19 12 x3))), (3, .int (x3))]) hx hb dX1_percentOf_34 rfl (by decide) [1, 2, 0, 3] rfl ?_
          exact ww_sub (lv1 := [(0, .ref (q 4)), (1, .int (x1)), (2, .int (x2 + (fat σ 19 12 x3))), (3, .int (x3))]) [0, 1, 2, 3] rfl (bk35 _ _ _ h)
  refine ww_sub (lv1 := [(0, .ref (q 4)), (1, .int (x1))]) [0, 1] rfl ?_
  refine ww_iconst (v := 0) hx hb dX1_percentOf_0 (by decide) ?_
  refine ww_istore_n (i := 2) (lv1 := [(0, .ref (q 4)), (1, .int (x1)), (2, .int ((0 : Int32)))]) hx hb dX1_percentOf_1 rfl (by decide) [1, 2, 0] rfl ?_
  refine ww_iconst (v := 0) hx hb dX1_percentOf_2 (by decide) ?_
  refine ww_istore_n (i := 3) (lv1 := [(0, .ref (q 4)), (1, .int (x1)), (2, .int ((0 : Int32))), (3, .int ((0 : Int32)))]) hx hb dX1_percentOf_3 rfl (by decide) [1, 2, 3, 0] rfl ?_
  exact ww_sub (lv1 := [(0, .ref (q 4)), (1, .int (x1)), (2, .int ((0 : Int32))), (3, .int ((0 : Int32)))]) [0, 1, 2, 3] rfl (lp4 _ _ _ _ h)
set_option maxHeartbeats 4000000 in
set_option maxRecDepth 100000 in
theorem m_X1_appendPart (σ : SS) (x1 x2 x3 : Int32) (r : Int32) (σ1 : SS) (h : X1_appendPart σ x1 x2 x3 = some (r, σ1)) : Ct l yX1_appendPart cX1_appendPart 4 (some .int) 1 40 D vwCl [(cA, .int)] (WC q cA σ) (WC q cA σ1) [.ref (q 4), .int (x1), .int (x2), .int (x3)] (some (.int r)) := by
  refine ct_of (by decide +kernel) (Nat.le_of_ble_eq_true rfl) ?_
  intro p e s m args below meth c hx hb hr hlk hml hown hts hK hD hN hA
  have hown : s.vm.findClass RX1 = some m.cls := hown
  have hDD : ∀ τ : SS, va_D (va_A (WC q cA σ) s.heap.size) (WC q cA τ) := fun τ => hD.adr rfl
  unfold X1_appendPart at h
  refine ww_sub (lv1 := [(0, .ref (q 4)), (1, .int (x1)), (2, .int (x2)), (3, .int (x3))]) [0, 1, 2, 3] rfl ?_
  refine ww_aload_n hx hb dX1_appendPart_0 rfl 0 rfl ?_
  refine ww_get (C := RX1) (T := TX1) (N := 10) hx hb hown hts hK inA1 4 rfl rfl 2 (by decide) kw_209 rfl rfl dX1_appendPart_1 ?_
  refine ww_aload_n hx hb dX1_appendPart_4 rfl 0 rfl ?_
  refine ww_get (C := RX1) (T := TX1) (N := 10) hx hb hown hts hK inA1 4 rfl rfl 8 (by decide) kw_208 rfl rfl dX1_appendPart_5 ?_
  refine ww_iload_n hx hb dX1_appendPart_8 rfl 1 rfl ?_
  obtain ⟨σ_1, e_1, h⟩ := lt_e h
  refine ww_callN (ws1 := WC q cA σ_1) (st1 := []) hx hb hml hown hts hK hN hA (hDD _) (Nat.zero_le _) (Nat.zero_le _) [.ref (q 17), .int (σ 4 8), .int (x1)] [] (m_put (by decide) _ _ _ _ e_1) cs_X1_37 rfl (by decide) rfl (Nat.le_of_ble_eq_true rfl) dX1_appendPart_9 rfl ?_
  refine ww_aload_n hx hb dX1_appendPart_12 rfl 0 rfl ?_
  refine ww_get (C := RX1) (T := TX1) (N := 10) hx hb hown hts hK inA1 4 rfl rfl 3 (by decide) kw_211 rfl rfl dX1_appendPart_13 ?_
  refine ww_aload_n hx hb dX1_appendPart_16 rfl 0 rfl ?_
  refine ww_get (C := RX1) (T := TX1) (N := 10) hx hb hown hts hK inA1 4 rfl rfl 8 (by decide) kw_208 rfl rfl dX1_appendPart_17 ?_
  refine ww_iload_n hx hb dX1_appendPart_20 rfl 2 rfl ?_
  obtain ⟨σ_2, e_2, h⟩ := lt_e h
  refine ww_callN (ws1 := WC q cA σ_2) (st1 := []) hx hb hml hown hts hK hN hA (hDD _) (Nat.zero_le _) (Nat.zero_le _) [.ref (q 18), .int (σ_1 4 8), .int (x2)] [] (m_put (by decide) _ _ _ _ e_2) cs_X1_37 rfl (by decide) rfl (Nat.le_of_ble_eq_true rfl) dX1_appendPart_21 rfl ?_
  refine ww_aload_n hx hb dX1_appendPart_24 rfl 0 rfl ?_
  refine ww_get (C := RX1) (T := TX1) (N := 10) hx hb hown hts hK inA1 4 rfl rfl 4 (by decide) kw_210 rfl rfl dX1_appendPart_25 ?_
  refine ww_aload_n hx hb dX1_appendPart_28 rfl 0 rfl ?_
  refine ww_get (C := RX1) (T := TX1) (N := 10) hx hb hown hts hK inA1 4 rfl rfl 8 (by decide) kw_208 rfl rfl dX1_appendPart_29 ?_
  refine ww_iload_n hx hb dX1_appendPart_32 rfl 3 rfl ?_
  obtain ⟨σ_3, e_3, h⟩ := lt_e h
  refine ww_callN (ws1 := WC q cA σ_3) (st1 := []) hx hb hml hown hts hK hN hA (hDD _) (Nat.zero_le _) (Nat.zero_le _) [.ref (q 19), .int (σ_2 4 8), .int (x3)] [] (m_put (by decide) _ _ _ _ e_3) cs_X1_37 rfl (by decide) rfl (Nat.le_of_ble_eq_true rfl) dX1_appendPart_33 rfl ?_
  refine ww_aload_n hx hb dX1_appendPart_36 rfl 0 rfl ?_
  refine ww_dup hx hb dX1_appendPart_37 rfl ?_
  refine ww_get (C := RX1) (T := TX1) (N := 10) hx hb hown hts hK inA1 4 rfl rfl 8 (by decide) kw_208 rfl rfl dX1_appendPart_38 ?_
  refine ww_iconst (v := 1) hx hb dX1_appendPart_41 (by decide) ?_
  refine ww_iadd hx hb dX1_appendPart_42 ?_
  obtain ⟨σ_4, e_4, h⟩ := lt_e h
  refine ww_put (C := RX1) (T := TX1) (N := 10) (ty := .int) (ws1 := WC q cA (σ_4)) hx hb hown hts hK inA1 tyX1 tyX1_ok nmX1 (hDD _) 4 rfl rfl 8 (by decide) kw_208 rfl rfl rfl rfl rfl (Nat.le_of_ble_eq_true rfl) dX1_appendPart_43 (e_4 ▸ rfl) ?_
  refine ww_aload_n hx hb dX1_appendPart_46 rfl 0 rfl ?_
  refine ww_get (C := RX1) (T := TX1) (N := 10) hx hb hown hts hK inA1 4 rfl rfl 8 (by decide) kw_208 rfl rfl dX1_appendPart_47 ?_
  refine ww_iconst (v := 1) hx hb dX1_appendPart_50 (by decide) ?_
  refine ww_isub hx hb dX1_appendPart_51 ?_
  obtain ⟨rfl, rfl⟩ := os2 h
  exact ww_iret hx hb hr hlk rfl dX1_appendPart_52
set_option maxHeartbeats 4000000 in
set_option maxRecDepth 100000 in
theorem m_X0_payBack (σ : SS) (x1 : Int32) (r : Int32) (σ1 : SS) (h : X0_payBack σ x1 = some (r, σ1)) : Ct l yX0_payBack cX0_payBack 3 (some .int) 1 40 D vwCl [(cA, .int)] (WC q cA σ) (WC q cA σ1) [.ref (q 3), .int (x1)] (some (.int r)) := by
  refine ct_of (by decide +kernel) (Nat.le_of_ble_eq_true rfl) ?_
  intro p e s m args below meth c hx hb hr hlk hml hown hts hK hD hN hA
  have hown : s.vm.findClass RX0 = some m.cls := hown
  have hDD : ∀ τ : SS, va_D (va_A (WC q cA σ) s.heap.size) (WC q cA τ) := fun τ => hD.adr rfl
  unfold X0_payBack at h
  refine ww_sub (lv1 := [(0, .ref (q 3)), (1, .int (x1))]) [0, 1] rfl ?_
  refine ww_iload_n hx hb dX0_payBack_0 rfl 1 rfl ?_
  refine ww_aload_n hx hb dX0_payBack_1 rfl 0 rfl ?_
  refine ww_get (C := RX0) (T := TX0) (N := 4) hx hb hown hts hK inA0 3 rfl rfl 3 (by decide) kw_170 rfl rfl dX0_payBack_2 ?_
  refine ww_min hx hb hml hown hts (Nat.zero_le _) (Nat.zero_le _) kw_221 kw_222 kw_71 kw_223 ⟨Nat.le_of_ble_eq_true rfl, Nat.le_of_ble_eq_true rfl⟩ dX0_payBack_5 ?_
  refine ww_istore_n (i := 2) (lv1 := [(0, .ref (q 3)), (1, .int (x1)), (2, .int (imin x1 (σ 3 3)))]) hx hb dX0_payBack_8 rfl (by decide) [1, 2, 0] rfl ?_
  refine ww_aload_n hx hb dX0_payBack_9 rfl 0 rfl ?_
  refine ww_dup hx hb dX0_payBack_10 rfl ?_
  refine ww_get (C := RX0) (T := TX0) (N := 4) hx hb hown hts hK inA0 3 rfl rfl 3 (by decide) kw_170 rfl rfl dX0_payBack_11 ?_
  refine ww_iload_n hx hb dX0_payBack_14 rfl 2 rfl ?_
  refine ww_isub hx hb dX0_payBack_15 ?_
  obtain ⟨σ_1, e_1, h⟩ := lt_e h
  refine ww_put (C := RX0) (T := TX0) (N := 4) (ty := .int) (ws1 := WC q cA (σ_1)) hx hb hown hts hK inA0 tyX0 tyX0_ok nmX0 (hDD _) 3 rfl rfl 3 (by decide) kw_170 rfl rfl rfl rfl rfl (Nat.le_of_ble_eq_true rfl) dX0_payBack_16 (e_1 ▸ rfl) ?_
  refine ww_iload_n hx hb dX0_payBack_19 rfl 1 rfl ?_
  refine ww_iload_n hx hb dX0_payBack_20 rfl 2 rfl ?_
  refine ww_isub hx hb dX0_payBack_21 ?_
  obtain ⟨rfl, rfl⟩ := os2 h
  exact ww_iret hx hb hr hlk rfl dX0_payBack_22
set_option maxHeartbeats 4000000 in
set_option maxRecDepth 100000 in
theorem m_X1_payBackLoans (σ : SS) (x1 : Int32) (r : Int32) (σ1 : SS) (h : X1_payBackLoans σ x1 = some (r, σ1)) : Ct l yX1_payBackLoans cX1_payBackLoans 5 (some .int) 2 80 D vwCl [(cA, .int)] (WC q cA σ) (WC q cA σ1) [.ref (q 4), .int (x1)] (some (.int r)) := by
  refine ct_of (by decide +kernel) (Nat.le_of_ble_eq_true rfl) ?_
  intro p e s m args below meth c hx hb hr hlk hml hown hts hK hD hN hA
  have hown : s.vm.findClass RX1 = some m.cls := hown
  have hDD : ∀ τ : SS, va_D (va_A (WC q cA σ) s.heap.size) (WC q cA τ) := fun τ => hD.adr rfl
  unfold X1_payBackLoans at h
  have lp4 : ∀ (n : Nat) (τ : SS) (x2 : Int32) (x3 : Int32), X1_payBackLoans_l4 n τ x2 x3 = some (r, σ1) → WW p l e (rmc 2 80 0 0) s m args below meth c D vwCl (va_A (WC q cA σ) s.heap.size) 5 0 0 (MQ below (qcW D vwCl (WC q cA σ) (WC q cA σ1) (some (.int r)) s.heap.size) args s 0 0 (va_A (WC q cA σ) s.heap.size)) (WC q cA τ) 4 [(0, .ref (q 4)), (2, .int (x2)), (3, .int (x3))] [] := by
    intro n
    induction n with
    | zero => intro τ x2 x3 h; rw [X1_payBackLoans_l4] at h; cases h
    | succ n ih =>
      intro τ x2 x3 h
      rw [X1_payBackLoans_l4] at h
      refine ww_iload_n hx hb dX1_payBackLoans_4 rfl 2 rfl ?_
      refine ww_aload_n hx hb dX1_payBackLoans_5 rfl 0 rfl ?_
      refine ww_get (C := RX1) (T := TX1) (N := 10) hx hb hown hts hK inA1 4 rfl rfl 7 (by decide) kw_199 rfl rfl dX1_payBackLoans_6 ?_
      refine ww_ge2 (tgt := 65) hx hb dX1_payBackLoans_9 (by decide) (fun c_1 => ?_) (fun c_1 => ?_)
      · replace h := it_p c_1 h
        refine ww_iload_n hx hb dX1_payBackLoans_65 rfl 1 rfl ?_
        obtain ⟨rfl, rfl⟩ := os2 h
        exact ww_iret hx hb hr hlk rfl dX1_payBackLoans_66
      · replace h := it_n c_1 h
        refine ww_iload_n hx hb dX1_payBackLoans_12 rfl 1 rfl ?_
        refine ww_aload_n hx hb dX1_payBackLoans_13 rfl 0 rfl ?_
        refine ww_get (C := RX1) (T := TX1) (N := 10) hx hb hown hts hK inA1 4 rfl rfl 1 (by decide) kw_200 rfl rfl dX1_payBackLoans_14 ?_
        refine ww_iload_n hx hb dX1_payBackLoans_17 rfl 2 rfl ?_
        refine ww_callN (ws1 := WC q cA τ) (st1 := [.int (fat τ 16 10 x3), .int (x2)]) hx hb hml hown hts hK hN hA (hDD _) (Nat.zero_le _) (Nat.zero_le _) [.ref (q 16), .int (x3)] [.int (x2)] (m_at (by decide) τ x3) cs_X1_44 rfl (by decide) rfl (Nat.le_of_ble_eq_true rfl) dX1_payBackLoans_18 rfl ?_
        refine ww_min hx hb hml hown hts (Nat.zero_le _) (Nat.zero_le _) kw_224 kw_222 kw_71 kw_223 ⟨Nat.le_of_ble_eq_true rfl, Nat.le_of_ble_eq_true rfl⟩ dX1_payBackLoans_21 ?_
        refine ww_istore (i := 4) (lv1 := [(0, .ref (q 4)), (2, .int (x2)), (3, .int (x3)), (4, .int (imin x2 (fat τ 16 10 x3)))]) hx hb dX1_payBackLoans_24 (by decide) [1, 2, 3, 0] rfl ?_
        refine ww_aload_n hx hb dX1_payBackLoans_26 rfl 0 rfl ?_
        refine ww_get (C := RX1) (T := TX1) (N := 10) hx hb hown hts hK inA1 4 rfl rfl 1 (by decide) kw_200 rfl rfl dX1_payBackLoans_27 ?_
        refine ww_iload_n hx hb dX1_payBackLoans_30 rfl 2 rfl ?_
        refine ww_iload hx hb dX1_payBackLoans_31 3 rfl ?_
        refine ww_ineg hx hb dX1_payBackLoans_33 ?_
        obtain ⟨σ_2, e_2, h⟩ := lt_e h
        refine ww_callN (ws1 := WC q cA σ_2) (st1 := []) hx hb hml hown hts hK hN hA (hDD _) (Nat.zero_le _) (Nat.zero_le _) [.ref (q 16), .int (x3), .int (-(imin x2 (fat τ 16 10 x3)))] [] (m_add (by decide) _ _ _ _ e_2) cs_X1_54 rfl (by decide) rfl (Nat.le_of_ble_eq_true rfl) dX1_payBackLoans_34 rfl ?_
        refine ww_aload_n hx hb dX1_payBackLoans_37 rfl 0 rfl ?_
        refine ww_get (C := RX1) (T := TX1) (N := 10) hx hb hown hts hK inA1 4 rfl rfl 6 (by decide) kw_225 rfl rfl dX1_payBackLoans_38 ?_
        refine ww_aload_n hx hb dX1_payBackLoans_41 rfl 0 rfl ?_
        refine ww_get (C := RX1) (T := TX1) (N := 10) hx hb hown hts hK inA1 4 rfl rfl 0 (by decide) kw_198 rfl rfl dX1_payBackLoans_42 ?_
        refine ww_iload_n hx hb dX1_payBackLoans_45 rfl 2 rfl ?_
        refine ww_callN (ws1 := WC q cA σ_2) (st1 := [.int (fat σ_2 15 10 x3), .ref (q 21)]) hx hb hml hown hts hK hN hA (hDD _) (Nat.zero_le _) (Nat.zero_le _) [.ref (q 15), .int (x3)] [.ref (q 21)] (m_at (by decide) σ_2 x3) cs_X1_44 rfl (by decide) rfl (Nat.le_of_ble_eq_true rfl) dX1_payBackLoans_46 rfl ?_
        refine ww_iload hx hb dX1_payBackLoans_49 3 rfl ?_
        obtain ⟨σ_3, e_3, h⟩ := lt_e h
        refine ww_callN (ws1 := WC q cA σ_3) (st1 := []) hx hb hml hown hts hK hN hA (hDD _) (Nat.zero_le _) (Nat.zero_le _) [.ref (q 21), .int (fat σ_2 15 10 x3), .int (imin x2 (fat τ 16 10 x3))] [] (m_add (by decide) _ _ _ _ e_3) cs_X1_54 rfl (by decide) rfl (Nat.le_of_ble_eq_true rfl) dX1_payBackLoans_51 rfl ?_
        refine ww_iload_n hx hb dX1_payBackLoans_54 rfl 1 rfl ?_
        refine ww_iload hx hb dX1_payBackLoans_55 3 rfl ?_
        refine ww_isub hx hb dX1_payBackLoans_57 ?_
        refine ww_istore_n (i := 2) (lv1 := [(0, .ref (q 4)), (2, .int (x2 - (imin x2 (fat τ 16 10 x3)))), (3, .int (x3))]) hx hb dX1_payBackLoans_58 rfl (by decide) [1, 0, 2] rfl ?_
        refine ww_iinc (i := 3) (k := 2) (v := 1) (lv1 := [(0, .ref (q 4)), (2, .int (x2 - (imin x2 (fat τ 16 10 x3)))), (3, .int (x3 + 1))]) hx hb dX1_payBackLoans_59 rfl (by decide) (by decide) [1, 2, 0] rfl ?_
        refine ww_goto (tgt := 4) hx hb dX1_payBackLoans_62 (by decide) ?_
        exact ww_sub (lv1 := [(0, .ref (q 4)), (2, .int (x2 - (imin x2 (fat τ 16 10 x3)))), (3, .int (x3 + 1))]) [0, 1, 2] rfl (ih _ _ _ h)
  refine ww_sub (lv1 := [(0, .ref (q 4)), (1, .int (x1))]) [0, 1] rfl ?_
  refine ww_iload_n hx hb dX1_payBackLoans_0 rfl 1 rfl ?_
  refine ww_istore_n (i := 2) (lv1 := [(0, .ref (q 4)), (2, .int (x1))]) hx hb dX1_payBackLoans_1 rfl (by decide) [1, 0] rfl ?_
  refine ww_iconst (v := 0) hx hb dX1_payBackLoans_2 (by decide) ?_
  refine ww_istore_n (i := 3) (lv1 := [(0, .ref (q 4)), (2, .int (x1)), (3, .int ((0 : Int32)))]) hx hb dX1_payBackLoans_3 rfl (by decide) [1, 2, 0] rfl ?_
  exact ww_sub (lv1 := [(0, .ref (q 4)), (2, .int (x1)), (3, .int ((0 : Int32)))]) [0, 1, 2] rfl (lp4 _ _ _ _ h)
set_option maxHeartbeats 4000000 in
set_option maxRecDepth 100000 in
theorem m_X1_share (σ : SS) (x1 : Int32) (σ1 : SS) (h : X1_share σ x1 = some σ1) : Ct l yX1_share cX1_share 6 none 2 80 D vwCl [(cA, .int)] (WC q cA σ) (WC q cA σ1) [.ref (q 4), .int (x1)] none := by
  refine ct_of (by decide +kernel) (Nat.le_of_ble_eq_true rfl) ?_
  intro p e s m args below meth c hx hb hr hlk hml hown hts hK hD hN hA
  have hown : s.vm.findClass RX1 = some m.cls := hown
  have hDD : ∀ τ : SS, va_D (va_A (WC q cA σ) s.heap.size) (WC q cA τ) := fun τ => hD.adr rfl
  unfold X1_share at h
  have lp4 : ∀ (n : Nat) (τ : SS) (x1 : Int32) (x2 : Int32) (x3 : Int32), X1_share_l4 n τ x1 x2 x3 = some σ1 → WW p l e (rmc 2 80 0 0) s m args below meth c D vwCl (va_A (WC q cA σ) s.heap.size) 6 0 0 (MQ below (qcW D vwCl (WC q cA σ) (WC q cA σ1) none s.heap.size) args s 0 0 (va_A (WC q cA σ) s.heap.size)) (WC q cA τ) 4 [(0, .ref (q 4)), (1, .int (x1)), (2, .int (x2)), (3, .int (x3))] [] := by
    intro n
    induction n with
    | zero => intro τ x1 x2 x3 h; rw [X1_share_l4] at h; cases h
    | succ n ih =>
      have bk115 : ∀ (τ : SS) (x1 : Int32) (x2 : Int32) (x3 : Int32), X1_share_b115 (X1_share_l4 n) τ x1 x2 x3 = some σ1 → WW p l e (rmc 2 80 0 0) s m args below meth c D vwCl (va_A (WC q cA σ) s.heap.size) 6 0 0 (MQ below (qcW D vwCl (WC q cA σ) (WC q cA σ1) none s.heap.size) args s 0 0 (va_A (WC q cA σ) s.heap.size)) (WC q cA τ) 115 [(0, .ref (q 4)), (1, .int (x1)), (2, .int (x2)), (3, .int (x3))] [] := by
        intro τ x1 x2 x3 h
        unfold X1_share_b115 at h
        refine ww_iinc (i := 3) (k := 3) (v := 1) (lv1 := [(0, .ref (q 4)), (1, .int (x1)), (2, .int (x2)), (3, .int (x3 + 1))]) hx hb dX1_share_115 rfl (by decide) (by decide) [1, 2, 3, 0] rfl ?_
        refine ww_goto (tgt := 4) hx hb dX1_share_118 (by decide) ?_
        exact ww_sub (lv1 := [(0, .ref (q 4)), (1, .int (x1)), (2, .int (x2)), (3, .int (x3 + 1))]) [0, 1, 2, 3] rfl (ih _ _ _ _ h)
      have bk41 : ∀ (τ : SS) (x1 : Int32) (x2 : Int32) (x3 : Int32) (x4 : Int32) (y0 : Int32), X1_share_b41 (X1_share_l4 n) τ x1 x2 x3 x4 y0 = some σ1 → WW p l e (rmc 2 80 0 0) s m args below meth c D vwCl (va_A (WC q cA σ) s.heap.size) 6 0 0 (MQ below (qcW D vwCl (WC q cA σ) (WC q cA σ1) none s.heap.size) args s 0 0 (va_A (WC q cA σ) s.heap.size)) (WC q cA τ) 41 [(0, .ref (q 4)), (1, .int (x1)), (2, .int (x2)), (3, .int (x3)), (4, .int (x4))] [.int (y0)] := by
        intro τ x1 x2 x3 x4 y0 h
        unfold X1_share_b41 at h
        refine ww_aload_n hx hb dX1_share_41 rfl 0 rfl ?_
        refine ww_get (C := RX1) (T := TX1) (N := 10) hx hb hown hts hK inA1 4 rfl rfl 4 (by decide) kw_210 rfl rfl dX1_share_42 ?_
        refine ww_iload_n hx hb dX1_share_45 rfl 3 rfl ?_
        refine ww_callN (ws1 := WC q cA τ) (st1 := [.int (fat τ 19 12 x3), .int (y0)]) hx hb hml hown hts hK hN hA (hDD _) (Nat.zero_le _) (Nat.zero_le _) [.ref (q 19), .int (x3)] [.int (y0)] (m_at (by decide) τ x3) cs_X1_44 rfl (by decide) rfl (Nat.le_of_ble_eq_true rfl) dX1_share_46 rfl ?_
        refine ww_imul hx hb dX1_share_49 ?_
        refine ww_bipush (v := 100) hx hb dX1_share_50 (by decide) ?_
        refine ww_idiv hx hb dX1_share_52 (by decide) ?_
        refine ww_istore (i := 5) (lv1 := [(0, .ref (q 4)), (1, .int (x1)), (2, .int (x2)), (3, .int (x3)), (4, .int (x4)), (5, .int ((y0 * (fat τ 19 12 x3)) / (100 : Int32)))]) hx hb dX1_share_53 (by decide) [1, 2, 3, 4, 5, 0] rfl ?_
        refine ww_aload_n hx hb dX1_share_55 rfl 0 rfl ?_
        refine ww_get (C := RX1) (T := TX1) (N := 10) hx hb hown hts hK inA1 4 rfl rfl 5 (by decide) kw_227 rfl rfl dX1_share_56 ?_
        refine ww_iload_n hx hb dX1_share_59 rfl 3 rfl ?_
        refine ww_iload hx hb dX1_share_60 5 rfl ?_
        obtain ⟨σ_4, e_4, h⟩ := lt_e h
        refine ww_callN (ws1 := WC q cA σ_4) (st1 := []) hx hb hml hown hts hK hN hA (hDD _) (Nat.zero_le _) (Nat.zero_le _) [.ref (q 20), .int (x3), .int ((y0 * (fat τ 19 12 x3)) / (100 : Int32))] [] (m_put (by decide) _ _ _ _ e_4) cs_X1_37 rfl (by decide) rfl (Nat.le_of_ble_eq_true rfl) dX1_share_62 rfl ?_
        refine ww_aload_n hx hb dX1_share_65 rfl 0 rfl ?_
        refine ww_get (C := RX1) (T := TX1) (N := 10) hx hb hown hts hK inA1 4 rfl rfl 6 (by decide) kw_225 rfl rfl dX1_share_66 ?_
        refine ww_aload_n hx hb dX1_share_69 rfl 0 rfl ?_
        refine ww_get (C := RX1) (T := TX1) (N := 10) hx hb hown hts hK inA1 4 rfl rfl 3 (by decide) kw_211 rfl rfl dX1_share_70 ?_
        refine ww_iload_n hx hb dX1_share_73 rfl 3 rfl ?_
        refine ww_callN (ws1 := WC q cA σ_4) (st1 := [.int (fat σ_4 18 12 x3), .ref (q 21)]) hx hb hml hown hts hK hN hA (hDD _) (Nat.zero_le _) (Nat.zero_le _) [.ref (q 18), .int (x3)] [.ref (q 21)] (m_at (by decide) σ_4 x3) cs_X1_44 rfl (by decide) rfl (Nat.le_of_ble_eq_true rfl) dX1_share_74 rfl ?_
        refine ww_iload hx hb dX1_share_77 5 rfl ?_
        obtain ⟨σ_5, e_5, h⟩ := lt_e h
        refine ww_callN (ws1 := WC q cA σ_5) (st1 := []) hx hb hml hown hts hK hN hA (hDD _) (Nat.zero_le _) (Nat.zero_le _) [.ref (q 21), .int (fat σ_4 18 12 x3), .int ((y0 * (fat τ 19 12 x3)) / (100 : Int32))] [] (m_add (by decide) _ _ _ _ e_5) cs_X1_54 rfl (by decide) rfl (Nat.le_of_ble_eq_true rfl) dX1_share_79 rfl ?_
        refine ww_iload hx hb dX1_share_82 4 rfl ?_
        refine ww_iconst (v := -1) hx hb dX1_share_84 (by decide) ?_
        refine ww_ne2 (tgt := 96) hx hb dX1_share_85 (by decide) (fun c_6 => ?_) (fun c_6 => ?_)
        · replace h := it_n c_6 h
          refine ww_aload_n hx hb dX1_share_96 rfl 0 rfl ?_
          refine ww_get (C := RX1) (T := TX1) (N := 10) hx hb hown hts hK inA1 4 rfl rfl 6 (by decide) kw_225 rfl rfl dX1_share_97 ?_
          refine ww_aload_n hx hb dX1_share_100 rfl 0 rfl ?_
          refine ww_get (C := RX1) (T := TX1) (N := 10) hx hb hown hts hK inA1 4 rfl rfl 3 (by decide) kw_211 rfl rfl dX1_share_101 ?_
          refine ww_iload hx hb dX1_share_104 4 rfl ?_
          refine ww_callN (ws1 := WC q cA σ_5) (st1 := [.int (fat σ_5 18 12 x4), .ref (q 21)]) hx hb hml hown hts hK hN hA (hDD _) (Nat.zero_le _) (Nat.zero_le _) [.ref (q 18), .int (x4)] [.ref (q 21)] (m_at (by decide) σ_5 x4) cs_X1_44 rfl (by decide) rfl (Nat.le_of_ble_eq_true rfl) dX1_share_106 rfl ?_
          refine ww_iload hx hb dX1_share_109 5 rfl ?_
          refine ww_ineg hx hb dX1_share_111 ?_
          obtain ⟨σ_7, e_7, h⟩ := lt_e h
          refine ww_callN (ws1 := WC q cA σ_7) (st1 := []) hx hb hml hown hts hK hN hA (hDD _) (Nat.zero_le _) (Nat.zero_le _) [.ref (q 21), .int (fat σ_5 18 12 x4), .int (-((y0 * (fat τ 19 12 x3)) / (100 : Int32)))] [] (m_add (by decide) _ _ _ _ e_7) cs_X1_54 rfl (by decide) rfl (Nat.le_of_ble_eq_true rfl) dX1_share_112 rfl ?_
          exact ww_sub (lv1 := [(0, .ref (q 4)), (1, .int (x1)), (2, .int (x2)), (3, .int (x3))]) [0, 1, 2, 3] rfl (bk115 _ _ _ _ h)
        · replace h := it_p c_6 h
          refine ww_iload_n hx hb dX1_share_88 rfl 2 rfl ?_
          refine ww_iload hx hb dX1_share_89 5 rfl ?_
          refine ww_isub hx hb dX1_share_91 ?_
          refine ww_istore_n (i := 2) (lv1 := [(0, .ref (q 4)), (1, .int (x1)), (2, .int (x2 - ((y0 * (fat τ 19 12 x3)) / (100 : Int32)))), (3, .int (x3))]) hx hb dX1_share_92 rfl (by decide) [1, 2, 0, 3] rfl ?_
          refine ww_goto (tgt := 115) hx hb dX1_share_93 (by decide) ?_
          exact ww_sub (lv1 := [(0, .ref (q 4)), (1, .int (x1)), (2, .int (x2 - ((y0 * (fat τ 19 12 x3)) / (100 : Int32)))), (3, .int (x3))]) [0, 1, 2, 3] rfl (bk115 _ _ _ _ h)
      intro τ x1 x2 x3 h
      rw [X1_share_l4] at h
      refine ww_iload_n hx hb dX1_share_4 rfl 3 rfl ?_
      refine ww_aload_n hx hb dX1_share_5 rfl 0 rfl ?_
      refine ww_get (C := RX1) (T := TX1) (N := 10) hx hb hown hts hK inA1 4 rfl rfl 8 (by decide) kw_208 rfl rfl dX1_share_6 ?_
      refine ww_ge2 (tgt := 121) hx hb dX1_share_9 (by decide) (fun c_1 => ?_) (fun c_1 => ?_)
      · replace h := it_p c_1 h
        refine ww_aload_n hx hb dX1_share_121 rfl 0 rfl ?_
        refine ww_dup hx hb dX1_share_122 rfl ?_
        refine ww_get (C := RX1) (T := TX1) (N := 10) hx hb hown hts hK inA1 4 rfl rfl 9 (by decide) kw_226 rfl rfl dX1_share_123 ?_
        refine ww_iload_n hx hb dX1_share_126 rfl 2 rfl ?_
        refine ww_iadd hx hb dX1_share_127 ?_
        obtain ⟨σ_2, e_2, h⟩ := lt_e h
        refine ww_put (C := RX1) (T := TX1) (N := 10) (ty := .int) (ws1 := WC q cA (σ_2)) hx hb hown hts hK inA1 tyX1 tyX1_ok nmX1 (hDD _) 4 rfl rfl 9 (by decide) kw_226 rfl rfl rfl rfl rfl (Nat.le_of_ble_eq_true rfl) dX1_share_128 (e_2 ▸ rfl) ?_
        obtain rfl := os1 h
        exact ww_vret hx hb hr hlk dX1_share_131
      · replace h := it_n c_1 h
        refine ww_aload_n hx hb dX1_share_12 rfl 0 rfl ?_
        refine ww_get (C := RX1) (T := TX1) (N := 10) hx hb hown hts hK inA1 4 rfl rfl 2 (by decide) kw_209 rfl rfl dX1_share_13 ?_
        refine ww_iload_n hx hb dX1_share_16 rfl 3 rfl ?_
        refine ww_callN (ws1 := WC q cA τ) (st1 := [.int (fat τ 17 12 x3)]) hx hb hml hown hts hK hN hA (hDD _) (Nat.zero_le _) (Nat.zero_le _) [.ref (q 17), .int (x3)] [] (m_at (by decide) τ x3) cs_X1_44 rfl (by decide) rfl (Nat.le_of_ble_eq_true rfl) dX1_share_17 rfl ?_
        refine ww_istore (i := 4) (lv1 := [(0, .ref (q 4)), (1, .int (x1)), (2, .int (x2)), (3, .int (x3)), (4, .int (fat τ 17 12 x3))]) hx hb dX1_share_20 (by decide) [1, 2, 3, 4, 0] rfl ?_
        refine ww_iload hx hb dX1_share_22 4 rfl ?_
        refine ww_iconst (v := -1) hx hb dX1_share_24 (by decide) ?_
        refine ww_ne2 (tgt := 32) hx hb dX1_share_25 (by decide) (fun c_3 => ?_) (fun c_3 => ?_)
        · replace h := it_n c_3 h
          refine ww_aload_n hx hb dX1_share_32 rfl 0 rfl ?_
          refine ww_get (C := RX1) (T := TX1) (N := 10) hx hb hown hts hK inA1 4 rfl rfl 5 (by decide) kw_227 rfl rfl dX1_share_33 ?_
          refine ww_iload hx hb dX1_share_36 4 rfl ?_
          refine ww_callN (ws1 := WC q cA τ) (st1 := [.int (fat τ 20 12 (fat τ 17 12 x3))]) hx hb hml hown hts hK hN hA (hDD _) (Nat.zero_le _) (Nat.zero_le _) [.ref (q 20), .int (fat τ 17 12 x3)] [] (m_at (by decide) τ (fat τ 17 12 x3)) cs_X1_44 rfl (by decide) rfl (Nat.le_of_ble_eq_true rfl) dX1_share_38 rfl ?_
          exact ww_sub (lv1 := [(0, .ref (q 4)), (1, .int (x1)), (2, .int (x2)), (3, .int (x3)), (4, .int (fat τ 17 12 x3))]) [0, 1, 2, 3, 4] rfl (bk41 _ _ _ _ _ _ h)
        · replace h := it_p c_3 h
          refine ww_iload_n hx hb dX1_share_28 rfl 1 rfl ?_
          refine ww_goto (tgt := 41) hx hb dX1_share_29 (by decide) ?_
          exact ww_sub (lv1 := [(0, .ref (q 4)), (1, .int (x1)), (2, .int (x2)), (3, .int (x3)), (4, .int (fat τ 17 12 x3))]) [0, 1, 2, 3, 4] rfl (bk41 _ _ _ _ _ _ h)
  refine ww_sub (lv1 := [(0, .ref (q 4)), (1, .int (x1))]) [0, 1] rfl ?_
  refine ww_iload_n hx hb dX1_share_0 rfl 1 rfl ?_
  refine ww_istore_n (i := 2) (lv1 := [(0, .ref (q 4)), (1, .int (x1)), (2, .int (x1))]) hx hb dX1_share_1 rfl (by decide) [1, 2, 0] rfl ?_
  refine ww_iconst (v := 0) hx hb dX1_share_2 (by decide) ?_
  refine ww_istore_n (i := 3) (lv1 := [(0, .ref (q 4)), (1, .int (x1)), (2, .int (x1)), (3, .int ((0 : Int32)))]) hx hb dX1_share_3 rfl (by decide) [1, 2, 3, 0] rfl ?_
  exact ww_sub (lv1 := [(0, .ref (q 4)), (1, .int (x1)), (2, .int (x1)), (3, .int ((0 : Int32)))]) [0, 1, 2, 3] rfl (lp4 _ _ _ _ _ h)
set_option maxHeartbeats 4000000 in
set_option maxRecDepth 100000 in
theorem m_X4_today (σ : SS) : Ct l yX4_today cX4_today 1 (some .int) 0 0 D vwCl [(cA, .int)] (WC q cA σ) (WC q cA σ) [.ref (q 0)] (some (.int (X4_today σ))) := by
  refine ct_of (by decide +kernel) (Nat.le_of_ble_eq_true rfl) ?_
  intro p e s m args below meth c hx hb hr hlk hml hown hts hK hD hN hA
  have hown : s.vm.findClass RX4 = some m.cls := hown
  have hDD : ∀ τ : SS, va_D (va_A (WC q cA σ) s.heap.size) (WC q cA τ) := fun τ => hD.adr rfl
  obtain ⟨r, h⟩ : ∃ r, X4_today σ = r := ⟨_, rfl⟩
  rw [h]
  unfold X4_today at h
  refine ww_sub (lv1 := [(0, .ref (q 0))]) [0] rfl ?_
  refine ww_aload_n hx hb dX4_today_0 rfl 0 rfl ?_
  refine ww_get (C := RX4) (T := TX4) (N := 7) hx hb hown hts hK inA4 0 rfl rfl 1 (by decide) kw_20 rfl rfl dX4_today_1 ?_
  refine ww_get (C := RX2) (T := TX2) (N := 8) hx hb hown hts hK inA2 1 rfl rfl 6 (by decide) kw_184 rfl rfl dX4_today_4 ?_
  obtain rfl := h
  exact ww_iret hx hb hr hlk rfl dX4_today_7
set_option maxHeartbeats 4000000 in
set_option maxRecDepth 100000 in
theorem m_X4_shot (σ : SS) : Ct l yX4_shot cX4_shot 1 (some .int) 0 0 D vwCl [(cA, .int)] (WC q cA σ) (WC q cA σ) [.ref (q 0)] (some (.int (X4_shot σ))) := by
  refine ct_of (by decide +kernel) (Nat.le_of_ble_eq_true rfl) ?_
  intro p e s m args below meth c hx hb hr hlk hml hown hts hK hD hN hA
  have hown : s.vm.findClass RX4 = some m.cls := hown
  have hDD : ∀ τ : SS, va_D (va_A (WC q cA σ) s.heap.size) (WC q cA τ) := fun τ => hD.adr rfl
  obtain ⟨r, h⟩ : ∃ r, X4_shot σ = r := ⟨_, rfl⟩
  rw [h]
  unfold X4_shot at h
  refine ww_sub (lv1 := [(0, .ref (q 0))]) [0] rfl ?_
  refine ww_aload_n hx hb dX4_shot_0 rfl 0 rfl ?_
  refine ww_get (C := RX4) (T := TX4) (N := 7) hx hb hown hts hK inA4 0 rfl rfl 0 (by decide) kw_13 rfl rfl dX4_shot_1 ?_
  refine ww_get (C := RX3) (T := TX3) (N := 9) hx hb hown hts hK inA3 2 rfl rfl 6 (by decide) kw_241 rfl rfl dX4_shot_4 ?_
  obtain rfl := h
  exact ww_iret hx hb hr hlk rfl dX4_shot_7
set_option maxHeartbeats 4000000 in
set_option maxRecDepth 100000 in
theorem m_X4_days (σ : SS) (r : Int32) (σ1 : SS) (h : X4_days σ = some (r, σ1)) : Ct l yX4_days cX4_days 1 (some .int) 22 880 D vwCl [(cA, .int)] (WC q cA σ) (WC q cA σ1) [.ref (q 0)] (some (.int r)) := by
  refine ct_of (by decide +kernel) (Nat.le_of_ble_eq_true rfl) ?_
  intro p e s m args below meth c hx hb hr hlk hml hown hts hK hD hN hA
  have hown : s.vm.findClass RX4 = some m.cls := hown
  have hDD : ∀ τ : SS, va_D (va_A (WC q cA σ) s.heap.size) (WC q cA τ) := fun τ => hD.adr rfl
  unfold X4_days at h
  refine ww_sub (lv1 := [(0, .ref (q 0))]) [0] rfl ?_
  refine ww_aload_n hx hb dX4_days_0 rfl 0 rfl ?_
  refine ww_get (C := RX4) (T := TX4) (N := 7) hx hb hown hts hK inA4 0 rfl rfl 1 (by decide) kw_20 rfl rfl dX4_days_1 ?_
  obtain ⟨σ_1, e_1, h⟩ := ob h
  refine ww_callV (ws1 := WC q cA σ_1) (st1 := []) hx hb hml hown hts hK hN hA (hDD _) (Nat.zero_le _) (Nat.zero_le _) [] [] (m_X2_makePlan _  _ e_1) cs_X4_89 rfl (by decide) 1 rfl rfl rfl (Nat.le_of_ble_eq_true rfl) dX4_days_4 rfl ?_
  refine ww_aload_n hx hb dX4_days_7 rfl 0 rfl ?_
  refine ww_get (C := RX4) (T := TX4) (N := 7) hx hb hown hts hK inA4 0 rfl rfl 1 (by decide) kw_20 rfl rfl dX4_days_8 ?_
  refine ww_get (C := RX2) (T := TX2) (N := 8) hx hb hown hts hK inA2 1 rfl rfl 5 (by decide) kw_242 rfl rfl dX4_days_11 ?_
  obtain ⟨rfl, rfl⟩ := os2 h
  exact ww_iret hx hb hr hlk rfl dX4_days_14
set_option maxHeartbeats 4000000 in
set_option maxRecDepth 100000 in
theorem m_X2_fewestOfAll : ∀ (d : Nat) (σ : SS) (x1 x2 : Int32) (r : Int32) (σ1 : SS) (h : X2_fewestOfAll d σ x1 x2 = some (r, σ1)), Ct l yX2_fewestOfAll cX2_fewestOfAll 5 (some .int) (4 + d) (160 + 40 * d) D vwCl [(cA, .int)] (WC q cA σ) (WC q cA σ1) [.ref (q 1), .int (x1), .int (x2)] (some (.int r)) := by
  intro d
  induction d with
  | zero => intro σ x1 x2 r σ1 h; rw [X2_fewestOfAll] at h; cases h
  | succ d hrec =>
    intro σ x1 x2 r σ1 h
    refine ct_of (by decide +kernel) (Nat.le_of_ble_eq_true rfl) ?_
    intro p e s m args below meth c hx hb hr hlk hml hown hts hK hD hN hA
    have hown : s.vm.findClass RX2 = some m.cls := hown
    have hDD : ∀ τ : SS, va_D (va_A (WC q cA σ) s.heap.size) (WC q cA τ) := fun τ => hD.adr rfl
    rw [X2_fewestOfAll] at h
    have lp29 : ∀ (n : Nat) (τ : SS) (x1 : Int32) (x2 : Int32) (x3 : Int32) (x4 : Int32), X2_fewestOfAll_l29 (X2_fewestOfAll d) n τ x1 x2 x3 x4 = some (r, σ1) → WW p l e (rmc (4 + (d + 1)) (160 + 40 * (d + 1)) 0 0) s m args below meth c D vwCl (va_A (WC q cA σ) s.heap.size) 5 0 0 (MQ below (qcW D vwCl (WC q cA σ) (WC q cA σ1) (some (.int r)) s.heap.size) args s 0 0 (va_A (WC q cA σ) s.heap.size)) (WC q cA τ) 29 [(0, .ref (q 1)), (1, .int (x1)), (2, .int (x2)), (3, .int (x3)), (4, .int (x4))] [] := by
      intro n
      induction n with
      | zero => intro τ x1 x2 x3 x4 h; rw [X2_fewestOfAll_l29] at h; cases h
      | succ n ih =>
        have bk81 : ∀ (τ : SS) (x1 : Int32) (x2 : Int32) (x3 : Int32) (x4 : Int32), X2_fewestOfAll_b81 (X2_fewestOfAll d) (X2_fewestOfAll_l29 (X2_fewestOfAll d) n) τ x1 x2 x3 x4 = some (r, σ1) → WW p l e (rmc (4 + (d + 1)) (160 + 40 * (d + 1)) 0 0) s m args below meth c D vwCl (va_A (WC q cA σ) s.heap.size) 5 0 0 (MQ below (qcW D vwCl (WC q cA σ) (WC q cA σ1) (some (.int r)) s.heap.size) args s 0 0 (va_A (WC q cA σ) s.heap.size)) (WC q cA τ) 81 [(0, .ref (q 1)), (1, .int (x1)), (2, .int (x2)), (3, .int (x3)), (4, .int (x4))] [] := by
          intro τ x1 x2 x3 x4 h
          unfold X2_fewestOfAll_b81 at h
          refine ww_iinc (i := 4) (k := 4) (v := 1) (lv1 := [(0, .ref (q 1)), (1, .int (x1)), (2, .int (x2)), (3, .int (x3)), (4, .int (x4 + 1))]) hx hb dX2_fewestOfAll_81 rfl (by decide) (by decide) [1, 2, 3, 4, 0] rfl ?_
          refine ww_goto (tgt := 29) hx hb dX2_fewestOfAll_84 (by decide) ?_
          exact ww_sub (lv1 := [(0, .ref (q 1)), (1, .int (x1)), (2, .int (x2)), (3, .int (x3)), (4, .int (x4 + 1))]) [0, 1, 2, 3, 4] rfl (ih _ _ _ _ _ h)
        intro τ x1 x2 x3 x4 h
        rw [X2_fewestOfAll_l29] at h
        refine ww_iload hx hb dX2_fewestOfAll_29 4 rfl ?_
        refine ww_aload_n hx hb dX2_fewestOfAll_31 rfl 0 rfl ?_
        refine ww_get (C := RX2) (T := TX2) (N := 8) hx hb hown hts hK inA2 1 rfl rfl 0 (by decide) kw_66 rfl rfl dX2_fewestOfAll_32 ?_
        refine ww_get (C := RX3) (T := TX3) (N := 9) hx hb hown hts hK inA3 2 rfl rfl 5 (by decide) kw_73 rfl rfl dX2_fewestOfAll_35 ?_
        refine ww_ge2 (tgt := 87) hx hb dX2_fewestOfAll_38 (by decide) (fun c_3 => ?_) (fun c_3 => ?_)
        · replace h := it_p c_3 h
          refine ww_iload_n hx hb dX2_fewestOfAll_87 rfl 3 rfl ?_
          obtain ⟨rfl, rfl⟩ := os2 h
          exact ww_iret hx hb hr hlk rfl dX2_fewestOfAll_88
        · replace h := it_n c_3 h
          refine ww_aload_n hx hb dX2_fewestOfAll_41 rfl 0 rfl ?_
          refine ww_get (C := RX2) (T := TX2) (N := 8) hx hb hown hts hK inA2 1 rfl rfl 0 (by decide) kw_66 rfl rfl dX2_fewestOfAll_42 ?_
          refine ww_iload hx hb dX2_fewestOfAll_45 4 rfl ?_
          refine ww_iload_n hx hb dX2_fewestOfAll_47 rfl 2 rfl ?_
          refine ww_callV (ws1 := WC q cA τ) (st1 := [.int (X3_canFollow τ x4 x2)]) hx hb hml hown hts hK hN hA (hDD _) (Nat.zero_le _) (Nat.zero_le _) [.int (x4), .int (x2)] [] (m_X3_canFollow τ x4 x2) cs_X2_97 rfl ⟨by show _ ≤ _ + (_ + 1); omega, by show _ ≤ _ + 40 * (_ + 1); omega⟩ 2 rfl rfl rfl (Nat.le_of_ble_eq_true rfl) dX2_fewestOfAll_48 rfl ?_
          refine ww_eq0 (tgt := 81) hx hb dX2_fewestOfAll_51 (by decide) (fun c_4 => ?_) (fun c_4 => ?_)
          · replace h := it_p c_4 h
            exact ww_sub (lv1 := [(0, .ref (q 1)), (1, .int (x1)), (2, .int (x2)), (3, .int (x3)), (4, .int (x4))]) [0, 1, 2, 3, 4] rfl (bk81 _ _ _ _ _ h)
          · replace h := it_n c_4 h
            refine ww_aload_n hx hb dX2_fewestOfAll_54 rfl 0 rfl ?_
            refine ww_iload hx hb dX2_fewestOfAll_55 4 rfl ?_
            refine ww_iload_n hx hb dX2_fewestOfAll_57 rfl 1 rfl ?_
            refine ww_iload_n hx hb dX2_fewestOfAll_58 rfl 2 rfl ?_
            obtain ⟨σ_5, e_5, h⟩ := ob h
            refine ww_callV (ws1 := WC q cA σ_5) (st1 := []) hx hb hml hown hts hK hN hA (hDD _) (Nat.zero_le _) (Nat.zero_le _) [.int (x4), .int (x1), .int (x2)] [] (m_X2_place _ _ _ _ _ e_5) cs_X2_100 rfl ⟨by show _ ≤ _ + (_ + 1); omega, by show _ ≤ _ + 40 * (_ + 1); omega⟩ 1 rfl rfl rfl (Nat.le_of_ble_eq_true rfl) dX2_fewestOfAll_59 rfl ?_
            refine ww_iload_n hx hb dX2_fewestOfAll_62 rfl 3 rfl ?_
            refine ww_aload_n hx hb dX2_fewestOfAll_63 rfl 0 rfl ?_
            refine ww_iload_n hx hb dX2_fewestOfAll_64 rfl 1 rfl ?_
            refine ww_iconst (v := 1) hx hb dX2_fewestOfAll_65 (by decide) ?_
            refine ww_iadd hx hb dX2_fewestOfAll_66 ?_
            refine ww_iload_n hx hb dX2_fewestOfAll_67 rfl 2 rfl ?_
            refine ww_iload hx hb dX2_fewestOfAll_68 4 rfl ?_
            refine ww_iconst (v := 1) hx hb dX2_fewestOfAll_70 (by decide) ?_
            refine ww_callN (ws1 := WC q cA σ_5) (st1 := [.int (X4_with x2 x4 (1 : Int32)), .int (x1 + (1 : Int32)), .ref (q 1), .int (x3)]) hx hb hml hown hts hK hN hA (hDD _) (Nat.zero_le _) (Nat.zero_le _) [.int (x2), .int (x4), .int ((1 : Int32))] [.int (x1 + (1 : Int32)), .ref (q 1), .int (x3)] (m_X4_with σ_5 x2 x4 (1 : Int32)) cs_X2_73 rfl ⟨by show _ ≤ _ + (_ + 1); omega, by show _ ≤ _ + 40 * (_ + 1); omega⟩ rfl (Nat.le_of_ble_eq_true rfl) dX2_fewestOfAll_71 rfl ?_
            obtain ⟨r_6, σ_6, e_6, h⟩ := ob2 h
            refine ww_callS (ws1 := WC q cA σ_6) (st1 := [.int (r_6), .int (x3)]) hx hb hml hown hts hK hN hA (hDD _) (Nat.zero_le _) (Nat.zero_le _) [.ref (q 1), .int (x1 + (1 : Int32)), .int (X4_with x2 x4 (1 : Int32))] [.int (x3)] (hrec _ _ _ _ _ e_6) cs_X2_46 rfl ⟨by show _ ≤ _ + (_ + 1); omega, by show _ ≤ _ + 40 * (_ + 1); omega⟩ rfl (Nat.le_of_ble_eq_true rfl) dX2_fewestOfAll_74 rfl ?_
            refine ww_min hx hb hml hown hts (Nat.zero_le _) (Nat.zero_le _) kw_246 kw_222 kw_71 kw_223 ⟨Nat.le_of_ble_eq_true rfl, Nat.le_of_ble_eq_true rfl⟩ dX2_fewestOfAll_77 ?_
            refine ww_istore_n (i := 3) (lv1 := [(0, .ref (q 1)), (1, .int (x1)), (2, .int (x2)), (3, .int (imin x3 r_6)), (4, .int (x4))]) hx hb dX2_fewestOfAll_80 rfl (by decide) [1, 2, 3, 0, 4] rfl ?_
            exact ww_sub (lv1 := [(0, .ref (q 1)), (1, .int (x1)), (2, .int (x2)), (3, .int (imin x3 r_6)), (4, .int (x4))]) [0, 1, 2, 3, 4] rfl (bk81 _ _ _ _ _ h)
    have bk17 : ∀ (τ : SS) (x1 : Int32), X2_fewestOfAll_b17 (X2_fewestOfAll d) τ x1 = some (r, σ1) → WW p l e (rmc (4 + (d + 1)) (160 + 40 * (d + 1)) 0 0) s m args below meth c D vwCl (va_A (WC q cA σ) s.heap.size) 5 0 0 (MQ below (qcW D vwCl (WC q cA σ) (WC q cA σ1) (some (.int r)) s.heap.size) args s 0 0 (va_A (WC q cA σ) s.heap.size)) (WC q cA τ) 17 [(0, .ref (q 1)), (1, .int (x1))] [] := by
      intro τ x1 h
      unfold X2_fewestOfAll_b17 at h
      refine ww_aload_n hx hb dX2_fewestOfAll_17 rfl 0 rfl ?_
      refine ww_iload_n hx hb dX2_fewestOfAll_18 rfl 1 rfl ?_
      refine ww_callV (ws1 := WC q cA τ) (st1 := [.int (X2_daysUpTo τ x1)]) hx hb hml hown hts hK hN hA (hDD _) (Nat.zero_le _) (Nat.zero_le _) [.int (x1)] [] (m_X2_daysUpTo τ x1) cs_X2_107 rfl ⟨by show _ ≤ _ + (_ + 1); omega, by show _ ≤ _ + 40 * (_ + 1); omega⟩ 1 rfl rfl rfl (Nat.le_of_ble_eq_true rfl) dX2_fewestOfAll_19 rfl ?_
      obtain ⟨rfl, rfl⟩ := os2 h
      exact ww_iret hx hb hr hlk rfl dX2_fewestOfAll_22
    refine ww_sub (lv1 := [(0, .ref (q 1)), (1, .int (x1)), (2, .int (x2))]) [0, 1, 2] rfl ?_
    refine ww_iload_n hx hb dX2_fewestOfAll_0 rfl 2 rfl ?_
    refine ww_aload_n hx hb dX2_fewestOfAll_1 rfl 0 rfl ?_
    refine ww_get (C := RX2) (T := TX2) (N := 8) hx hb hown hts hK inA2 1 rfl rfl 0 (by decide) kw_66 rfl rfl dX2_fewestOfAll_2 ?_
    refine ww_callV (ws1 := WC q cA σ) (st1 := [.int (X3_everyScene σ), .int (x2)]) hx hb hml hown hts hK hN hA (hDD _) (Nat.zero_le _) (Nat.zero_le _) [] [.int (x2)] (m_X3_everyScene σ) cs_X2_90 rfl ⟨by show _ ≤ _ + (_ + 1); omega, by show _ ≤ _ + 40 * (_ + 1); omega⟩ 2 rfl rfl rfl (Nat.le_of_ble_eq_true rfl) dX2_fewestOfAll_5 rfl ?_
    refine ww_eq2 (tgt := 17) hx hb dX2_fewestOfAll_8 (by decide) (fun c_1 => ?_) (fun c_1 => ?_)
    · replace h := it_p c_1 h
      exact ww_sub (lv1 := [(0, .ref (q 1)), (1, .int (x1))]) [0, 1] rfl (bk17 _ _ h)
    · replace h := it_n c_1 h
      refine ww_iload_n hx hb dX2_fewestOfAll_11 rfl 1 rfl ?_
      refine ww_bipush (v := 8) hx hb dX2_fewestOfAll_12 (by decide) ?_
      refine ww_lt2 (tgt := 23) hx hb dX2_fewestOfAll_14 (by decide) (fun c_2 => ?_) (fun c_2 => ?_)
      · replace h := it_p c_2 h
        refine ww_bipush (v := 9) hx hb dX2_fewestOfAll_23 (by decide) ?_
        refine ww_istore_n (i := 3) (lv1 := [(0, .ref (q 1)), (1, .int (x1)), (2, .int (x2)), (3, .int ((9 : Int32)))]) hx hb dX2_fewestOfAll_25 rfl (by decide) [1, 2, 3, 0] rfl ?_
        refine ww_iconst (v := 0) hx hb dX2_fewestOfAll_26 (by decide) ?_
        refine ww_istore (i := 4) (lv1 := [(0, .ref (q 1)), (1, .int (x1)), (2, .int (x2)), (3, .int ((9 : Int32))), (4, .int ((0 : Int32)))]) hx hb dX2_fewestOfAll_27 (by decide) [1, 2, 3, 4, 0] rfl ?_
        exact ww_sub (lv1 := [(0, .ref (q 1)), (1, .int (x1)), (2, .int (x2)), (3, .int ((9 : Int32))), (4, .int ((0 : Int32)))]) [0, 1, 2, 3, 4] rfl (lp29 _ _ _ _ _ _ h)
      · replace h := it_n c_2 h
        exact ww_sub (lv1 := [(0, .ref (q 1)), (1, .int (x1))]) [0, 1] rfl (bk17 _ _ h)
set_option maxHeartbeats 4000000 in
set_option maxRecDepth 100000 in
theorem m_X2_fewestDays (σ : SS) (r : Int32) (σ1 : SS) (h : X2_fewestDays σ = some (r, σ1)) : Ct l yX2_fewestDays cX2_fewestDays 1 (some .int) 21 840 D vwCl [(cA, .int)] (WC q cA σ) (WC q cA σ1) [.ref (q 1)] (some (.int r)) := by
  refine ct_of (by decide +kernel) (Nat.le_of_ble_eq_true rfl) ?_
  intro p e s m args below meth c hx hb hr hlk hml hown hts hK hD hN hA
  have hown : s.vm.findClass RX2 = some m.cls := hown
  have hDD : ∀ τ : SS, va_D (va_A (WC q cA σ) s.heap.size) (WC q cA τ) := fun τ => hD.adr rfl
  unfold X2_fewestDays at h
  refine ww_sub (lv1 := [(0, .ref (q 1))]) [0] rfl ?_
  refine ww_aload_n hx hb dX2_fewestDays_0 rfl 0 rfl ?_
  refine ww_iconst (v := 0) hx hb dX2_fewestDays_1 (by decide) ?_
  refine ww_aload_n hx hb dX2_fewestDays_2 rfl 0 rfl ?_
  refine ww_get (C := RX2) (T := TX2) (N := 8) hx hb hown hts hK inA2 1 rfl rfl 0 (by decide) kw_66 rfl rfl dX2_fewestDays_3 ?_
  refine ww_get (C := RX3) (T := TX3) (N := 9) hx hb hown hts hK inA3 2 rfl rfl 6 (by decide) kw_140 rfl rfl dX2_fewestDays_6 ?_
  obtain ⟨r_1, σ_1, e_1, h⟩ := ob2 h
  refine ww_callS (ws1 := WC q cA σ_1) (st1 := [.int (r_1)]) hx hb hml hown hts hK hN hA (hDD _) (Nat.zero_le _) (Nat.zero_le _) [.ref (q 1), .int ((0 : Int32)), .int (σ 2 6)] [] (m_X2_fewestOfAll 16 _ _ _ _ _ e_1) cs_X2_46 rfl (by decide) rfl (Nat.le_of_ble_eq_true rfl) dX2_fewestDays_9 rfl ?_
  obtain ⟨rfl, rfl⟩ := os2 h
  exact ww_iret hx hb hr hlk rfl dX2_fewestDays_12
set_option maxHeartbeats 4000000 in
set_option maxRecDepth 100000 in
theorem m_X4_fee (σ : SS) : Ct l yX4_fee cX4_fee 1 (some .int) 0 0 D vwCl [(cA, .int)] (WC q cA σ) (WC q cA σ) [.ref (q 0)] (some (.int (X4_fee σ))) := by
  refine ct_of (by decide +kernel) (Nat.le_of_ble_eq_true rfl) ?_
  intro p e s m args below meth c hx hb hr hlk hml hown hts hK hD hN hA
  have hown : s.vm.findClass RX4 = some m.cls := hown
  have hDD : ∀ τ : SS, va_D (va_A (WC q cA σ) s.heap.size) (WC q cA τ) := fun τ => hD.adr rfl
  obtain ⟨r, h⟩ : ∃ r, X4_fee σ = r := ⟨_, rfl⟩
  rw [h]
  unfold X4_fee at h
  refine ww_sub (lv1 := [(0, .ref (q 0))]) [0] rfl ?_
  refine ww_aload_n hx hb dX4_fee_0 rfl 0 rfl ?_
  refine ww_get (C := RX4) (T := TX4) (N := 7) hx hb hown hts hK inA4 0 rfl rfl 2 (by decide) kw_181 rfl rfl dX4_fee_1 ?_
  refine ww_get (C := RX0) (T := TX0) (N := 4) hx hb hown hts hK inA0 3 rfl rfl 1 (by decide) kw_183 rfl rfl dX4_fee_4 ?_
  obtain rfl := h
  exact ww_iret hx hb hr hlk rfl dX4_fee_7
set_option maxHeartbeats 4000000 in
set_option maxRecDepth 100000 in
theorem m_X4_costs (σ : SS) : Ct l yX4_costs cX4_costs 1 (some .int) 0 0 D vwCl [(cA, .int)] (WC q cA σ) (WC q cA σ) [.ref (q 0)] (some (.int (X4_costs σ))) := by
  refine ct_of (by decide +kernel) (Nat.le_of_ble_eq_true rfl) ?_
  intro p e s m args below meth c hx hb hr hlk hml hown hts hK hD hN hA
  have hown : s.vm.findClass RX4 = some m.cls := hown
  have hDD : ∀ τ : SS, va_D (va_A (WC q cA σ) s.heap.size) (WC q cA τ) := fun τ => hD.adr rfl
  obtain ⟨r, h⟩ : ∃ r, X4_costs σ = r := ⟨_, rfl⟩
  rw [h]
  unfold X4_costs at h
  refine ww_sub (lv1 := [(0, .ref (q 0))]) [0] rfl ?_
  refine ww_aload_n hx hb dX4_costs_0 rfl 0 rfl ?_
  refine ww_get (C := RX4) (T := TX4) (N := 7) hx hb hown hts hK inA4 0 rfl rfl 2 (by decide) kw_181 rfl rfl dX4_costs_1 ?_
  refine ww_get (C := RX0) (T := TX0) (N := 4) hx hb hown hts hK inA0 3 rfl rfl 2 (by decide) kw_254 rfl rfl dX4_costs_4 ?_
  obtain rfl := h
  exact ww_iret hx hb hr hlk rfl dX4_costs_7
set_option maxHeartbeats 4000000 in
set_option maxRecDepth 100000 in
theorem m_X4_open (σ : SS) : Ct l yX4_open cX4_open 1 (some .int) 0 0 D vwCl [(cA, .int)] (WC q cA σ) (WC q cA σ) [.ref (q 0)] (some (.int (X4_open σ))) := by
  refine ct_of (by decide +kernel) (Nat.le_of_ble_eq_true rfl) ?_
  intro p e s m args below meth c hx hb hr hlk hml hown hts hK hD hN hA
  have hown : s.vm.findClass RX4 = some m.cls := hown
  have hDD : ∀ τ : SS, va_D (va_A (WC q cA σ) s.heap.size) (WC q cA τ) := fun τ => hD.adr rfl
  obtain ⟨r, h⟩ : ∃ r, X4_open σ = r := ⟨_, rfl⟩
  rw [h]
  unfold X4_open at h
  refine ww_sub (lv1 := [(0, .ref (q 0))]) [0] rfl ?_
  refine ww_aload_n hx hb dX4_open_0 rfl 0 rfl ?_
  refine ww_get (C := RX4) (T := TX4) (N := 7) hx hb hown hts hK inA4 0 rfl rfl 2 (by decide) kw_181 rfl rfl dX4_open_1 ?_
  refine ww_get (C := RX0) (T := TX0) (N := 4) hx hb hown hts hK inA0 3 rfl rfl 3 (by decide) kw_255 rfl rfl dX4_open_4 ?_
  obtain rfl := h
  exact ww_iret hx hb hr hlk rfl dX4_open_7
set_option maxHeartbeats 4000000 in
set_option maxRecDepth 100000 in
theorem m_X4_house (σ : SS) : Ct l yX4_house cX4_house 1 (some .int) 0 0 D vwCl [(cA, .int)] (WC q cA σ) (WC q cA σ) [.ref (q 0)] (some (.int (X4_house σ))) := by
  refine ct_of (by decide +kernel) (Nat.le_of_ble_eq_true rfl) ?_
  intro p e s m args below meth c hx hb hr hlk hml hown hts hK hD hN hA
  have hown : s.vm.findClass RX4 = some m.cls := hown
  have hDD : ∀ τ : SS, va_D (va_A (WC q cA σ) s.heap.size) (WC q cA τ) := fun τ => hD.adr rfl
  obtain ⟨r, h⟩ : ∃ r, X4_house σ = r := ⟨_, rfl⟩
  rw [h]
  unfold X4_house at h
  refine ww_sub (lv1 := [(0, .ref (q 0))]) [0] rfl ?_
  refine ww_aload_n hx hb dX4_house_0 rfl 0 rfl ?_
  refine ww_get (C := RX4) (T := TX4) (N := 7) hx hb hown hts hK inA4 0 rfl rfl 3 (by decide) kw_201 rfl rfl dX4_house_1 ?_
  refine ww_get (C := RX1) (T := TX1) (N := 10) hx hb hown hts hK inA1 4 rfl rfl 9 (by decide) kw_258 rfl rfl dX4_house_4 ?_
  obtain rfl := h
  exact ww_iret hx hb hr hlk rfl dX4_house_7
end
end
section
/-! Methods that may throw. -/
def ZZ (A : Nat → Prop) (U : State) : Prop := vx_Zq Bundle.tN "UNASSIGNED_STACK" Bundle.steD A U U.heap ∧ vx_Zq Bundle.tN "SUPPRESSED_SENTINEL" Bundle.listD A U U.heap
def pxW (D : va_G) (cl : List vw_C) (tys : List (ClassId × FieldType)) (ws : va_W) (As : List Value) (sz : Nat) : Array Value → State → Prop := va_Pc As (fun U => U.heap.size = sz ∧ va_P D cl ws U.heap ∧ va_K D cl tys U ∧ va_D (fun _ => True) ws ∧ NWs U ∧ ZZ (va_A ws sz) U)
def qxW (D : va_G) (cl : List vw_C) (ws ws1 : va_W) (r : Int32 ⊕ String) (sz : Nat) : Array Value → State → Outcome → State → Prop := fun _ st oc t => ((∃ v, r = .inl v ∧ oc = .returned (some (.int v))) ∧ va_P D cl ws1 t.heap) ∧ va_F (va_A ws sz) st t
def xcW (D : va_G) (cl : List vw_C) (ws ws1 : va_W) (r : Int32 ⊕ String) (sz : Nat) : String → State → State → Prop := fun E st t => r = .inr E ∧ va_P D cl ws1 t.heap ∧ va_F (va_A ws sz) st t
/-- the method y, in a world ws with the arguments As: it returns v (r = inl v) or throws an E (r = inr E), the world is ws1 -/
def CtX (l : Launch) (y : MethodName) (cc : ByteArray) (maxL : Nat) (ret : Option FieldType) (fr lo : Nat) (D : va_G) (cl : List vw_C) (tys : List (ClassId × FieldType)) (ws ws1 : va_W) (As : List Value) (r : Int32 ⊕ String) : Prop :=
  ∀ sz : Nat, vx_Met l y (.code y cc maxL ret :: wALL) (rmc fr lo 1 6) (pxW D cl tys ws As sz) (qxW D cl ws ws1 r sz) (xcW D cl ws ws1 r sz) 1 6 (va_A ws sz)
theorem ctx_of {l : Launch} {y : MethodName} {cc : ByteArray} {maxL : Nat} {ret : Option FieldType} {fr lo : Nat} {D : va_G} {cl : List vw_C} {tys : List (ClassId × FieldType)} {ws ws1 : va_W} {As : List Value} {r : Int32 ⊕ String} (hy : plainName y.cls = true) (hlen : (lg_sl As).length ≤ maxL)
    (body : ∀ (p : Program) (e : Env) (s : State) (m : MethodId) (args : Array Value) (below : List Frame) (meth : Method) (c : Code), p.tables.exec = Jvm.exec → c.code = cc → meth.sig.returnType = ret → meth.locks = false → c.maxLocals = maxL → s.vm.findClass y.cls = some m.cls → (∀ w ∈ wALL, w.before args s = true) → va_K D cl tys s → va_D (va_A ws s.heap.size) ws → NWs s → (∀ q, s.heap.size ≤ q → va_A ws s.heap.size q) → ZZ (va_A ws s.heap.size) s → (∀ x ∈ c.exceptionTable.toList, False) →
      WW p l e (rmc fr lo 1 6) s m args below meth c D cl (va_A ws s.heap.size) maxL 0 0 (vx_MQ below (qxW D cl ws ws1 r s.heap.size) (xcW D cl ws ws1 r s.heap.size) args s 1 6 (va_A ws s.heap.size)) ws 0 (lv_args 0 As) []) : CtX l y cc maxL ret fr lo D cl tys ws ws1 As r := by
  intro sz
  refine vx_ofW (cc := cc) (maxL := maxL) (ret := ret) hy rfl ?_
  intro p e s m args below meth c s₁ B hml hno hv
  obtain ⟨rfl, hsz, hP, hK, hD0, hN, hZ⟩ := hv
  have hts := atoms_spec (ws := .code y cc maxL ret :: wALL) B.pre
  subst hsz
  have hl := lv_entry As (n := maxL) hlen
  rw [lg_entry_eq]
  exact body p e s m As.toArray below meth c B.exec B.bytes B.returns B.notSynchronized hml (findClass_of_methodNamed B.named) (fun w hw => hts w (List.mem_cons_of_mem _ hw)) hK hD0.self hN (fun q h => Or.inr h) hZ hno s.heap [] _ hP va_S.rf hl
abbrev exN : List String := ["java/lang/RuntimeException", "java/lang/Exception"]
def exB (E : String) : List Cond := [.castable E E, .declares ⟨"java/lang/RuntimeException", "<init>", "()V"⟩, .declares ⟨"java/lang/Exception", "<init>", "()V"⟩, .declares ⟨"java/lang/Throwable", "<init>", "()V"⟩]
/-- what a throw owes to the tables -/
def ekW (own : String) (ik ic : Nat) (E : String) : Prop := (∀ w ∈ (vx_at0 own ic E exN).filter goodWord, w ∈ wALL) ∧ (∀ w ∈ (vx_at0 own ic E exN).filter (fun w => !goodWord w), w ∈ exB E) ∧ (∀ w ∈ Cond.classLink own ik E :: Cond.initialized E :: vx_at0 own ic E exN, vx_ot w = true) ∧ Bundle.fit E = true ∧ E ∈ castL
theorem ek_of {own : String} {ik ic : Nat} {E : String} (h1 : ∀ w ∈ (vx_at0 own ic E exN).filter goodWord, w ∈ lw_tbl) (h2 : ∀ w ∈ (vx_at0 own ic E exN).filter (fun w => !goodWord w), w ∈ exB E) (h3 : ∀ w ∈ Cond.classLink own ik E :: Cond.initialized E :: vx_at0 own ic E exN, vx_ot w = true) (h4 : Bundle.fit E = true) (h5 : E ∈ castL) : ekW own ik ic E :=
  ⟨fun w hw => List.mem_filter.mpr ⟨h1 w hw, (List.mem_filter.mp hw).2⟩, h2, h3, h4, h5⟩
theorem ek_54_IllegalArgumentException : ekW RX4 52 54 "java/lang/IllegalArgumentException" := ek_of (by decide +kernel) (by decide +kernel) (by decide +kernel) (by decide +kernel) (by decide +kernel)
theorem ek_60_IllegalStateException : ekW RX4 58 60 "java/lang/IllegalStateException" := ek_of (by decide +kernel) (by decide +kernel) (by decide +kernel) (by decide +kernel) (by decide +kernel)
theorem ek_70_IndexOutOfBoundsException : ekW RX4 68 70 "java/lang/IndexOutOfBoundsException" := ek_of (by decide +kernel) (by decide +kernel) (by decide +kernel) (by decide +kernel) (by decide +kernel)
section XRS
variable {p : Program} {l : Launch} {e : Env} {R : Room} {s : State} {m : MethodId} {args : Array Value} {below : List Frame} {meth : Method} {c : Code}
variable {D : va_G} {cl : List vw_C} {tys : List (ClassId × FieldType)} {nL : Nat} {ws ws0 : va_W} {cc : ByteArray} {pc : Nat} {lv : List (Nat × Value)} {st : List Value}
theorem ww_xiret (hx : p.tables.exec = Jvm.exec) (hb : c.code = cc) {v : Int32} {r : Int32 ⊕ String} (hr : meth.sig.returnType = some .int) (hlk : meth.locks = false) (hv : Sum.inl v = r) (hd : decode cc pc = .ok (.ireturn, 1)) : WW p l e R s m args below meth c D cl (va_A ws0 s.heap.size) nL 0 0 (vx_MQ below (qxW D cl ws0 ws r s.heap.size) (xcW D cl ws0 ws r s.heap.size) args s 1 6 (va_A ws0 s.heap.size)) ws pc lv [.int v] :=
  fun _ _ _ hP hS _ => W.widen (k := 1) (n := 6) (Nat.zero_le _) (Nat.zero_le _) (vx_ret (W.iret hx hb hr (fun t ht _ => ⟨⟨⟨v, hv.symm, rfl⟩, by rw [ht]; exact hP⟩, hS.F ht⟩) hS.2.2 hd hlk))
theorem ww_xzret (hx : p.tables.exec = Jvm.exec) (hb : c.code = cc) {v : Int32} {r : Int32 ⊕ String} (hr : meth.sig.returnType = some .boolean) (hlk : meth.locks = false) (hz : v &&& 1 = v) (hv : Sum.inl v = r) (hd : decode cc pc = .ok (.ireturn, 1)) : WW p l e R s m args below meth c D cl (va_A ws0 s.heap.size) nL 0 0 (vx_MQ below (qxW D cl ws0 ws r s.heap.size) (xcW D cl ws0 ws r s.heap.size) args s 1 6 (va_A ws0 s.heap.size)) ws pc lv [.int v] :=
  fun _ _ _ hP hS _ => W.widen (k := 1) (n := 6) (Nat.zero_le _) (Nat.zero_le _) (vx_ret (W.zret hx hb hr (isZ_narrow hz) (fun t ht _ => ⟨⟨⟨v, hv.symm, rfl⟩, by rw [ht]; exact hP⟩, hS.F ht⟩) hS.2.2 hd hlk))
theorem ww_throw {ik ic : Nat} (hx : p.tables.exec = Jvm.exec) (hb : c.code = cc) (hl0 : l.stackTraces = false) (hml : c.maxLocals = nL) {own E : String} (hown : s.vm.findClass own = some m.cls) (hts : ∀ w ∈ wALL, w.before args s = true) (hN : NWs s) (hZ : ZZ (va_A ws0 s.heap.size) s) (hlk : meth.locks = false) (hno : ∀ x ∈ c.exceptionTable.toList, False)
    (k1 : Cond.classLink own ik E ∈ wALL) (k2 : Cond.initialized E ∈ wALL) (hek : ekW own ik ic E) (d0 : decode cc pc = .ok (.new ik, 3)) (d3 : decode cc (pc + 3) = .ok (.dup, 1)) (d4 : decode cc (pc + 4) = .ok (.invokespecial ic, 3)) (d7 : decode cc (pc + 7) = .ok (.athrow, 1)) (hR : 5 < R.frames ∧ (st.map fun v => v.category).sum + 81 ≤ R.locals ∧ 1 ≤ R.cells ∧ 6 ≤ R.slots) : WW p l e R s m args below meth c D cl (va_A ws0 s.heap.size) nL 0 0 (vx_MQ below (qxW D cl ws0 ws (.inr E) s.heap.size) (xcW D cl ws0 ws (.inr E) s.heap.size) args s 1 6 (va_A ws0 s.heap.size)) ws pc lv st := by
  intro H locs ls hP hS hl
  obtain ⟨q1, q2, q3, q4, q5⟩ := hek
  refine vx_throw0 (names := exN) hx hb hl0 hown q4 (by decide +kernel) (hts _ k1) (hts _ k2) (vx_hat (fun w hw => hts _ (q1 w hw)) q2 (vx_c (va_Nw.use rfl (hN.2.1 E q5)) (vx_c (va_Nw.use rfl (hN.2.2.2 _ (List.mem_of_getElem? (i := 0) rfl))) (vx_c (va_Nw.use rfl (hN.2.2.2 _ (List.mem_of_getElem? (i := 1) rfl))) (vx_c (va_Nw.use rfl (hN.2.2.2 _ (List.mem_of_getElem? (i := 2) rfl))) vx_n))))) q3 hZ.1 hZ.2 hS (hl.1.trans hml.symm) d0 d3 d4 d7 (fun x h => (hno x h).elim) hR.1 hR.2.1 ?_ ?_ hlk ?_ hS.2.2 (Nat.le_refl _) (Nat.le_refl _)
  · rw [Nat.zero_add]; exact hR.2.2.1
  · rw [Nat.zero_add]; exact hR.2.2.2
  · intro t _ hsz hq
    refine ⟨rfl, hP.kept (fun k q hk => hq q.1 (hP k q hk).lt), Nat.le_trans hS.1 hsz, fun q h1 h2 => ?_⟩
    rw [hq q (Nat.lt_of_lt_of_le h1 hS.1)]
    exact hS.2.1 q h1 h2
end XRS
section
variable {l : Launch} {D : va_G} {q : Nat → Nat} {cA : ClassId}
set_option maxHeartbeats 4000000 in
set_option maxRecDepth 100000 in
theorem m_X4_addScene (hl0 : l.stackTraces = false) (σ : SS) (x1 x2 x3 x4 x5 : Int32) (r : Int32 ⊕ String) (σ1 : SS) (h : X4_addScene σ x1 x2 x3 x4 x5 = some (r, σ1)) : CtX l yX4_addScene cX4_addScene 6 (some .int) 7 280 D vwCl [(cA, .int)] (WC q cA σ) (WC q cA σ1) [.ref (q 0), .int (x1), .int (x2), .int (x3), .int (x4), .int (x5)] r := by
  refine ctx_of (by decide +kernel) (Nat.le_of_ble_eq_true rfl) ?_
  intro p e s m args below meth c hx hb hr hlk hml hown hts hK hD hN hA hZ hno
  have hown : s.vm.findClass RX4 = some m.cls := hown
  have hDD : ∀ τ : SS, va_D (va_A (WC q cA σ) s.heap.size) (WC q cA τ) := fun τ => hD.adr rfl
  unfold X4_addScene at h
  have bk54 : ∀ (τ : SS) , X4_addScene_b54 τ = some (r, σ1) → WW p l e (rmc 7 280 1 6) s m args below meth c D vwCl (va_A (WC q cA σ) s.heap.size) 6 0 0 (vx_MQ below (qxW D vwCl (WC q cA σ) (WC q cA σ1) r s.heap.size) (xcW D vwCl (WC q cA σ) (WC q cA σ1) r s.heap.size) args s 1 6 (va_A (WC q cA σ) s.heap.size)) (WC q cA τ) 54 [] [] := by
    intro τ h
    unfold X4_addScene_b54 at h
    obtain ⟨rfl, rfl⟩ := os2 h
    exact ww_throw (ik := 52) (ic := 54) hx hb hl0 hml hown hts hN hZ hlk hno kw_32 kw_33 ek_54_IllegalArgumentException dX4_addScene_54 dX4_addScene_57 dX4_addScene_58 dX4_addScene_61 (by decide)
  refine ww_sub (lv1 := [(0, .ref (q 0)), (1, .int (x1)), (2, .int (x2)), (3, .int (x3)), (4, .int (x4)), (5, .int (x5))]) [0, 1, 2, 3, 4, 5] rfl ?_
  refine ww_iload_n hx hb dX4_addScene_0 rfl 1 rfl ?_
  refine ww_iconst (v := 1) hx hb dX4_addScene_1 (by decide) ?_
  refine ww_bipush (v := 6) hx hb dX4_addScene_2 (by decide) ?_
  refine ww_callS (ws1 := WC q cA σ) (st1 := [.int (X4_isWithin x1 (1 : Int32) (6 : Int32))]) hx hb hml hown hts hK hN hA (hDD _) (Nat.zero_le _) (Nat.zero_le _) [.int (x1), .int ((1 : Int32)), .int ((6 : Int32))] [] (m_X4_isWithin σ x1 (1 : Int32) (6 : Int32)) cs_X4_42 rfl (by decide) rfl (Nat.le_of_ble_eq_true rfl) dX4_addScene_4 rfl ?_
  refine ww_eq0 (tgt := 54) hx hb dX4_addScene_7 (by decide) (fun c_1 => ?_) (fun c_1 => ?_)
  · replace h := it_p c_1 h
    exact ww_sub (lv1 := []) [] rfl (bk54 _ h)
  · replace h := it_n c_1 h
    refine ww_iload_n hx hb dX4_addScene_10 rfl 2 rfl ?_
    refine ww_iconst (v := 0) hx hb dX4_addScene_11 (by decide) ?_
    refine ww_iconst (v := 3) hx hb dX4_addScene_12 (by decide) ?_
    refine ww_callS (ws1 := WC q cA σ) (st1 := [.int (X4_isWithin x2 (0 : Int32) (3 : Int32))]) hx hb hml hown hts hK hN hA (hDD _) (Nat.zero_le _) (Nat.zero_le _) [.int (x2), .int ((0 : Int32)), .int ((3 : Int32))] [] (m_X4_isWithin σ x2 (0 : Int32) (3 : Int32)) cs_X4_42 rfl (by decide) rfl (Nat.le_of_ble_eq_true rfl) dX4_addScene_13 rfl ?_
    refine ww_eq0 (tgt := 54) hx hb dX4_addScene_16 (by decide) (fun c_2 => ?_) (fun c_2 => ?_)
    · replace h := it_p c_2 h
      exact ww_sub (lv1 := []) [] rfl (bk54 _ h)
    · replace h := it_n c_2 h
      refine ww_iload_n hx hb dX4_addScene_19 rfl 3 rfl ?_
      refine ww_iconst (v := 0) hx hb dX4_addScene_20 (by decide) ?_
      refine ww_bipush (v := 63) hx hb dX4_addScene_21 (by decide) ?_
      refine ww_callS (ws1 := WC q cA σ) (st1 := [.int (X4_isWithin x3 (0 : Int32) (63 : Int32))]) hx hb hml hown hts hK hN hA (hDD _) (Nat.zero_le _) (Nat.zero_le _) [.int (x3), .int ((0 : Int32)), .int ((63 : Int32))] [] (m_X4_isWithin σ x3 (0 : Int32) (63 : Int32)) cs_X4_42 rfl (by decide) rfl (Nat.le_of_ble_eq_true rfl) dX4_addScene_23 rfl ?_
      refine ww_eq0 (tgt := 54) hx hb dX4_addScene_26 (by decide) (fun c_3 => ?_) (fun c_3 => ?_)
      · replace h := it_p c_3 h
        exact ww_sub (lv1 := []) [] rfl (bk54 _ h)
      · replace h := it_n c_3 h
        refine ww_iload hx hb dX4_addScene_29 4 rfl ?_
        refine ww_iconst (v := 0) hx hb dX4_addScene_31 (by decide) ?_
        refine ww_iconst (v := 2) hx hb dX4_addScene_32 (by decide) ?_
        refine ww_callS (ws1 := WC q cA σ) (st1 := [.int (X4_isWithin x4 (0 : Int32) (2 : Int32))]) hx hb hml hown hts hK hN hA (hDD _) (Nat.zero_le _) (Nat.zero_le _) [.int (x4), .int ((0 : Int32)), .int ((2 : Int32))] [] (m_X4_isWithin σ x4 (0 : Int32) (2 : Int32)) cs_X4_42 rfl (by decide) rfl (Nat.le_of_ble_eq_true rfl) dX4_addScene_33 rfl ?_
        refine ww_eq0 (tgt := 54) hx hb dX4_addScene_36 (by decide) (fun c_4 => ?_) (fun c_4 => ?_)
        · replace h := it_p c_4 h
          exact ww_sub (lv1 := []) [] rfl (bk54 _ h)
        · replace h := it_n c_4 h
          refine ww_iload hx hb dX4_addScene_39 5 rfl ?_
          refine ww_aload_n hx hb dX4_addScene_41 rfl 0 rfl ?_
          refine ww_get (C := RX4) (T := TX4) (N := 7) hx hb hown hts hK inA4 0 rfl rfl 0 (by decide) kw_13 rfl rfl dX4_addScene_42 ?_
          refine ww_callV (ws1 := WC q cA σ) (st1 := [.int (X3_everyScene σ), .int (x5)]) hx hb hml hown hts hK hN hA (hDD _) (Nat.zero_le _) (Nat.zero_le _) [] [.int (x5)] (m_X3_everyScene σ) cs_X4_46 rfl (by decide) 2 rfl rfl rfl (Nat.le_of_ble_eq_true rfl) dX4_addScene_45 rfl ?_
          refine ww_iconst (v := -1) hx hb dX4_addScene_48 (by decide) ?_
          refine ww_ixor hx hb dX4_addScene_49 ?_
          refine ww_iand hx hb dX4_addScene_50 ?_
          refine ww_eq0 (tgt := 62) hx hb dX4_addScene_51 (by decide) (fun c_5 => ?_) (fun c_5 => ?_)
          · replace h := it_p c_5 h
            refine ww_aload_n hx hb dX4_addScene_62 rfl 0 rfl ?_
            refine ww_get (C := RX4) (T := TX4) (N := 7) hx hb hown hts hK inA4 0 rfl rfl 0 (by decide) kw_13 rfl rfl dX4_addScene_63 ?_
            refine ww_get (C := RX3) (T := TX3) (N := 9) hx hb hown hts hK inA3 2 rfl rfl 5 (by decide) kw_19 rfl rfl dX4_addScene_66 ?_
            refine ww_bipush (v := 8) hx hb dX4_addScene_69 (by decide) ?_
            refine ww_lt2 (tgt := 82) hx hb dX4_addScene_71 (by decide) (fun c_6 => ?_) (fun c_6 => ?_)
            · replace h := it_p c_6 h
              refine ww_aload_n hx hb dX4_addScene_82 rfl 0 rfl ?_
              refine ww_get (C := RX4) (T := TX4) (N := 7) hx hb hown hts hK inA4 0 rfl rfl 1 (by decide) kw_20 rfl rfl dX4_addScene_83 ?_
              obtain ⟨σ_7, e_7, h⟩ := ob h
              refine ww_callV (ws1 := WC q cA σ_7) (st1 := []) hx hb hml hown hts hK hN hA (hDD _) (Nat.zero_le _) (Nat.zero_le _) [] [] (m_X2_forget _  _ e_7) cs_X4_61 rfl (by decide) 1 rfl rfl rfl (Nat.le_of_ble_eq_true rfl) dX4_addScene_86 rfl ?_
              refine ww_aload_n hx hb dX4_addScene_89 rfl 0 rfl ?_
              refine ww_get (C := RX4) (T := TX4) (N := 7) hx hb hown hts hK inA4 0 rfl rfl 0 (by decide) kw_13 rfl rfl dX4_addScene_90 ?_
              refine ww_iload_n hx hb dX4_addScene_93 rfl 1 rfl ?_
              refine ww_iload_n hx hb dX4_addScene_94 rfl 2 rfl ?_
              refine ww_iload_n hx hb dX4_addScene_95 rfl 3 rfl ?_
              refine ww_iload hx hb dX4_addScene_96 4 rfl ?_
              refine ww_iload hx hb dX4_addScene_98 5 rfl ?_
              obtain ⟨r_8, σ_8, e_8, h⟩ := ob2 h
              refine ww_callV (ws1 := WC q cA σ_8) (st1 := [.int (r_8)]) hx hb hml hown hts hK hN hA (hDD _) (Nat.zero_le _) (Nat.zero_le _) [.int (x1), .int (x2), .int (x3), .int (x4), .int (x5)] [] (m_X3_append _ _ _ _ _ _ _ _ e_8) cs_X4_64 rfl (by decide) 2 rfl rfl rfl (Nat.le_of_ble_eq_true rfl) dX4_addScene_100 rfl ?_
              obtain ⟨rfl, rfl⟩ := os2 h
              exact ww_xiret hx hb hr hlk rfl dX4_addScene_103
            · replace h := it_n c_6 h
              obtain ⟨rfl, rfl⟩ := os2 h
              exact ww_throw (ik := 58) (ic := 60) hx hb hl0 hml hown hts hN hZ hlk hno kw_30 kw_31 ek_60_IllegalStateException dX4_addScene_74 dX4_addScene_77 dX4_addScene_78 dX4_addScene_81 (by decide)
          · replace h := it_n c_5 h
            exact ww_sub (lv1 := []) [] rfl (bk54 _ h)
set_option maxHeartbeats 4000000 in
set_option maxRecDepth 100000 in
theorem m_X4_setOut (hl0 : l.stackTraces = false) (σ : SS) (x1 x2 : Int32) (r : Int32 ⊕ String) (σ1 : SS) (h : X4_setOut σ x1 x2 = some (r, σ1)) : CtX l yX4_setOut cX4_setOut 4 (some .boolean) 7 280 D vwCl [(cA, .int)] (WC q cA σ) (WC q cA σ1) [.ref (q 0), .int (x1), .int (x2)] r := by
  refine ctx_of (by decide +kernel) (Nat.le_of_ble_eq_true rfl) ?_
  intro p e s m args below meth c hx hb hr hlk hml hown hts hK hD hN hA hZ hno
  have hown : s.vm.findClass RX4 = some m.cls := hown
  have hDD : ∀ τ : SS, va_D (va_A (WC q cA σ) s.heap.size) (WC q cA τ) := fun τ => hD.adr rfl
  unfold X4_setOut at h
  refine ww_sub (lv1 := [(0, .ref (q 0)), (1, .int (x1)), (2, .int (x2))]) [0, 1, 2] rfl ?_
  refine ww_iload_n hx hb dX4_setOut_0 rfl 1 rfl ?_
  refine ww_iconst (v := 0) hx hb dX4_setOut_1 (by decide) ?_
  refine ww_iconst (v := 3) hx hb dX4_setOut_2 (by decide) ?_
  refine ww_callS (ws1 := WC q cA σ) (st1 := [.int (X4_isWithin x1 (0 : Int32) (3 : Int32))]) hx hb hml hown hts hK hN hA (hDD _) (Nat.zero_le _) (Nat.zero_le _) [.int (x1), .int ((0 : Int32)), .int ((3 : Int32))] [] (m_X4_isWithin σ x1 (0 : Int32) (3 : Int32)) cs_X4_42 rfl (by decide) rfl (Nat.le_of_ble_eq_true rfl) dX4_setOut_3 rfl ?_
  refine ww_ne0 (tgt := 17) hx hb dX4_setOut_6 (by decide) (fun c_1 => ?_) (fun c_1 => ?_)
  · replace h := it_n c_1 h
    refine ww_aload_n hx hb dX4_setOut_17 rfl 0 rfl ?_
    refine ww_get (C := RX4) (T := TX4) (N := 7) hx hb hown hts hK inA4 0 rfl rfl 0 (by decide) kw_13 rfl rfl dX4_setOut_18 ?_
    refine ww_get (C := RX3) (T := TX3) (N := 9) hx hb hown hts hK inA3 2 rfl rfl 7 (by decide) kw_34 rfl rfl dX4_setOut_21 ?_
    refine ww_iload_n hx hb dX4_setOut_24 rfl 1 rfl ?_
    refine ww_callS (ws1 := WC q cA σ) (st1 := [.int (X4_isIn (σ 2 7) x1)]) hx hb hml hown hts hK hN hA (hDD _) (Nat.zero_le _) (Nat.zero_le _) [.int (σ 2 7), .int (x1)] [] (m_X4_isIn σ (σ 2 7) x1) cs_X4_74 rfl (by decide) rfl (Nat.le_of_ble_eq_true rfl) dX4_setOut_25 rfl ?_
    refine ww_istore_n (i := 3) (lv1 := [(0, .ref (q 0)), (1, .int (x1)), (2, .int (x2)), (3, .int (X4_isIn (σ 2 7) x1))]) hx hb dX4_setOut_28 rfl (by decide) [1, 2, 3, 0] rfl ?_
    refine ww_aload_n hx hb dX4_setOut_29 rfl 0 rfl ?_
    refine ww_get (C := RX4) (T := TX4) (N := 7) hx hb hown hts hK inA4 0 rfl rfl 0 (by decide) kw_13 rfl rfl dX4_setOut_30 ?_
    refine ww_aload_n hx hb dX4_setOut_33 rfl 0 rfl ?_
    refine ww_get (C := RX4) (T := TX4) (N := 7) hx hb hown hts hK inA4 0 rfl rfl 0 (by decide) kw_13 rfl rfl dX4_setOut_34 ?_
    refine ww_get (C := RX3) (T := TX3) (N := 9) hx hb hown hts hK inA3 2 rfl rfl 7 (by decide) kw_34 rfl rfl dX4_setOut_37 ?_
    refine ww_iload_n hx hb dX4_setOut_40 rfl 1 rfl ?_
    refine ww_iload_n hx hb dX4_setOut_41 rfl 2 rfl ?_
    refine ww_callS (ws1 := WC q cA σ) (st1 := [.int (X4_with (σ 2 7) x1 x2), .ref (q 2)]) hx hb hml hown hts hK hN hA (hDD _) (Nat.zero_le _) (Nat.zero_le _) [.int (σ 2 7), .int (x1), .int (x2)] [.ref (q 2)] (m_X4_with σ (σ 2 7) x1 x2) cs_X4_78 rfl (by decide) rfl (Nat.le_of_ble_eq_true rfl) dX4_setOut_42 rfl ?_
    obtain ⟨σ_2, e_2, h⟩ := lt_e h
    refine ww_put (C := RX3) (T := TX3) (N := 9) (ty := .int) (ws1 := WC q cA (σ_2)) hx hb hown hts hK inA3 tyX3 tyX3_ok nmX3 (hDD _) 2 rfl rfl 7 (by decide) kw_34 rfl rfl rfl rfl rfl (Nat.le_of_ble_eq_true rfl) dX4_setOut_45 (e_2 ▸ rfl) ?_
    refine ww_iload_n hx hb dX4_setOut_48 rfl 3 rfl ?_
    obtain ⟨rfl, rfl⟩ := os2 h
    exact ww_xzret hx hb hr hlk (z_X4_isIn (σ 2 7) x1) rfl dX4_setOut_49
  · replace h := it_p c_1 h
    obtain ⟨rfl, rfl⟩ := os2 h
    exact ww_throw (ik := 68) (ic := 70) hx hb hl0 hml hown hts hN hZ hlk hno kw_41 kw_42 ek_70_IndexOutOfBoundsException dX4_setOut_9 dX4_setOut_12 dX4_setOut_13 dX4_setOut_16 (by decide)
set_option maxHeartbeats 4000000 in
set_option maxRecDepth 100000 in
theorem m_X4_setChild (hl0 : l.stackTraces = false) (σ : SS) (x1 x2 : Int32) (r : Int32 ⊕ String) (σ1 : SS) (h : X4_setChild σ x1 x2 = some (r, σ1)) : CtX l yX4_setChild cX4_setChild 4 (some .boolean) 7 280 D vwCl [(cA, .int)] (WC q cA σ) (WC q cA σ1) [.ref (q 0), .int (x1), .int (x2)] r := by
  refine ctx_of (by decide +kernel) (Nat.le_of_ble_eq_true rfl) ?_
  intro p e s m args below meth c hx hb hr hlk hml hown hts hK hD hN hA hZ hno
  have hown : s.vm.findClass RX4 = some m.cls := hown
  have hDD : ∀ τ : SS, va_D (va_A (WC q cA σ) s.heap.size) (WC q cA τ) := fun τ => hD.adr rfl
  unfold X4_setChild at h
  refine ww_sub (lv1 := [(0, .ref (q 0)), (1, .int (x1)), (2, .int (x2))]) [0, 1, 2] rfl ?_
  refine ww_iload_n hx hb dX4_setChild_0 rfl 1 rfl ?_
  refine ww_iconst (v := 0) hx hb dX4_setChild_1 (by decide) ?_
  refine ww_iconst (v := 5) hx hb dX4_setChild_2 (by decide) ?_
  refine ww_callS (ws1 := WC q cA σ) (st1 := [.int (X4_isWithin x1 (0 : Int32) (5 : Int32))]) hx hb hml hown hts hK hN hA (hDD _) (Nat.zero_le _) (Nat.zero_le _) [.int (x1), .int ((0 : Int32)), .int ((5 : Int32))] [] (m_X4_isWithin σ x1 (0 : Int32) (5 : Int32)) cs_X4_42 rfl (by decide) rfl (Nat.le_of_ble_eq_true rfl) dX4_setChild_3 rfl ?_
  refine ww_ne0 (tgt := 17) hx hb dX4_setChild_6 (by decide) (fun c_1 => ?_) (fun c_1 => ?_)
  · replace h := it_n c_1 h
    refine ww_aload_n hx hb dX4_setChild_17 rfl 0 rfl ?_
    refine ww_get (C := RX4) (T := TX4) (N := 7) hx hb hown hts hK inA4 0 rfl rfl 0 (by decide) kw_13 rfl rfl dX4_setChild_18 ?_
    refine ww_get (C := RX3) (T := TX3) (N := 9) hx hb hown hts hK inA3 2 rfl rfl 8 (by decide) kw_43 rfl rfl dX4_setChild_21 ?_
    refine ww_iload_n hx hb dX4_setChild_24 rfl 1 rfl ?_
    refine ww_callS (ws1 := WC q cA σ) (st1 := [.int (X4_isIn (σ 2 8) x1)]) hx hb hml hown hts hK hN hA (hDD _) (Nat.zero_le _) (Nat.zero_le _) [.int (σ 2 8), .int (x1)] [] (m_X4_isIn σ (σ 2 8) x1) cs_X4_74 rfl (by decide) rfl (Nat.le_of_ble_eq_true rfl) dX4_setChild_25 rfl ?_
    refine ww_istore_n (i := 3) (lv1 := [(0, .ref (q 0)), (1, .int (x1)), (2, .int (x2)), (3, .int (X4_isIn (σ 2 8) x1))]) hx hb dX4_setChild_28 rfl (by decide) [1, 2, 3, 0] rfl ?_
    refine ww_iload_n hx hb dX4_setChild_29 rfl 3 rfl ?_
    refine ww_iload_n hx hb dX4_setChild_30 rfl 2 rfl ?_
    refine ww_eq2 (tgt := 60) hx hb dX4_setChild_31 (by decide) (fun c_2 => ?_) (fun c_2 => ?_)
    · replace h := it_p c_2 h
      refine ww_iload_n hx hb dX4_setChild_60 rfl 3 rfl ?_
      obtain ⟨rfl, rfl⟩ := os2 h
      exact ww_xzret hx hb hr hlk (z_X4_isIn (σ 2 8) x1) rfl dX4_setChild_61
    · replace h := it_n c_2 h
      refine ww_aload_n hx hb dX4_setChild_34 rfl 0 rfl ?_
      refine ww_get (C := RX4) (T := TX4) (N := 7) hx hb hown hts hK inA4 0 rfl rfl 1 (by decide) kw_20 rfl rfl dX4_setChild_35 ?_
      obtain ⟨σ_3, e_3, h⟩ := ob h
      refine ww_callV (ws1 := WC q cA σ_3) (st1 := []) hx hb hml hown hts hK hN hA (hDD _) (Nat.zero_le _) (Nat.zero_le _) [] [] (m_X2_forget _  _ e_3) cs_X4_61 rfl (by decide) 1 rfl rfl rfl (Nat.le_of_ble_eq_true rfl) dX4_setChild_38 rfl ?_
      refine ww_aload_n hx hb dX4_setChild_41 rfl 0 rfl ?_
      refine ww_get (C := RX4) (T := TX4) (N := 7) hx hb hown hts hK inA4 0 rfl rfl 0 (by decide) kw_13 rfl rfl dX4_setChild_42 ?_
      refine ww_aload_n hx hb dX4_setChild_45 rfl 0 rfl ?_
      refine ww_get (C := RX4) (T := TX4) (N := 7) hx hb hown hts hK inA4 0 rfl rfl 0 (by decide) kw_13 rfl rfl dX4_setChild_46 ?_
      refine ww_get (C := RX3) (T := TX3) (N := 9) hx hb hown hts hK inA3 2 rfl rfl 8 (by decide) kw_43 rfl rfl dX4_setChild_49 ?_
      refine ww_iload_n hx hb dX4_setChild_52 rfl 1 rfl ?_
      refine ww_iload_n hx hb dX4_setChild_53 rfl 2 rfl ?_
      refine ww_callS (ws1 := WC q cA σ_3) (st1 := [.int (X4_with (σ_3 2 8) x1 x2), .ref (q 2)]) hx hb hml hown hts hK hN hA (hDD _) (Nat.zero_le _) (Nat.zero_le _) [.int (σ_3 2 8), .int (x1), .int (x2)] [.ref (q 2)] (m_X4_with σ_3 (σ_3 2 8) x1 x2) cs_X4_78 rfl (by decide) rfl (Nat.le_of_ble_eq_true rfl) dX4_setChild_54 rfl ?_
      obtain ⟨σ_4, e_4, h⟩ := lt_e h
      refine ww_put (C := RX3) (T := TX3) (N := 9) (ty := .int) (ws1 := WC q cA (σ_4)) hx hb hown hts hK inA3 tyX3 tyX3_ok nmX3 (hDD _) 2 rfl rfl 8 (by decide) kw_43 rfl rfl rfl rfl rfl (Nat.le_of_ble_eq_true rfl) dX4_setChild_57 (e_4 ▸ rfl) ?_
      refine ww_iload_n hx hb dX4_setChild_60 rfl 3 rfl ?_
      obtain ⟨rfl, rfl⟩ := os2 h
      exact ww_xzret hx hb hr hlk (z_X4_isIn (σ 2 8) x1) rfl dX4_setChild_61
  · replace h := it_p c_1 h
    obtain ⟨rfl, rfl⟩ := os2 h
    exact ww_throw (ik := 68) (ic := 70) hx hb hl0 hml hown hts hN hZ hlk hno kw_41 kw_42 ek_70_IndexOutOfBoundsException dX4_setChild_9 dX4_setChild_12 dX4_setChild_13 dX4_setChild_16 (by decide)
set_option maxHeartbeats 4000000 in
set_option maxRecDepth 100000 in
theorem m_X4_setRates (hl0 : l.stackTraces = false) (σ : SS) (x1 x2 : Int32) (r : Int32 ⊕ String) (σ1 : SS) (h : X4_setRates σ x1 x2 = some (r, σ1)) : CtX l yX4_setRates cX4_setRates 4 (some .int) 7 280 D vwCl [(cA, .int)] (WC q cA σ) (WC q cA σ1) [.ref (q 0), .int (x1), .int (x2)] r := by
  refine ctx_of (by decide +kernel) (Nat.le_of_ble_eq_true rfl) ?_
  intro p e s m args below meth c hx hb hr hlk hml hown hts hK hD hN hA hZ hno
  have hown : s.vm.findClass RX4 = some m.cls := hown
  have hDD : ∀ τ : SS, va_D (va_A (WC q cA σ) s.heap.size) (WC q cA τ) := fun τ => hD.adr rfl
  unfold X4_setRates at h
  have bk22 : ∀ (τ : SS) , X4_setRates_b22 τ = some (r, σ1) → WW p l e (rmc 7 280 1 6) s m args below meth c D vwCl (va_A (WC q cA σ) s.heap.size) 4 0 0 (vx_MQ below (qxW D vwCl (WC q cA σ) (WC q cA σ1) r s.heap.size) (xcW D vwCl (WC q cA σ) (WC q cA σ1) r s.heap.size) args s 1 6 (va_A (WC q cA σ) s.heap.size)) (WC q cA τ) 22 [] [] := by
    intro τ h
    unfold X4_setRates_b22 at h
    obtain ⟨rfl, rfl⟩ := os2 h
    exact ww_throw (ik := 52) (ic := 54) hx hb hl0 hml hown hts hN hZ hlk hno kw_32 kw_33 ek_54_IllegalArgumentException dX4_setRates_22 dX4_setRates_25 dX4_setRates_26 dX4_setRates_29 (by decide)
  refine ww_sub (lv1 := [(0, .ref (q 0)), (1, .int (x1)), (2, .int (x2))]) [0, 1, 2] rfl ?_
  refine ww_iload_n hx hb dX4_setRates_0 rfl 1 rfl ?_
  refine ww_iconst (v := 0) hx hb dX4_setRates_1 (by decide) ?_
  refine ww_sipush (v := 1000) hx hb dX4_setRates_2 (by decide) ?_
  refine ww_callS (ws1 := WC q cA σ) (st1 := [.int (X4_isWithin x1 (0 : Int32) (1000 : Int32))]) hx hb hml hown hts hK hN hA (hDD _) (Nat.zero_le _) (Nat.zero_le _) [.int (x1), .int ((0 : Int32)), .int ((1000 : Int32))] [] (m_X4_isWithin σ x1 (0 : Int32) (1000 : Int32)) cs_X4_42 rfl (by decide) rfl (Nat.le_of_ble_eq_true rfl) dX4_setRates_5 rfl ?_
  refine ww_eq0 (tgt := 22) hx hb dX4_setRates_8 (by decide) (fun c_1 => ?_) (fun c_1 => ?_)
  · replace h := it_p c_1 h
    exact ww_sub (lv1 := []) [] rfl (bk22 _ h)
  · replace h := it_n c_1 h
    refine ww_iload_n hx hb dX4_setRates_11 rfl 2 rfl ?_
    refine ww_iconst (v := 0) hx hb dX4_setRates_12 (by decide) ?_
    refine ww_sipush (v := 1000) hx hb dX4_setRates_13 (by decide) ?_
    refine ww_callS (ws1 := WC q cA σ) (st1 := [.int (X4_isWithin x2 (0 : Int32) (1000 : Int32))]) hx hb hml hown hts hK hN hA (hDD _) (Nat.zero_le _) (Nat.zero_le _) [.int (x2), .int ((0 : Int32)), .int ((1000 : Int32))] [] (m_X4_isWithin σ x2 (0 : Int32) (1000 : Int32)) cs_X4_42 rfl (by decide) rfl (Nat.le_of_ble_eq_true rfl) dX4_setRates_16 rfl ?_
    refine ww_ne0 (tgt := 30) hx hb dX4_setRates_19 (by decide) (fun c_2 => ?_) (fun c_2 => ?_)
    · replace h := it_n c_2 h
      refine ww_aload_n hx hb dX4_setRates_30 rfl 0 rfl ?_
      refine ww_get (C := RX4) (T := TX4) (N := 7) hx hb hown hts hK inA4 0 rfl rfl 4 (by decide) kw_44 rfl rfl dX4_setRates_31 ?_
      refine ww_istore_n (i := 3) (lv1 := [(0, .ref (q 0)), (1, .int (x1)), (2, .int (x2)), (3, .int (σ 0 4))]) hx hb dX4_setRates_34 rfl (by decide) [1, 2, 3, 0] rfl ?_
      refine ww_aload_n hx hb dX4_setRates_35 rfl 0 rfl ?_
      refine ww_iload_n hx hb dX4_setRates_36 rfl 1 rfl ?_
      obtain ⟨σ_3, e_3, h⟩ := lt_e h
      refine ww_put (C := RX4) (T := TX4) (N := 7) (ty := .int) (ws1 := WC q cA (σ_3)) hx hb hown hts hK inA4 tyX4 tyX4_ok nmX4 (hDD _) 0 rfl rfl 4 (by decide) kw_44 rfl rfl rfl rfl rfl (Nat.le_of_ble_eq_true rfl) dX4_setRates_37 (e_3 ▸ rfl) ?_
      refine ww_aload_n hx hb dX4_setRates_40 rfl 0 rfl ?_
      refine ww_iload_n hx hb dX4_setRates_41 rfl 2 rfl ?_
      obtain ⟨σ_4, e_4, h⟩ := lt_e h
      refine ww_put (C := RX4) (T := TX4) (N := 7) (ty := .int) (ws1 := WC q cA (σ_4)) hx hb hown hts hK inA4 tyX4 tyX4_ok nmX4 (hDD _) 0 rfl rfl 5 (by decide) kw_45 rfl rfl rfl rfl rfl (Nat.le_of_ble_eq_true rfl) dX4_setRates_42 (e_4 ▸ rfl) ?_
      refine ww_iload_n hx hb dX4_setRates_45 rfl 3 rfl ?_
      obtain ⟨rfl, rfl⟩ := os2 h
      exact ww_xiret hx hb hr hlk rfl dX4_setRates_46
    · replace h := it_p c_2 h
      exact ww_sub (lv1 := []) [] rfl (bk22 _ h)
set_option maxHeartbeats 4000000 in
set_option maxRecDepth 100000 in
theorem m_X4_shoot (hl0 : l.stackTraces = false) (σ : SS) (x1 : Int32) (r : Int32 ⊕ String) (σ1 : SS) (h : X4_shoot σ x1 = some (r, σ1)) : CtX l yX4_shoot cX4_shoot 6 (some .int) 22 880 D vwCl [(cA, .int)] (WC q cA σ) (WC q cA σ1) [.ref (q 0), .int (x1)] r := by
  refine ctx_of (by decide +kernel) (Nat.le_of_ble_eq_true rfl) ?_
  intro p e s m args below meth c hx hb hr hlk hml hown hts hK hD hN hA hZ hno
  have hown : s.vm.findClass RX4 = some m.cls := hown
  have hDD : ∀ τ : SS, va_D (va_A (WC q cA σ) s.heap.size) (WC q cA τ) := fun τ => hD.adr rfl
  unfold X4_shoot at h
  have bk109 : ∀ (τ : SS) , X4_shoot_b109 τ = some (r, σ1) → WW p l e (rmc 22 880 1 6) s m args below meth c D vwCl (va_A (WC q cA σ) s.heap.size) 6 0 0 (vx_MQ below (qxW D vwCl (WC q cA σ) (WC q cA σ1) r s.heap.size) (xcW D vwCl (WC q cA σ) (WC q cA σ1) r s.heap.size) args s 1 6 (va_A (WC q cA σ) s.heap.size)) (WC q cA τ) 109 [] [] := by
    intro τ h
    unfold X4_shoot_b109 at h
    obtain ⟨rfl, rfl⟩ := os2 h
    exact ww_throw (ik := 58) (ic := 60) hx hb hl0 hml hown hts hN hZ hlk hno kw_30 kw_31 ek_60_IllegalStateException dX4_shoot_109 dX4_shoot_112 dX4_shoot_113 dX4_shoot_116 (by decide)
  have bk60 : ∀ (τ : SS) (x2 : Int32) (x3 : Int32) (y0 : Int32), X4_shoot_b60 τ x2 x3 y0 = some (r, σ1) → WW p l e (rmc 22 880 1 6) s m args below meth c D vwCl (va_A (WC q cA σ) s.heap.size) 6 0 0 (vx_MQ below (qxW D vwCl (WC q cA σ) (WC q cA σ1) r s.heap.size) (xcW D vwCl (WC q cA σ) (WC q cA σ1) r s.heap.size) args s 1 6 (va_A (WC q cA σ) s.heap.size)) (WC q cA τ) 60 [(0, .ref (q 0)), (2, .int (x2)), (3, .int (x3))] [.int (y0)] := by
    intro τ x2 x3 y0 h
    unfold X4_shoot_b60 at h
    refine ww_istore (i := 4) (lv1 := [(0, .ref (q 0)), (2, .int (x2)), (3, .int (x3)), (4, .int (y0))]) hx hb dX4_shoot_60 (by decide) [1, 2, 3, 0] rfl ?_
    refine ww_aload_n hx hb dX4_shoot_62 rfl 0 rfl ?_
    refine ww_get (C := RX4) (T := TX4) (N := 7) hx hb hown hts hK inA4 0 rfl rfl 2 (by decide) kw_181 rfl rfl dX4_shoot_63 ?_
    refine ww_iconst (v := 0) hx hb dX4_shoot_66 (by decide) ?_
    refine ww_iload_n hx hb dX4_shoot_67 rfl 2 rfl ?_
    refine ww_callV (ws1 := WC q cA τ) (st1 := [.int (X0_lackOf τ (0 : Int32) x3)]) hx hb hml hown hts hK hN hA (hDD _) (Nat.zero_le _) (Nat.zero_le _) [.int ((0 : Int32)), .int (x3)] [] (m_X0_lackOf τ (0 : Int32) x3) cs_X4_100 rfl (by decide) 3 rfl rfl rfl (Nat.le_of_ble_eq_true rfl) dX4_shoot_68 rfl ?_
    refine ww_aload_n hx hb dX4_shoot_71 rfl 0 rfl ?_
    refine ww_get (C := RX4) (T := TX4) (N := 7) hx hb hown hts hK inA4 0 rfl rfl 2 (by decide) kw_181 rfl rfl dX4_shoot_72 ?_
    refine ww_iconst (v := 1) hx hb dX4_shoot_75 (by decide) ?_
    refine ww_iload hx hb dX4_shoot_76 3 rfl ?_
    refine ww_callV (ws1 := WC q cA τ) (st1 := [.int (X0_lackOf τ (1 : Int32) y0), .int (X0_lackOf τ (0 : Int32) x3)]) hx hb hml hown hts hK hN hA (hDD _) (Nat.zero_le _) (Nat.zero_le _) [.int ((1 : Int32)), .int (y0)] [.int (X0_lackOf τ (0 : Int32) x3)] (m_X0_lackOf τ (1 : Int32) y0) cs_X4_100 rfl (by decide) 3 rfl rfl rfl (Nat.le_of_ble_eq_true rfl) dX4_shoot_78 rfl ?_
    refine ww_iadd hx hb dX4_shoot_81 ?_
    refine ww_istore (i := 5) (lv1 := [(0, .ref (q 0)), (2, .int (x2)), (3, .int (x3)), (4, .int (y0)), (5, .int ((X0_lackOf τ (0 : Int32) x3) + (X0_lackOf τ (1 : Int32) y0)))]) hx hb dX4_shoot_82 (by decide) [1, 2, 3, 4, 0] rfl ?_
    refine ww_iload hx hb dX4_shoot_84 4 rfl ?_
    refine ww_aload_n hx hb dX4_shoot_86 rfl 0 rfl ?_
    refine ww_get (C := RX4) (T := TX4) (N := 7) hx hb hown hts hK inA4 0 rfl rfl 2 (by decide) kw_181 rfl rfl dX4_shoot_87 ?_
    refine ww_get (C := RX0) (T := TX0) (N := 4) hx hb hown hts hK inA0 3 rfl rfl 1 (by decide) kw_183 rfl rfl dX4_shoot_90 ?_
    refine ww_gt2 (tgt := 109) hx hb dX4_shoot_93 (by decide) (fun c_7 => ?_) (fun c_7 => ?_)
    · replace h := it_p c_7 h
      exact ww_sub (lv1 := []) [] rfl (bk109 _ h)
    · replace h := it_n c_7 h
      refine ww_aload_n hx hb dX4_shoot_96 rfl 0 rfl ?_
      refine ww_get (C := RX4) (T := TX4) (N := 7) hx hb hown hts hK inA4 0 rfl rfl 1 (by decide) kw_20 rfl rfl dX4_shoot_97 ?_
      refine ww_get (C := RX2) (T := TX2) (N := 8) hx hb hown hts hK inA2 1 rfl rfl 6 (by decide) kw_184 rfl rfl dX4_shoot_100 ?_
      refine ww_sipush (v := 1000) hx hb dX4_shoot_103 (by decide) ?_
      refine ww_lt2 (tgt := 117) hx hb dX4_shoot_106 (by decide) (fun c_8 => ?_) (fun c_8 => ?_)
      · replace h := it_p c_8 h
        refine ww_aload_n hx hb dX4_shoot_117 rfl 0 rfl ?_
        refine ww_get (C := RX4) (T := TX4) (N := 7) hx hb hown hts hK inA4 0 rfl rfl 2 (by decide) kw_181 rfl rfl dX4_shoot_118 ?_
        refine ww_iconst (v := 0) hx hb dX4_shoot_121 (by decide) ?_
        refine ww_iload_n hx hb dX4_shoot_122 rfl 2 rfl ?_
        obtain ⟨r_9, σ_9, e_9, h⟩ := ob2 h
        refine ww_callV (ws1 := WC q cA σ_9) (st1 := [.int (r_9)]) hx hb hml hown hts hK hN hA (hDD _) (Nat.zero_le _) (Nat.zero_le _) [.int ((0 : Int32)), .int (x3)] [] (m_X0_pay _ _ _ _ _ e_9) cs_X4_110 rfl (by decide) 3 rfl rfl rfl (Nat.le_of_ble_eq_true rfl) dX4_shoot_123 rfl ?_
        refine ww_pop hx hb dX4_shoot_126 rfl ?_
        refine ww_aload_n hx hb dX4_shoot_127 rfl 0 rfl ?_
        refine ww_get (C := RX4) (T := TX4) (N := 7) hx hb hown hts hK inA4 0 rfl rfl 2 (by decide) kw_181 rfl rfl dX4_shoot_128 ?_
        refine ww_iconst (v := 1) hx hb dX4_shoot_131 (by decide) ?_
        refine ww_iload hx hb dX4_shoot_132 3 rfl ?_
        obtain ⟨r_10, σ_10, e_10, h⟩ := ob2 h
        refine ww_callV (ws1 := WC q cA σ_10) (st1 := [.int (r_10)]) hx hb hml hown hts hK hN hA (hDD _) (Nat.zero_le _) (Nat.zero_le _) [.int ((1 : Int32)), .int (y0)] [] (m_X0_pay _ _ _ _ _ e_10) cs_X4_110 rfl (by decide) 3 rfl rfl rfl (Nat.le_of_ble_eq_true rfl) dX4_shoot_134 rfl ?_
        refine ww_pop hx hb dX4_shoot_137 rfl ?_
        refine ww_aload_n hx hb dX4_shoot_138 rfl 0 rfl ?_
        refine ww_get (C := RX4) (T := TX4) (N := 7) hx hb hown hts hK inA4 0 rfl rfl 1 (by decide) kw_20 rfl rfl dX4_shoot_139 ?_
        refine ww_iload_n hx hb dX4_shoot_142 rfl 1 rfl ?_
        obtain ⟨σ_11, e_11, h⟩ := ob h
        refine ww_callV (ws1 := WC q cA σ_11) (st1 := []) hx hb hml hown hts hK hN hA (hDD _) (Nat.zero_le _) (Nat.zero_le _) [.int (x2)] [] (m_X2_endDay _ _ _ e_11) cs_X4_113 rfl (by decide) 1 rfl rfl rfl (Nat.le_of_ble_eq_true rfl) dX4_shoot_143 rfl ?_
        refine ww_iload_n hx hb dX4_shoot_146 rfl 1 rfl ?_
        refine ww_callS (ws1 := WC q cA σ_11) (st1 := [.int (J6_bitCount x2)]) hx hb hml hown hts hK hN hA (hDD _) (Nat.zero_le _) (Nat.zero_le _) [.int (x2)] [] (m_J6_bitCount σ_11 x2) cs_X4_117 rfl (by decide) rfl (Nat.le_of_ble_eq_true rfl) dX4_shoot_147 rfl ?_
        obtain ⟨rfl, rfl⟩ := os2 h
        exact ww_xiret hx hb hr hlk rfl dX4_shoot_150
      · replace h := it_n c_8 h
        exact ww_sub (lv1 := []) [] rfl (bk109 _ h)
  have bk27 : ∀ (τ : SS) (y1 : Int32), X4_shoot_b27 τ y1 = some (r, σ1) → WW p l e (rmc 22 880 1 6) s m args below meth c D vwCl (va_A (WC q cA σ) s.heap.size) 6 0 0 (vx_MQ below (qxW D vwCl (WC q cA σ) (WC q cA σ1) r s.heap.size) (xcW D vwCl (WC q cA σ) (WC q cA σ1) r s.heap.size) args s 1 6 (va_A (WC q cA σ) s.heap.size)) (WC q cA τ) 27 [(0, .ref (q 0))] [.int (y1), .ref (q 1)] := by
    intro τ y1 h
    unfold X4_shoot_b27 at h
    obtain ⟨r_4, e_4, h⟩ := ob h
    refine ww_callV (ws1 := WC q cA τ) (st1 := [.int (r_4)]) hx hb hml hown hts hK hN hA (hDD _) (Nat.zero_le _) (Nat.zero_le _) [.int (y1)] [] (m_X2_shootable _ _ _ e_4) cs_X4_92 rfl (by decide) 1 rfl rfl rfl (Nat.le_of_ble_eq_true rfl) dX4_shoot_27 rfl ?_
    refine ww_istore_n (i := 2) (lv1 := [(0, .ref (q 0)), (2, .int (r_4))]) hx hb dX4_shoot_30 rfl (by decide) [1, 0] rfl ?_
    refine ww_aload_n hx hb dX4_shoot_31 rfl 0 rfl ?_
    refine ww_get (C := RX4) (T := TX4) (N := 7) hx hb hown hts hK inA4 0 rfl rfl 0 (by decide) kw_13 rfl rfl dX4_shoot_32 ?_
    refine ww_iload_n hx hb dX4_shoot_35 rfl 1 rfl ?_
    obtain ⟨r_5, e_5, h⟩ := ob h
    refine ww_callV (ws1 := WC q cA τ) (st1 := [.int (r_5)]) hx hb hml hown hts hK hN hA (hDD _) (Nat.zero_le _) (Nat.zero_le _) [.int (r_4)] [] (m_X3_hoursOf _ _ _ e_5) cs_X4_96 rfl (by decide) 2 rfl rfl rfl (Nat.le_of_ble_eq_true rfl) dX4_shoot_36 rfl ?_
    refine ww_aload_n hx hb dX4_shoot_39 rfl 0 rfl ?_
    refine ww_get (C := RX4) (T := TX4) (N := 7) hx hb hown hts hK inA4 0 rfl rfl 4 (by decide) kw_44 rfl rfl dX4_shoot_40 ?_
    refine ww_imul hx hb dX4_shoot_43 ?_
    refine ww_istore_n (i := 3) (lv1 := [(0, .ref (q 0)), (2, .int (r_4)), (3, .int (r_5 * (τ 0 4)))]) hx hb dX4_shoot_44 rfl (by decide) [1, 2, 0] rfl ?_
    refine ww_aload_n hx hb dX4_shoot_45 rfl 0 rfl ?_
    refine ww_get (C := RX4) (T := TX4) (N := 7) hx hb hown hts hK inA4 0 rfl rfl 6 (by decide) kw_46 rfl rfl dX4_shoot_46 ?_
    refine ww_eq0 (tgt := 59) hx hb dX4_shoot_49 (by decide) (fun c_6 => ?_) (fun c_6 => ?_)
    · replace h := it_p c_6 h
      refine ww_iconst (v := 0) hx hb dX4_shoot_59 (by decide) ?_
      exact ww_sub (lv1 := [(0, .ref (q 0)), (2, .int (r_4)), (3, .int (r_5 * (τ 0 4)))]) [0, 1, 2] rfl (bk60 _ _ _ _ h)
    · replace h := it_n c_6 h
      refine ww_aload_n hx hb dX4_shoot_52 rfl 0 rfl ?_
      refine ww_get (C := RX4) (T := TX4) (N := 7) hx hb hown hts hK inA4 0 rfl rfl 5 (by decide) kw_45 rfl rfl dX4_shoot_53 ?_
      refine ww_goto (tgt := 60) hx hb dX4_shoot_56 (by decide) ?_
      exact ww_sub (lv1 := [(0, .ref (q 0)), (2, .int (r_4)), (3, .int (r_5 * (τ 0 4)))]) [0, 1, 2] rfl (bk60 _ _ _ _ h)
  have bk26 : ∀ (τ : SS) , X4_shoot_b26 τ = some (r, σ1) → WW p l e (rmc 22 880 1 6) s m args below meth c D vwCl (va_A (WC q cA σ) s.heap.size) 6 0 0 (vx_MQ below (qxW D vwCl (WC q cA σ) (WC q cA σ1) r s.heap.size) (xcW D vwCl (WC q cA σ) (WC q cA σ1) r s.heap.size) args s 1 6 (va_A (WC q cA σ) s.heap.size)) (WC q cA τ) 26 [(0, .ref (q 0))] [.ref (q 1)] := by
    intro τ h
    unfold X4_shoot_b26 at h
    refine ww_iconst (v := 0) hx hb dX4_shoot_26 (by decide) ?_
    exact ww_sub (lv1 := [(0, .ref (q 0))]) [0] rfl (bk27 _ _ h)
  refine ww_sub (lv1 := [(0, .ref (q 0)), (1, .int (x1))]) [0, 1] rfl ?_
  refine ww_aload_n hx hb dX4_shoot_0 rfl 0 rfl ?_
  refine ww_get (C := RX4) (T := TX4) (N := 7) hx hb hown hts hK inA4 0 rfl rfl 1 (by decide) kw_20 rfl rfl dX4_shoot_1 ?_
  obtain ⟨σ_1, e_1, h⟩ := ob h
  refine ww_callV (ws1 := WC q cA σ_1) (st1 := []) hx hb hml hown hts hK hN hA (hDD _) (Nat.zero_le _) (Nat.zero_le _) [] [] (m_X2_makePlan _  _ e_1) cs_X4_89 rfl (by decide) 1 rfl rfl rfl (Nat.le_of_ble_eq_true rfl) dX4_shoot_4 rfl ?_
  refine ww_aload_n hx hb dX4_shoot_7 rfl 0 rfl ?_
  refine ww_get (C := RX4) (T := TX4) (N := 7) hx hb hown hts hK inA4 0 rfl rfl 1 (by decide) kw_20 rfl rfl dX4_shoot_8 ?_
  refine ww_iload_n hx hb dX4_shoot_11 rfl 1 rfl ?_
  refine ww_eq0 (tgt := 26) hx hb dX4_shoot_12 (by decide) (fun c_2 => ?_) (fun c_2 => ?_)
  · replace h := it_p c_2 h
    exact ww_sub (lv1 := [(0, .ref (q 0))]) [0] rfl (bk26 _ h)
  · replace h := it_n c_2 h
    refine ww_aload_n hx hb dX4_shoot_15 rfl 0 rfl ?_
    refine ww_get (C := RX4) (T := TX4) (N := 7) hx hb hown hts hK inA4 0 rfl rfl 6 (by decide) kw_46 rfl rfl dX4_shoot_16 ?_
    refine ww_ne0 (tgt := 26) hx hb dX4_shoot_19 (by decide) (fun c_3 => ?_) (fun c_3 => ?_)
    · replace h := it_n c_3 h
      exact ww_sub (lv1 := [(0, .ref (q 0))]) [0] rfl (bk26 _ h)
    · replace h := it_p c_3 h
      refine ww_iconst (v := 1) hx hb dX4_shoot_22 (by decide) ?_
      refine ww_goto (tgt := 27) hx hb dX4_shoot_23 (by decide) ?_
      exact ww_sub (lv1 := [(0, .ref (q 0))]) [0] rfl (bk27 _ _ h)
set_option maxHeartbeats 4000000 in
set_option maxRecDepth 100000 in
theorem m_X4_approve (hl0 : l.stackTraces = false) (σ : SS) (x1 x2 : Int32) (r : Int32 ⊕ String) (σ1 : SS) (h : X4_approve σ x1 x2 = some (r, σ1)) : CtX l yX4_approve cX4_approve 3 (some .int) 7 280 D vwCl [(cA, .int)] (WC q cA σ) (WC q cA σ1) [.ref (q 0), .int (x1), .int (x2)] r := by
  refine ctx_of (by decide +kernel) (Nat.le_of_ble_eq_true rfl) ?_
  intro p e s m args below meth c hx hb hr hlk hml hown hts hK hD hN hA hZ hno
  have hown : s.vm.findClass RX4 = some m.cls := hown
  have hDD : ∀ τ : SS, va_D (va_A (WC q cA σ) s.heap.size) (WC q cA τ) := fun τ => hD.adr rfl
  unfold X4_approve at h
  refine ww_sub (lv1 := [(0, .ref (q 0)), (1, .int (x1)), (2, .int (x2))]) [0, 1, 2] rfl ?_
  refine ww_iload_n hx hb dX4_approve_0 rfl 1 rfl ?_
  refine ww_iconst (v := 0) hx hb dX4_approve_1 (by decide) ?_
  refine ww_iconst (v := 3) hx hb dX4_approve_2 (by decide) ?_
  refine ww_callS (ws1 := WC q cA σ) (st1 := [.int (X4_isWithin x1 (0 : Int32) (3 : Int32))]) hx hb hml hown hts hK hN hA (hDD _) (Nat.zero_le _) (Nat.zero_le _) [.int (x1), .int ((0 : Int32)), .int ((3 : Int32))] [] (m_X4_isWithin σ x1 (0 : Int32) (3 : Int32)) cs_X4_42 rfl (by decide) rfl (Nat.le_of_ble_eq_true rfl) dX4_approve_3 rfl ?_
  refine ww_ne0 (tgt := 17) hx hb dX4_approve_6 (by decide) (fun c_1 => ?_) (fun c_1 => ?_)
  · replace h := it_n c_1 h
    refine ww_iload_n hx hb dX4_approve_17 rfl 2 rfl ?_
    refine ww_iconst (v := 1) hx hb dX4_approve_18 (by decide) ?_
    refine ww_ldc hx hb hown hts kw_194 dX4_approve_19 ?_
    refine ww_callS (ws1 := WC q cA σ) (st1 := [.int (X4_isWithin x2 (1 : Int32) (100000 : Int32))]) hx hb hml hown hts hK hN hA (hDD _) (Nat.zero_le _) (Nat.zero_le _) [.int (x2), .int ((1 : Int32)), .int ((100000 : Int32))] [] (m_X4_isWithin σ x2 (1 : Int32) (100000 : Int32)) cs_X4_42 rfl (by decide) rfl (Nat.le_of_ble_eq_true rfl) dX4_approve_21 rfl ?_
    refine ww_ne0 (tgt := 35) hx hb dX4_approve_24 (by decide) (fun c_2 => ?_) (fun c_2 => ?_)
    · replace h := it_n c_2 h
      refine ww_aload_n hx hb dX4_approve_35 rfl 0 rfl ?_
      refine ww_get (C := RX4) (T := TX4) (N := 7) hx hb hown hts hK inA4 0 rfl rfl 2 (by decide) kw_181 rfl rfl dX4_approve_36 ?_
      refine ww_get (C := RX0) (T := TX0) (N := 4) hx hb hown hts hK inA0 3 rfl rfl 0 (by decide) kw_195 rfl rfl dX4_approve_39 ?_
      refine ww_iload_n hx hb dX4_approve_42 rfl 1 rfl ?_
      refine ww_iload_n hx hb dX4_approve_43 rfl 2 rfl ?_
      obtain ⟨σ_3, e_3, h⟩ := lt_e h
      refine ww_callS (ws1 := WC q cA σ_3) (st1 := []) hx hb hml hown hts hK hN hA (hDD _) (Nat.zero_le _) (Nat.zero_le _) [.ref (q 14), .int (x1), .int (x2)] [] (m_add (by decide) _ _ _ _ e_3) cs_X4_127 rfl (by decide) rfl (Nat.le_of_ble_eq_true rfl) dX4_approve_44 rfl ?_
      refine ww_aload_n hx hb dX4_approve_47 rfl 0 rfl ?_
      refine ww_get (C := RX4) (T := TX4) (N := 7) hx hb hown hts hK inA4 0 rfl rfl 2 (by decide) kw_181 rfl rfl dX4_approve_48 ?_
      refine ww_get (C := RX0) (T := TX0) (N := 4) hx hb hown hts hK inA0 3 rfl rfl 0 (by decide) kw_195 rfl rfl dX4_approve_51 ?_
      refine ww_iload_n hx hb dX4_approve_54 rfl 1 rfl ?_
      refine ww_callS (ws1 := WC q cA σ_3) (st1 := [.int (fat σ_3 14 4 x1)]) hx hb hml hown hts hK hN hA (hDD _) (Nat.zero_le _) (Nat.zero_le _) [.ref (q 14), .int (x1)] [] (m_at (by decide) σ_3 x1) cs_X4_131 rfl (by decide) rfl (Nat.le_of_ble_eq_true rfl) dX4_approve_55 rfl ?_
      obtain ⟨rfl, rfl⟩ := os2 h
      exact ww_xiret hx hb hr hlk rfl dX4_approve_58
    · replace h := it_p c_2 h
      obtain ⟨rfl, rfl⟩ := os2 h
      exact ww_throw (ik := 52) (ic := 54) hx hb hl0 hml hown hts hN hZ hlk hno kw_32 kw_33 ek_54_IllegalArgumentException dX4_approve_27 dX4_approve_30 dX4_approve_31 dX4_approve_34 (by decide)
  · replace h := it_p c_1 h
    obtain ⟨rfl, rfl⟩ := os2 h
    exact ww_throw (ik := 68) (ic := 70) hx hb hl0 hml hown hts hN hZ hlk hno kw_41 kw_42 ek_70_IndexOutOfBoundsException dX4_approve_9 dX4_approve_12 dX4_approve_13 dX4_approve_16 (by decide)
set_option maxHeartbeats 4000000 in
set_option maxRecDepth 100000 in
theorem m_X4_grant (hl0 : l.stackTraces = false) (σ : SS) (x1 : Int32) (r : Int32 ⊕ String) (σ1 : SS) (h : X4_grant σ x1 = some (r, σ1)) : CtX l yX4_grant cX4_grant 2 (some .int) 7 280 D vwCl [(cA, .int)] (WC q cA σ) (WC q cA σ1) [.ref (q 0), .int (x1)] r := by
  refine ctx_of (by decide +kernel) (Nat.le_of_ble_eq_true rfl) ?_
  intro p e s m args below meth c hx hb hr hlk hml hown hts hK hD hN hA hZ hno
  have hown : s.vm.findClass RX4 = some m.cls := hown
  have hDD : ∀ τ : SS, va_D (va_A (WC q cA σ) s.heap.size) (WC q cA τ) := fun τ => hD.adr rfl
  unfold X4_grant at h
  refine ww_sub (lv1 := [(0, .ref (q 0)), (1, .int (x1))]) [0, 1] rfl ?_
  refine ww_iload_n hx hb dX4_grant_0 rfl 1 rfl ?_
  refine ww_iconst (v := 1) hx hb dX4_grant_1 (by decide) ?_
  refine ww_ldc hx hb hown hts kw_194 dX4_grant_2 ?_
  refine ww_callS (ws1 := WC q cA σ) (st1 := [.int (X4_isWithin x1 (1 : Int32) (100000 : Int32))]) hx hb hml hown hts hK hN hA (hDD _) (Nat.zero_le _) (Nat.zero_le _) [.int (x1), .int ((1 : Int32)), .int ((100000 : Int32))] [] (m_X4_isWithin σ x1 (1 : Int32) (100000 : Int32)) cs_X4_42 rfl (by decide) rfl (Nat.le_of_ble_eq_true rfl) dX4_grant_4 rfl ?_
  refine ww_ne0 (tgt := 18) hx hb dX4_grant_7 (by decide) (fun c_1 => ?_) (fun c_1 => ?_)
  · replace h := it_n c_1 h
    refine ww_aload_n hx hb dX4_grant_18 rfl 0 rfl ?_
    refine ww_get (C := RX4) (T := TX4) (N := 7) hx hb hown hts hK inA4 0 rfl rfl 2 (by decide) kw_181 rfl rfl dX4_grant_19 ?_
    refine ww_dup hx hb dX4_grant_22 rfl ?_
    refine ww_get (C := RX0) (T := TX0) (N := 4) hx hb hown hts hK inA0 3 rfl rfl 1 (by decide) kw_183 rfl rfl dX4_grant_23 ?_
    refine ww_iload_n hx hb dX4_grant_26 rfl 1 rfl ?_
    refine ww_iadd hx hb dX4_grant_27 ?_
    obtain ⟨σ_2, e_2, h⟩ := lt_e h
    refine ww_put (C := RX0) (T := TX0) (N := 4) (ty := .int) (ws1 := WC q cA (σ_2)) hx hb hown hts hK inA0 tyX0 tyX0_ok nmX0 (hDD _) 3 rfl rfl 1 (by decide) kw_183 rfl rfl rfl rfl rfl (Nat.le_of_ble_eq_true rfl) dX4_grant_28 (e_2 ▸ rfl) ?_
    refine ww_aload_n hx hb dX4_grant_31 rfl 0 rfl ?_
    refine ww_get (C := RX4) (T := TX4) (N := 7) hx hb hown hts hK inA4 0 rfl rfl 2 (by decide) kw_181 rfl rfl dX4_grant_32 ?_
    refine ww_get (C := RX0) (T := TX0) (N := 4) hx hb hown hts hK inA0 3 rfl rfl 1 (by decide) kw_183 rfl rfl dX4_grant_35 ?_
    obtain ⟨rfl, rfl⟩ := os2 h
    exact ww_xiret hx hb hr hlk rfl dX4_grant_38
  · replace h := it_p c_1 h
    obtain ⟨rfl, rfl⟩ := os2 h
    exact ww_throw (ik := 52) (ic := 54) hx hb hl0 hml hown hts hN hZ hlk hno kw_32 kw_33 ek_54_IllegalArgumentException dX4_grant_10 dX4_grant_13 dX4_grant_14 dX4_grant_17 (by decide)
set_option maxHeartbeats 4000000 in
set_option maxRecDepth 100000 in
theorem m_X4_bill (hl0 : l.stackTraces = false) (σ : SS) (x1 x2 : Int32) (r : Int32 ⊕ String) (σ1 : SS) (h : X4_bill σ x1 x2 = some (r, σ1)) : CtX l yX4_bill cX4_bill 3 (some .int) 7 280 D vwCl [(cA, .int)] (WC q cA σ) (WC q cA σ1) [.ref (q 0), .int (x1), .int (x2)] r := by
  refine ctx_of (by decide +kernel) (Nat.le_of_ble_eq_true rfl) ?_
  intro p e s m args below meth c hx hb hr hlk hml hown hts hK hD hN hA hZ hno
  have hown : s.vm.findClass RX4 = some m.cls := hown
  have hDD : ∀ τ : SS, va_D (va_A (WC q cA σ) s.heap.size) (WC q cA τ) := fun τ => hD.adr rfl
  unfold X4_bill at h
  refine ww_sub (lv1 := [(0, .ref (q 0)), (1, .int (x1)), (2, .int (x2))]) [0, 1, 2] rfl ?_
  refine ww_iload_n hx hb dX4_bill_0 rfl 1 rfl ?_
  refine ww_iconst (v := 0) hx hb dX4_bill_1 (by decide) ?_
  refine ww_iconst (v := 3) hx hb dX4_bill_2 (by decide) ?_
  refine ww_callS (ws1 := WC q cA σ) (st1 := [.int (X4_isWithin x1 (0 : Int32) (3 : Int32))]) hx hb hml hown hts hK hN hA (hDD _) (Nat.zero_le _) (Nat.zero_le _) [.int (x1), .int ((0 : Int32)), .int ((3 : Int32))] [] (m_X4_isWithin σ x1 (0 : Int32) (3 : Int32)) cs_X4_42 rfl (by decide) rfl (Nat.le_of_ble_eq_true rfl) dX4_bill_3 rfl ?_
  refine ww_ne0 (tgt := 17) hx hb dX4_bill_6 (by decide) (fun c_1 => ?_) (fun c_1 => ?_)
  · replace h := it_n c_1 h
    refine ww_iload_n hx hb dX4_bill_17 rfl 2 rfl ?_
    refine ww_iconst (v := 1) hx hb dX4_bill_18 (by decide) ?_
    refine ww_ldc hx hb hown hts kw_194 dX4_bill_19 ?_
    refine ww_callS (ws1 := WC q cA σ) (st1 := [.int (X4_isWithin x2 (1 : Int32) (100000 : Int32))]) hx hb hml hown hts hK hN hA (hDD _) (Nat.zero_le _) (Nat.zero_le _) [.int (x2), .int ((1 : Int32)), .int ((100000 : Int32))] [] (m_X4_isWithin σ x2 (1 : Int32) (100000 : Int32)) cs_X4_42 rfl (by decide) rfl (Nat.le_of_ble_eq_true rfl) dX4_bill_21 rfl ?_
    refine ww_ne0 (tgt := 35) hx hb dX4_bill_24 (by decide) (fun c_2 => ?_) (fun c_2 => ?_)
    · replace h := it_n c_2 h
      refine ww_aload_n hx hb dX4_bill_35 rfl 0 rfl ?_
      refine ww_get (C := RX4) (T := TX4) (N := 7) hx hb hown hts hK inA4 0 rfl rfl 2 (by decide) kw_181 rfl rfl dX4_bill_36 ?_
      refine ww_iload_n hx hb dX4_bill_39 rfl 1 rfl ?_
      refine ww_iload_n hx hb dX4_bill_40 rfl 2 rfl ?_
      refine ww_callV (ws1 := WC q cA σ) (st1 := [.int (X0_lackOf σ x1 x2)]) hx hb hml hown hts hK hN hA (hDD _) (Nat.zero_le _) (Nat.zero_le _) [.int (x1), .int (x2)] [] (m_X0_lackOf σ x1 x2) cs_X4_100 rfl (by decide) 3 rfl rfl rfl (Nat.le_of_ble_eq_true rfl) dX4_bill_41 rfl ?_
      refine ww_aload_n hx hb dX4_bill_44 rfl 0 rfl ?_
      refine ww_get (C := RX4) (T := TX4) (N := 7) hx hb hown hts hK inA4 0 rfl rfl 2 (by decide) kw_181 rfl rfl dX4_bill_45 ?_
      refine ww_get (C := RX0) (T := TX0) (N := 4) hx hb hown hts hK inA0 3 rfl rfl 1 (by decide) kw_183 rfl rfl dX4_bill_48 ?_
      refine ww_le2 (tgt := 62) hx hb dX4_bill_51 (by decide) (fun c_3 => ?_) (fun c_3 => ?_)
      · replace h := it_p c_3 h
        refine ww_aload_n hx hb dX4_bill_62 rfl 0 rfl ?_
        refine ww_get (C := RX4) (T := TX4) (N := 7) hx hb hown hts hK inA4 0 rfl rfl 2 (by decide) kw_181 rfl rfl dX4_bill_63 ?_
        refine ww_iload_n hx hb dX4_bill_66 rfl 1 rfl ?_
        refine ww_iload_n hx hb dX4_bill_67 rfl 2 rfl ?_
        obtain ⟨r_4, σ_4, e_4, h⟩ := ob2 h
        refine ww_callV (ws1 := WC q cA σ_4) (st1 := [.int (r_4)]) hx hb hml hown hts hK hN hA (hDD _) (Nat.zero_le _) (Nat.zero_le _) [.int (x1), .int (x2)] [] (m_X0_pay _ _ _ _ _ e_4) cs_X4_110 rfl (by decide) 3 rfl rfl rfl (Nat.le_of_ble_eq_true rfl) dX4_bill_68 rfl ?_
        obtain ⟨rfl, rfl⟩ := os2 h
        exact ww_xiret hx hb hr hlk rfl dX4_bill_71
      · replace h := it_n c_3 h
        obtain ⟨rfl, rfl⟩ := os2 h
        exact ww_throw (ik := 58) (ic := 60) hx hb hl0 hml hown hts hN hZ hlk hno kw_30 kw_31 ek_60_IllegalStateException dX4_bill_54 dX4_bill_57 dX4_bill_58 dX4_bill_61 (by decide)
    · replace h := it_p c_2 h
      obtain ⟨rfl, rfl⟩ := os2 h
      exact ww_throw (ik := 52) (ic := 54) hx hb hl0 hml hown hts hN hZ hlk hno kw_32 kw_33 ek_54_IllegalArgumentException dX4_bill_27 dX4_bill_30 dX4_bill_31 dX4_bill_34 (by decide)
  · replace h := it_p c_1 h
    obtain ⟨rfl, rfl⟩ := os2 h
    exact ww_throw (ik := 68) (ic := 70) hx hb hl0 hml hown hts hN hZ hlk hno kw_41 kw_42 ek_70_IndexOutOfBoundsException dX4_bill_9 dX4_bill_12 dX4_bill_13 dX4_bill_16 (by decide)
set_option maxHeartbeats 4000000 in
set_option maxRecDepth 100000 in
theorem m_X4_loan (hl0 : l.stackTraces = false) (σ : SS) (x1 x2 : Int32) (r : Int32 ⊕ String) (σ1 : SS) (h : X4_loan σ x1 x2 = some (r, σ1)) : CtX l yX4_loan cX4_loan 3 (some .int) 7 280 D vwCl [(cA, .int)] (WC q cA σ) (WC q cA σ1) [.ref (q 0), .int (x1), .int (x2)] r := by
  refine ctx_of (by decide +kernel) (Nat.le_of_ble_eq_true rfl) ?_
  intro p e s m args below meth c hx hb hr hlk hml hown hts hK hD hN hA hZ hno
  have hown : s.vm.findClass RX4 = some m.cls := hown
  have hDD : ∀ τ : SS, va_D (va_A (WC q cA σ) s.heap.size) (WC q cA τ) := fun τ => hD.adr rfl
  unfold X4_loan at h
  refine ww_sub (lv1 := [(0, .ref (q 0)), (1, .int (x1)), (2, .int (x2))]) [0, 1, 2] rfl ?_
  refine ww_iload_n hx hb dX4_loan_0 rfl 1 rfl ?_
  refine ww_iconst (v := 0) hx hb dX4_loan_1 (by decide) ?_
  refine ww_iconst (v := 5) hx hb dX4_loan_2 (by decide) ?_
  refine ww_callS (ws1 := WC q cA σ) (st1 := [.int (X4_isWithin x1 (0 : Int32) (5 : Int32))]) hx hb hml hown hts hK hN hA (hDD _) (Nat.zero_le _) (Nat.zero_le _) [.int (x1), .int ((0 : Int32)), .int ((5 : Int32))] [] (m_X4_isWithin σ x1 (0 : Int32) (5 : Int32)) cs_X4_42 rfl (by decide) rfl (Nat.le_of_ble_eq_true rfl) dX4_loan_3 rfl ?_
  refine ww_ne0 (tgt := 17) hx hb dX4_loan_6 (by decide) (fun c_1 => ?_) (fun c_1 => ?_)
  · replace h := it_n c_1 h
    refine ww_iload_n hx hb dX4_loan_17 rfl 2 rfl ?_
    refine ww_iconst (v := 1) hx hb dX4_loan_18 (by decide) ?_
    refine ww_ldc hx hb hown hts kw_194 dX4_loan_19 ?_
    refine ww_callS (ws1 := WC q cA σ) (st1 := [.int (X4_isWithin x2 (1 : Int32) (100000 : Int32))]) hx hb hml hown hts hK hN hA (hDD _) (Nat.zero_le _) (Nat.zero_le _) [.int (x2), .int ((1 : Int32)), .int ((100000 : Int32))] [] (m_X4_isWithin σ x2 (1 : Int32) (100000 : Int32)) cs_X4_42 rfl (by decide) rfl (Nat.le_of_ble_eq_true rfl) dX4_loan_21 rfl ?_
    refine ww_ne0 (tgt := 35) hx hb dX4_loan_24 (by decide) (fun c_2 => ?_) (fun c_2 => ?_)
    · replace h := it_n c_2 h
      refine ww_aload_n hx hb dX4_loan_35 rfl 0 rfl ?_
      refine ww_get (C := RX4) (T := TX4) (N := 7) hx hb hown hts hK inA4 0 rfl rfl 3 (by decide) kw_201 rfl rfl dX4_loan_36 ?_
      refine ww_get (C := RX1) (T := TX1) (N := 10) hx hb hown hts hK inA1 4 rfl rfl 7 (by decide) kw_202 rfl rfl dX4_loan_39 ?_
      refine ww_bipush (v := 10) hx hb dX4_loan_42 (by decide) ?_
      refine ww_lt2 (tgt := 55) hx hb dX4_loan_44 (by decide) (fun c_3 => ?_) (fun c_3 => ?_)
      · replace h := it_p c_3 h
        refine ww_aload_n hx hb dX4_loan_55 rfl 0 rfl ?_
        refine ww_get (C := RX4) (T := TX4) (N := 7) hx hb hown hts hK inA4 0 rfl rfl 3 (by decide) kw_201 rfl rfl dX4_loan_56 ?_
        refine ww_iload_n hx hb dX4_loan_59 rfl 1 rfl ?_
        refine ww_iload_n hx hb dX4_loan_60 rfl 2 rfl ?_
        obtain ⟨r_4, σ_4, e_4, h⟩ := ob2 h
        refine ww_callV (ws1 := WC q cA σ_4) (st1 := [.int (r_4)]) hx hb hml hown hts hK hN hA (hDD _) (Nat.zero_le _) (Nat.zero_le _) [.int (x1), .int (x2)] [] (m_X1_appendLoan _ _ _ _ _ e_4) cs_X4_138 rfl (by decide) 4 rfl rfl rfl (Nat.le_of_ble_eq_true rfl) dX4_loan_61 rfl ?_
        obtain ⟨rfl, rfl⟩ := os2 h
        exact ww_xiret hx hb hr hlk rfl dX4_loan_64
      · replace h := it_n c_3 h
        obtain ⟨rfl, rfl⟩ := os2 h
        exact ww_throw (ik := 58) (ic := 60) hx hb hl0 hml hown hts hN hZ hlk hno kw_30 kw_31 ek_60_IllegalStateException dX4_loan_47 dX4_loan_50 dX4_loan_51 dX4_loan_54 (by decide)
    · replace h := it_p c_2 h
      obtain ⟨rfl, rfl⟩ := os2 h
      exact ww_throw (ik := 52) (ic := 54) hx hb hl0 hml hown hts hN hZ hlk hno kw_32 kw_33 ek_54_IllegalArgumentException dX4_loan_27 dX4_loan_30 dX4_loan_31 dX4_loan_34 (by decide)
  · replace h := it_p c_1 h
    obtain ⟨rfl, rfl⟩ := os2 h
    exact ww_throw (ik := 68) (ic := 70) hx hb hl0 hml hown hts hN hZ hlk hno kw_41 kw_42 ek_70_IndexOutOfBoundsException dX4_loan_9 dX4_loan_12 dX4_loan_13 dX4_loan_16 (by decide)
set_option maxHeartbeats 4000000 in
set_option maxRecDepth 100000 in
theorem m_X4_part (hl0 : l.stackTraces = false) (σ : SS) (x1 x2 x3 : Int32) (r : Int32 ⊕ String) (σ1 : SS) (h : X4_part σ x1 x2 x3 = some (r, σ1)) : CtX l yX4_part cX4_part 4 (some .int) 7 280 D vwCl [(cA, .int)] (WC q cA σ) (WC q cA σ1) [.ref (q 0), .int (x1), .int (x2), .int (x3)] r := by
  refine ctx_of (by decide +kernel) (Nat.le_of_ble_eq_true rfl) ?_
  intro p e s m args below meth c hx hb hr hlk hml hown hts hK hD hN hA hZ hno
  have hown : s.vm.findClass RX4 = some m.cls := hown
  have hDD : ∀ τ : SS, va_D (va_A (WC q cA σ) s.heap.size) (WC q cA τ) := fun τ => hD.adr rfl
  unfold X4_part at h
  have bk79 : ∀ (τ : SS) , X4_part_b79 τ = some (r, σ1) → WW p l e (rmc 7 280 1 6) s m args below meth c D vwCl (va_A (WC q cA σ) s.heap.size) 4 0 0 (vx_MQ below (qxW D vwCl (WC q cA σ) (WC q cA σ1) r s.heap.size) (xcW D vwCl (WC q cA σ) (WC q cA σ1) r s.heap.size) args s 1 6 (va_A (WC q cA σ) s.heap.size)) (WC q cA τ) 79 [] [] := by
    intro τ h
    unfold X4_part_b79 at h
    obtain ⟨rfl, rfl⟩ := os2 h
    exact ww_throw (ik := 58) (ic := 60) hx hb hl0 hml hown hts hN hZ hlk hno kw_30 kw_31 ek_60_IllegalStateException dX4_part_79 dX4_part_82 dX4_part_83 dX4_part_86 (by decide)
  have bk26 : ∀ (τ : SS) , X4_part_b26 τ = some (r, σ1) → WW p l e (rmc 7 280 1 6) s m args below meth c D vwCl (va_A (WC q cA σ) s.heap.size) 4 0 0 (vx_MQ below (qxW D vwCl (WC q cA σ) (WC q cA σ1) r s.heap.size) (xcW D vwCl (WC q cA σ) (WC q cA σ1) r s.heap.size) args s 1 6 (va_A (WC q cA σ) s.heap.size)) (WC q cA τ) 26 [] [] := by
    intro τ h
    unfold X4_part_b26 at h
    obtain ⟨rfl, rfl⟩ := os2 h
    exact ww_throw (ik := 68) (ic := 70) hx hb hl0 hml hown hts hN hZ hlk hno kw_41 kw_42 ek_70_IndexOutOfBoundsException dX4_part_26 dX4_part_29 dX4_part_30 dX4_part_33 (by decide)
  refine ww_sub (lv1 := [(0, .ref (q 0)), (1, .int (x1)), (2, .int (x2)), (3, .int (x3))]) [0, 1, 2, 3] rfl ?_
  refine ww_iload_n hx hb dX4_part_0 rfl 1 rfl ?_
  refine ww_iconst (v := -1) hx hb dX4_part_1 (by decide) ?_
  refine ww_aload_n hx hb dX4_part_2 rfl 0 rfl ?_
  refine ww_get (C := RX4) (T := TX4) (N := 7) hx hb hown hts hK inA4 0 rfl rfl 3 (by decide) kw_201 rfl rfl dX4_part_3 ?_
  refine ww_get (C := RX1) (T := TX1) (N := 10) hx hb hown hts hK inA1 4 rfl rfl 8 (by decide) kw_212 rfl rfl dX4_part_6 ?_
  refine ww_iconst (v := 1) hx hb dX4_part_9 (by decide) ?_
  refine ww_isub hx hb dX4_part_10 ?_
  refine ww_callS (ws1 := WC q cA σ) (st1 := [.int (X4_isWithin x1 (-1 : Int32) ((σ 4 8) - (1 : Int32)))]) hx hb hml hown hts hK hN hA (hDD _) (Nat.zero_le _) (Nat.zero_le _) [.int (x1), .int ((-1 : Int32)), .int ((σ 4 8) - (1 : Int32))] [] (m_X4_isWithin σ x1 (-1 : Int32) ((σ 4 8) - (1 : Int32))) cs_X4_42 rfl (by decide) rfl (Nat.le_of_ble_eq_true rfl) dX4_part_11 rfl ?_
  refine ww_eq0 (tgt := 26) hx hb dX4_part_14 (by decide) (fun c_1 => ?_) (fun c_1 => ?_)
  · replace h := it_p c_1 h
    exact ww_sub (lv1 := []) [] rfl (bk26 _ h)
  · replace h := it_n c_1 h
    refine ww_iload_n hx hb dX4_part_17 rfl 2 rfl ?_
    refine ww_iconst (v := 0) hx hb dX4_part_18 (by decide) ?_
    refine ww_iconst (v := 5) hx hb dX4_part_19 (by decide) ?_
    refine ww_callS (ws1 := WC q cA σ) (st1 := [.int (X4_isWithin x2 (0 : Int32) (5 : Int32))]) hx hb hml hown hts hK hN hA (hDD _) (Nat.zero_le _) (Nat.zero_le _) [.int (x2), .int ((0 : Int32)), .int ((5 : Int32))] [] (m_X4_isWithin σ x2 (0 : Int32) (5 : Int32)) cs_X4_42 rfl (by decide) rfl (Nat.le_of_ble_eq_true rfl) dX4_part_20 rfl ?_
    refine ww_ne0 (tgt := 34) hx hb dX4_part_23 (by decide) (fun c_2 => ?_) (fun c_2 => ?_)
    · replace h := it_n c_2 h
      refine ww_iload_n hx hb dX4_part_34 rfl 3 rfl ?_
      refine ww_iconst (v := 1) hx hb dX4_part_35 (by decide) ?_
      refine ww_bipush (v := 100) hx hb dX4_part_36 (by decide) ?_
      refine ww_callS (ws1 := WC q cA σ) (st1 := [.int (X4_isWithin x3 (1 : Int32) (100 : Int32))]) hx hb hml hown hts hK hN hA (hDD _) (Nat.zero_le _) (Nat.zero_le _) [.int (x3), .int ((1 : Int32)), .int ((100 : Int32))] [] (m_X4_isWithin σ x3 (1 : Int32) (100 : Int32)) cs_X4_42 rfl (by decide) rfl (Nat.le_of_ble_eq_true rfl) dX4_part_38 rfl ?_
      refine ww_ne0 (tgt := 52) hx hb dX4_part_41 (by decide) (fun c_3 => ?_) (fun c_3 => ?_)
      · replace h := it_n c_3 h
        refine ww_aload_n hx hb dX4_part_52 rfl 0 rfl ?_
        refine ww_get (C := RX4) (T := TX4) (N := 7) hx hb hown hts hK inA4 0 rfl rfl 3 (by decide) kw_201 rfl rfl dX4_part_53 ?_
        refine ww_get (C := RX1) (T := TX1) (N := 10) hx hb hown hts hK inA1 4 rfl rfl 8 (by decide) kw_212 rfl rfl dX4_part_56 ?_
        refine ww_bipush (v := 12) hx hb dX4_part_59 (by decide) ?_
        refine ww_ge2 (tgt := 79) hx hb dX4_part_61 (by decide) (fun c_4 => ?_) (fun c_4 => ?_)
        · replace h := it_p c_4 h
          exact ww_sub (lv1 := []) [] rfl (bk79 _ h)
        · replace h := it_n c_4 h
          refine ww_aload_n hx hb dX4_part_64 rfl 0 rfl ?_
          refine ww_get (C := RX4) (T := TX4) (N := 7) hx hb hown hts hK inA4 0 rfl rfl 3 (by decide) kw_201 rfl rfl dX4_part_65 ?_
          refine ww_iload_n hx hb dX4_part_68 rfl 1 rfl ?_
          obtain ⟨r_5, e_5, h⟩ := ob h
          refine ww_callV (ws1 := WC q cA σ) (st1 := [.int (r_5)]) hx hb hml hown hts hK hN hA (hDD _) (Nat.zero_le _) (Nat.zero_le _) [.int (x1)] [] (m_X1_percentOf _ _ _ e_5) cs_X4_144 rfl (by decide) 4 rfl rfl rfl (Nat.le_of_ble_eq_true rfl) dX4_part_69 rfl ?_
          refine ww_iload_n hx hb dX4_part_72 rfl 3 rfl ?_
          refine ww_iadd hx hb dX4_part_73 ?_
          refine ww_bipush (v := 100) hx hb dX4_part_74 (by decide) ?_
          refine ww_le2 (tgt := 87) hx hb dX4_part_76 (by decide) (fun c_6 => ?_) (fun c_6 => ?_)
          · replace h := it_p c_6 h
            refine ww_aload_n hx hb dX4_part_87 rfl 0 rfl ?_
            refine ww_get (C := RX4) (T := TX4) (N := 7) hx hb hown hts hK inA4 0 rfl rfl 3 (by decide) kw_201 rfl rfl dX4_part_88 ?_
            refine ww_iload_n hx hb dX4_part_91 rfl 1 rfl ?_
            refine ww_iload_n hx hb dX4_part_92 rfl 2 rfl ?_
            refine ww_iload_n hx hb dX4_part_93 rfl 3 rfl ?_
            obtain ⟨r_7, σ_7, e_7, h⟩ := ob2 h
            refine ww_callV (ws1 := WC q cA σ_7) (st1 := [.int (r_7)]) hx hb hml hown hts hK hN hA (hDD _) (Nat.zero_le _) (Nat.zero_le _) [.int (x1), .int (x2), .int (x3)] [] (m_X1_appendPart _ _ _ _ _ _ e_7) cs_X4_147 rfl (by decide) 4 rfl rfl rfl (Nat.le_of_ble_eq_true rfl) dX4_part_94 rfl ?_
            obtain ⟨rfl, rfl⟩ := os2 h
            exact ww_xiret hx hb hr hlk rfl dX4_part_97
          · replace h := it_n c_6 h
            exact ww_sub (lv1 := []) [] rfl (bk79 _ h)
      · replace h := it_p c_3 h
        obtain ⟨rfl, rfl⟩ := os2 h
        exact ww_throw (ik := 52) (ic := 54) hx hb hl0 hml hown hts hN hZ hlk hno kw_32 kw_33 ek_54_IllegalArgumentException dX4_part_44 dX4_part_47 dX4_part_48 dX4_part_51 (by decide)
    · replace h := it_p c_2 h
      exact ww_sub (lv1 := []) [] rfl (bk26 _ h)
set_option maxHeartbeats 4000000 in
set_option maxRecDepth 100000 in
theorem m_X4_income (hl0 : l.stackTraces = false) (σ : SS) (x1 : Int32) (r : Int32 ⊕ String) (σ1 : SS) (h : X4_income σ x1 = some (r, σ1)) : CtX l yX4_income cX4_income 3 (some .int) 7 280 D vwCl [(cA, .int)] (WC q cA σ) (WC q cA σ1) [.ref (q 0), .int (x1)] r := by
  refine ctx_of (by decide +kernel) (Nat.le_of_ble_eq_true rfl) ?_
  intro p e s m args below meth c hx hb hr hlk hml hown hts hK hD hN hA hZ hno
  have hown : s.vm.findClass RX4 = some m.cls := hown
  have hDD : ∀ τ : SS, va_D (va_A (WC q cA σ) s.heap.size) (WC q cA τ) := fun τ => hD.adr rfl
  unfold X4_income at h
  refine ww_sub (lv1 := [(0, .ref (q 0)), (1, .int (x1))]) [0, 1] rfl ?_
  refine ww_iload_n hx hb dX4_income_0 rfl 1 rfl ?_
  refine ww_iconst (v := 1) hx hb dX4_income_1 (by decide) ?_
  refine ww_ldc hx hb hown hts kw_228 dX4_income_2 ?_
  refine ww_callS (ws1 := WC q cA σ) (st1 := [.int (X4_isWithin x1 (1 : Int32) (1000000 : Int32))]) hx hb hml hown hts hK hN hA (hDD _) (Nat.zero_le _) (Nat.zero_le _) [.int (x1), .int ((1 : Int32)), .int ((1000000 : Int32))] [] (m_X4_isWithin σ x1 (1 : Int32) (1000000 : Int32)) cs_X4_42 rfl (by decide) rfl (Nat.le_of_ble_eq_true rfl) dX4_income_4 rfl ?_
  refine ww_ne0 (tgt := 18) hx hb dX4_income_7 (by decide) (fun c_1 => ?_) (fun c_1 => ?_)
  · replace h := it_n c_1 h
    refine ww_aload_n hx hb dX4_income_18 rfl 0 rfl ?_
    refine ww_get (C := RX4) (T := TX4) (N := 7) hx hb hown hts hK inA4 0 rfl rfl 3 (by decide) kw_201 rfl rfl dX4_income_19 ?_
    refine ww_aload_n hx hb dX4_income_22 rfl 0 rfl ?_
    refine ww_get (C := RX4) (T := TX4) (N := 7) hx hb hown hts hK inA4 0 rfl rfl 2 (by decide) kw_181 rfl rfl dX4_income_23 ?_
    refine ww_iload_n hx hb dX4_income_26 rfl 1 rfl ?_
    obtain ⟨r_2, σ_2, e_2, h⟩ := ob2 h
    refine ww_callV (ws1 := WC q cA σ_2) (st1 := [.int (r_2), .ref (q 4)]) hx hb hml hown hts hK hN hA (hDD _) (Nat.zero_le _) (Nat.zero_le _) [.int (x1)] [.ref (q 4)] (m_X0_payBack _ _ _ _ e_2) cs_X4_152 rfl (by decide) 3 rfl rfl rfl (Nat.le_of_ble_eq_true rfl) dX4_income_27 rfl ?_
    obtain ⟨r_3, σ_3, e_3, h⟩ := ob2 h
    refine ww_callV (ws1 := WC q cA σ_3) (st1 := [.int (r_3)]) hx hb hml hown hts hK hN hA (hDD _) (Nat.zero_le _) (Nat.zero_le _) [.int (r_2)] [] (m_X1_payBackLoans _ _ _ _ e_3) cs_X4_155 rfl (by decide) 4 rfl rfl rfl (Nat.le_of_ble_eq_true rfl) dX4_income_30 rfl ?_
    refine ww_istore_n (i := 2) (lv1 := [(0, .ref (q 0)), (2, .int (r_3))]) hx hb dX4_income_33 rfl (by decide) [1, 0] rfl ?_
    refine ww_aload_n hx hb dX4_income_34 rfl 0 rfl ?_
    refine ww_get (C := RX4) (T := TX4) (N := 7) hx hb hown hts hK inA4 0 rfl rfl 3 (by decide) kw_201 rfl rfl dX4_income_35 ?_
    refine ww_iload_n hx hb dX4_income_38 rfl 1 rfl ?_
    obtain ⟨σ_4, e_4, h⟩ := ob h
    refine ww_callV (ws1 := WC q cA σ_4) (st1 := []) hx hb hml hown hts hK hN hA (hDD _) (Nat.zero_le _) (Nat.zero_le _) [.int (r_3)] [] (m_X1_share _ _ _ e_4) cs_X4_158 rfl (by decide) 4 rfl rfl rfl (Nat.le_of_ble_eq_true rfl) dX4_income_39 rfl ?_
    refine ww_iload_n hx hb dX4_income_42 rfl 1 rfl ?_
    obtain ⟨rfl, rfl⟩ := os2 h
    exact ww_xiret hx hb hr hlk rfl dX4_income_43
  · replace h := it_p c_1 h
    obtain ⟨rfl, rfl⟩ := os2 h
    exact ww_throw (ik := 52) (ic := 54) hx hb hl0 hml hown hts hN hZ hlk hno kw_32 kw_33 ek_54_IllegalArgumentException dX4_income_10 dX4_income_13 dX4_income_14 dX4_income_17 (by decide)
set_option maxHeartbeats 4000000 in
set_option maxRecDepth 100000 in
theorem m_X4_daysByAll (hl0 : l.stackTraces = false) (σ : SS) (r : Int32 ⊕ String) (σ1 : SS) (h : X4_daysByAll σ = some (r, σ1)) : CtX l yX4_daysByAll cX4_daysByAll 1 (some .int) 22 880 D vwCl [(cA, .int)] (WC q cA σ) (WC q cA σ1) [.ref (q 0)] r := by
  refine ctx_of (by decide +kernel) (Nat.le_of_ble_eq_true rfl) ?_
  intro p e s m args below meth c hx hb hr hlk hml hown hts hK hD hN hA hZ hno
  have hown : s.vm.findClass RX4 = some m.cls := hown
  have hDD : ∀ τ : SS, va_D (va_A (WC q cA σ) s.heap.size) (WC q cA τ) := fun τ => hD.adr rfl
  unfold X4_daysByAll at h
  refine ww_sub (lv1 := [(0, .ref (q 0))]) [0] rfl ?_
  refine ww_aload_n hx hb dX4_daysByAll_0 rfl 0 rfl ?_
  refine ww_get (C := RX4) (T := TX4) (N := 7) hx hb hown hts hK inA4 0 rfl rfl 0 (by decide) kw_13 rfl rfl dX4_daysByAll_1 ?_
  refine ww_callV (ws1 := WC q cA σ) (st1 := [.int (X3_countOpen σ)]) hx hb hml hown hts hK hN hA (hDD _) (Nat.zero_le _) (Nat.zero_le _) [] [] (m_X3_countOpen σ) cs_X4_167 rfl (by decide) 2 rfl rfl rfl (Nat.le_of_ble_eq_true rfl) dX4_daysByAll_4 rfl ?_
  refine ww_bipush (v := 6) hx hb dX4_daysByAll_7 (by decide) ?_
  refine ww_le2 (tgt := 20) hx hb dX4_daysByAll_9 (by decide) (fun c_1 => ?_) (fun c_1 => ?_)
  · replace h := it_p c_1 h
    refine ww_aload_n hx hb dX4_daysByAll_20 rfl 0 rfl ?_
    refine ww_get (C := RX4) (T := TX4) (N := 7) hx hb hown hts hK inA4 0 rfl rfl 1 (by decide) kw_20 rfl rfl dX4_daysByAll_21 ?_
    obtain ⟨r_2, σ_2, e_2, h⟩ := ob2 h
    refine ww_callV (ws1 := WC q cA σ_2) (st1 := [.int (r_2)]) hx hb hml hown hts hK hN hA (hDD _) (Nat.zero_le _) (Nat.zero_le _) [] [] (m_X2_fewestDays _  _ _ e_2) cs_X4_170 rfl (by decide) 1 rfl rfl rfl (Nat.le_of_ble_eq_true rfl) dX4_daysByAll_24 rfl ?_
    obtain ⟨rfl, rfl⟩ := os2 h
    exact ww_xiret hx hb hr hlk rfl dX4_daysByAll_27
  · replace h := it_n c_1 h
    obtain ⟨rfl, rfl⟩ := os2 h
    exact ww_throw (ik := 58) (ic := 60) hx hb hl0 hml hown hts hN hZ hlk hno kw_30 kw_31 ek_60_IllegalStateException dX4_daysByAll_12 dX4_daysByAll_15 dX4_daysByAll_16 dX4_daysByAll_19 (by decide)
set_option maxHeartbeats 4000000 in
set_option maxRecDepth 100000 in
theorem m_X4_planned (hl0 : l.stackTraces = false) (σ : SS) (x1 : Int32) (r : Int32 ⊕ String) (σ1 : SS) (h : X4_planned σ x1 = some (r, σ1)) : CtX l yX4_planned cX4_planned 2 (some .int) 22 880 D vwCl [(cA, .int)] (WC q cA σ) (WC q cA σ1) [.ref (q 0), .int (x1)] r := by
  refine ctx_of (by decide +kernel) (Nat.le_of_ble_eq_true rfl) ?_
  intro p e s m args below meth c hx hb hr hlk hml hown hts hK hD hN hA hZ hno
  have hown : s.vm.findClass RX4 = some m.cls := hown
  have hDD : ∀ τ : SS, va_D (va_A (WC q cA σ) s.heap.size) (WC q cA τ) := fun τ => hD.adr rfl
  unfold X4_planned at h
  refine ww_sub (lv1 := [(0, .ref (q 0)), (1, .int (x1))]) [0, 1] rfl ?_
  refine ww_iload_n hx hb dX4_planned_0 rfl 1 rfl ?_
  refine ww_iconst (v := 0) hx hb dX4_planned_1 (by decide) ?_
  refine ww_aload_n hx hb dX4_planned_2 rfl 0 rfl ?_
  refine ww_get (C := RX4) (T := TX4) (N := 7) hx hb hown hts hK inA4 0 rfl rfl 0 (by decide) kw_13 rfl rfl dX4_planned_3 ?_
  refine ww_callV (ws1 := WC q cA σ) (st1 := [.int (X3_countOpen σ), .int ((0 : Int32)), .int (x1)]) hx hb hml hown hts hK hN hA (hDD _) (Nat.zero_le _) (Nat.zero_le _) [] [.int ((0 : Int32)), .int (x1)] (m_X3_countOpen σ) cs_X4_167 rfl (by decide) 2 rfl rfl rfl (Nat.le_of_ble_eq_true rfl) dX4_planned_6 rfl ?_
  refine ww_iconst (v := 1) hx hb dX4_planned_9 (by decide) ?_
  refine ww_isub hx hb dX4_planned_10 ?_
  refine ww_callS (ws1 := WC q cA σ) (st1 := [.int (X4_isWithin x1 (0 : Int32) ((X3_countOpen σ) - (1 : Int32)))]) hx hb hml hown hts hK hN hA (hDD _) (Nat.zero_le _) (Nat.zero_le _) [.int (x1), .int ((0 : Int32)), .int ((X3_countOpen σ) - (1 : Int32))] [] (m_X4_isWithin σ x1 (0 : Int32) ((X3_countOpen σ) - (1 : Int32))) cs_X4_42 rfl (by decide) rfl (Nat.le_of_ble_eq_true rfl) dX4_planned_11 rfl ?_
  refine ww_ne0 (tgt := 25) hx hb dX4_planned_14 (by decide) (fun c_1 => ?_) (fun c_1 => ?_)
  · replace h := it_n c_1 h
    refine ww_aload_n hx hb dX4_planned_25 rfl 0 rfl ?_
    refine ww_get (C := RX4) (T := TX4) (N := 7) hx hb hown hts hK inA4 0 rfl rfl 1 (by decide) kw_20 rfl rfl dX4_planned_26 ?_
    obtain ⟨σ_2, e_2, h⟩ := ob h
    refine ww_callV (ws1 := WC q cA σ_2) (st1 := []) hx hb hml hown hts hK hN hA (hDD _) (Nat.zero_le _) (Nat.zero_le _) [] [] (m_X2_makePlan _  _ e_2) cs_X4_89 rfl (by decide) 1 rfl rfl rfl (Nat.le_of_ble_eq_true rfl) dX4_planned_29 rfl ?_
    refine ww_aload_n hx hb dX4_planned_32 rfl 0 rfl ?_
    refine ww_get (C := RX4) (T := TX4) (N := 7) hx hb hown hts hK inA4 0 rfl rfl 1 (by decide) kw_20 rfl rfl dX4_planned_33 ?_
    refine ww_get (C := RX2) (T := TX2) (N := 8) hx hb hown hts hK inA2 1 rfl rfl 3 (by decide) kw_252 rfl rfl dX4_planned_36 ?_
    refine ww_iload_n hx hb dX4_planned_39 rfl 1 rfl ?_
    refine ww_callS (ws1 := WC q cA σ_2) (st1 := [.int (fat σ_2 12 8 x1)]) hx hb hml hown hts hK hN hA (hDD _) (Nat.zero_le _) (Nat.zero_le _) [.ref (q 12), .int (x1)] [] (m_at (by decide) σ_2 x1) cs_X4_131 rfl (by decide) rfl (Nat.le_of_ble_eq_true rfl) dX4_planned_40 rfl ?_
    obtain ⟨rfl, rfl⟩ := os2 h
    exact ww_xiret hx hb hr hlk rfl dX4_planned_43
  · replace h := it_p c_1 h
    obtain ⟨rfl, rfl⟩ := os2 h
    exact ww_throw (ik := 68) (ic := 70) hx hb hl0 hml hown hts hN hZ hlk hno kw_41 kw_42 ek_70_IndexOutOfBoundsException dX4_planned_17 dX4_planned_20 dX4_planned_21 dX4_planned_24 (by decide)
set_option maxHeartbeats 4000000 in
set_option maxRecDepth 100000 in
theorem m_X4_begins (hl0 : l.stackTraces = false) (σ : SS) (x1 : Int32) (r : Int32 ⊕ String) (σ1 : SS) (h : X4_begins σ x1 = some (r, σ1)) : CtX l yX4_begins cX4_begins 2 (some .int) 22 880 D vwCl [(cA, .int)] (WC q cA σ) (WC q cA σ1) [.ref (q 0), .int (x1)] r := by
  refine ctx_of (by decide +kernel) (Nat.le_of_ble_eq_true rfl) ?_
  intro p e s m args below meth c hx hb hr hlk hml hown hts hK hD hN hA hZ hno
  have hown : s.vm.findClass RX4 = some m.cls := hown
  have hDD : ∀ τ : SS, va_D (va_A (WC q cA σ) s.heap.size) (WC q cA τ) := fun τ => hD.adr rfl
  unfold X4_begins at h
  refine ww_sub (lv1 := [(0, .ref (q 0)), (1, .int (x1))]) [0, 1] rfl ?_
  refine ww_iload_n hx hb dX4_begins_0 rfl 1 rfl ?_
  refine ww_iconst (v := 0) hx hb dX4_begins_1 (by decide) ?_
  refine ww_aload_n hx hb dX4_begins_2 rfl 0 rfl ?_
  refine ww_get (C := RX4) (T := TX4) (N := 7) hx hb hown hts hK inA4 0 rfl rfl 0 (by decide) kw_13 rfl rfl dX4_begins_3 ?_
  refine ww_get (C := RX3) (T := TX3) (N := 9) hx hb hown hts hK inA3 2 rfl rfl 5 (by decide) kw_19 rfl rfl dX4_begins_6 ?_
  refine ww_iconst (v := 1) hx hb dX4_begins_9 (by decide) ?_
  refine ww_isub hx hb dX4_begins_10 ?_
  refine ww_callS (ws1 := WC q cA σ) (st1 := [.int (X4_isWithin x1 (0 : Int32) ((σ 2 5) - (1 : Int32)))]) hx hb hml hown hts hK hN hA (hDD _) (Nat.zero_le _) (Nat.zero_le _) [.int (x1), .int ((0 : Int32)), .int ((σ 2 5) - (1 : Int32))] [] (m_X4_isWithin σ x1 (0 : Int32) ((σ 2 5) - (1 : Int32))) cs_X4_42 rfl (by decide) rfl (Nat.le_of_ble_eq_true rfl) dX4_begins_11 rfl ?_
  refine ww_ne0 (tgt := 25) hx hb dX4_begins_14 (by decide) (fun c_1 => ?_) (fun c_1 => ?_)
  · replace h := it_n c_1 h
    refine ww_aload_n hx hb dX4_begins_25 rfl 0 rfl ?_
    refine ww_get (C := RX4) (T := TX4) (N := 7) hx hb hown hts hK inA4 0 rfl rfl 1 (by decide) kw_20 rfl rfl dX4_begins_26 ?_
    obtain ⟨σ_2, e_2, h⟩ := ob h
    refine ww_callV (ws1 := WC q cA σ_2) (st1 := []) hx hb hml hown hts hK hN hA (hDD _) (Nat.zero_le _) (Nat.zero_le _) [] [] (m_X2_makePlan _  _ e_2) cs_X4_89 rfl (by decide) 1 rfl rfl rfl (Nat.le_of_ble_eq_true rfl) dX4_begins_29 rfl ?_
    refine ww_aload_n hx hb dX4_begins_32 rfl 0 rfl ?_
    refine ww_get (C := RX4) (T := TX4) (N := 7) hx hb hown hts hK inA4 0 rfl rfl 1 (by decide) kw_20 rfl rfl dX4_begins_33 ?_
    refine ww_get (C := RX2) (T := TX2) (N := 8) hx hb hown hts hK inA2 1 rfl rfl 4 (by decide) kw_253 rfl rfl dX4_begins_36 ?_
    refine ww_iload_n hx hb dX4_begins_39 rfl 1 rfl ?_
    refine ww_callS (ws1 := WC q cA σ_2) (st1 := [.int (fat σ_2 13 8 x1)]) hx hb hml hown hts hK hN hA (hDD _) (Nat.zero_le _) (Nat.zero_le _) [.ref (q 13), .int (x1)] [] (m_at (by decide) σ_2 x1) cs_X4_131 rfl (by decide) rfl (Nat.le_of_ble_eq_true rfl) dX4_begins_40 rfl ?_
    obtain ⟨rfl, rfl⟩ := os2 h
    exact ww_xiret hx hb hr hlk rfl dX4_begins_43
  · replace h := it_p c_1 h
    obtain ⟨rfl, rfl⟩ := os2 h
    exact ww_throw (ik := 68) (ic := 70) hx hb hl0 hml hown hts hN hZ hlk hno kw_41 kw_42 ek_70_IndexOutOfBoundsException dX4_begins_17 dX4_begins_20 dX4_begins_21 dX4_begins_24 (by decide)
set_option maxHeartbeats 4000000 in
set_option maxRecDepth 100000 in
theorem m_X4_left (hl0 : l.stackTraces = false) (σ : SS) (x1 : Int32) (r : Int32 ⊕ String) (σ1 : SS) (h : X4_left σ x1 = some (r, σ1)) : CtX l yX4_left cX4_left 2 (some .int) 7 280 D vwCl [(cA, .int)] (WC q cA σ) (WC q cA σ1) [.ref (q 0), .int (x1)] r := by
  refine ctx_of (by decide +kernel) (Nat.le_of_ble_eq_true rfl) ?_
  intro p e s m args below meth c hx hb hr hlk hml hown hts hK hD hN hA hZ hno
  have hown : s.vm.findClass RX4 = some m.cls := hown
  have hDD : ∀ τ : SS, va_D (va_A (WC q cA σ) s.heap.size) (WC q cA τ) := fun τ => hD.adr rfl
  unfold X4_left at h
  refine ww_sub (lv1 := [(0, .ref (q 0)), (1, .int (x1))]) [0, 1] rfl ?_
  refine ww_iload_n hx hb dX4_left_0 rfl 1 rfl ?_
  refine ww_iconst (v := 0) hx hb dX4_left_1 (by decide) ?_
  refine ww_iconst (v := 3) hx hb dX4_left_2 (by decide) ?_
  refine ww_callS (ws1 := WC q cA σ) (st1 := [.int (X4_isWithin x1 (0 : Int32) (3 : Int32))]) hx hb hml hown hts hK hN hA (hDD _) (Nat.zero_le _) (Nat.zero_le _) [.int (x1), .int ((0 : Int32)), .int ((3 : Int32))] [] (m_X4_isWithin σ x1 (0 : Int32) (3 : Int32)) cs_X4_42 rfl (by decide) rfl (Nat.le_of_ble_eq_true rfl) dX4_left_3 rfl ?_
  refine ww_ne0 (tgt := 17) hx hb dX4_left_6 (by decide) (fun c_1 => ?_) (fun c_1 => ?_)
  · replace h := it_n c_1 h
    refine ww_aload_n hx hb dX4_left_17 rfl 0 rfl ?_
    refine ww_get (C := RX4) (T := TX4) (N := 7) hx hb hown hts hK inA4 0 rfl rfl 2 (by decide) kw_181 rfl rfl dX4_left_18 ?_
    refine ww_get (C := RX0) (T := TX0) (N := 4) hx hb hown hts hK inA0 3 rfl rfl 0 (by decide) kw_195 rfl rfl dX4_left_21 ?_
    refine ww_iload_n hx hb dX4_left_24 rfl 1 rfl ?_
    refine ww_callS (ws1 := WC q cA σ) (st1 := [.int (fat σ 14 4 x1)]) hx hb hml hown hts hK hN hA (hDD _) (Nat.zero_le _) (Nat.zero_le _) [.ref (q 14), .int (x1)] [] (m_at (by decide) σ x1) cs_X4_131 rfl (by decide) rfl (Nat.le_of_ble_eq_true rfl) dX4_left_25 rfl ?_
    obtain ⟨rfl, rfl⟩ := os2 h
    exact ww_xiret hx hb hr hlk rfl dX4_left_28
  · replace h := it_p c_1 h
    obtain ⟨rfl, rfl⟩ := os2 h
    exact ww_throw (ik := 68) (ic := 70) hx hb hl0 hml hown hts hN hZ hlk hno kw_41 kw_42 ek_70_IndexOutOfBoundsException dX4_left_9 dX4_left_12 dX4_left_13 dX4_left_16 (by decide)
set_option maxHeartbeats 4000000 in
set_option maxRecDepth 100000 in
theorem m_X4_openOf (hl0 : l.stackTraces = false) (σ : SS) (x1 : Int32) (r : Int32 ⊕ String) (σ1 : SS) (h : X4_openOf σ x1 = some (r, σ1)) : CtX l yX4_openOf cX4_openOf 2 (some .int) 7 280 D vwCl [(cA, .int)] (WC q cA σ) (WC q cA σ1) [.ref (q 0), .int (x1)] r := by
  refine ctx_of (by decide +kernel) (Nat.le_of_ble_eq_true rfl) ?_
  intro p e s m args below meth c hx hb hr hlk hml hown hts hK hD hN hA hZ hno
  have hown : s.vm.findClass RX4 = some m.cls := hown
  have hDD : ∀ τ : SS, va_D (va_A (WC q cA σ) s.heap.size) (WC q cA τ) := fun τ => hD.adr rfl
  unfold X4_openOf at h
  refine ww_sub (lv1 := [(0, .ref (q 0)), (1, .int (x1))]) [0, 1] rfl ?_
  refine ww_iload_n hx hb dX4_openOf_0 rfl 1 rfl ?_
  refine ww_iconst (v := 0) hx hb dX4_openOf_1 (by decide) ?_
  refine ww_aload_n hx hb dX4_openOf_2 rfl 0 rfl ?_
  refine ww_get (C := RX4) (T := TX4) (N := 7) hx hb hown hts hK inA4 0 rfl rfl 3 (by decide) kw_201 rfl rfl dX4_openOf_3 ?_
  refine ww_get (C := RX1) (T := TX1) (N := 10) hx hb hown hts hK inA1 4 rfl rfl 7 (by decide) kw_202 rfl rfl dX4_openOf_6 ?_
  refine ww_iconst (v := 1) hx hb dX4_openOf_9 (by decide) ?_
  refine ww_isub hx hb dX4_openOf_10 ?_
  refine ww_callS (ws1 := WC q cA σ) (st1 := [.int (X4_isWithin x1 (0 : Int32) ((σ 4 7) - (1 : Int32)))]) hx hb hml hown hts hK hN hA (hDD _) (Nat.zero_le _) (Nat.zero_le _) [.int (x1), .int ((0 : Int32)), .int ((σ 4 7) - (1 : Int32))] [] (m_X4_isWithin σ x1 (0 : Int32) ((σ 4 7) - (1 : Int32))) cs_X4_42 rfl (by decide) rfl (Nat.le_of_ble_eq_true rfl) dX4_openOf_11 rfl ?_
  refine ww_ne0 (tgt := 25) hx hb dX4_openOf_14 (by decide) (fun c_1 => ?_) (fun c_1 => ?_)
  · replace h := it_n c_1 h
    refine ww_aload_n hx hb dX4_openOf_25 rfl 0 rfl ?_
    refine ww_get (C := RX4) (T := TX4) (N := 7) hx hb hown hts hK inA4 0 rfl rfl 3 (by decide) kw_201 rfl rfl dX4_openOf_26 ?_
    refine ww_get (C := RX1) (T := TX1) (N := 10) hx hb hown hts hK inA1 4 rfl rfl 1 (by decide) kw_256 rfl rfl dX4_openOf_29 ?_
    refine ww_iload_n hx hb dX4_openOf_32 rfl 1 rfl ?_
    refine ww_callS (ws1 := WC q cA σ) (st1 := [.int (fat σ 16 10 x1)]) hx hb hml hown hts hK hN hA (hDD _) (Nat.zero_le _) (Nat.zero_le _) [.ref (q 16), .int (x1)] [] (m_at (by decide) σ x1) cs_X4_131 rfl (by decide) rfl (Nat.le_of_ble_eq_true rfl) dX4_openOf_33 rfl ?_
    obtain ⟨rfl, rfl⟩ := os2 h
    exact ww_xiret hx hb hr hlk rfl dX4_openOf_36
  · replace h := it_p c_1 h
    obtain ⟨rfl, rfl⟩ := os2 h
    exact ww_throw (ik := 68) (ic := 70) hx hb hl0 hml hown hts hN hZ hlk hno kw_41 kw_42 ek_70_IndexOutOfBoundsException dX4_openOf_17 dX4_openOf_20 dX4_openOf_21 dX4_openOf_24 (by decide)
set_option maxHeartbeats 4000000 in
set_option maxRecDepth 100000 in
theorem m_X4_got (hl0 : l.stackTraces = false) (σ : SS) (x1 : Int32) (r : Int32 ⊕ String) (σ1 : SS) (h : X4_got σ x1 = some (r, σ1)) : CtX l yX4_got cX4_got 2 (some .int) 7 280 D vwCl [(cA, .int)] (WC q cA σ) (WC q cA σ1) [.ref (q 0), .int (x1)] r := by
  refine ctx_of (by decide +kernel) (Nat.le_of_ble_eq_true rfl) ?_
  intro p e s m args below meth c hx hb hr hlk hml hown hts hK hD hN hA hZ hno
  have hown : s.vm.findClass RX4 = some m.cls := hown
  have hDD : ∀ τ : SS, va_D (va_A (WC q cA σ) s.heap.size) (WC q cA τ) := fun τ => hD.adr rfl
  unfold X4_got at h
  refine ww_sub (lv1 := [(0, .ref (q 0)), (1, .int (x1))]) [0, 1] rfl ?_
  refine ww_iload_n hx hb dX4_got_0 rfl 1 rfl ?_
  refine ww_iconst (v := 0) hx hb dX4_got_1 (by decide) ?_
  refine ww_iconst (v := 5) hx hb dX4_got_2 (by decide) ?_
  refine ww_callS (ws1 := WC q cA σ) (st1 := [.int (X4_isWithin x1 (0 : Int32) (5 : Int32))]) hx hb hml hown hts hK hN hA (hDD _) (Nat.zero_le _) (Nat.zero_le _) [.int (x1), .int ((0 : Int32)), .int ((5 : Int32))] [] (m_X4_isWithin σ x1 (0 : Int32) (5 : Int32)) cs_X4_42 rfl (by decide) rfl (Nat.le_of_ble_eq_true rfl) dX4_got_3 rfl ?_
  refine ww_ne0 (tgt := 17) hx hb dX4_got_6 (by decide) (fun c_1 => ?_) (fun c_1 => ?_)
  · replace h := it_n c_1 h
    refine ww_aload_n hx hb dX4_got_17 rfl 0 rfl ?_
    refine ww_get (C := RX4) (T := TX4) (N := 7) hx hb hown hts hK inA4 0 rfl rfl 3 (by decide) kw_201 rfl rfl dX4_got_18 ?_
    refine ww_get (C := RX1) (T := TX1) (N := 10) hx hb hown hts hK inA1 4 rfl rfl 6 (by decide) kw_257 rfl rfl dX4_got_21 ?_
    refine ww_iload_n hx hb dX4_got_24 rfl 1 rfl ?_
    refine ww_callS (ws1 := WC q cA σ) (st1 := [.int (fat σ 21 6 x1)]) hx hb hml hown hts hK hN hA (hDD _) (Nat.zero_le _) (Nat.zero_le _) [.ref (q 21), .int (x1)] [] (m_at (by decide) σ x1) cs_X4_131 rfl (by decide) rfl (Nat.le_of_ble_eq_true rfl) dX4_got_25 rfl ?_
    obtain ⟨rfl, rfl⟩ := os2 h
    exact ww_xiret hx hb hr hlk rfl dX4_got_28
  · replace h := it_p c_1 h
    obtain ⟨rfl, rfl⟩ := os2 h
    exact ww_throw (ik := 68) (ic := 70) hx hb hl0 hml hown hts hN hZ hlk hno kw_41 kw_42 ek_70_IndexOutOfBoundsException dX4_got_9 dX4_got_12 dX4_got_13 dX4_got_16 (by decide)
end
end
section
/-! Constructors: worlds that grow. -/
theorem arr_known {args : Array Value} {s : State} (h : (Cond.arrayClass .int).before args s = true) : ∃ cA : ClassId, ArrOfT s cA .int ∧ va_RA s cA .int := by
  obtain ⟨cA, kA, comp, h1, h2, h3⟩ := Cond.arrayClass_spec h
  exact ⟨cA, fun n z => ⟨fun k h => (by cases h), kA, h2, comp, h3⟩, h1⟩
theorem arr_knownL {args : Array Value} {s : State} (h : (Cond.arrayClass .long).before args s = true) : ∃ cA : ClassId, ArrOfT s cA .long ∧ va_RA s cA .long := by
  obtain ⟨cA, kA, comp, h1, h2, h3⟩ := Cond.arrayClass_spec h
  exact ⟨cA, fun n z => ⟨fun k h => (by cases h), kA, h2, comp, h3⟩, h1⟩
theorem wj {A0 : Nat → Prop} {D : va_G} {cl : List vw_C} {wr w0 w1 : va_W} {H H1 : Heap} (hP : va_P D cl (wr ++ w0) H) (hD : va_D A0 (wr ++ w0)) (hk : ∀ q : Nat, q < H.size → ¬ va_A w0 H.size q → H1[q]? = H[q]?) (hF : ∀ q, va_A w0 H.size q → A0 q) (hP1 : va_P D cl w1 H1) (hD1 : va_D (va_A w0 H.size) w1) : va_P D cl (wr ++ w1) H1 ∧ va_D A0 (wr ++ w1) := by
  have hl : ∀ (k : Nat) (q : Nat × va_E), wr[k]? = some q → (wr ++ w0)[k]? = some q := fun k q h => by
    rw [List.getElem?_append_left ((List.getElem?_eq_some_iff.mp h).1)]; exact h
  have hr : ∀ (k : Nat) (q : Nat × va_E), w0[k]? = some q → (wr ++ w0)[wr.length + k]? = some q := fun k q h => by
    rw [List.getElem?_append_right (Nat.le_add_right _ _), Nat.add_sub_cancel_left]; exact h
  have apart : ∀ (k : Nat) (q : Nat × va_E), wr[k]? = some q → q.1 < H.size ∧ ¬ va_A w0 H.size q.1 := by
    intro k q hq
    have h1 := hl k q hq
    have lt := (hP k q h1).lt
    refine ⟨lt, fun h => ?_⟩
    rcases h with ⟨j, e, hj⟩ | h
    · have h3 := hD.1 k (wr.length + j) q (q.1, e) h1 (hr j _ hj) rfl
      have h4 := (List.getElem?_eq_some_iff.mp hq).1
      omega
    · omega
  exact ⟨va_P.app (fun k q hq => (hP k q (hl k q hq)).kept (hk q.1 (apart k q hq).1 (apart k q hq).2)) hP1,
    va_D.app ⟨fun i j p q hi hj e => hD.1 i j p q (hl i p hi) (hl j q hj) e, fun k q hq => hD.2 k q (hl k q hq)⟩ (hD1.weaken (fun _ _ _ h => hF _ h)) (fun i j p q hi hj e => (apart i p hi).2 (e ▸ hD1.2 j q hj))⟩
def qcI (D : va_G) (cl : List vw_C) (ws : va_W) (P1 : va_W → Prop) (sz : Nat) : Array Value → State → Outcome → State → Prop := fun _ st oc t => (oc = .returned none ∧ ∃ w1, P1 w1 ∧ va_P D cl w1 t.heap ∧ va_D (va_A ws sz) w1) ∧ va_F (va_A ws sz) st t
/-- the constructor y: it returns, the world behind it is one of P1 -/
def CtI (l : Launch) (y : MethodName) (cc : ByteArray) (maxL : Nat) (fr lo mc ms : Nat) (D : va_G) (cl : List vw_C) (tys : List (ClassId × FieldType)) (ws : va_W) (P1 : va_W → Prop) (As : List Value) : Prop :=
  ∀ sz : Nat, Met l y (.code y cc maxL none :: wALL) (rmc fr lo mc ms) (pcW D cl tys ws As sz) (qcI D cl ws P1 sz) mc ms (va_A ws sz)
theorem cti_of {l : Launch} {y : MethodName} {cc : ByteArray} {maxL : Nat} {fr lo mc ms : Nat} {D : va_G} {cl : List vw_C} {tys : List (ClassId × FieldType)} {ws : va_W} {P1 : va_W → Prop} {As : List Value} (hy : plainName y.cls = true) (hyn : y.name = "<init>") (hlen : (lg_sl As).length ≤ maxL)
    (body : ∀ (p : Program) (e : Env) (s : State) (m : MethodId) (args : Array Value) (below : List Frame) (meth : Method) (c : Code), p.tables.exec = Jvm.exec → c.code = cc → meth.sig.returnType = none → meth.locks = false → c.maxLocals = maxL → s.vm.findClass y.cls = some m.cls → (∀ w ∈ wALL, w.before args s = true) → va_K D cl tys s → va_D (va_A ws s.heap.size) ws → NWs s → (∀ q, s.heap.size ≤ q → va_A ws s.heap.size q) → meth.name = "<init>" →
      WW p l e (rmc fr lo mc ms) s m args below meth c D cl (va_A ws s.heap.size) maxL 0 0 (MQ below (qcI D cl ws P1 s.heap.size) args s mc ms (va_A ws s.heap.size)) ws 0 (lv_args 0 As) []) : CtI l y cc maxL fr lo mc ms D cl tys ws P1 As := by
  intro sz
  refine Met.ofW (cc := cc) (maxL := maxL) (ret := none) hy rfl ?_
  intro p e s m args below meth c s₁ B hml hv
  obtain ⟨rfl, hsz, hP, hK, hD0, hN⟩ := hv
  have hts := atoms_spec (ws := .code y cc maxL none :: wALL) B.pre
  subst hsz
  have hl := lv_entry As (n := maxL) hlen
  rw [lg_entry_eq]
  exact body p e s m As.toArray below meth c B.exec B.bytes B.returns B.notSynchronized hml (findClass_of_methodNamed B.named) (fun w hw => hts w (List.mem_cons_of_mem _ hw)) hK hD0.self hN (fun q h => Or.inr h) ((name_of_methodNamed B.named B.method).1.trans hyn) s.heap [] _ hP va_S.rf hl
def csI (own : String) (index : Nat) (y : MethodName) (host : String) (cc : ByteArray) (maxL : Nat) : Prop :=
  (own, index, y, host) ∈ nestL ∧ Cond.instanceMethod y ∈ wALL ∧ Cond.initialized y.cls ∈ wALL ∧ Cond.code y cc maxL none ∈ wALL ∧ y.name = "<init>" ∧ (y.cls ≠ "java/lang/invoke/MethodHandle" ∧ y.cls ≠ "java/lang/invoke/VarHandle" ∧ (parseMethodDescriptor y.desc).map (fun d => d.parameters.length) = some 0)
def csJ (own : String) (index : Nat) (y : MethodName) (cc : ByteArray) (maxL : Nat) : Prop :=
  Cond.methodLink own index y ∈ wALL ∧ Cond.instanceMethod y ∈ wALL ∧ Cond.initialized y.cls ∈ wALL ∧ Cond.code y cc maxL none ∈ wALL ∧ y.name = "<init>" ∧ (y.cls ≠ "java/lang/invoke/MethodHandle" ∧ y.cls ≠ "java/lang/invoke/VarHandle" ∧ (parseMethodDescriptor y.desc).map (fun d => d.parameters.length) = some 0)
section CTS
variable {p : Program} {l : Launch} {e : Env} {R : Room} {s : State} {m : MethodId} {args : Array Value} {below : List Frame} {meth : Method} {c : Code} {cells slots : Nat} {Q : State → Prop}
variable {D : va_G} {cl : List vw_C} {tys : List (ClassId × FieldType)} {A0 : Nat → Prop} {nL : Nat} {ws ws1 : va_W} {cc : ByteArray} {pc : Nat} {lv lv1 : List (Nat × Value)} {st : List Value}
theorem ww_newai (hx : p.tables.exec = Jvm.exec) (hb : c.code = cc) (hts : ∀ w ∈ wALL, w.before args s = true) (hK : va_K D cl tys s) (hA : ∀ q, s.heap.size ≤ q → A0 q) (hD : va_D A0 ws) {cA : ClassId} (ht : tys[0]? = some (cA, .int)) (k : Cond.arrayClass .int ∈ wALL) {n : Int32} (N : Nat) (hn : ¬ n < 0) (hN : n.toNatClampNeg = N) (hbytes : N * componentBytes .int ≤ 536870912) (hc : cells + 1 ≤ R.cells) (hs : slots + N ≤ R.slots) (hd : decode cc pc = .ok (.newarray .int, 2)) (w1 : Nat → va_W) (hw : ∀ q : Nat, ws ++ [(q, .inl (cA, N, .inl (fun _ => 0)))] = w1 q)
    (kk : ∀ q : Nat, va_D A0 (w1 q) → WW p l e R s m args below meth c D cl A0 nL (cells + 1) (slots + N) Q (w1 q) (pc + 2) lv (.ref q :: st)) : WW p l e R s m args below meth c D cl A0 nL cells slots Q ws pc lv (.int n :: st) := by
  intro H locs ls hP hS hl
  refine va_newa hx hb (atype := .int) (hts _ k) rfl hK hP hD hS hA (a0 := (N, .inl (fun _ => 0))) (fun cA => rfl) hn hN hbytes hc hs hd (fun q cA1 H1 hK1 hP1 hD1 hS1 => ?_)
  have e1 : va_RA s cA1 .int := (hK1.2 tys.length (cA1, .int) (by rw [List.getElem?_append_right (Nat.le_refl _), Nat.sub_self]; rfl)).2
  have e2 : va_RA s cA .int := (hK.2 0 _ ht).2
  have e3 : cA1 = cA := Option.some.inj (e1.symm.trans e2)
  subst e3
  exact kk q (hw q ▸ hD1) H1 locs ls (hw q ▸ hP1) hS1 hl
theorem ww_new (hx : p.tables.exec = Jvm.exec) (hb : c.code = cc) {own : String} (hown : s.vm.findClass own = some m.cls) (hts : ∀ w ∈ wALL, w.before args s = true) (hK : va_K D cl tys s) (hA : ∀ q, s.heap.size ≤ q → A0 q) (hD : va_D A0 ws) {C : String} {T : u_T} {N ci index : Nat} (hin : ∀ w ∈ u_ws C T N, w ∈ wALL) (ty : Nat → FieldType) (hty : ∀ k, k < N → parseFieldDescriptor (T k).2.2.1 = some (ty k)) (k1 : Cond.classLink own index C ∈ wALL) (k2 : Cond.instantiable C N ∈ wALL) (k3 : Cond.initialized C ∈ wALL) (hcl : cl[ci]? = some (C, T, N)) (fs : List Value) (hfs : ∀ j, j < N → defaultValue (ty j) = vp_V fs j) (hc : cells + 1 ≤ R.cells) (hs : slots + N ≤ R.slots) (hd : decode cc pc = .ok (.new index, 3)) (w1 : Nat → va_W) (hw : ∀ q : Nat, ws ++ [(q, .inr (ci, fs))] = w1 q)
    (kk : ∀ q : Nat, va_D A0 (w1 q) → WW p l e R s m args below meth c D cl A0 nL (cells + 1) (slots + N) Q (w1 q) (pc + 3) lv (.ref q :: st)) : WW p l e R s m args below meth c D cl A0 nL cells slots Q ws pc lv st := by
  intro H locs ls hP hS hl
  exact va_new hx hb hts hin ty hty hown (hts _ k1) (hts _ k2) (hts _ k3) hK hP hD hS hA hcl hfs hc hs hd (fun q H1 hP1 hD1 hS1 => kk q (hw q ▸ hD1) H1 locs ls (hw q ▸ hP1) hS1 hl)
theorem ww_putF (hx : p.tables.exec = Jvm.exec) (hb : c.code = cc) {own : String} (hown : s.vm.findClass own = some m.cls) (hts : ∀ w ∈ wALL, w.before args s = true) (hK : va_K D cl tys s) {a : Nat} {C ref : String} {T : u_T} {N ci index : Nat} (hin : ∀ w ∈ u_ws C T N, w ∈ wALL) (ty0 : Nat → FieldType) (hty : ∀ k, k < N → parseFieldDescriptor (T k).2.2.1 = some (ty0 k)) (hnm : ∀ a, a < N → ∀ b, b < N → a ≠ b → (T a).2.1 ≠ (T b).2.1) (hD : va_D A0 ws) (q0 : Nat) {fs : List Value} (he : ws[q0]? = some (a, .inr (ci, fs))) (hc : cl[ci]? = some (C, T, N)) (k : Nat) (hk : k < N) (hw : Cond.fieldLink own index ref (T k).2.1 (T k).2.2.1 ∈ wALL) (hs : (T k).1 = ref) (hfin : (T k).2.2.2 = true) (hin2 : meth.name = "<init>") (hdecl : (T k).1 = own) {ty : FieldType} {v : Value} (hdd : parseFieldDescriptor (T k).2.2.1 = some ty) (hn : narrow ty v = v) (hfit : fits ty v = true) (hl : k < fs.length) (hd : decode cc pc = .ok (.putfield index, 3)) (hw1 : ws.set q0 (a, .inr (ci, fs.set k v)) = ws1)
    (kk : va_D A0 ws1 → WW p l e R s m args below meth c D cl A0 nL cells slots Q ws1 (pc + 3) lv st) : WW p l e R s m args below meth c D cl A0 nL cells slots Q ws pc lv (v :: .ref a :: st) :=
  fun _ _ ls hP hS hlv => va_putF hx hb hts hin ty0 hty hnm hown hK hP hD hS q0 he hc k hk (hts _ hw) (fun _ h => by rw [← hs]; exact h) hfin hin2 hdecl hdd hn hfit hl hd (fun H1 locs1 hP1 hD1 hS1 => kk (hw1 ▸ hD1) H1 locs1 ls (hw1 ▸ hP1) hS1 hlv)
theorem ww_objinit (hx : p.tables.exec = Jvm.exec) (hb : c.code = cc) (hml : c.maxLocals = nL) {own : String} (hown : s.vm.findClass own = some m.cls) (hts : ∀ w ∈ wALL, w.before args s = true) {idx a : Nat} (k1 : Cond.methodLink own idx Lib.objectInit ∈ wALL) (k2 : Cond.instanceMethod Lib.objectInit ∈ wALL) (k3 : Cond.code Lib.objectInit ⟨#[0xb1]⟩ 1 none ∈ wALL) (hd : decode cc pc = .ok (.invokespecial idx, 3)) (hR : 1 ≤ R.frames ∧ 2 * 0 + (st.map fun v => v.category).sum + 12 ≤ R.locals)
    (kk : WW p l e R s m args below meth c D cl A0 nL cells slots Q ws (pc + 3) lv st) : WW p l e R s m args below meth c D cl A0 nL cells slots Q ws pc lv (.ref a :: st) :=
  fun H locs ls hP hS hl => W.objInit hx hb hown (hts _ k1) (hts _ k2) (hts _ k3) rfl (hl.1.trans hml.symm) rfl hd hR.1 hR.2 (kk H locs ls hP hS hl)
theorem ww_vretI (hx : p.tables.exec = Jvm.exec) (hb : c.code = cc) {ws0 : va_W} {P1 : va_W → Prop} (hr : meth.sig.returnType = none) (hlk : meth.locks = false) (hD : va_D (va_A ws0 s.heap.size) ws) (hp : P1 ws) (hd : decode cc pc = .ok (.return_, 1)) : WW p l e R s m args below meth c D cl (va_A ws0 s.heap.size) nL cells slots (MQ below (qcI D cl ws0 P1 s.heap.size) args s cells slots (va_A ws0 s.heap.size)) ws pc lv [] :=
  fun _ _ _ hP hS _ => W.vret hx hb hr (fun t ht _ => ⟨⟨rfl, ws, hp, by rw [ht]; exact hP, hD⟩, hS.F ht⟩) hS.2.2 hd hlk
theorem ww_runI {H : Heap} {locs : List Loc} {ls : Array Slot} {g : JFrame} {rest : List Value} {a : Array Value} {w0 wr : va_W} {P1 : va_W → Prop} {mc ms : Nat} (hr : va_Run p l e R s m args below meth c H locs cells slots mc ms g rest (qcI D cl w0 P1 H.size a) (va_A w0 H.size)) (hg : g = F0 m pc ls st) (hP : va_P D cl (wr ++ w0) H) (hD : va_D A0 (wr ++ w0)) (hD0 : va_D A0 w0) (hA : ∀ q, s.heap.size ≤ q → A0 q) (hS : va_S A0 s.heap H locs) (hl : lv_has ls nL lv)
    (kk : ∀ w1, P1 w1 → va_D A0 (wr ++ w1) → WW p l e R s m args below meth c D cl A0 nL (cells + mc) (slots + ms) Q (wr ++ w1) (pc + 3) lv rest) : W p l e R s m args below meth c H locs cells slots Q (F0 m pc ls st) := by
  subst hg
  intro T hT X
  obtain ⟨v, st₀, t, T', L, h0, X', hL, e1, e2, ⟨⟨hv, w1, hp1, hP1, hD1⟩, hF⟩, stp⟩ := hr T hT X
  cases hv
  have hfree := va_A_in hD0 hS hA
  obtain ⟨-, hk, k3⟩ := vx_keep h0 e1 hS (fun q _ h => hfree q h) hfree hL hF
  obtain ⟨hP2, hD2⟩ := wj (w1 := w1) hP hD hk hfree (by rw [e1]; exact hP1) hD1
  obtain ⟨t2, a1, b1⟩ := kk w1 hp1 hD2 T'.heap (locs ++ L) ls hP2 k3 hl T' rfl X'
  exact ⟨t2, stp t2 a1, b1⟩
theorem va_P.last {D : va_G} {cl : List vw_C} {wr w0 : va_W} {H : Heap} (h : va_P D cl (wr ++ w0) H) : va_P D cl w0 H := fun k q hk => h (wr.length + k) q (by rw [List.getElem?_append_right (Nat.le_add_right _ _), Nat.add_sub_cancel_left]; exact hk)
theorem va_D.last {A : Nat → Prop} {wr w0 : va_W} (h : va_D A (wr ++ w0)) : va_D A w0 := by
  have hr : ∀ (k : Nat) (q : Nat × va_E), w0[k]? = some q → (wr ++ w0)[wr.length + k]? = some q := fun k q h => by
    rw [List.getElem?_append_right (Nat.le_add_right _ _), Nat.add_sub_cancel_left]; exact h
  exact ⟨fun i j p q hi hj e => by have := h.1 _ _ p q (hr i p hi) (hr j q hj) e; omega, fun k q hq => h.2 _ q (hr k q hq)⟩
theorem ww_callI (hx : p.tables.exec = Jvm.exec) (hb : c.code = cc) (hml : c.maxLocals = nL) {own : String} (hown : s.vm.findClass own = some m.cls) (hts : ∀ w ∈ wALL, w.before args s = true) (hK : va_K D cl tys s) (hN : NWs s) (hA : ∀ q, s.heap.size ≤ q → A0 q) {y : MethodName} {bytes : ByteArray} {maxL index fr lo mc ms b : Nat} {host : String} {w0 : va_W} (wr : va_W) {P1 : va_W → Prop} (hC : CtI l y bytes maxL fr lo mc ms D cl tys w0 P1 [.ref b]) (hk : csI own index y host bytes maxL) (hR : fr + 1 ≤ R.frames ∧ 8 + (maxL + 11) + lo ≤ R.locals) (hcs : cells + mc ≤ R.cells ∧ slots + ms ≤ R.slots) (hws : ws = wr ++ w0) (hD : va_D A0 ws) (hW : (st.map fun v => v.category).sum ≤ 8) (hd : decode cc pc = .ok (.invokespecial index, 3))
    (kk : ∀ w1, P1 w1 → va_D A0 (wr ++ w1) → WW p l e R s m args below meth c D cl A0 nL (cells + mc) (slots + ms) Q (wr ++ w1) (pc + 3) lv st) : WW p l e R s m args below meth c D cl A0 nL cells slots Q ws pc lv (.ref b :: st) := by
  subst hws
  intro H locs ls hP hS hl
  obtain ⟨k1, k2, k3, k5, k6, hd5⟩ := hk
  have cw : va_CN R s args own index y host bytes maxL none (.code y bytes maxL none :: wALL) (rmc fr lo mc ms) mc ms 0 ∧ y.name = "<init>" ∧ (Cond.instanceMethod y).before args s = true := ⟨va_cnB 0 hts (all_in0 k5) rfl rfl rfl (hN.1 _ k1) (hts _ k3) hd5 hR, k6, hts _ k2⟩
  exact ww_runI (va_runIN (g := F0 m pc ls (.ref b :: st)) (rest := st) (As := []) ⟨hx, hb, hml, hown, hts⟩ (hC H.size) cw (pcW_pre hP.last hK hD.last hN) rfl rfl hl.1 rfl (lv_room hW) hd hcs) rfl hP hD hD.last hA hS hl kk
theorem ww_callJ (hx : p.tables.exec = Jvm.exec) (hb : c.code = cc) (hml : c.maxLocals = nL) {own : String} (hown : s.vm.findClass own = some m.cls) (hts : ∀ w ∈ wALL, w.before args s = true) (hK : va_K D cl tys s) (hN : NWs s) (hA : ∀ q, s.heap.size ≤ q → A0 q) {y : MethodName} {bytes : ByteArray} {maxL index fr lo mc ms b : Nat} {w0 : va_W} (wr : va_W) {P1 : va_W → Prop} (hC : CtI l y bytes maxL fr lo mc ms D cl tys w0 P1 [.ref b]) (hk : csJ own index y bytes maxL) (hR : fr + 1 ≤ R.frames ∧ 8 + (maxL + 11) + lo ≤ R.locals) (hcs : cells + mc ≤ R.cells ∧ slots + ms ≤ R.slots) (hws : ws = wr ++ w0) (hD : va_D A0 ws) (hW : (st.map fun v => v.category).sum ≤ 8) (hd : decode cc pc = .ok (.invokespecial index, 3))
    (kk : ∀ w1, P1 w1 → va_D A0 (wr ++ w1) → WW p l e R s m args below meth c D cl A0 nL (cells + mc) (slots + ms) Q (wr ++ w1) (pc + 3) lv st) : WW p l e R s m args below meth c D cl A0 nL cells slots Q ws pc lv (.ref b :: st) := by
  subst hws
  intro H locs ls hP hS hl
  obtain ⟨k1, k2, k3, k5, k6, hd5⟩ := hk
  have cw : CallB R s args own index y bytes maxL none (.code y bytes maxL none :: wALL) (rmc fr lo mc ms) mc ms 0 ∧ y.name = "<init>" ∧ (Cond.instanceMethod y).before args s = true := cwI 0 hts (all_in0 k5) rfl rfl rfl (hts _ k3) (hts _ k1) (hts _ k2) k6 hd5 hR
  exact ww_runI (va_runI (g := F0 m pc ls (.ref b :: st)) (rest := st) (As := []) ⟨hx, hb, hml, hown, hts⟩ (hC H.size) cw (pcW_pre hP.last hK hD.last hN) rfl rfl hl.1 rfl (lv_room hW) hd hcs) rfl hP hD hD.last hA hS hl kk
end CTS
theorem kw_260 : Cond.methodLink RX0 3 Lib.objectInit ∈ wALL := tk1 (i := 108) rfl rfl
theorem kw_261 : Cond.instanceMethod Lib.objectInit ∈ wALL := tk1 (i := 20) rfl rfl
theorem kw_262 : Cond.code Lib.objectInit ⟨#[0xb1]⟩ 1 none ∈ wALL := tk1 (i := 21) rfl rfl
theorem kw_263 : Cond.arrayClass .int ∈ wALL := tk1 (i := 72) rfl rfl
theorem kw_264 : Cond.methodLink RX1 3 Lib.objectInit ∈ wALL := tk1 (i := 131) rfl rfl
theorem kw_265 : Cond.methodLink RX3 3 Lib.objectInit ∈ wALL := tk1 (i := 33) rfl rfl
theorem kw_266 : Cond.methodLink RX2 3 Lib.objectInit ∈ wALL := tk1 (i := 27) rfl rfl
theorem kw_267 : Cond.classLink RX2 9 RX3 ∈ wALL := tk1 (i := 28) rfl rfl
theorem kw_268 : Cond.instantiable RX3 9 ∈ wALL := tk1 (i := 29) rfl rfl
theorem kw_269 : Cond.instanceMethod yX3_init ∈ wALL := tk1 (i := 31) rfl rfl
theorem kw_270 : Cond.code yX3_init cX3_init 1 none ∈ wALL := tk1 (i := 32) rfl rfl
theorem kw_271 : Cond.methodLink RX4 1 Lib.objectInit ∈ wALL := tk1 (i := 19) rfl rfl
theorem kw_272 : Cond.classLink RX4 7 RX2 ∈ wALL := tk1 (i := 22) rfl rfl
theorem kw_273 : Cond.instantiable RX2 8 ∈ wALL := tk1 (i := 23) rfl rfl
theorem kw_274 : Cond.instanceMethod yX2_init ∈ wALL := tk1 (i := 25) rfl rfl
theorem kw_275 : Cond.code yX2_init cX2_init 1 none ∈ wALL := tk1 (i := 26) rfl rfl
theorem kw_276 : Cond.fieldLink RX4 16 "Scripthouse$Planner" "scenes" "LScripthouse$Scenes;" ∈ wALL := tk1 (i := 74) rfl rfl
theorem kw_277 : Cond.classLink RX4 21 RX0 ∈ wALL := tk1 (i := 103) rfl rfl
theorem kw_278 : Cond.instantiable RX0 4 ∈ wALL := tk1 (i := 104) rfl rfl
theorem kw_279 : Cond.instanceMethod yX0_init ∈ wALL := tk1 (i := 106) rfl rfl
theorem kw_280 : Cond.code yX0_init cX0_init 1 none ∈ wALL := tk1 (i := 107) rfl rfl
theorem kw_281 : Cond.classLink RX4 28 RX1 ∈ wALL := tk1 (i := 126) rfl rfl
theorem kw_282 : Cond.instantiable RX1 10 ∈ wALL := tk1 (i := 127) rfl rfl
theorem kw_283 : Cond.instanceMethod yX1_init ∈ wALL := tk1 (i := 129) rfl rfl
theorem kw_284 : Cond.code yX1_init cX1_init 1 none ∈ wALL := tk1 (i := 130) rfl rfl
theorem cs_X2_11 : csI RX2 11 yX3_init RX4 cX3_init 1 := ⟨List.mem_of_getElem? (i := 1) rfl, kw_269, kw_17, kw_270, rfl, by decide +kernel⟩
theorem cs_X4_9 : csI RX4 9 yX2_init RX4 cX2_init 1 := ⟨List.mem_of_getElem? (i := 0) rfl, kw_274, kw_24, kw_275, rfl, by decide +kernel⟩
theorem cs_X4_23 : csI RX4 23 yX0_init RX4 cX0_init 1 := ⟨List.mem_of_getElem? (i := 2) rfl, kw_279, kw_164, kw_280, rfl, by decide +kernel⟩
theorem cs_X4_30 : csI RX4 30 yX1_init RX4 cX1_init 1 := ⟨List.mem_of_getElem? (i := 3) rfl, kw_283, kw_206, kw_284, rfl, by decide +kernel⟩
section
variable {l : Launch} {D : va_G} {q : Nat → Nat} {cA : ClassId}
set_option maxHeartbeats 4000000 in
set_option maxRecDepth 100000 in
def P_X0 (cA : ClassId) (h0 : Nat) (w : va_W) : Prop := ∃ q0 : Nat, w = [(h0, .inr (0, [.ref q0, .int 0, .int 0, .int 0])), (q0, .inl (cA, 4, .inl (fun _ => 0)))]
set_option maxHeartbeats 4000000 in
set_option maxRecDepth 100000 in
theorem m_X0_init (h0 : Nat) : CtI l yX0_init cX0_init 1 1 40 1 4 D vwCl [(cA, .int)] [(h0, .inr (0, [.null, .int 0, .int 0, .int 0]))] (P_X0 cA h0) [.ref h0] := by
  refine cti_of (by decide +kernel) rfl (Nat.le_of_ble_eq_true rfl) ?_
  intro p e s m args below meth c hx hb hr hlk hml hown hts hK hD hN hA hin
  have hown : s.vm.findClass RX0 = some m.cls := hown
  refine ww_sub (lv1 := [(0, .ref h0)]) [0] rfl ?_
  refine ww_aload_n hx hb dX0_init_0 rfl 0 rfl ?_
  refine ww_objinit hx hb hml hown hts kw_260 kw_261 kw_262 dX0_init_1 ⟨Nat.le_of_ble_eq_true rfl, Nat.le_of_ble_eq_true rfl⟩ ?_
  refine ww_aload_n hx hb dX0_init_4 rfl 0 rfl ?_
  refine ww_iconst (v := 4) hx hb dX0_init_5 (by decide) ?_
  refine ww_newai hx hb hts hK hA hD rfl kw_263 4 (by decide) (by decide) (Nat.le_of_ble_eq_true rfl) (Nat.le_of_ble_eq_true rfl) (Nat.le_of_ble_eq_true rfl) dX0_init_6 (fun q0 => [(h0, .inr (0, [.null, .int 0, .int 0, .int 0])), (q0, .inl (cA, 4, .inl (fun _ => 0)))]) (fun _ => rfl) (fun q0 hD => ?_)
  refine ww_putF (C := RX0) (T := TX0) (N := 4) (ty := (.array .int)) (ws1 := [(h0, .inr (0, [.ref q0, .int 0, .int 0, .int 0])), (q0, .inl (cA, 4, .inl (fun _ => 0)))]) hx hb hown hts hK inA0 tyX0 tyX0_ok nmX0 hD 0 rfl rfl 0 (by decide) kw_159 rfl rfl hin rfl rfl rfl rfl (Nat.le_of_ble_eq_true rfl) dX0_init_8 rfl (fun hD => ?_)
  exact ww_vretI hx hb hr hlk hD ⟨q0, rfl⟩ dX0_init_11
set_option maxHeartbeats 4000000 in
set_option maxRecDepth 100000 in
def P_X1 (cA : ClassId) (h0 : Nat) (w : va_W) : Prop := ∃ q0 q1 q2 q3 q4 q5 q6 : Nat, w = [(h0, .inr (1, [.ref q0, .ref q1, .ref q2, .ref q3, .ref q4, .ref q5, .ref q6, .int 0, .int 0, .int 0])), (q0, .inl (cA, 10, .inl (fun _ => 0))), (q1, .inl (cA, 10, .inl (fun _ => 0))), (q2, .inl (cA, 12, .inl (fun _ => 0))), (q3, .inl (cA, 12, .inl (fun _ => 0))), (q4, .inl (cA, 12, .inl (fun _ => 0))), (q5, .inl (cA, 12, .inl (fun _ => 0))), (q6, .inl (cA, 6, .inl (fun _ => 0)))]
set_option maxHeartbeats 4000000 in
set_option maxRecDepth 100000 in
theorem m_X1_init (h0 : Nat) : CtI l yX1_init cX1_init 1 1 40 7 74 D vwCl [(cA, .int)] [(h0, .inr (1, [.null, .null, .null, .null, .null, .null, .null, .int 0, .int 0, .int 0]))] (P_X1 cA h0) [.ref h0] := by
  refine cti_of (by decide +kernel) rfl (Nat.le_of_ble_eq_true rfl) ?_
  intro p e s m args below meth c hx hb hr hlk hml hown hts hK hD hN hA hin
  have hown : s.vm.findClass RX1 = some m.cls := hown
  refine ww_sub (lv1 := [(0, .ref h0)]) [0] rfl ?_
  refine ww_aload_n hx hb dX1_init_0 rfl 0 rfl ?_
  refine ww_objinit hx hb hml hown hts kw_264 kw_261 kw_262 dX1_init_1 ⟨Nat.le_of_ble_eq_true rfl, Nat.le_of_ble_eq_true rfl⟩ ?_
  refine ww_aload_n hx hb dX1_init_4 rfl 0 rfl ?_
  refine ww_bipush (v := 10) hx hb dX1_init_5 (by decide) ?_
  refine ww_newai hx hb hts hK hA hD rfl kw_263 10 (by decide) (by decide) (Nat.le_of_ble_eq_true rfl) (Nat.le_of_ble_eq_true rfl) (Nat.le_of_ble_eq_true rfl) dX1_init_7 (fun q0 => [(h0, .inr (1, [.null, .null, .null, .null, .null, .null, .null, .int 0, .int 0, .int 0])), (q0, .inl (cA, 10, .inl (fun _ => 0)))]) (fun _ => rfl) (fun q0 hD => ?_)
  refine ww_putF (C := RX1) (T := TX1) (N := 10) (ty := (.array .int)) (ws1 := [(h0, .inr (1, [.ref q0, .null, .null, .null, .null, .null, .null, .int 0, .int 0, .int 0])), (q0, .inl (cA, 10, .inl (fun _ => 0)))]) hx hb hown hts hK inA1 tyX1 tyX1_ok nmX1 hD 0 rfl rfl 0 (by decide) kw_198 rfl rfl hin rfl rfl rfl rfl (Nat.le_of_ble_eq_true rfl) dX1_init_9 rfl (fun hD => ?_)
  refine ww_aload_n hx hb dX1_init_12 rfl 0 rfl ?_
  refine ww_bipush (v := 10) hx hb dX1_init_13 (by decide) ?_
  refine ww_newai hx hb hts hK hA hD rfl kw_263 10 (by decide) (by decide) (Nat.le_of_ble_eq_true rfl) (Nat.le_of_ble_eq_true rfl) (Nat.le_of_ble_eq_true rfl) dX1_init_15 (fun q1 => [(h0, .inr (1, [.ref q0, .null, .null, .null, .null, .null, .null, .int 0, .int 0, .int 0])), (q0, .inl (cA, 10, .inl (fun _ => 0))), (q1, .inl (cA, 10, .inl (fun _ => 0)))]) (fun _ => rfl) (fun q1 hD => ?_)
  refine ww_putF (C := RX1) (T := TX1) (N := 10) (ty := (.array .int)) (ws1 := [(h0, .inr (1, [.ref q0, .ref q1, .null, .null, .null, .null, .null, .int 0, .int 0, .int 0])), (q0, .inl (cA, 10, .inl (fun _ => 0))), (q1, .inl (cA, 10, .inl (fun _ => 0)))]) hx hb hown hts hK inA1 tyX1 tyX1_ok nmX1 hD 0 rfl rfl 1 (by decide) kw_200 rfl rfl hin rfl rfl rfl rfl (Nat.le_of_ble_eq_true rfl) dX1_init_17 rfl (fun hD => ?_)
  refine ww_aload_n hx hb dX1_init_20 rfl 0 rfl ?_
  refine ww_bipush (v := 12) hx hb dX1_init_21 (by decide) ?_
  refine ww_newai hx hb hts hK hA hD rfl kw_263 12 (by decide) (by decide) (Nat.le_of_ble_eq_true rfl) (Nat.le_of_ble_eq_true rfl) (Nat.le_of_ble_eq_true rfl) dX1_init_23 (fun q2 => [(h0, .inr (1, [.ref q0, .ref q1, .null, .null, .null, .null, .null, .int 0, .int 0, .int 0])), (q0, .inl (cA, 10, .inl (fun _ => 0))), (q1, .inl (cA, 10, .inl (fun _ => 0))), (q2, .inl (cA, 12, .inl (fun _ => 0)))]) (fun _ => rfl) (fun q2 hD => ?_)
  refine ww_putF (C := RX1) (T := TX1) (N := 10) (ty := (.array .int)) (ws1 := [(h0, .inr (1, [.ref q0, .ref q1, .ref q2, .null, .null, .null, .null, .int 0, .int 0, .int 0])), (q0, .inl (cA, 10, .inl (fun _ => 0))), (q1, .inl (cA, 10, .inl (fun _ => 0))), (q2, .inl (cA, 12, .inl (fun _ => 0)))]) hx hb hown hts hK inA1 tyX1 tyX1_ok nmX1 hD 0 rfl rfl 2 (by decide) kw_209 rfl rfl hin rfl rfl rfl rfl (Nat.le_of_ble_eq_true rfl) dX1_init_25 rfl (fun hD => ?_)
  refine ww_aload_n hx hb dX1_init_28 rfl 0 rfl ?_
  refine ww_bipush (v := 12) hx hb dX1_init_29 (by decide) ?_
  refine ww_newai hx hb hts hK hA hD rfl kw_263 12 (by decide) (by decide) (Nat.le_of_ble_eq_true rfl) (Nat.le_of_ble_eq_true rfl) (Nat.le_of_ble_eq_true rfl) dX1_init_31 (fun q3 => [(h0, .inr (1, [.ref q0, .ref q1, .ref q2, .null, .null, .null, .null, .int 0, .int 0, .int 0])), (q0, .inl (cA, 10, .inl (fun _ => 0))), (q1, .inl (cA, 10, .inl (fun _ => 0))), (q2, .inl (cA, 12, .inl (fun _ => 0))), (q3, .inl (cA, 12, .inl (fun _ => 0)))]) (fun _ => rfl) (fun q3 hD => ?_)
  refine ww_putF (C := RX1) (T := TX1) (N := 10) (ty := (.array .int)) (ws1 := [(h0, .inr (1, [.ref q0, .ref q1, .ref q2, .ref q3, .null, .null, .null, .int 0, .int 0, .int 0])), (q0, .inl (cA, 10, .inl (fun _ => 0))), (q1, .inl (cA, 10, .inl (fun _ => 0))), (q2, .inl (cA, 12, .inl (fun _ => 0))), (q3, .inl (cA, 12, .inl (fun _ => 0)))]) hx hb hown hts hK inA1 tyX1 tyX1_ok nmX1 hD 0 rfl rfl 3 (by decide) kw_211 rfl rfl hin rfl rfl rfl rfl (Nat.le_of_ble_eq_true rfl) dX1_init_33 rfl (fun hD => ?_)
  refine ww_aload_n hx hb dX1_init_36 rfl 0 rfl ?_
  refine ww_bipush (v := 12) hx hb dX1_init_37 (by decide) ?_
  refine ww_newai hx hb hts hK hA hD rfl kw_263 12 (by decide) (by decide) (Nat.le_of_ble_eq_true rfl) (Nat.le_of_ble_eq_true rfl) (Nat.le_of_ble_eq_true rfl) dX1_init_39 (fun q4 => [(h0, .inr (1, [.ref q0, .ref q1, .ref q2, .ref q3, .null, .null, .null, .int 0, .int 0, .int 0])), (q0, .inl (cA, 10, .inl (fun _ => 0))), (q1, .inl (cA, 10, .inl (fun _ => 0))), (q2, .inl (cA, 12, .inl (fun _ => 0))), (q3, .inl (cA, 12, .inl (fun _ => 0))), (q4, .inl (cA, 12, .inl (fun _ => 0)))]) (fun _ => rfl) (fun q4 hD => ?_)
  refine ww_putF (C := RX1) (T := TX1) (N := 10) (ty := (.array .int)) (ws1 := [(h0, .inr (1, [.ref q0, .ref q1, .ref q2, .ref q3, .ref q4, .null, .null, .int 0, .int 0, .int 0])), (q0, .inl (cA, 10, .inl (fun _ => 0))), (q1, .inl (cA, 10, .inl (fun _ => 0))), (q2, .inl (cA, 12, .inl (fun _ => 0))), (q3, .inl (cA, 12, .inl (fun _ => 0))), (q4, .inl (cA, 12, .inl (fun _ => 0)))]) hx hb hown hts hK inA1 tyX1 tyX1_ok nmX1 hD 0 rfl rfl 4 (by decide) kw_210 rfl rfl hin rfl rfl rfl rfl (Nat.le_of_ble_eq_true rfl) dX1_init_41 rfl (fun hD => ?_)
  refine ww_aload_n hx hb dX1_init_44 rfl 0 rfl ?_
  refine ww_bipush (v := 12) hx hb dX1_init_45 (by decide) ?_
  refine ww_newai hx hb hts hK hA hD rfl kw_263 12 (by decide) (by decide) (Nat.le_of_ble_eq_true rfl) (Nat.le_of_ble_eq_true rfl) (Nat.le_of_ble_eq_true rfl) dX1_init_47 (fun q5 => [(h0, .inr (1, [.ref q0, .ref q1, .ref q2, .ref q3, .ref q4, .null, .null, .int 0, .int 0, .int 0])), (q0, .inl (cA, 10, .inl (fun _ => 0))), (q1, .inl (cA, 10, .inl (fun _ => 0))), (q2, .inl (cA, 12, .inl (fun _ => 0))), (q3, .inl (cA, 12, .inl (fun _ => 0))), (q4, .inl (cA, 12, .inl (fun _ => 0))), (q5, .inl (cA, 12, .inl (fun _ => 0)))]) (fun _ => rfl) (fun q5 hD => ?_)
  refine ww_putF (C := RX1) (T := TX1) (N := 10) (ty := (.array .int)) (ws1 := [(h0, .inr (1, [.ref q0, .ref q1, .ref q2, .ref q3, .ref q4, .ref q5, .null, .int 0, .int 0, .int 0])), (q0, .inl (cA, 10, .inl (fun _ => 0))), (q1, .inl (cA, 10, .inl (fun _ => 0))), (q2, .inl (cA, 12, .inl (fun _ => 0))), (q3, .inl (cA, 12, .inl (fun _ => 0))), (q4, .inl (cA, 12, .inl (fun _ => 0))), (q5, .inl (cA, 12, .inl (fun _ => 0)))]) hx hb hown hts hK inA1 tyX1 tyX1_ok nmX1 hD 0 rfl rfl 5 (by decide) kw_227 rfl rfl hin rfl rfl rfl rfl (Nat.le_of_ble_eq_true rfl) dX1_init_49 rfl (fun hD => ?_)
  refine ww_aload_n hx hb dX1_init_52 rfl 0 rfl ?_
  refine ww_bipush (v := 6) hx hb dX1_init_53 (by decide) ?_
  refine ww_newai hx hb hts hK hA hD rfl kw_263 6 (by decide) (by decide) (Nat.le_of_ble_eq_true rfl) (Nat.le_of_ble_eq_true rfl) (Nat.le_of_ble_eq_true rfl) dX1_init_55 (fun q6 => [(h0, .inr (1, [.ref q0, .ref q1, .ref q2, .ref q3, .ref q4, .ref q5, .null, .int 0, .int 0, .int 0])), (q0, .inl (cA, 10, .inl (fun _ => 0))), (q1, .inl (cA, 10, .inl (fun _ => 0))), (q2, .inl (cA, 12, .inl (fun _ => 0))), (q3, .inl (cA, 12, .inl (fun _ => 0))), (q4, .inl (cA, 12, .inl (fun _ => 0))), (q5, .inl (cA, 12, .inl (fun _ => 0))), (q6, .inl (cA, 6, .inl (fun _ => 0)))]) (fun _ => rfl) (fun q6 hD => ?_)
  refine ww_putF (C := RX1) (T := TX1) (N := 10) (ty := (.array .int)) (ws1 := [(h0, .inr (1, [.ref q0, .ref q1, .ref q2, .ref q3, .ref q4, .ref q5, .ref q6, .int 0, .int 0, .int 0])), (q0, .inl (cA, 10, .inl (fun _ => 0))), (q1, .inl (cA, 10, .inl (fun _ => 0))), (q2, .inl (cA, 12, .inl (fun _ => 0))), (q3, .inl (cA, 12, .inl (fun _ => 0))), (q4, .inl (cA, 12, .inl (fun _ => 0))), (q5, .inl (cA, 12, .inl (fun _ => 0))), (q6, .inl (cA, 6, .inl (fun _ => 0)))]) hx hb hown hts hK inA1 tyX1 tyX1_ok nmX1 hD 0 rfl rfl 6 (by decide) kw_225 rfl rfl hin rfl rfl rfl rfl (Nat.le_of_ble_eq_true rfl) dX1_init_57 rfl (fun hD => ?_)
  exact ww_vretI hx hb hr hlk hD ⟨q0, q1, q2, q3, q4, q5, q6, rfl⟩ dX1_init_60
set_option maxHeartbeats 4000000 in
set_option maxRecDepth 100000 in
def P_X3 (cA : ClassId) (h0 : Nat) (w : va_W) : Prop := ∃ q0 q1 q2 q3 q4 : Nat, w = [(h0, .inr (3, [.ref q0, .ref q1, .ref q2, .ref q3, .ref q4, .int 0, .int 0, .int 0, .int 0])), (q0, .inl (cA, 8, .inl (fun _ => 0))), (q1, .inl (cA, 8, .inl (fun _ => 0))), (q2, .inl (cA, 8, .inl (fun _ => 0))), (q3, .inl (cA, 8, .inl (fun _ => 0))), (q4, .inl (cA, 8, .inl (fun _ => 0)))]
set_option maxHeartbeats 4000000 in
set_option maxRecDepth 100000 in
theorem m_X3_init (h0 : Nat) : CtI l yX3_init cX3_init 1 1 40 5 40 D vwCl [(cA, .int)] [(h0, .inr (3, [.null, .null, .null, .null, .null, .int 0, .int 0, .int 0, .int 0]))] (P_X3 cA h0) [.ref h0] := by
  refine cti_of (by decide +kernel) rfl (Nat.le_of_ble_eq_true rfl) ?_
  intro p e s m args below meth c hx hb hr hlk hml hown hts hK hD hN hA hin
  have hown : s.vm.findClass RX3 = some m.cls := hown
  refine ww_sub (lv1 := [(0, .ref h0)]) [0] rfl ?_
  refine ww_aload_n hx hb dX3_init_0 rfl 0 rfl ?_
  refine ww_objinit hx hb hml hown hts kw_265 kw_261 kw_262 dX3_init_1 ⟨Nat.le_of_ble_eq_true rfl, Nat.le_of_ble_eq_true rfl⟩ ?_
  refine ww_aload_n hx hb dX3_init_4 rfl 0 rfl ?_
  refine ww_bipush (v := 8) hx hb dX3_init_5 (by decide) ?_
  refine ww_newai hx hb hts hK hA hD rfl kw_263 8 (by decide) (by decide) (Nat.le_of_ble_eq_true rfl) (Nat.le_of_ble_eq_true rfl) (Nat.le_of_ble_eq_true rfl) dX3_init_7 (fun q0 => [(h0, .inr (3, [.null, .null, .null, .null, .null, .int 0, .int 0, .int 0, .int 0])), (q0, .inl (cA, 8, .inl (fun _ => 0)))]) (fun _ => rfl) (fun q0 hD => ?_)
  refine ww_putF (C := RX3) (T := TX3) (N := 9) (ty := (.array .int)) (ws1 := [(h0, .inr (3, [.ref q0, .null, .null, .null, .null, .int 0, .int 0, .int 0, .int 0])), (q0, .inl (cA, 8, .inl (fun _ => 0)))]) hx hb hown hts hK inA3 tyX3 tyX3_ok nmX3 hD 0 rfl rfl 0 (by decide) kw_2 rfl rfl hin rfl rfl rfl rfl (Nat.le_of_ble_eq_true rfl) dX3_init_9 rfl (fun hD => ?_)
  refine ww_aload_n hx hb dX3_init_12 rfl 0 rfl ?_
  refine ww_bipush (v := 8) hx hb dX3_init_13 (by decide) ?_
  refine ww_newai hx hb hts hK hA hD rfl kw_263 8 (by decide) (by decide) (Nat.le_of_ble_eq_true rfl) (Nat.le_of_ble_eq_true rfl) (Nat.le_of_ble_eq_true rfl) dX3_init_15 (fun q1 => [(h0, .inr (3, [.ref q0, .null, .null, .null, .null, .int 0, .int 0, .int 0, .int 0])), (q0, .inl (cA, 8, .inl (fun _ => 0))), (q1, .inl (cA, 8, .inl (fun _ => 0)))]) (fun _ => rfl) (fun q1 hD => ?_)
  refine ww_putF (C := RX3) (T := TX3) (N := 9) (ty := (.array .int)) (ws1 := [(h0, .inr (3, [.ref q0, .ref q1, .null, .null, .null, .int 0, .int 0, .int 0, .int 0])), (q0, .inl (cA, 8, .inl (fun _ => 0))), (q1, .inl (cA, 8, .inl (fun _ => 0)))]) hx hb hown hts hK inA3 tyX3 tyX3_ok nmX3 hD 0 rfl rfl 1 (by decide) kw_6 rfl rfl hin rfl rfl rfl rfl (Nat.le_of_ble_eq_true rfl) dX3_init_17 rfl (fun hD => ?_)
  refine ww_aload_n hx hb dX3_init_20 rfl 0 rfl ?_
  refine ww_bipush (v := 8) hx hb dX3_init_21 (by decide) ?_
  refine ww_newai hx hb hts hK hA hD rfl kw_263 8 (by decide) (by decide) (Nat.le_of_ble_eq_true rfl) (Nat.le_of_ble_eq_true rfl) (Nat.le_of_ble_eq_true rfl) dX3_init_23 (fun q2 => [(h0, .inr (3, [.ref q0, .ref q1, .null, .null, .null, .int 0, .int 0, .int 0, .int 0])), (q0, .inl (cA, 8, .inl (fun _ => 0))), (q1, .inl (cA, 8, .inl (fun _ => 0))), (q2, .inl (cA, 8, .inl (fun _ => 0)))]) (fun _ => rfl) (fun q2 hD => ?_)
  refine ww_putF (C := RX3) (T := TX3) (N := 9) (ty := (.array .int)) (ws1 := [(h0, .inr (3, [.ref q0, .ref q1, .ref q2, .null, .null, .int 0, .int 0, .int 0, .int 0])), (q0, .inl (cA, 8, .inl (fun _ => 0))), (q1, .inl (cA, 8, .inl (fun _ => 0))), (q2, .inl (cA, 8, .inl (fun _ => 0)))]) hx hb hown hts hK inA3 tyX3 tyX3_ok nmX3 hD 0 rfl rfl 2 (by decide) kw_7 rfl rfl hin rfl rfl rfl rfl (Nat.le_of_ble_eq_true rfl) dX3_init_25 rfl (fun hD => ?_)
  refine ww_aload_n hx hb dX3_init_28 rfl 0 rfl ?_
  refine ww_bipush (v := 8) hx hb dX3_init_29 (by decide) ?_
  refine ww_newai hx hb hts hK hA hD rfl kw_263 8 (by decide) (by decide) (Nat.le_of_ble_eq_true rfl) (Nat.le_of_ble_eq_true rfl) (Nat.le_of_ble_eq_true rfl) dX3_init_31 (fun q3 => [(h0, .inr (3, [.ref q0, .ref q1, .ref q2, .null, .null, .int 0, .int 0, .int 0, .int 0])), (q0, .inl (cA, 8, .inl (fun _ => 0))), (q1, .inl (cA, 8, .inl (fun _ => 0))), (q2, .inl (cA, 8, .inl (fun _ => 0))), (q3, .inl (cA, 8, .inl (fun _ => 0)))]) (fun _ => rfl) (fun q3 hD => ?_)
  refine ww_putF (C := RX3) (T := TX3) (N := 9) (ty := (.array .int)) (ws1 := [(h0, .inr (3, [.ref q0, .ref q1, .ref q2, .ref q3, .null, .int 0, .int 0, .int 0, .int 0])), (q0, .inl (cA, 8, .inl (fun _ => 0))), (q1, .inl (cA, 8, .inl (fun _ => 0))), (q2, .inl (cA, 8, .inl (fun _ => 0))), (q3, .inl (cA, 8, .inl (fun _ => 0)))]) hx hb hown hts hK inA3 tyX3 tyX3_ok nmX3 hD 0 rfl rfl 3 (by decide) kw_8 rfl rfl hin rfl rfl rfl rfl (Nat.le_of_ble_eq_true rfl) dX3_init_33 rfl (fun hD => ?_)
  refine ww_aload_n hx hb dX3_init_36 rfl 0 rfl ?_
  refine ww_bipush (v := 8) hx hb dX3_init_37 (by decide) ?_
  refine ww_newai hx hb hts hK hA hD rfl kw_263 8 (by decide) (by decide) (Nat.le_of_ble_eq_true rfl) (Nat.le_of_ble_eq_true rfl) (Nat.le_of_ble_eq_true rfl) dX3_init_39 (fun q4 => [(h0, .inr (3, [.ref q0, .ref q1, .ref q2, .ref q3, .null, .int 0, .int 0, .int 0, .int 0])), (q0, .inl (cA, 8, .inl (fun _ => 0))), (q1, .inl (cA, 8, .inl (fun _ => 0))), (q2, .inl (cA, 8, .inl (fun _ => 0))), (q3, .inl (cA, 8, .inl (fun _ => 0))), (q4, .inl (cA, 8, .inl (fun _ => 0)))]) (fun _ => rfl) (fun q4 hD => ?_)
  refine ww_putF (C := RX3) (T := TX3) (N := 9) (ty := (.array .int)) (ws1 := [(h0, .inr (3, [.ref q0, .ref q1, .ref q2, .ref q3, .ref q4, .int 0, .int 0, .int 0, .int 0])), (q0, .inl (cA, 8, .inl (fun _ => 0))), (q1, .inl (cA, 8, .inl (fun _ => 0))), (q2, .inl (cA, 8, .inl (fun _ => 0))), (q3, .inl (cA, 8, .inl (fun _ => 0))), (q4, .inl (cA, 8, .inl (fun _ => 0)))]) hx hb hown hts hK inA3 tyX3 tyX3_ok nmX3 hD 0 rfl rfl 4 (by decide) kw_9 rfl rfl hin rfl rfl rfl rfl (Nat.le_of_ble_eq_true rfl) dX3_init_41 rfl (fun hD => ?_)
  exact ww_vretI hx hb hr hlk hD ⟨q0, q1, q2, q3, q4, rfl⟩ dX3_init_44
set_option maxHeartbeats 4000000 in
set_option maxRecDepth 100000 in
def P_X2 (cA : ClassId) (h0 : Nat) (w : va_W) : Prop := ∃ q0 q1 q2 q3 q4 q5 q6 q7 q8 q9 : Nat, w = [(h0, .inr (2, [.ref q0, .ref q6, .ref q7, .ref q8, .ref q9, .int 0, .int 0, .int 0])), (q0, .inr (3, [.ref q1, .ref q2, .ref q3, .ref q4, .ref q5, .int 0, .int 0, .int 0, .int 0])), (q1, .inl (cA, 8, .inl (fun _ => 0))), (q2, .inl (cA, 8, .inl (fun _ => 0))), (q3, .inl (cA, 8, .inl (fun _ => 0))), (q4, .inl (cA, 8, .inl (fun _ => 0))), (q5, .inl (cA, 8, .inl (fun _ => 0))), (q6, .inl (cA, 8, .inl (fun _ => 0))), (q7, .inl (cA, 8, .inl (fun _ => 0))), (q8, .inl (cA, 8, .inl (fun _ => 0))), (q9, .inl (cA, 8, .inl (fun _ => 0)))]
set_option maxHeartbeats 4000000 in
set_option maxRecDepth 100000 in
theorem m_X2_init (h0 : Nat) : CtI l yX2_init cX2_init 1 2 80 10 81 D vwCl [(cA, .int)] [(h0, .inr (2, [.null, .null, .null, .null, .null, .int 0, .int 0, .int 0]))] (P_X2 cA h0) [.ref h0] := by
  refine cti_of (by decide +kernel) rfl (Nat.le_of_ble_eq_true rfl) ?_
  intro p e s m args below meth c hx hb hr hlk hml hown hts hK hD hN hA hin
  have hown : s.vm.findClass RX2 = some m.cls := hown
  refine ww_sub (lv1 := [(0, .ref h0)]) [0] rfl ?_
  refine ww_aload_n hx hb dX2_init_0 rfl 0 rfl ?_
  refine ww_objinit hx hb hml hown hts kw_266 kw_261 kw_262 dX2_init_1 ⟨Nat.le_of_ble_eq_true rfl, Nat.le_of_ble_eq_true rfl⟩ ?_
  refine ww_aload_n hx hb dX2_init_4 rfl 0 rfl ?_
  refine ww_new (C := RX3) (T := TX3) (N := 9) hx hb hown hts hK hA hD inA3 tyX3 tyX3_ok kw_267 kw_268 kw_17 rfl [.null, .null, .null, .null, .null, .int 0, .int 0, .int 0, .int 0] (by decide +kernel) (Nat.le_of_ble_eq_true rfl) (Nat.le_of_ble_eq_true rfl) dX2_init_5 (fun q0 => [(h0, .inr (2, [.null, .null, .null, .null, .null, .int 0, .int 0, .int 0])), (q0, .inr (3, [.null, .null, .null, .null, .null, .int 0, .int 0, .int 0, .int 0]))]) (fun _ => rfl) (fun q0 hD => ?_)
  refine ww_dup hx hb dX2_init_8 rfl ?_
  refine ww_callI hx hb hml hown hts hK hN hA [(h0, .inr (2, [.null, .null, .null, .null, .null, .int 0, .int 0, .int 0]))] (m_X3_init q0) cs_X2_11 (by decide) ⟨Nat.le_of_ble_eq_true rfl, Nat.le_of_ble_eq_true rfl⟩ rfl hD (Nat.le_of_ble_eq_true rfl) dX2_init_9 (fun w1 hw1 hD => ?_)
  obtain ⟨q1, q2, q3, q4, q5, rfl⟩ := hw1
  refine ww_eq (ws1 := [(h0, .inr (2, [.null, .null, .null, .null, .null, .int 0, .int 0, .int 0])), (q0, .inr (3, [.ref q1, .ref q2, .ref q3, .ref q4, .ref q5, .int 0, .int 0, .int 0, .int 0])), (q1, .inl (cA, 8, .inl (fun _ => 0))), (q2, .inl (cA, 8, .inl (fun _ => 0))), (q3, .inl (cA, 8, .inl (fun _ => 0))), (q4, .inl (cA, 8, .inl (fun _ => 0))), (q5, .inl (cA, 8, .inl (fun _ => 0)))]) rfl ?_
  have hD : va_D _ [(h0, .inr (2, [.null, .null, .null, .null, .null, .int 0, .int 0, .int 0])), (q0, .inr (3, [.ref q1, .ref q2, .ref q3, .ref q4, .ref q5, .int 0, .int 0, .int 0, .int 0])), (q1, .inl (cA, 8, .inl (fun _ => 0))), (q2, .inl (cA, 8, .inl (fun _ => 0))), (q3, .inl (cA, 8, .inl (fun _ => 0))), (q4, .inl (cA, 8, .inl (fun _ => 0))), (q5, .inl (cA, 8, .inl (fun _ => 0)))] := hD
  refine ww_putF (C := RX2) (T := TX2) (N := 8) (ty := (.object "Scripthouse$Scenes")) (ws1 := [(h0, .inr (2, [.ref q0, .null, .null, .null, .null, .int 0, .int 0, .int 0])), (q0, .inr (3, [.ref q1, .ref q2, .ref q3, .ref q4, .ref q5, .int 0, .int 0, .int 0, .int 0])), (q1, .inl (cA, 8, .inl (fun _ => 0))), (q2, .inl (cA, 8, .inl (fun _ => 0))), (q3, .inl (cA, 8, .inl (fun _ => 0))), (q4, .inl (cA, 8, .inl (fun _ => 0))), (q5, .inl (cA, 8, .inl (fun _ => 0)))]) hx hb hown hts hK inA2 tyX2 tyX2_ok nmX2 hD 0 rfl rfl 0 (by decide) kw_66 rfl rfl hin rfl rfl rfl rfl (Nat.le_of_ble_eq_true rfl) dX2_init_12 rfl (fun hD => ?_)
  refine ww_aload_n hx hb dX2_init_15 rfl 0 rfl ?_
  refine ww_bipush (v := 8) hx hb dX2_init_16 (by decide) ?_
  refine ww_newai hx hb hts hK hA hD rfl kw_263 8 (by decide) (by decide) (Nat.le_of_ble_eq_true rfl) (Nat.le_of_ble_eq_true rfl) (Nat.le_of_ble_eq_true rfl) dX2_init_18 (fun q6 => [(h0, .inr (2, [.ref q0, .null, .null, .null, .null, .int 0, .int 0, .int 0])), (q0, .inr (3, [.ref q1, .ref q2, .ref q3, .ref q4, .ref q5, .int 0, .int 0, .int 0, .int 0])), (q1, .inl (cA, 8, .inl (fun _ => 0))), (q2, .inl (cA, 8, .inl (fun _ => 0))), (q3, .inl (cA, 8, .inl (fun _ => 0))), (q4, .inl (cA, 8, .inl (fun _ => 0))), (q5, .inl (cA, 8, .inl (fun _ => 0))), (q6, .inl (cA, 8, .inl (fun _ => 0)))]) (fun _ => rfl) (fun q6 hD => ?_)
  refine ww_putF (C := RX2) (T := TX2) (N := 8) (ty := (.array .int)) (ws1 := [(h0, .inr (2, [.ref q0, .ref q6, .null, .null, .null, .int 0, .int 0, .int 0])), (q0, .inr (3, [.ref q1, .ref q2, .ref q3, .ref q4, .ref q5, .int 0, .int 0, .int 0, .int 0])), (q1, .inl (cA, 8, .inl (fun _ => 0))), (q2, .inl (cA, 8, .inl (fun _ => 0))), (q3, .inl (cA, 8, .inl (fun _ => 0))), (q4, .inl (cA, 8, .inl (fun _ => 0))), (q5, .inl (cA, 8, .inl (fun _ => 0))), (q6, .inl (cA, 8, .inl (fun _ => 0)))]) hx hb hown hts hK inA2 tyX2 tyX2_ok nmX2 hD 0 rfl rfl 1 (by decide) kw_48 rfl rfl hin rfl rfl rfl rfl (Nat.le_of_ble_eq_true rfl) dX2_init_20 rfl (fun hD => ?_)
  refine ww_aload_n hx hb dX2_init_23 rfl 0 rfl ?_
  refine ww_bipush (v := 8) hx hb dX2_init_24 (by decide) ?_
  refine ww_newai hx hb hts hK hA hD rfl kw_263 8 (by decide) (by decide) (Nat.le_of_ble_eq_true rfl) (Nat.le_of_ble_eq_true rfl) (Nat.le_of_ble_eq_true rfl) dX2_init_26 (fun q7 => [(h0, .inr (2, [.ref q0, .ref q6, .null, .null, .null, .int 0, .int 0, .int 0])), (q0, .inr (3, [.ref q1, .ref q2, .ref q3, .ref q4, .ref q5, .int 0, .int 0, .int 0, .int 0])), (q1, .inl (cA, 8, .inl (fun _ => 0))), (q2, .inl (cA, 8, .inl (fun _ => 0))), (q3, .inl (cA, 8, .inl (fun _ => 0))), (q4, .inl (cA, 8, .inl (fun _ => 0))), (q5, .inl (cA, 8, .inl (fun _ => 0))), (q6, .inl (cA, 8, .inl (fun _ => 0))), (q7, .inl (cA, 8, .inl (fun _ => 0)))]) (fun _ => rfl) (fun q7 hD => ?_)
  refine ww_putF (C := RX2) (T := TX2) (N := 8) (ty := (.array .int)) (ws1 := [(h0, .inr (2, [.ref q0, .ref q6, .ref q7, .null, .null, .int 0, .int 0, .int 0])), (q0, .inr (3, [.ref q1, .ref q2, .ref q3, .ref q4, .ref q5, .int 0, .int 0, .int 0, .int 0])), (q1, .inl (cA, 8, .inl (fun _ => 0))), (q2, .inl (cA, 8, .inl (fun _ => 0))), (q3, .inl (cA, 8, .inl (fun _ => 0))), (q4, .inl (cA, 8, .inl (fun _ => 0))), (q5, .inl (cA, 8, .inl (fun _ => 0))), (q6, .inl (cA, 8, .inl (fun _ => 0))), (q7, .inl (cA, 8, .inl (fun _ => 0)))]) hx hb hown hts hK inA2 tyX2 tyX2_ok nmX2 hD 0 rfl rfl 2 (by decide) kw_47 rfl rfl hin rfl rfl rfl rfl (Nat.le_of_ble_eq_true rfl) dX2_init_28 rfl (fun hD => ?_)
  refine ww_aload_n hx hb dX2_init_31 rfl 0 rfl ?_
  refine ww_bipush (v := 8) hx hb dX2_init_32 (by decide) ?_
  refine ww_newai hx hb hts hK hA hD rfl kw_263 8 (by decide) (by decide) (Nat.le_of_ble_eq_true rfl) (Nat.le_of_ble_eq_true rfl) (Nat.le_of_ble_eq_true rfl) dX2_init_34 (fun q8 => [(h0, .inr (2, [.ref q0, .ref q6, .ref q7, .null, .null, .int 0, .int 0, .int 0])), (q0, .inr (3, [.ref q1, .ref q2, .ref q3, .ref q4, .ref q5, .int 0, .int 0, .int 0, .int 0])), (q1, .inl (cA, 8, .inl (fun _ => 0))), (q2, .inl (cA, 8, .inl (fun _ => 0))), (q3, .inl (cA, 8, .inl (fun _ => 0))), (q4, .inl (cA, 8, .inl (fun _ => 0))), (q5, .inl (cA, 8, .inl (fun _ => 0))), (q6, .inl (cA, 8, .inl (fun _ => 0))), (q7, .inl (cA, 8, .inl (fun _ => 0))), (q8, .inl (cA, 8, .inl (fun _ => 0)))]) (fun _ => rfl) (fun q8 hD => ?_)
  refine ww_putF (C := RX2) (T := TX2) (N := 8) (ty := (.array .int)) (ws1 := [(h0, .inr (2, [.ref q0, .ref q6, .ref q7, .ref q8, .null, .int 0, .int 0, .int 0])), (q0, .inr (3, [.ref q1, .ref q2, .ref q3, .ref q4, .ref q5, .int 0, .int 0, .int 0, .int 0])), (q1, .inl (cA, 8, .inl (fun _ => 0))), (q2, .inl (cA, 8, .inl (fun _ => 0))), (q3, .inl (cA, 8, .inl (fun _ => 0))), (q4, .inl (cA, 8, .inl (fun _ => 0))), (q5, .inl (cA, 8, .inl (fun _ => 0))), (q6, .inl (cA, 8, .inl (fun _ => 0))), (q7, .inl (cA, 8, .inl (fun _ => 0))), (q8, .inl (cA, 8, .inl (fun _ => 0)))]) hx hb hown hts hK inA2 tyX2 tyX2_ok nmX2 hD 0 rfl rfl 3 (by decide) kw_60 rfl rfl hin rfl rfl rfl rfl (Nat.le_of_ble_eq_true rfl) dX2_init_36 rfl (fun hD => ?_)
  refine ww_aload_n hx hb dX2_init_39 rfl 0 rfl ?_
  refine ww_bipush (v := 8) hx hb dX2_init_40 (by decide) ?_
  refine ww_newai hx hb hts hK hA hD rfl kw_263 8 (by decide) (by decide) (Nat.le_of_ble_eq_true rfl) (Nat.le_of_ble_eq_true rfl) (Nat.le_of_ble_eq_true rfl) dX2_init_42 (fun q9 => [(h0, .inr (2, [.ref q0, .ref q6, .ref q7, .ref q8, .null, .int 0, .int 0, .int 0])), (q0, .inr (3, [.ref q1, .ref q2, .ref q3, .ref q4, .ref q5, .int 0, .int 0, .int 0, .int 0])), (q1, .inl (cA, 8, .inl (fun _ => 0))), (q2, .inl (cA, 8, .inl (fun _ => 0))), (q3, .inl (cA, 8, .inl (fun _ => 0))), (q4, .inl (cA, 8, .inl (fun _ => 0))), (q5, .inl (cA, 8, .inl (fun _ => 0))), (q6, .inl (cA, 8, .inl (fun _ => 0))), (q7, .inl (cA, 8, .inl (fun _ => 0))), (q8, .inl (cA, 8, .inl (fun _ => 0))), (q9, .inl (cA, 8, .inl (fun _ => 0)))]) (fun _ => rfl) (fun q9 hD => ?_)
  refine ww_putF (C := RX2) (T := TX2) (N := 8) (ty := (.array .int)) (ws1 := [(h0, .inr (2, [.ref q0, .ref q6, .ref q7, .ref q8, .ref q9, .int 0, .int 0, .int 0])), (q0, .inr (3, [.ref q1, .ref q2, .ref q3, .ref q4, .ref q5, .int 0, .int 0, .int 0, .int 0])), (q1, .inl (cA, 8, .inl (fun _ => 0))), (q2, .inl (cA, 8, .inl (fun _ => 0))), (q3, .inl (cA, 8, .inl (fun _ => 0))), (q4, .inl (cA, 8, .inl (fun _ => 0))), (q5, .inl (cA, 8, .inl (fun _ => 0))), (q6, .inl (cA, 8, .inl (fun _ => 0))), (q7, .inl (cA, 8, .inl (fun _ => 0))), (q8, .inl (cA, 8, .inl (fun _ => 0))), (q9, .inl (cA, 8, .inl (fun _ => 0)))]) hx hb hown hts hK inA2 tyX2 tyX2_ok nmX2 hD 0 rfl rfl 4 (by decide) kw_61 rfl rfl hin rfl rfl rfl rfl (Nat.le_of_ble_eq_true rfl) dX2_init_44 rfl (fun hD => ?_)
  exact ww_vretI hx hb hr hlk hD ⟨q0, q1, q2, q3, q4, q5, q6, q7, q8, q9, rfl⟩ dX2_init_47
set_option maxHeartbeats 4000000 in
set_option maxRecDepth 100000 in
def P_X4 (cA : ClassId) (h0 : Nat) (w : va_W) : Prop := ∃ q0 q1 q2 q3 q4 q5 q6 q7 q8 q9 q10 q11 q12 q13 q14 q15 q16 q17 q18 q19 q20 : Nat, w = [(h0, .inr (4, [.ref q1, .ref q0, .ref q11, .ref q13, .int 100, .int 50, .int 0])), (q0, .inr (2, [.ref q1, .ref q7, .ref q8, .ref q9, .ref q10, .int 0, .int 0, .int 0])), (q1, .inr (3, [.ref q2, .ref q3, .ref q4, .ref q5, .ref q6, .int 0, .int 0, .int 0, .int 0])), (q2, .inl (cA, 8, .inl (fun _ => 0))), (q3, .inl (cA, 8, .inl (fun _ => 0))), (q4, .inl (cA, 8, .inl (fun _ => 0))), (q5, .inl (cA, 8, .inl (fun _ => 0))), (q6, .inl (cA, 8, .inl (fun _ => 0))), (q7, .inl (cA, 8, .inl (fun _ => 0))), (q8, .inl (cA, 8, .inl (fun _ => 0))), (q9, .inl (cA, 8, .inl (fun _ => 0))), (q10, .inl (cA, 8, .inl (fun _ => 0))), (q11, .inr (0, [.ref q12, .int 0, .int 0, .int 0])), (q12, .inl (cA, 4, .inl (fun _ => 0))), (q13, .inr (1, [.ref q14, .ref q15, .ref q16, .ref q17, .ref q18, .ref q19, .ref q20, .int 0, .int 0, .int 0])), (q14, .inl (cA, 10, .inl (fun _ => 0))), (q15, .inl (cA, 10, .inl (fun _ => 0))), (q16, .inl (cA, 12, .inl (fun _ => 0))), (q17, .inl (cA, 12, .inl (fun _ => 0))), (q18, .inl (cA, 12, .inl (fun _ => 0))), (q19, .inl (cA, 12, .inl (fun _ => 0))), (q20, .inl (cA, 6, .inl (fun _ => 0)))]
set_option maxHeartbeats 4000000 in
set_option maxRecDepth 100000 in
theorem m_X4_init (h0 : Nat) : CtI l yX4_init cX4_init 1 3 120 21 181 D vwCl [(cA, .int)] [(h0, .inr (4, [.null, .null, .null, .null, .int 0, .int 0, .int 0]))] (P_X4 cA h0) [.ref h0] := by
  refine cti_of (by decide +kernel) rfl (Nat.le_of_ble_eq_true rfl) ?_
  intro p e s m args below meth c hx hb hr hlk hml hown hts hK hD hN hA hin
  have hown : s.vm.findClass RX4 = some m.cls := hown
  refine ww_sub (lv1 := [(0, .ref h0)]) [0] rfl ?_
  refine ww_aload_n hx hb dX4_init_0 rfl 0 rfl ?_
  refine ww_objinit hx hb hml hown hts kw_271 kw_261 kw_262 dX4_init_1 ⟨Nat.le_of_ble_eq_true rfl, Nat.le_of_ble_eq_true rfl⟩ ?_
  refine ww_aload_n hx hb dX4_init_4 rfl 0 rfl ?_
  refine ww_new (C := RX2) (T := TX2) (N := 8) hx hb hown hts hK hA hD inA2 tyX2 tyX2_ok kw_272 kw_273 kw_24 rfl [.null, .null, .null, .null, .null, .int 0, .int 0, .int 0] (by decide +kernel) (Nat.le_of_ble_eq_true rfl) (Nat.le_of_ble_eq_true rfl) dX4_init_5 (fun q0 => [(h0, .inr (4, [.null, .null, .null, .null, .int 0, .int 0, .int 0])), (q0, .inr (2, [.null, .null, .null, .null, .null, .int 0, .int 0, .int 0]))]) (fun _ => rfl) (fun q0 hD => ?_)
  refine ww_dup hx hb dX4_init_8 rfl ?_
  refine ww_callI hx hb hml hown hts hK hN hA [(h0, .inr (4, [.null, .null, .null, .null, .int 0, .int 0, .int 0]))] (m_X2_init q0) cs_X4_9 (by decide) ⟨Nat.le_of_ble_eq_true rfl, Nat.le_of_ble_eq_true rfl⟩ rfl hD (Nat.le_of_ble_eq_true rfl) dX4_init_9 (fun w1 hw1 hD => ?_)
  obtain ⟨q1, q2, q3, q4, q5, q6, q7, q8, q9, q10, rfl⟩ := hw1
  refine ww_eq (ws1 := [(h0, .inr (4, [.null, .null, .null, .null, .int 0, .int 0, .int 0])), (q0, .inr (2, [.ref q1, .ref q7, .ref q8, .ref q9, .ref q10, .int 0, .int 0, .int 0])), (q1, .inr (3, [.ref q2, .ref q3, .ref q4, .ref q5, .ref q6, .int 0, .int 0, .int 0, .int 0])), (q2, .inl (cA, 8, .inl (fun _ => 0))), (q3, .inl (cA, 8, .inl (fun _ => 0))), (q4, .inl (cA, 8, .inl (fun _ => 0))), (q5, .inl (cA, 8, .inl (fun _ => 0))), (q6, .inl (cA, 8, .inl (fun _ => 0))), (q7, .inl (cA, 8, .inl (fun _ => 0))), (q8, .inl (cA, 8, .inl (fun _ => 0))), (q9, .inl (cA, 8, .inl (fun _ => 0))), (q10, .inl (cA, 8, .inl (fun _ => 0)))]) rfl ?_
  have hD : va_D _ [(h0, .inr (4, [.null, .null, .null, .null, .int 0, .int 0, .int 0])), (q0, .inr (2, [.ref q1, .ref q7, .ref q8, .ref q9, .ref q10, .int 0, .int 0, .int 0])), (q1, .inr (3, [.ref q2, .ref q3, .ref q4, .ref q5, .ref q6, .int 0, .int 0, .int 0, .int 0])), (q2, .inl (cA, 8, .inl (fun _ => 0))), (q3, .inl (cA, 8, .inl (fun _ => 0))), (q4, .inl (cA, 8, .inl (fun _ => 0))), (q5, .inl (cA, 8, .inl (fun _ => 0))), (q6, .inl (cA, 8, .inl (fun _ => 0))), (q7, .inl (cA, 8, .inl (fun _ => 0))), (q8, .inl (cA, 8, .inl (fun _ => 0))), (q9, .inl (cA, 8, .inl (fun _ => 0))), (q10, .inl (cA, 8, .inl (fun _ => 0)))] := hD
  refine ww_putF (C := RX4) (T := TX4) (N := 7) (ty := (.object "Scripthouse$Planner")) (ws1 := [(h0, .inr (4, [.null, .ref q0, .null, .null, .int 0, .int 0, .int 0])), (q0, .inr (2, [.ref q1, .ref q7, .ref q8, .ref q9, .ref q10, .int 0, .int 0, .int 0])), (q1, .inr (3, [.ref q2, .ref q3, .ref q4, .ref q5, .ref q6, .int 0, .int 0, .int 0, .int 0])), (q2, .inl (cA, 8, .inl (fun _ => 0))), (q3, .inl (cA, 8, .inl (fun _ => 0))), (q4, .inl (cA, 8, .inl (fun _ => 0))), (q5, .inl (cA, 8, .inl (fun _ => 0))), (q6, .inl (cA, 8, .inl (fun _ => 0))), (q7, .inl (cA, 8, .inl (fun _ => 0))), (q8, .inl (cA, 8, .inl (fun _ => 0))), (q9, .inl (cA, 8, .inl (fun _ => 0))), (q10, .inl (cA, 8, .inl (fun _ => 0)))]) hx hb hown hts hK inA4 tyX4 tyX4_ok nmX4 hD 0 rfl rfl 1 (by decide) kw_20 rfl rfl hin rfl rfl rfl rfl (Nat.le_of_ble_eq_true rfl) dX4_init_12 rfl (fun hD => ?_)
  refine ww_aload_n hx hb dX4_init_15 rfl 0 rfl ?_
  refine ww_aload_n hx hb dX4_init_16 rfl 0 rfl ?_
  refine ww_get (C := RX4) (T := TX4) (N := 7) hx hb hown hts hK inA4 0 rfl rfl 1 (by decide) kw_20 rfl rfl dX4_init_17 ?_
  refine ww_get (C := RX2) (T := TX2) (N := 8) hx hb hown hts hK inA2 1 rfl rfl 0 (by decide) kw_276 rfl rfl dX4_init_20 ?_
  refine ww_putF (C := RX4) (T := TX4) (N := 7) (ty := (.object "Scripthouse$Scenes")) (ws1 := [(h0, .inr (4, [.ref q1, .ref q0, .null, .null, .int 0, .int 0, .int 0])), (q0, .inr (2, [.ref q1, .ref q7, .ref q8, .ref q9, .ref q10, .int 0, .int 0, .int 0])), (q1, .inr (3, [.ref q2, .ref q3, .ref q4, .ref q5, .ref q6, .int 0, .int 0, .int 0, .int 0])), (q2, .inl (cA, 8, .inl (fun _ => 0))), (q3, .inl (cA, 8, .inl (fun _ => 0))), (q4, .inl (cA, 8, .inl (fun _ => 0))), (q5, .inl (cA, 8, .inl (fun _ => 0))), (q6, .inl (cA, 8, .inl (fun _ => 0))), (q7, .inl (cA, 8, .inl (fun _ => 0))), (q8, .inl (cA, 8, .inl (fun _ => 0))), (q9, .inl (cA, 8, .inl (fun _ => 0))), (q10, .inl (cA, 8, .inl (fun _ => 0)))]) hx hb hown hts hK inA4 tyX4 tyX4_ok nmX4 hD 0 rfl rfl 0 (by decide) kw_13 rfl rfl hin rfl rfl rfl rfl (Nat.le_of_ble_eq_true rfl) dX4_init_23 rfl (fun hD => ?_)
  refine ww_aload_n hx hb dX4_init_26 rfl 0 rfl ?_
  refine ww_new (C := RX0) (T := TX0) (N := 4) hx hb hown hts hK hA hD inA0 tyX0 tyX0_ok kw_277 kw_278 kw_164 rfl [.null, .int 0, .int 0, .int 0] (by decide +kernel) (Nat.le_of_ble_eq_true rfl) (Nat.le_of_ble_eq_true rfl) dX4_init_27 (fun q11 => [(h0, .inr (4, [.ref q1, .ref q0, .null, .null, .int 0, .int 0, .int 0])), (q0, .inr (2, [.ref q1, .ref q7, .ref q8, .ref q9, .ref q10, .int 0, .int 0, .int 0])), (q1, .inr (3, [.ref q2, .ref q3, .ref q4, .ref q5, .ref q6, .int 0, .int 0, .int 0, .int 0])), (q2, .inl (cA, 8, .inl (fun _ => 0))), (q3, .inl (cA, 8, .inl (fun _ => 0))), (q4, .inl (cA, 8, .inl (fun _ => 0))), (q5, .inl (cA, 8, .inl (fun _ => 0))), (q6, .inl (cA, 8, .inl (fun _ => 0))), (q7, .inl (cA, 8, .inl (fun _ => 0))), (q8, .inl (cA, 8, .inl (fun _ => 0))), (q9, .inl (cA, 8, .inl (fun _ => 0))), (q10, .inl (cA, 8, .inl (fun _ => 0))), (q11, .inr (0, [.null, .int 0, .int 0, .int 0]))]) (fun _ => rfl) (fun q11 hD => ?_)
  refine ww_dup hx hb dX4_init_30 rfl ?_
  refine ww_callI hx hb hml hown hts hK hN hA [(h0, .inr (4, [.ref q1, .ref q0, .null, .null, .int 0, .int 0, .int 0])), (q0, .inr (2, [.ref q1, .ref q7, .ref q8, .ref q9, .ref q10, .int 0, .int 0, .int 0])), (q1, .inr (3, [.ref q2, .ref q3, .ref q4, .ref q5, .ref q6, .int 0, .int 0, .int 0, .int 0])), (q2, .inl (cA, 8, .inl (fun _ => 0))), (q3, .inl (cA, 8, .inl (fun _ => 0))), (q4, .inl (cA, 8, .inl (fun _ => 0))), (q5, .inl (cA, 8, .inl (fun _ => 0))), (q6, .inl (cA, 8, .inl (fun _ => 0))), (q7, .inl (cA, 8, .inl (fun _ => 0))), (q8, .inl (cA, 8, .inl (fun _ => 0))), (q9, .inl (cA, 8, .inl (fun _ => 0))), (q10, .inl (cA, 8, .inl (fun _ => 0)))] (m_X0_init q11) cs_X4_23 (by decide) ⟨Nat.le_of_ble_eq_true rfl, Nat.le_of_ble_eq_true rfl⟩ rfl hD (Nat.le_of_ble_eq_true rfl) dX4_init_31 (fun w1 hw1 hD => ?_)
  obtain ⟨q12, rfl⟩ := hw1
  refine ww_eq (ws1 := [(h0, .inr (4, [.ref q1, .ref q0, .null, .null, .int 0, .int 0, .int 0])), (q0, .inr (2, [.ref q1, .ref q7, .ref q8, .ref q9, .ref q10, .int 0, .int 0, .int 0])), (q1, .inr (3, [.ref q2, .ref q3, .ref q4, .ref q5, .ref q6, .int 0, .int 0, .int 0, .int 0])), (q2, .inl (cA, 8, .inl (fun _ => 0))), (q3, .inl (cA, 8, .inl (fun _ => 0))), (q4, .inl (cA, 8, .inl (fun _ => 0))), (q5, .inl (cA, 8, .inl (fun _ => 0))), (q6, .inl (cA, 8, .inl (fun _ => 0))), (q7, .inl (cA, 8, .inl (fun _ => 0))), (q8, .inl (cA, 8, .inl (fun _ => 0))), (q9, .inl (cA, 8, .inl (fun _ => 0))), (q10, .inl (cA, 8, .inl (fun _ => 0))), (q11, .inr (0, [.ref q12, .int 0, .int 0, .int 0])), (q12, .inl (cA, 4, .inl (fun _ => 0)))]) rfl ?_
  have hD : va_D _ [(h0, .inr (4, [.ref q1, .ref q0, .null, .null, .int 0, .int 0, .int 0])), (q0, .inr (2, [.ref q1, .ref q7, .ref q8, .ref q9, .ref q10, .int 0, .int 0, .int 0])), (q1, .inr (3, [.ref q2, .ref q3, .ref q4, .ref q5, .ref q6, .int 0, .int 0, .int 0, .int 0])), (q2, .inl (cA, 8, .inl (fun _ => 0))), (q3, .inl (cA, 8, .inl (fun _ => 0))), (q4, .inl (cA, 8, .inl (fun _ => 0))), (q5, .inl (cA, 8, .inl (fun _ => 0))), (q6, .inl (cA, 8, .inl (fun _ => 0))), (q7, .inl (cA, 8, .inl (fun _ => 0))), (q8, .inl (cA, 8, .inl (fun _ => 0))), (q9, .inl (cA, 8, .inl (fun _ => 0))), (q10, .inl (cA, 8, .inl (fun _ => 0))), (q11, .inr (0, [.ref q12, .int 0, .int 0, .int 0])), (q12, .inl (cA, 4, .inl (fun _ => 0)))] := hD
  refine ww_putF (C := RX4) (T := TX4) (N := 7) (ty := (.object "Scripthouse$Budget")) (ws1 := [(h0, .inr (4, [.ref q1, .ref q0, .ref q11, .null, .int 0, .int 0, .int 0])), (q0, .inr (2, [.ref q1, .ref q7, .ref q8, .ref q9, .ref q10, .int 0, .int 0, .int 0])), (q1, .inr (3, [.ref q2, .ref q3, .ref q4, .ref q5, .ref q6, .int 0, .int 0, .int 0, .int 0])), (q2, .inl (cA, 8, .inl (fun _ => 0))), (q3, .inl (cA, 8, .inl (fun _ => 0))), (q4, .inl (cA, 8, .inl (fun _ => 0))), (q5, .inl (cA, 8, .inl (fun _ => 0))), (q6, .inl (cA, 8, .inl (fun _ => 0))), (q7, .inl (cA, 8, .inl (fun _ => 0))), (q8, .inl (cA, 8, .inl (fun _ => 0))), (q9, .inl (cA, 8, .inl (fun _ => 0))), (q10, .inl (cA, 8, .inl (fun _ => 0))), (q11, .inr (0, [.ref q12, .int 0, .int 0, .int 0])), (q12, .inl (cA, 4, .inl (fun _ => 0)))]) hx hb hown hts hK inA4 tyX4 tyX4_ok nmX4 hD 0 rfl rfl 2 (by decide) kw_181 rfl rfl hin rfl rfl rfl rfl (Nat.le_of_ble_eq_true rfl) dX4_init_34 rfl (fun hD => ?_)
  refine ww_aload_n hx hb dX4_init_37 rfl 0 rfl ?_
  refine ww_new (C := RX1) (T := TX1) (N := 10) hx hb hown hts hK hA hD inA1 tyX1 tyX1_ok kw_281 kw_282 kw_206 rfl [.null, .null, .null, .null, .null, .null, .null, .int 0, .int 0, .int 0] (by decide +kernel) (Nat.le_of_ble_eq_true rfl) (Nat.le_of_ble_eq_true rfl) dX4_init_38 (fun q13 => [(h0, .inr (4, [.ref q1, .ref q0, .ref q11, .null, .int 0, .int 0, .int 0])), (q0, .inr (2, [.ref q1, .ref q7, .ref q8, .ref q9, .ref q10, .int 0, .int 0, .int 0])), (q1, .inr (3, [.ref q2, .ref q3, .ref q4, .ref q5, .ref q6, .int 0, .int 0, .int 0, .int 0])), (q2, .inl (cA, 8, .inl (fun _ => 0))), (q3, .inl (cA, 8, .inl (fun _ => 0))), (q4, .inl (cA, 8, .inl (fun _ => 0))), (q5, .inl (cA, 8, .inl (fun _ => 0))), (q6, .inl (cA, 8, .inl (fun _ => 0))), (q7, .inl (cA, 8, .inl (fun _ => 0))), (q8, .inl (cA, 8, .inl (fun _ => 0))), (q9, .inl (cA, 8, .inl (fun _ => 0))), (q10, .inl (cA, 8, .inl (fun _ => 0))), (q11, .inr (0, [.ref q12, .int 0, .int 0, .int 0])), (q12, .inl (cA, 4, .inl (fun _ => 0))), (q13, .inr (1, [.null, .null, .null, .null, .null, .null, .null, .int 0, .int 0, .int 0]))]) (fun _ => rfl) (fun q13 hD => ?_)
  refine ww_dup hx hb dX4_init_41 rfl ?_
  refine ww_callI hx hb hml hown hts hK hN hA [(h0, .inr (4, [.ref q1, .ref q0, .ref q11, .null, .int 0, .int 0, .int 0])), (q0, .inr (2, [.ref q1, .ref q7, .ref q8, .ref q9, .ref q10, .int 0, .int 0, .int 0])), (q1, .inr (3, [.ref q2, .ref q3, .ref q4, .ref q5, .ref q6, .int 0, .int 0, .int 0, .int 0])), (q2, .inl (cA, 8, .inl (fun _ => 0))), (q3, .inl (cA, 8, .inl (fun _ => 0))), (q4, .inl (cA, 8, .inl (fun _ => 0))), (q5, .inl (cA, 8, .inl (fun _ => 0))), (q6, .inl (cA, 8, .inl (fun _ => 0))), (q7, .inl (cA, 8, .inl (fun _ => 0))), (q8, .inl (cA, 8, .inl (fun _ => 0))), (q9, .inl (cA, 8, .inl (fun _ => 0))), (q10, .inl (cA, 8, .inl (fun _ => 0))), (q11, .inr (0, [.ref q12, .int 0, .int 0, .int 0])), (q12, .inl (cA, 4, .inl (fun _ => 0)))] (m_X1_init q13) cs_X4_30 (by decide) ⟨Nat.le_of_ble_eq_true rfl, Nat.le_of_ble_eq_true rfl⟩ rfl hD (Nat.le_of_ble_eq_true rfl) dX4_init_42 (fun w1 hw1 hD => ?_)
  obtain ⟨q14, q15, q16, q17, q18, q19, q20, rfl⟩ := hw1
  refine ww_eq (ws1 := [(h0, .inr (4, [.ref q1, .ref q0, .ref q11, .null, .int 0, .int 0, .int 0])), (q0, .inr (2, [.ref q1, .ref q7, .ref q8, .ref q9, .ref q10, .int 0, .int 0, .int 0])), (q1, .inr (3, [.ref q2, .ref q3, .ref q4, .ref q5, .ref q6, .int 0, .int 0, .int 0, .int 0])), (q2, .inl (cA, 8, .inl (fun _ => 0))), (q3, .inl (cA, 8, .inl (fun _ => 0))), (q4, .inl (cA, 8, .inl (fun _ => 0))), (q5, .inl (cA, 8, .inl (fun _ => 0))), (q6, .inl (cA, 8, .inl (fun _ => 0))), (q7, .inl (cA, 8, .inl (fun _ => 0))), (q8, .inl (cA, 8, .inl (fun _ => 0))), (q9, .inl (cA, 8, .inl (fun _ => 0))), (q10, .inl (cA, 8, .inl (fun _ => 0))), (q11, .inr (0, [.ref q12, .int 0, .int 0, .int 0])), (q12, .inl (cA, 4, .inl (fun _ => 0))), (q13, .inr (1, [.ref q14, .ref q15, .ref q16, .ref q17, .ref q18, .ref q19, .ref q20, .int 0, .int 0, .int 0])), (q14, .inl (cA, 10, .inl (fun _ => 0))), (q15, .inl (cA, 10, .inl (fun _ => 0))), (q16, .inl (cA, 12, .inl (fun _ => 0))), (q17, .inl (cA, 12, .inl (fun _ => 0))), (q18, .inl (cA, 12, .inl (fun _ => 0))), (q19, .inl (cA, 12, .inl (fun _ => 0))), (q20, .inl (cA, 6, .inl (fun _ => 0)))]) rfl ?_
  have hD : va_D _ [(h0, .inr (4, [.ref q1, .ref q0, .ref q11, .null, .int 0, .int 0, .int 0])), (q0, .inr (2, [.ref q1, .ref q7, .ref q8, .ref q9, .ref q10, .int 0, .int 0, .int 0])), (q1, .inr (3, [.ref q2, .ref q3, .ref q4, .ref q5, .ref q6, .int 0, .int 0, .int 0, .int 0])), (q2, .inl (cA, 8, .inl (fun _ => 0))), (q3, .inl (cA, 8, .inl (fun _ => 0))), (q4, .inl (cA, 8, .inl (fun _ => 0))), (q5, .inl (cA, 8, .inl (fun _ => 0))), (q6, .inl (cA, 8, .inl (fun _ => 0))), (q7, .inl (cA, 8, .inl (fun _ => 0))), (q8, .inl (cA, 8, .inl (fun _ => 0))), (q9, .inl (cA, 8, .inl (fun _ => 0))), (q10, .inl (cA, 8, .inl (fun _ => 0))), (q11, .inr (0, [.ref q12, .int 0, .int 0, .int 0])), (q12, .inl (cA, 4, .inl (fun _ => 0))), (q13, .inr (1, [.ref q14, .ref q15, .ref q16, .ref q17, .ref q18, .ref q19, .ref q20, .int 0, .int 0, .int 0])), (q14, .inl (cA, 10, .inl (fun _ => 0))), (q15, .inl (cA, 10, .inl (fun _ => 0))), (q16, .inl (cA, 12, .inl (fun _ => 0))), (q17, .inl (cA, 12, .inl (fun _ => 0))), (q18, .inl (cA, 12, .inl (fun _ => 0))), (q19, .inl (cA, 12, .inl (fun _ => 0))), (q20, .inl (cA, 6, .inl (fun _ => 0)))] := hD
  refine ww_putF (C := RX4) (T := TX4) (N := 7) (ty := (.object "Scripthouse$Layers")) (ws1 := [(h0, .inr (4, [.ref q1, .ref q0, .ref q11, .ref q13, .int 0, .int 0, .int 0])), (q0, .inr (2, [.ref q1, .ref q7, .ref q8, .ref q9, .ref q10, .int 0, .int 0, .int 0])), (q1, .inr (3, [.ref q2, .ref q3, .ref q4, .ref q5, .ref q6, .int 0, .int 0, .int 0, .int 0])), (q2, .inl (cA, 8, .inl (fun _ => 0))), (q3, .inl (cA, 8, .inl (fun _ => 0))), (q4, .inl (cA, 8, .inl (fun _ => 0))), (q5, .inl (cA, 8, .inl (fun _ => 0))), (q6, .inl (cA, 8, .inl (fun _ => 0))), (q7, .inl (cA, 8, .inl (fun _ => 0))), (q8, .inl (cA, 8, .inl (fun _ => 0))), (q9, .inl (cA, 8, .inl (fun _ => 0))), (q10, .inl (cA, 8, .inl (fun _ => 0))), (q11, .inr (0, [.ref q12, .int 0, .int 0, .int 0])), (q12, .inl (cA, 4, .inl (fun _ => 0))), (q13, .inr (1, [.ref q14, .ref q15, .ref q16, .ref q17, .ref q18, .ref q19, .ref q20, .int 0, .int 0, .int 0])), (q14, .inl (cA, 10, .inl (fun _ => 0))), (q15, .inl (cA, 10, .inl (fun _ => 0))), (q16, .inl (cA, 12, .inl (fun _ => 0))), (q17, .inl (cA, 12, .inl (fun _ => 0))), (q18, .inl (cA, 12, .inl (fun _ => 0))), (q19, .inl (cA, 12, .inl (fun _ => 0))), (q20, .inl (cA, 6, .inl (fun _ => 0)))]) hx hb hown hts hK inA4 tyX4 tyX4_ok nmX4 hD 0 rfl rfl 3 (by decide) kw_201 rfl rfl hin rfl rfl rfl rfl (Nat.le_of_ble_eq_true rfl) dX4_init_45 rfl (fun hD => ?_)
  refine ww_aload_n hx hb dX4_init_48 rfl 0 rfl ?_
  refine ww_bipush (v := 100) hx hb dX4_init_49 (by decide) ?_
  refine ww_put (C := RX4) (T := TX4) (N := 7) (ty := .int) (ws1 := [(h0, .inr (4, [.ref q1, .ref q0, .ref q11, .ref q13, .int 100, .int 0, .int 0])), (q0, .inr (2, [.ref q1, .ref q7, .ref q8, .ref q9, .ref q10, .int 0, .int 0, .int 0])), (q1, .inr (3, [.ref q2, .ref q3, .ref q4, .ref q5, .ref q6, .int 0, .int 0, .int 0, .int 0])), (q2, .inl (cA, 8, .inl (fun _ => 0))), (q3, .inl (cA, 8, .inl (fun _ => 0))), (q4, .inl (cA, 8, .inl (fun _ => 0))), (q5, .inl (cA, 8, .inl (fun _ => 0))), (q6, .inl (cA, 8, .inl (fun _ => 0))), (q7, .inl (cA, 8, .inl (fun _ => 0))), (q8, .inl (cA, 8, .inl (fun _ => 0))), (q9, .inl (cA, 8, .inl (fun _ => 0))), (q10, .inl (cA, 8, .inl (fun _ => 0))), (q11, .inr (0, [.ref q12, .int 0, .int 0, .int 0])), (q12, .inl (cA, 4, .inl (fun _ => 0))), (q13, .inr (1, [.ref q14, .ref q15, .ref q16, .ref q17, .ref q18, .ref q19, .ref q20, .int 0, .int 0, .int 0])), (q14, .inl (cA, 10, .inl (fun _ => 0))), (q15, .inl (cA, 10, .inl (fun _ => 0))), (q16, .inl (cA, 12, .inl (fun _ => 0))), (q17, .inl (cA, 12, .inl (fun _ => 0))), (q18, .inl (cA, 12, .inl (fun _ => 0))), (q19, .inl (cA, 12, .inl (fun _ => 0))), (q20, .inl (cA, 6, .inl (fun _ => 0)))]) hx hb hown hts hK inA4 tyX4 tyX4_ok nmX4 hD 0 rfl rfl 4 (by decide) kw_44 rfl rfl rfl rfl rfl (Nat.le_of_ble_eq_true rfl) dX4_init_51 rfl ?_
  have hD : va_D _ [(h0, .inr (4, [.ref q1, .ref q0, .ref q11, .ref q13, .int 100, .int 0, .int 0])), (q0, .inr (2, [.ref q1, .ref q7, .ref q8, .ref q9, .ref q10, .int 0, .int 0, .int 0])), (q1, .inr (3, [.ref q2, .ref q3, .ref q4, .ref q5, .ref q6, .int 0, .int 0, .int 0, .int 0])), (q2, .inl (cA, 8, .inl (fun _ => 0))), (q3, .inl (cA, 8, .inl (fun _ => 0))), (q4, .inl (cA, 8, .inl (fun _ => 0))), (q5, .inl (cA, 8, .inl (fun _ => 0))), (q6, .inl (cA, 8, .inl (fun _ => 0))), (q7, .inl (cA, 8, .inl (fun _ => 0))), (q8, .inl (cA, 8, .inl (fun _ => 0))), (q9, .inl (cA, 8, .inl (fun _ => 0))), (q10, .inl (cA, 8, .inl (fun _ => 0))), (q11, .inr (0, [.ref q12, .int 0, .int 0, .int 0])), (q12, .inl (cA, 4, .inl (fun _ => 0))), (q13, .inr (1, [.ref q14, .ref q15, .ref q16, .ref q17, .ref q18, .ref q19, .ref q20, .int 0, .int 0, .int 0])), (q14, .inl (cA, 10, .inl (fun _ => 0))), (q15, .inl (cA, 10, .inl (fun _ => 0))), (q16, .inl (cA, 12, .inl (fun _ => 0))), (q17, .inl (cA, 12, .inl (fun _ => 0))), (q18, .inl (cA, 12, .inl (fun _ => 0))), (q19, .inl (cA, 12, .inl (fun _ => 0))), (q20, .inl (cA, 6, .inl (fun _ => 0)))] := hD.adr rfl
  refine ww_aload_n hx hb dX4_init_54 rfl 0 rfl ?_
  refine ww_bipush (v := 50) hx hb dX4_init_55 (by decide) ?_
  refine ww_put (C := RX4) (T := TX4) (N := 7) (ty := .int) (ws1 := [(h0, .inr (4, [.ref q1, .ref q0, .ref q11, .ref q13, .int 100, .int 50, .int 0])), (q0, .inr (2, [.ref q1, .ref q7, .ref q8, .ref q9, .ref q10, .int 0, .int 0, .int 0])), (q1, .inr (3, [.ref q2, .ref q3, .ref q4, .ref q5, .ref q6, .int 0, .int 0, .int 0, .int 0])), (q2, .inl (cA, 8, .inl (fun _ => 0))), (q3, .inl (cA, 8, .inl (fun _ => 0))), (q4, .inl (cA, 8, .inl (fun _ => 0))), (q5, .inl (cA, 8, .inl (fun _ => 0))), (q6, .inl (cA, 8, .inl (fun _ => 0))), (q7, .inl (cA, 8, .inl (fun _ => 0))), (q8, .inl (cA, 8, .inl (fun _ => 0))), (q9, .inl (cA, 8, .inl (fun _ => 0))), (q10, .inl (cA, 8, .inl (fun _ => 0))), (q11, .inr (0, [.ref q12, .int 0, .int 0, .int 0])), (q12, .inl (cA, 4, .inl (fun _ => 0))), (q13, .inr (1, [.ref q14, .ref q15, .ref q16, .ref q17, .ref q18, .ref q19, .ref q20, .int 0, .int 0, .int 0])), (q14, .inl (cA, 10, .inl (fun _ => 0))), (q15, .inl (cA, 10, .inl (fun _ => 0))), (q16, .inl (cA, 12, .inl (fun _ => 0))), (q17, .inl (cA, 12, .inl (fun _ => 0))), (q18, .inl (cA, 12, .inl (fun _ => 0))), (q19, .inl (cA, 12, .inl (fun _ => 0))), (q20, .inl (cA, 6, .inl (fun _ => 0)))]) hx hb hown hts hK inA4 tyX4 tyX4_ok nmX4 hD 0 rfl rfl 5 (by decide) kw_45 rfl rfl rfl rfl rfl (Nat.le_of_ble_eq_true rfl) dX4_init_57 rfl ?_
  have hD : va_D _ [(h0, .inr (4, [.ref q1, .ref q0, .ref q11, .ref q13, .int 100, .int 50, .int 0])), (q0, .inr (2, [.ref q1, .ref q7, .ref q8, .ref q9, .ref q10, .int 0, .int 0, .int 0])), (q1, .inr (3, [.ref q2, .ref q3, .ref q4, .ref q5, .ref q6, .int 0, .int 0, .int 0, .int 0])), (q2, .inl (cA, 8, .inl (fun _ => 0))), (q3, .inl (cA, 8, .inl (fun _ => 0))), (q4, .inl (cA, 8, .inl (fun _ => 0))), (q5, .inl (cA, 8, .inl (fun _ => 0))), (q6, .inl (cA, 8, .inl (fun _ => 0))), (q7, .inl (cA, 8, .inl (fun _ => 0))), (q8, .inl (cA, 8, .inl (fun _ => 0))), (q9, .inl (cA, 8, .inl (fun _ => 0))), (q10, .inl (cA, 8, .inl (fun _ => 0))), (q11, .inr (0, [.ref q12, .int 0, .int 0, .int 0])), (q12, .inl (cA, 4, .inl (fun _ => 0))), (q13, .inr (1, [.ref q14, .ref q15, .ref q16, .ref q17, .ref q18, .ref q19, .ref q20, .int 0, .int 0, .int 0])), (q14, .inl (cA, 10, .inl (fun _ => 0))), (q15, .inl (cA, 10, .inl (fun _ => 0))), (q16, .inl (cA, 12, .inl (fun _ => 0))), (q17, .inl (cA, 12, .inl (fun _ => 0))), (q18, .inl (cA, 12, .inl (fun _ => 0))), (q19, .inl (cA, 12, .inl (fun _ => 0))), (q20, .inl (cA, 6, .inl (fun _ => 0)))] := hD.adr rfl
  exact ww_vretI hx hb hr hlk hD ⟨q0, q1, q2, q3, q4, q5, q6, q7, q8, q9, q10, q11, q12, q13, q14, q15, q16, q17, q18, q19, q20, rfl⟩ dX4_init_60
end
end
