section
-- ===== PART A: goes FIRST, ahead of the names: the tables' words, and 'selects' of the private methods out of them =====
/-- a private method of a class that the tables say can be made, by its rows of tables_1 -/
def lw_okq (q : MethodName × Nat) : Prop := (q.1.cls ≠ "java/lang/invoke/MethodHandle" ∧ q.1.cls ≠ "java/lang/invoke/VarHandle") ∧ Cond.instantiable q.1.cls q.2 ∈ tables_1 ∧ Cond.privateMethod q.1 ∈ tables_1 ∧ Cond.instanceMethod q.1 ∈ tables_1
theorem lw_p0 : lw_okq (⟨"java/lang/Throwable", "fillInStackTrace", "(I)Ljava/lang/Throwable;"⟩, 6) := ⟨⟨by decide +kernel, by decide +kernel⟩, List.mem_of_getElem? (i := 373) (by decide +kernel), List.mem_of_getElem? (i := 371) (by decide +kernel), List.mem_of_getElem? (i := 372) (by decide +kernel)⟩
theorem lw_p1 : lw_okq (⟨"ScripthouseModel", "plans", "()V"⟩, 36) := ⟨⟨by decide +kernel, by decide +kernel⟩, List.mem_of_getElem? (i := 637) (by decide +kernel), List.mem_of_getElem? (i := 789) (by decide +kernel), List.mem_of_getElem? (i := 790) (by decide +kernel)⟩
theorem lw_p2 : lw_okq (⟨"ScripthouseModel", "finds", "()V"⟩, 36) := ⟨⟨by decide +kernel, by decide +kernel⟩, List.mem_of_getElem? (i := 637) (by decide +kernel), List.mem_of_getElem? (i := 793) (by decide +kernel), List.mem_of_getElem? (i := 794) (by decide +kernel)⟩
theorem lw_p3 : lw_okq (⟨"ScripthouseModel", "may", "(I)Z"⟩, 36) := ⟨⟨by decide +kernel, by decide +kernel⟩, List.mem_of_getElem? (i := 637) (by decide +kernel), List.mem_of_getElem? (i := 798) (by decide +kernel), List.mem_of_getElem? (i := 799) (by decide +kernel)⟩
theorem lw_p4 : lw_okq (⟨"ScripthouseModel", "begin", "(I)I"⟩, 36) := ⟨⟨by decide +kernel, by decide +kernel⟩, List.mem_of_getElem? (i := 637) (by decide +kernel), List.mem_of_getElem? (i := 802) (by decide +kernel), List.mem_of_getElem? (i := 803) (by decide +kernel)⟩
theorem lw_p5 : lw_okq (⟨"ScripthouseModel", "rested", "(III)I"⟩, 36) := ⟨⟨by decide +kernel, by decide +kernel⟩, List.mem_of_getElem? (i := 637) (by decide +kernel), List.mem_of_getElem? (i := 806) (by decide +kernel), List.mem_of_getElem? (i := 807) (by decide +kernel)⟩
theorem lw_p6 : lw_okq (⟨"ScripthouseModel", "isTooLong", "(III)Z"⟩, 36) := ⟨⟨by decide +kernel, by decide +kernel⟩, List.mem_of_getElem? (i := 637) (by decide +kernel), List.mem_of_getElem? (i := 810) (by decide +kernel), List.mem_of_getElem? (i := 811) (by decide +kernel)⟩
theorem lw_p7 : lw_okq (⟨"ScripthouseModel", "plays", "(III)I"⟩, 36) := ⟨⟨by decide +kernel, by decide +kernel⟩, List.mem_of_getElem? (i := 637) (by decide +kernel), List.mem_of_getElem? (i := 814) (by decide +kernel), List.mem_of_getElem? (i := 815) (by decide +kernel)⟩
theorem lw_p8 : lw_okq (⟨"ScripthouseModel", "keeps", "()V"⟩, 36) := ⟨⟨by decide +kernel, by decide +kernel⟩, List.mem_of_getElem? (i := 637) (by decide +kernel), List.mem_of_getElem? (i := 818) (by decide +kernel), List.mem_of_getElem? (i := 819) (by decide +kernel)⟩
theorem lw_p9 : lw_okq (⟨"ScripthouseModel", "lacks", "(II)I"⟩, 36) := ⟨⟨by decide +kernel, by decide +kernel⟩, List.mem_of_getElem? (i := 637) (by decide +kernel), List.mem_of_getElem? (i := 822) (by decide +kernel), List.mem_of_getElem? (i := 823) (by decide +kernel)⟩
theorem lw_p10 : lw_okq (⟨"ScripthouseModel", "pays", "(II)V"⟩, 36) := ⟨⟨by decide +kernel, by decide +kernel⟩, List.mem_of_getElem? (i := 637) (by decide +kernel), List.mem_of_getElem? (i := 826) (by decide +kernel), List.mem_of_getElem? (i := 827) (by decide +kernel)⟩
theorem lw_p11 : lw_okq (⟨"ScripthouseModel", "isLine", "(I)Z"⟩, 36) := ⟨⟨by decide +kernel, by decide +kernel⟩, List.mem_of_getElem? (i := 637) (by decide +kernel), List.mem_of_getElem? (i := 886) (by decide +kernel), List.mem_of_getElem? (i := 887) (by decide +kernel)⟩
def lw_privs_1 : List (MethodName × Nat) := [(⟨"java/lang/Throwable", "fillInStackTrace", "(I)Ljava/lang/Throwable;"⟩, 6), (⟨"ScripthouseModel", "plans", "()V"⟩, 36), (⟨"ScripthouseModel", "finds", "()V"⟩, 36), (⟨"ScripthouseModel", "may", "(I)Z"⟩, 36), (⟨"ScripthouseModel", "begin", "(I)I"⟩, 36), (⟨"ScripthouseModel", "rested", "(III)I"⟩, 36), (⟨"ScripthouseModel", "isTooLong", "(III)Z"⟩, 36), (⟨"ScripthouseModel", "plays", "(III)I"⟩, 36), (⟨"ScripthouseModel", "keeps", "()V"⟩, 36), (⟨"ScripthouseModel", "lacks", "(II)I"⟩, 36), (⟨"ScripthouseModel", "pays", "(II)V"⟩, 36), (⟨"ScripthouseModel", "isLine", "(I)Z"⟩, 36)]
theorem lw_r1 : ∀ q ∈ lw_privs_1, lw_okq q := List.forall_mem_cons.mpr ⟨lw_p0, List.forall_mem_cons.mpr ⟨lw_p1, List.forall_mem_cons.mpr ⟨lw_p2, List.forall_mem_cons.mpr ⟨lw_p3, List.forall_mem_cons.mpr ⟨lw_p4, List.forall_mem_cons.mpr ⟨lw_p5, List.forall_mem_cons.mpr ⟨lw_p6, List.forall_mem_cons.mpr ⟨lw_p7, List.forall_mem_cons.mpr ⟨lw_p8, List.forall_mem_cons.mpr ⟨lw_p9, List.forall_mem_cons.mpr ⟨lw_p10, List.forall_mem_cons.mpr ⟨lw_p11, fun _ h => absurd h List.not_mem_nil⟩⟩⟩⟩⟩⟩⟩⟩⟩⟩⟩⟩
def lw_privs : List (MethodName × Nat) := lw_privs_1
def lw_tbl : List Cond := k2_sels lw_privs ++ tables_1
theorem lw_privs_ok : ∀ q ∈ lw_privs, lw_okq q := lw_r1
-- ===== end of PART A; then your names; then what follows =====
end
section
/-! ===== BEGIN words of one list among another's, by their places ===== -/
theorem goodIn_r {big : List Cond} (ws : List Cond) (ps : List Nat) (hp : ws = ps.filterMap (fun i => big[i]?)) (h : ws.all goodWord = true) : GoodIn big ws := by
  intro w hw
  have h1 := List.all_eq_true.mp h w hw
  rw [hp] at hw
  obtain ⟨i, -, hi⟩ := List.mem_filterMap.mp hw
  have hm : w ∈ big := by first | exact List.mem_of_getElem? hi | exact List.getElem?_mem hi
  exact ⟨hm, good_of_word h1⟩
theorem goodIn_app {big a b : List Cond} (ha : GoodIn big a) (hb : GoodIn big b) : GoodIn big (a ++ b) := fun w h => (List.mem_append.mp h).elim (ha w) (hb w)
theorem goodIn_ca {big a b : List Cond} {c : Cond} (ha : GoodIn big (c :: a)) (hb : GoodIn big b) : GoodIn big (c :: (a ++ b)) := fun w h => (List.mem_cons.mp h).elim (fun e => ha w (List.mem_cons.mpr (Or.inl e))) (fun h => (List.mem_append.mp h).elim (fun h => ha w (List.mem_cons.mpr (Or.inr h))) (hb w))
theorem goodIn_sub {big ws : List Cond} (hm : ∀ w ∈ ws, w ∈ big) (h : ws.all goodWord = true) : GoodIn big ws := fun w hw => ⟨hm w hw, good_of_word (List.all_eq_true.mp h w hw)⟩
/-! ===== END ===== -/

/-! ===== BEGIN exceptions that leave a method, and their catching by the caller (launches without stack traces) ===== -/
section VXA
/-! The laws vx_back, vx_callV, vx_callS, vx_callSW, vx_throw0, vx_throwS follow proofs of the library, with one case more: JvmDerived/Free/Laws.lean (Back.of_free), Shelf42/LK1.lean (callV, callS), Shelf/KitTraced.lean (throwNew0V, throwNewS). -/
/-- where a method has thrown q: the class by its name, the cell, what was written, the world -/
def vx_T (XC : String → State → State → Prop) (st : State) (q : Addr) (t : State) (mc ms : Nat) (free : Addr → Prop) : Prop :=
  ∃ (E : String) (ce : Cell) (L : List Loc), XC E st t ∧ t.heap[q]? = some ce ∧ ce.vm = .none ∧ st.vm.findClass E = some ce.cls ∧ st.WarmedH t.vm ∧ st.sameButNew ({ t with vm := st.vm } : State) L mc ms ∧ ∀ z ∈ L, free z.base
def vx_Q (Qc : Array Value → State → Outcome → State → Prop) (XC : String → State → State → Prop) (mc ms : Nat) (free : Addr → Prop) : Array Value → State → Outcome → State → Prop := fun a st o t =>
  (Qc a st o t ∧ ∃ L, FrameEnd st o t L mc ms ∧ ∀ q ∈ L, free q.base) ∨ ∃ q, o = .threw q ∧ vx_T XC st q t mc ms free
/-- a callee that returns or throws -/
def vx_Met (l : Launch) (y : MethodName) (ws : List Cond) (rm : Room) (Pc : Array Value → State → Prop) (Qc : Array Value → State → Outcome → State → Prop) (XC : String → State → State → Prop) (mc ms : Nat) (free : Addr → Prop) : Prop :=
  MetFree l y (headSpec ws rm) Pc (fun _ _ _ _ _ => True) (vx_Q Qc XC mc ms free)
def vx_Post (XC : String → State → State → Prop) (mc ms : Nat) (free : Addr → Prop) : Pt → Array Value → Addr → Pt → Prop := fun A a q B =>
  ∃ (g : JFrame) (mk : MethodId) (t : State) (L : List Loc) (E : String) (ce : Cell), B.U.heap = t.heap ∧ B.U.vm = t.vm ∧ XC E (A.U.calling g mk a) t ∧ t.heap[q]? = some ce ∧ ce.vm = .none ∧ A.U.vm.findClass E = some ce.cls ∧ B.locs = A.locs ++ L ∧ (∀ z ∈ L, free z.base) ∧ B.cells = A.cells + mc ∧ B.slots = A.slots + ms
def vx_Back (l : Launch) (R : Room) (p : Program) (e : Env) (below : List Frame) (s : State) (sargs : Array Value) (y : MethodName) (len W9 : Nat)
    (Pre : Pt → Array Value → Prop) (Post : Pt → Array Value → Option Value → Pt → Prop) (PostX : Pt → Array Value → Addr → Pt → Prop) : Prop :=
  ∀ (m : MethodId) (meth : Method) (c : Code) (A : Pt) (g : JFrame) (ig : Instr) (mk : MethodId) (a : Array Value),
    Stand p l e R s m sargs below meth c A.U A.locs A.cells A.slots → g.method = m → g.locals.size = c.maxLocals → decode c.code g.pc = .ok (ig, len) →
    2 * g.monitorRoom + (g.stack.map fun v => v.category).sum ≤ W9 → A.U.methodNamed? y = some mk → Pre A a →
    (∃ (v : Option Value) (B : Pt), Stand p l e R s m sargs below meth c B.U B.locs B.cells B.slots ∧ Post A a v B ∧
      Steps p.tables e below (doInvoke e (A.U.setTop g) [] mk a).1 (B.U.setTop { g with pc := g.pc + len, stack := v.toList ++ g.stack })) ∨
    (∃ (q : Addr) (B : Pt), Stand p l e R s m sargs below meth c B.U B.locs B.cells B.slots ∧ PostX A a q B ∧
      Steps p.tables e below (doInvoke e (A.U.setTop g) [] mk a).1 ((B.U.setTop g).pushFrame (.throwing q)))
section Payer
variable {l : Launch} {R : Room} {p : Program} {e : Env} {below : List Frame} {s : State} {sargs : Array Value} {y : MethodName} {len W9 : Nat}
theorem vx_back {ws : List Cond} {rm : Room} {Pc : Array Value → State → Prop} {Qc : Array Value → State → Outcome → State → Prop} {XC : String → State → State → Prop} {mc ms : Nat} {free : Addr → Prop} {bytes : ByteArray} {maxL : Nat} {ret : Option FieldType}
    (hM : vx_Met l y ws rm Pc Qc XC mc ms free) (hblind : FrameBlind Pc) (hrc : rm.cells = mc) (hrs : rm.slots = ms)
    (hframes : rm.frames + 1 ≤ R.frames) (hlocals : W9 + (maxL + 11) + rm.locals ≤ R.locals)
    (hws : ∀ w ∈ ws, ∀ a' U, s.WarmedH U.vm → w.before a' U = true) (hcode : Cond.code y bytes maxL ret ∈ ws) (hinit : ∀ a' U, s.WarmedH U.vm → (Cond.initialized y.cls).before a' U = true) :
    vx_Back l R p e below s sargs y len W9 (PreOf R mc ms Pc) (PostOf Qc mc ms free) (vx_Post XC mc ms free) := by
  intro m meth c A g ig mk a X hg hsize hdg hW hn hp
  have h1 : (headSpec ws rm).pre.before a A.U = true := atoms_intro fun w hw => hws w hw _ _ X.warmed
  have h2 : (Cond.code y bytes maxL ret).before a A.U = true := hws _ hcode _ _ X.warmed
  have h3 : (Cond.initialized y.cls).before a A.U = true := hinit _ _ X.warmed
  have h4 : A.cells + (headSpec ws rm).room.cells ≤ R.cells := by rw [show (headSpec ws rm).room.cells = mc from hrc]; exact hp.1
  have h5 : A.slots + (headSpec ws rm).room.slots ≤ R.slots := by rw [show (headSpec ws rm).room.slots = ms from hrs]; exact hp.2.1
  have hPc : Pc a (A.U.calling g mk a) := hblind _ _ _ _ hp.2.2
  obtain ⟨U, Ls, c0, s0⟩ := A
  dsimp only [Pt.U, Pt.locs, Pt.cells, Pt.slots] at h1 h2 h3 h4 h5 X hn hPc ⊢
  obtain ⟨methY, cY, hmY, hcY, -, hlY, -, -, -, -⟩ := Cond.code_spec hn h2
  obtain ⟨kY, hkY, -⟩ := className_of_methodNamed hn
  have hinitY : kY.init = .initialized := Cond.initialized_spec (findClass_of_methodNamed hn) hkY h3
  have h : At U g.method c below := by rw [hg]; exact X.here
  have hlocals9 : W9 + (maxL + 11) + (headSpec ws rm).room.locals ≤ R.locals := hlocals
  have happ : (headSpec ws rm).appliesLoose y e.platform (U.calling g mk a) = true :=
    Spec.appliesLoose_calling (g := g) h hdg hn hkY hinitY
      (X.room_calling (g := g) (R' := (headSpec ws rm).room) hsize hmY hcY hframes (by rw [hlY]; omega) h4 h5) h1
  obtain ⟨mid, hmid⟩ := h.above
  have hfr : (U.setTop g).frames = (.java g :: mid) ++ below := by rw [State.frames_setTop' g h.top, hmid]; rfl
  obtain ⟨o, s₂, hsteps, -, hend, hq⟩ := Steps.callFree hM p X.admits X.cas X.clock (acts := []) hfr happ hPc trivial
  have hq' : vx_Q Qc XC mc ms free a (U.calling g mk a) o s₂ := hq
  rw [State.frames_setTop' g h.top] at hend
  obtain ⟨g₀, hg0⟩ := Option.isSome_iff_exists.mp h.top
  obtain ⟨r, hr⟩ := State.topJava?_eq_some.mp hg0
  have hr' : (({ U with heap := s₂.heap, slotsUsed := s₂.slotsUsed } : State).setVm s₂.vm).frames = .java g₀ :: r := hr
  rcases hq' with ⟨hqc, L, hfe, hL⟩ | ⟨q, rfl, E, ce, L, hx, hce, hcv, hcl, hW₂, hsm, hL⟩
  · obtain ⟨⟨v, rfl⟩, hW₂, e2, q2, q3, q4, q5, q6⟩ := id hfe
    have e3 : s₂ = ({ (U.calling g mk a).setFrames s₂.frames with heap := s₂.heap, slotsUsed := s₂.slotsUsed } : State).setVm s₂.vm := by
      have : s₂ = ({ s₂ with vm := (U.calling g mk a).vm } : State).setVm s₂.vm := rfl
      rw [e2] at this
      exact this
    obtain ⟨c₂, i₂, len₂, hc₂, hd₂, hf₂⟩ := hend
    have hW' : U.WarmedH s₂.vm := hW₂
    have hcc : c₂ = c := by
      have h1 : s₂.code? g.method = U.code? g.method := by
        rw [State.code?_eq, State.code?_eq, hW'.alike.method?]
      exact Option.some.inj (hc₂.symm.trans (h1.trans h.code))
    subst hcc
    have hlen : len₂ = len := by rw [hdg] at hd₂; cases hd₂; rfl
    subst hlen
    have hs₂ : s₂ = (({ U with heap := s₂.heap, slotsUsed := s₂.slotsUsed } : State).setVm s₂.vm).setTop { g with pc := g.pc + len₂, stack := v.toList ++ g.stack } := by
      refine e3.trans ?_
      rw [hf₂, State.calling_eq h.top, State.setFrames_setFrames, State.setTop_of_frames _ hr', hr]
      rfl
    have hsame : U.sameButNew ({ U with heap := s₂.heap, slotsUsed := s₂.slotsUsed } : State) L mc ms := by
      refine ⟨?_, q2, q3, q4, q5, q6⟩
      obtain ⟨t, ht, -⟩ := State.frames_cons hr
      show ({ U with heap := s₂.heap, slotsUsed := s₂.slotsUsed } : State) = { U.setFrames U.frames with heap := s₂.heap, slotsUsed := s₂.slotsUsed }
      rw [State.setFrames_self ht]
    subst hg
    refine Or.inl ⟨v, ⟨(({ U with heap := s₂.heap, slotsUsed := s₂.slotsUsed } : State).setVm s₂.vm), Ls ++ L, c0 + mc, s0 + ms⟩,
      ⟨X.admits, X.cas, X.clock, X.frames, X.room, X.hears, X.method, X.code, (X.here.setHeapUsed s₂.heap s₂.slotsUsed).setVm hW'.alike, X.tail, State.WarmedH.trans X.warmed hW', X.limits, X.bytes, X.same.trans (hsame.setVm s.vm)⟩,
      ⟨g, mk, s₂, L, rfl, rfl, hqc, rfl, hL, rfl, rfl⟩, ?_⟩
    show Steps p.tables e below _ ((({ U with heap := s₂.heap, slotsUsed := s₂.slotsUsed } : State).setVm s₂.vm).setTop { g with pc := g.pc + len₂, stack := v.toList ++ g.stack })
    rw [← hs₂]
    exact hsteps
  · obtain ⟨e2, q2, q3, q4, q5, q6⟩ := id hsm
    have e3 : s₂ = ({ (U.calling g mk a).setFrames s₂.frames with heap := s₂.heap, slotsUsed := s₂.slotsUsed } : State).setVm s₂.vm := by
      have : s₂ = ({ s₂ with vm := (U.calling g mk a).vm } : State).setVm s₂.vm := rfl
      rw [e2] at this
      exact this
    have hf₂ : s₂.frames = .throwing q :: .java g :: U.frames.tail := hend
    have hW' : U.WarmedH s₂.vm := hW₂
    have hs₂ : s₂ = ((({ U with heap := s₂.heap, slotsUsed := s₂.slotsUsed } : State).setVm s₂.vm).setTop g).pushFrame (.throwing q) := by
      refine e3.trans ?_
      rw [hf₂, State.calling_eq h.top, State.setFrames_setFrames, State.pushFrame, State.frames_setTop _ hr', State.setTop_of_frames _ hr', State.setFrames_setFrames, hr]
      rfl
    have hsame : U.sameButNew ({ U with heap := s₂.heap, slotsUsed := s₂.slotsUsed } : State) L mc ms := by
      refine ⟨?_, q2, q3, q4, q5, q6⟩
      obtain ⟨t, ht, -⟩ := State.frames_cons hr
      show ({ U with heap := s₂.heap, slotsUsed := s₂.slotsUsed } : State) = { U.setFrames U.frames with heap := s₂.heap, slotsUsed := s₂.slotsUsed }
      rw [State.setFrames_self ht]
    subst hg
    refine Or.inr ⟨q, ⟨(({ U with heap := s₂.heap, slotsUsed := s₂.slotsUsed } : State).setVm s₂.vm), Ls ++ L, c0 + mc, s0 + ms⟩,
      ⟨X.admits, X.cas, X.clock, X.frames, X.room, X.hears, X.method, X.code, (X.here.setHeapUsed s₂.heap s₂.slotsUsed).setVm hW'.alike, X.tail, State.WarmedH.trans X.warmed hW', X.limits, X.bytes, X.same.trans (hsame.setVm s.vm)⟩,
      ⟨g, mk, s₂, L, E, ce, rfl, rfl, hx, hce, hcv, hcl, rfl, hL, rfl, rfl⟩, ?_⟩
    show Steps p.tables e below _ (((({ U with heap := s₂.heap, slotsUsed := s₂.slotsUsed } : State).setVm s₂.vm).setTop g).pushFrame (.throwing q))
    rw [← hs₂]
    exact hsteps
end Payer
section Calls
variable {p : Program} {l : Launch} {e : Env} {R : Room} {s : State} {m : MethodId} {args : Array Value} {below : List Frame} {meth : Method} {c : Code} {T : State} {locs : List Loc} {cells slots : Nat}
theorem vx_callV (X : Stand p l e R s m args below meth c T locs cells slots) (hexec : p.tables.exec = Jvm.exec) {own C : String} {index : Nat} {y : MethodName} {bytes : ByteArray} {maxL : Nat} {ret : Option FieldType}
    (hown : s.vm.findClass own = some m.cls) (hlink : (Cond.methodLink own index y).before args s = true) (hinst : (Cond.instanceMethod y).before args s = true) (hsel : (Cond.selects C y y).before args s = true)
    (hcode : (Cond.code y bytes maxL ret).before args s = true) (hy : y.cls ≠ "java/lang/invoke/MethodHandle" ∧ y.cls ≠ "java/lang/invoke/VarHandle")
    {W9 : Nat} {Pre : Pt → Array Value → Prop} {Post : Pt → Array Value → Option Value → Pt → Prop} {PostX : Pt → Array Value → Addr → Pt → Prop} (hK : vx_Back l R p e below s args y 3 W9 Pre Post PostX)
    {b : Addr} {cellB : Cell} (hcell : T.heap[b]? = some cellB) (hobj : cellB.vm.isStatics = false) (hcls : s.vm.findClass C = some cellB.cls)
    {g : JFrame} (hg : g.method = m) (hsize : g.locals.size = c.maxLocals) {argsL rest : List Value} (hlen : ∀ sig, parseMethodDescriptor y.desc = some sig → argsL.length = sig.parameters.length)
    (hstack : g.stack = argsL.reverse ++ .ref b :: rest) (hW : 2 * g.monitorRoom + (rest.map fun v => v.category).sum ≤ W9) (hdg : decode c.code g.pc = .ok (.invokevirtual index, 3))
    (hpre : ∀ vm₁, s.WarmedH vm₁ → Pre ⟨T.setVm vm₁, locs, cells, slots⟩ (Value.ref b :: argsL).toArray) :
    (∃ (v : Option Value) (vm₁ : Vm) (B : Pt), s.WarmedH vm₁ ∧ Stand p l e R s m args below meth c B.U B.locs B.cells B.slots ∧ Post ⟨T.setVm vm₁, locs, cells, slots⟩ (Value.ref b :: argsL).toArray v B ∧
      ∀ target, Steps p.tables e below (B.U.setTop { g with pc := g.pc + 3, stack := v.toList ++ rest }) target → Steps p.tables e below (T.setTop g) target) ∨
    (∃ (q : Addr) (vm₁ : Vm) (B : Pt), s.WarmedH vm₁ ∧ Stand p l e R s m args below meth c B.U B.locs B.cells B.slots ∧ PostX ⟨T.setVm vm₁, locs, cells, slots⟩ (Value.ref b :: argsL).toArray q B ∧
      Steps p.tables e below (T.setTop g) ((B.U.setTop { g with stack := rest }).pushFrame (.throwing q))) := by
  obtain ⟨mk, methM, hnamed, hmethM, hstM, habM⟩ := Cond.instanceMethod_spec hinst
  obtain ⟨methM', cM, hmethM', -, -, -, -, -, -, hsigM⟩ := Cond.code_spec hnamed hcode
  cases hmethM.symm.trans hmethM'
  obtain ⟨c2, r2, m2, q1, q2, q3, q4, kP, hkP, hkPi⟩ := Cond.selects_spec hsel
  cases hcls.symm.trans q1
  cases (State.methodFound?_of_named hnamed hy).symm.trans q2
  cases hnamed.symm.trans q3
  have hselP : selectMethod e.platform s.vm cellB.cls mk = .method mk := by rw [Launch.admits_selectMethod X.admits]; exact q4
  obtain ⟨vm₁, X₁, hstep₁⟩ := X.invokevirtual hexec hown hlink hnamed hmethM hstM hkP hkPi hy (a := b) (cell := cellB) hcell
    (fun z h => by rw [h] at hobj; cases hobj) hselP hmethM habM hkP hkPi (g := g) hg (argsL := argsL) (rest := rest) (hlen _ hsigM) hstack hdg
  rcases hK m meth c ⟨T.setVm vm₁, locs, cells, slots⟩ { g with stack := rest } (.invokevirtual index) mk (Value.ref b :: argsL).toArray X₁ hg hsize hdg hW (X₁.named hnamed) (hpre vm₁ X₁.warmed) with ⟨v, B, X', hpost, hsteps⟩ | ⟨q, B, X', hpost, hsteps⟩
  · exact Or.inl ⟨v, vm₁, B, X₁.warmed, X', hpost, fun target h => hstep₁ _ fun acts => by rw [doInvoke_state]; exact hsteps.trans h⟩
  · exact Or.inr ⟨q, vm₁, B, X₁.warmed, X', hpost, hstep₁ _ fun acts => by rw [doInvoke_state]; exact hsteps⟩
theorem vx_callS (X : Stand p l e R s m args below meth c T locs cells slots) (hexec : p.tables.exec = Jvm.exec) {own : String} {index : Nat} {y : MethodName} {bytes : ByteArray} {maxL : Nat} {ret : Option FieldType}
    (hown : s.vm.findClass own = some m.cls) (hlink : (Cond.methodLink own index y).before args s = true) (hstat : (Cond.static y).before args s = true) (hinit : (Cond.initialized y.cls).before args s = true)
    (hcode : (Cond.code y bytes maxL ret).before args s = true) (hy : y.cls ≠ "java/lang/invoke/MethodHandle" ∧ y.cls ≠ "java/lang/invoke/VarHandle")
    {W9 : Nat} {Pre : Pt → Array Value → Prop} {Post : Pt → Array Value → Option Value → Pt → Prop} {PostX : Pt → Array Value → Addr → Pt → Prop} (hK : vx_Back l R p e below s args y 3 W9 Pre Post PostX)
    {g : JFrame} (hg : g.method = m) (hsize : g.locals.size = c.maxLocals) {argsL rest : List Value} (hlen : ∀ sig, parseMethodDescriptor y.desc = some sig → argsL.length = sig.parameters.length)
    (hstack : g.stack = argsL.reverse ++ rest) (hW : 2 * g.monitorRoom + (rest.map fun v => v.category).sum ≤ W9) (hdg : decode c.code g.pc = .ok (.invokestatic index, 3))
    (hpre : ∀ vm₁, s.WarmedH vm₁ → Pre ⟨T.setVm vm₁, locs, cells, slots⟩ argsL.toArray) :
    (∃ (v : Option Value) (vm₁ : Vm) (B : Pt), s.WarmedH vm₁ ∧ Stand p l e R s m args below meth c B.U B.locs B.cells B.slots ∧ Post ⟨T.setVm vm₁, locs, cells, slots⟩ argsL.toArray v B ∧
      ∀ target, Steps p.tables e below (B.U.setTop { g with pc := g.pc + 3, stack := v.toList ++ rest }) target → Steps p.tables e below (T.setTop g) target) ∨
    (∃ (q : Addr) (vm₁ : Vm) (B : Pt), s.WarmedH vm₁ ∧ Stand p l e R s m args below meth c B.U B.locs B.cells B.slots ∧ PostX ⟨T.setVm vm₁, locs, cells, slots⟩ argsL.toArray q B ∧
      Steps p.tables e below (T.setTop g) ((B.U.setTop { g with stack := rest }).pushFrame (.throwing q))) := by
  obtain ⟨mk, hnamed⟩ := Cond.code_named hcode
  obtain ⟨methM, cM, hmethM, -, -, -, -, -, -, hsigM⟩ := Cond.code_spec hnamed hcode
  have hstatic : methM.isStatic = true := Cond.static_spec hnamed hmethM hstat
  obtain ⟨kP, hkP, -⟩ := className_of_methodNamed hnamed
  have hinitP : kP.init = .initialized := Cond.initialized_spec (findClass_of_methodNamed hnamed) hkP hinit
  obtain ⟨vm₁, X₁, hstep₁⟩ := X.invokestatic hexec hown hlink hnamed hmethM hstatic hkP hinitP hy (g := g) hg (argsL := argsL) (rest := rest) (hlen _ hsigM) hstack hdg
  rcases hK m meth c ⟨T.setVm vm₁, locs, cells, slots⟩ { g with stack := rest } (.invokestatic index) mk argsL.toArray X₁ hg hsize hdg hW (X₁.named hnamed) (hpre vm₁ X₁.warmed) with ⟨v, B, X', hpost, hsteps⟩ | ⟨q, B, X', hpost, hsteps⟩
  · exact Or.inl ⟨v, vm₁, B, X₁.warmed, X', hpost, fun target h => hstep₁ _ fun acts => by rw [doInvoke_state]; exact hsteps.trans h⟩
  · exact Or.inr ⟨q, vm₁, B, X₁.warmed, X', hpost, hstep₁ _ fun acts => by rw [doInvoke_state]; exact hsteps⟩
end Calls
theorem vx_cls {s : State} {T : State} {vm₁ : Vm} {E : String} {k : ClassId} (hW : s.WarmedH vm₁) (h : (T.setVm vm₁).vm.findClass E = some k) : s.vm.findClass E = some k := by
  have h1 : vm₁.findClass E = some k := h
  rw [hW.alike.findClass] at h1
  exact h1
/-- the method's frame g, with q thrown over it -/
def vx_W (p : Program) (l : Launch) (e : Env) (R : Room) (s : State) (m : MethodId) (args : Array Value) (below : List Frame) (meth : Method) (c : Code) (H : Heap) (locs : List Loc) (cells slots : Nat) (Q : State → Prop) (g : JFrame) (q : Addr) : Prop :=
  ∀ T : State, T.heap = H → Stand p l e R s m args below meth c T locs cells slots → ∃ t, Steps p.tables e below ((T.setTop g).pushFrame (.throwing q)) t ∧ Q t
def vx_Run (p : Program) (l : Launch) (e : Env) (R : Room) (s : State) (m : MethodId) (args : Array Value) (below : List Frame) (meth : Method) (c : Code) (H : Heap) (locs : List Loc) (cells slots mc ms : Nat) (g : JFrame) (rest : List Value) (Qa : State → Outcome → State → Prop) (XC : String → State → State → Prop) (free : Addr → Prop) : Prop :=
  ∀ T : State, T.heap = H → Stand p l e R s m args below meth c T locs cells slots →
    (∃ (v : Option Value) (st₀ t T' : State) (L : List Loc), st₀.heap = H ∧ Stand p l e R s m args below meth c T' (locs ++ L) (cells + mc) (slots + ms) ∧ (∀ q ∈ L, free q.base) ∧ T'.heap = t.heap ∧ T'.vm = t.vm ∧ Qa st₀ (.returned v) t ∧
      Goes p e below T g T' { g with pc := g.pc + 3, stack := v.toList ++ rest }) ∨
    (∃ (q : Addr) (st₀ t T' : State) (L : List Loc) (E : String) (ce : Cell), st₀.heap = H ∧ Stand p l e R s m args below meth c T' (locs ++ L) (cells + mc) (slots + ms) ∧ (∀ z ∈ L, free z.base) ∧ T'.heap = t.heap ∧ T'.vm = t.vm ∧ XC E st₀ t ∧ t.heap[q]? = some ce ∧ ce.vm = .none ∧ s.vm.findClass E = some ce.cls ∧
      Steps p.tables e below (T.setTop g) ((T'.setTop { g with stack := rest }).pushFrame (.throwing q)))
def vx_X {S : Type} (px : S → Prop) (B : String → S → State → Prop) (A : Nat → Prop) : String → State → State → Prop := fun E st t => ∃ u : S, px u ∧ B E u t ∧ va_F A st t
section Runs
variable {p : Program} {l : Launch} {e : Env} {R : Room} {s : State} {m : MethodId} {args : Array Value} {below : List Frame} {meth : Method} {c : Code} {H : Heap} {locs : List Loc} {cells slots : Nat}
variable {y : MethodName} {bytes cc : ByteArray} {maxL nL mc ms n index : Nat} {ret : Option FieldType} {ws : List Cond} {rm : Room} {Pc : Array Value → State → Prop} {Qc : Array Value → State → Outcome → State → Prop} {XC : String → State → State → Prop} {free : Addr → Prop} {Ts : List Cond} {own C : String} {b : Addr} {As rest : List Value} {g : JFrame}
theorem vx_callBack (cb : CallB R s args own index y bytes maxL ret ws rm mc ms n) (hM : vx_Met l y ws rm Pc Qc XC mc ms free) (hbl : FrameBlind Pc) : vx_Back l R p e below s args y 3 8 (PreOf R mc ms Pc) (PostOf Qc mc ms free) (vx_Post XC mc ms free) := by
  obtain ⟨hrc, hrs, hfr, hlo, hws, hcw, -, hini, -⟩ := cb
  exact vx_back (bytes := bytes) (maxL := maxL) (ret := ret) hM hbl hrc hrs hfr hlo hws hcw (fun a' U hW => word_at hW (Or.inl (by first | rfl | simp [Cond.onTables, Cond.keeps, Cond.steady])) hini)
theorem vx_runV (S : CallFix p m c cc nL s args Ts own) (hM : vx_Met l y ws rm Pc Qc XC mc ms free) (cw : CallW R s args own C index y bytes maxL ret ws rm mc ms n) (hp : PreV s H C b Pc As)
    (hg : g.method = m) (hn : As.length = n) (hsize : g.locals.size = nL) (hstack : g.stack = As.reverse ++ .ref b :: rest) (hW : 2 * g.monitorRoom + (rest.map fun v => v.category).sum ≤ 8) (hdg : decode cc g.pc = .ok (.invokevirtual index, 3)) (hf : cells + mc ≤ R.cells ∧ slots + ms ≤ R.slots) :
    vx_Run p l e R s m args below meth c H locs cells slots mc ms g rest (Qc (Value.ref b :: As).toArray) XC free := by
  have hK : vx_Back l R p e below s args y 3 8 (PreOf R mc ms Pc) (PostOf Qc mc ms free) (vx_Post XC mc ms free) := vx_callBack cw.1 hM hp.1
  obtain ⟨⟨-, -, -, -, -, -, hcode, -, hy, hlen, hl⟩, hin, hse⟩ := cw
  obtain ⟨hx, hb, hml, ho, -⟩ := S
  obtain ⟨-, ⟨cellB, hcB, hoB, hclB⟩, hPc⟩ := hp
  intro T hT X
  rcases vx_callV X hx (C := C) (bytes := bytes) (maxL := maxL) (ret := ret) ho hl hin hse hcode hy hK (by rw [hT]; exact hcB) hoB hclB hg (hsize.trans hml.symm) (argsL := As) (rest := rest) (fun sig h => hn.trans (hlen sig h)) hstack hW (by rw [hb]; exact hdg)
    (fun vm₁ hW₁ => ⟨hf.1, hf.2, hPc (T.setVm vm₁) hT hW₁⟩) with ⟨v, vm₁, ⟨U', l2, c2, s2⟩, hW₁, X', ⟨g', mk, t, L, e1, e2, hq, h1, hL, h2, h3⟩, st⟩ | ⟨q, vm₁, ⟨U', l2, c2, s2⟩, hW₁, X', ⟨g', mk, t, L, E, ce, e1, e2, hq, hce, hcv, hcl, h1, hL, h2, h3⟩, st⟩
  · dsimp only [Pt.U, Pt.locs, Pt.cells, Pt.slots] at X' e1 e2 h1 h2 h3 st
    subst h1; subst h2; subst h3
    exact Or.inl ⟨v, (T.setVm vm₁).calling g' mk (Value.ref b :: As).toArray, t, U', L, hT, X', hL, e1, e2, hq, st⟩
  · dsimp only [Pt.U, Pt.locs, Pt.cells, Pt.slots] at X' e1 e2 h1 h2 h3 st hcl
    subst h1; subst h2; subst h3
    exact Or.inr ⟨q, (T.setVm vm₁).calling g' mk (Value.ref b :: As).toArray, t, U', L, E, ce, hT, X', hL, e1, e2, hq, hce, hcv, vx_cls hW₁ hcl, st⟩
theorem vx_runS (S : CallFix p m c cc nL s args Ts own) (hM : vx_Met l y ws rm Pc Qc XC mc ms free) (cw : CallB R s args own index y bytes maxL ret ws rm mc ms n ∧ (Cond.static y).before args s = true) (hp : PreS s H Pc As)
    (hg : g.method = m) (hn : As.length = n) (hsize : g.locals.size = nL) (hstack : g.stack = As.reverse ++ rest) (hW : 2 * g.monitorRoom + (rest.map fun v => v.category).sum ≤ 8) (hdg : decode cc g.pc = .ok (.invokestatic index, 3)) (hf : cells + mc ≤ R.cells ∧ slots + ms ≤ R.slots) :
    vx_Run p l e R s m args below meth c H locs cells slots mc ms g rest (Qc As.toArray) XC free := by
  have hK : vx_Back l R p e below s args y 3 8 (PreOf R mc ms Pc) (PostOf Qc mc ms free) (vx_Post XC mc ms free) := vx_callBack cw.1 hM hp.1
  obtain ⟨⟨-, -, -, -, -, -, hcode, hini, hy, hlen, hl⟩, hstt⟩ := cw
  obtain ⟨hx, hb, hml, ho, -⟩ := S
  intro T hT X
  rcases vx_callS X hx (bytes := bytes) (maxL := maxL) (ret := ret) ho hl hstt hini hcode hy hK hg (hsize.trans hml.symm) (argsL := As) (rest := rest) (fun sig h => hn.trans (hlen sig h)) hstack hW (by rw [hb]; exact hdg)
    (fun vm₁ hW₁ => ⟨hf.1, hf.2, hp.2 (T.setVm vm₁) hT hW₁⟩) with ⟨v, vm₁, ⟨U', l2, c2, s2⟩, hW₁, X', ⟨g', mk, t, L, e1, e2, hq, h1, hL, h2, h3⟩, st⟩ | ⟨q, vm₁, ⟨U', l2, c2, s2⟩, hW₁, X', ⟨g', mk, t, L, E, ce, e1, e2, hq, hce, hcv, hcl, h1, hL, h2, h3⟩, st⟩
  · dsimp only [Pt.U, Pt.locs, Pt.cells, Pt.slots] at X' e1 e2 h1 h2 h3 st
    subst h1; subst h2; subst h3
    exact Or.inl ⟨v, (T.setVm vm₁).calling g' mk As.toArray, t, U', L, hT, X', hL, e1, e2, hq, st⟩
  · dsimp only [Pt.U, Pt.locs, Pt.cells, Pt.slots] at X' e1 e2 h1 h2 h3 st hcl
    subst h1; subst h2; subst h3
    exact Or.inr ⟨q, (T.setVm vm₁).calling g' mk As.toArray, t, U', L, E, ce, hT, X', hL, e1, e2, hq, hce, hcv, vx_cls hW₁ hcl, st⟩
end Runs
section Rows
variable {p : Program} {l : Launch} {e : Env} {R : Room} {s : State} {m : MethodId} {args : Array Value} {below : List Frame} {meth : Method} {c : Code} {H : Heap} {locs : List Loc} {cells slots : Nat} {Q : State → Prop}
variable {mc ms : Nat} {free : Addr → Prop} {A0 A1 : Nat → Prop} {H0 : Heap} {a : Array Value} {pc : Nat} {ls : Array Slot} {st0 rest : List Value}
theorem vx_keep {st₀ t T' : State} {L : List Loc} (h0 : st₀.heap = H) (e1 : T'.heap = t.heap) (hS : va_S A0 H0 H locs) (hA : ∀ q, q < H.size → A1 q → A0 q) (hf : ∀ q, free q → A0 q) (hL : ∀ q ∈ L, free q.base) (hF : va_F A1 st₀ t) :
    H.size ≤ T'.heap.size ∧ (∀ q : Nat, q < H.size → ¬ A1 q → T'.heap[q]? = H[q]?) ∧ va_S A0 H0 T'.heap (locs ++ L) := by
  obtain ⟨hz, hk⟩ := hF
  rw [h0] at hz hk
  exact ⟨by rw [e1]; exact hz, fun q h1 h2 => by rw [e1]; exact hk q h1 h2,
    ⟨Nat.le_trans hS.1 (by rw [e1]; exact hz), fun q h1 h2 => by rw [e1, hk q (Nat.lt_of_lt_of_le h1 hS.1) (fun z => h2 (hA q (Nat.lt_of_lt_of_le h1 hS.1) z))]; exact hS.2.1 q h1 h2, fun q hq => by
      rcases List.mem_append.mp hq with h | h
      · exact hS.2.2 q h
      · exact hf _ (hL q h)⟩⟩
theorem vx_calli {S SX : Type} {post : Int32 → S → Prop} {px : SX → Prop} {B : S → State → Prop} {BX : String → SX → State → Prop} {AX : Nat → Prop} (hr : vx_Run p l e R s m args below meth c H locs cells slots mc ms (F0 m pc ls st0) rest (va_Qi post B A1 a) (vx_X px BX AX) free) (hS : va_S A0 H0 H locs) (hA : ∀ q, q < H.size → A1 q → A0 q) (hf : ∀ q, free q → A0 q) (hAX : ∀ q, q < H.size → AX q → A0 q)
    (kx : ∀ (E : String) (ce : Cell) (q9 : Addr) (u : SX) (t : State) (H1 : Heap) (locs1 : List Loc), t.heap = H1 → s.vm.Alike t.vm → px u → BX E u t → H.size ≤ H1.size → (∀ q : Nat, q < H.size → ¬ AX q → H1[q]? = H[q]?) → va_S A0 H0 H1 locs1 → H1[q9]? = some ce → ce.vm = .none → s.vm.findClass E = some ce.cls → vx_W p l e R s m args below meth c H1 locs1 (cells + mc) (slots + ms) Q (F0 m pc ls rest) q9)
    (kk : ∀ (r : Int32) (u : S) (t : State) (H1 : Heap) (locs1 : List Loc), t.heap = H1 → s.vm.Alike t.vm → post r u → B u t → H.size ≤ H1.size → (∀ q : Nat, q < H.size → ¬ A1 q → H1[q]? = H[q]?) → va_S A0 H0 H1 locs1 → W p l e R s m args below meth c H1 locs1 (cells + mc) (slots + ms) Q (F0 m (pc + 3) ls (.int r :: rest))) : W p l e R s m args below meth c H locs cells slots Q (F0 m pc ls st0) := by
  intro T hT X
  rcases hr T hT X with ⟨v, st₀, t, T', L, h0, X', hL, e1, e2, ⟨⟨r, u, hv, hp, hb⟩, hF⟩, st⟩ | ⟨q, st₀, t, T', L, E, ce, h0, X', hL, e1, e2, ⟨u, hp, hb, hF⟩, hce, hcv, hcl, st⟩
  · cases hv
    obtain ⟨k1, k2, k3⟩ := vx_keep h0 e1 hS hA hf hL hF
    obtain ⟨t2, a1, b1⟩ := kk r u t T'.heap (locs ++ L) e1.symm (by rw [← e2]; exact X'.warmed.alike) hp hb k1 k2 k3 T' rfl X'
    exact ⟨t2, st t2 a1, b1⟩
  · obtain ⟨k1, k2, k3⟩ := vx_keep h0 e1 hS hAX hf hL hF
    obtain ⟨t2, a1, b1⟩ := kx E ce q u t T'.heap (locs ++ L) e1.symm (by rw [← e2]; exact X'.warmed.alike) hp hb k1 k2 k3 (by rw [e1]; exact hce) hcv hcl T' rfl X'
    exact ⟨t2, st.trans a1, b1⟩
theorem vx_calll {S SX : Type} {post : Int64 → S → Prop} {px : SX → Prop} {B : S → State → Prop} {BX : String → SX → State → Prop} {AX : Nat → Prop} (hr : vx_Run p l e R s m args below meth c H locs cells slots mc ms (F0 m pc ls st0) rest (va_Ql post B A1 a) (vx_X px BX AX) free) (hS : va_S A0 H0 H locs) (hA : ∀ q, q < H.size → A1 q → A0 q) (hf : ∀ q, free q → A0 q) (hAX : ∀ q, q < H.size → AX q → A0 q)
    (kx : ∀ (E : String) (ce : Cell) (q9 : Addr) (u : SX) (t : State) (H1 : Heap) (locs1 : List Loc), t.heap = H1 → s.vm.Alike t.vm → px u → BX E u t → H.size ≤ H1.size → (∀ q : Nat, q < H.size → ¬ AX q → H1[q]? = H[q]?) → va_S A0 H0 H1 locs1 → H1[q9]? = some ce → ce.vm = .none → s.vm.findClass E = some ce.cls → vx_W p l e R s m args below meth c H1 locs1 (cells + mc) (slots + ms) Q (F0 m pc ls rest) q9)
    (kk : ∀ (r : Int64) (u : S) (t : State) (H1 : Heap) (locs1 : List Loc), t.heap = H1 → s.vm.Alike t.vm → post r u → B u t → H.size ≤ H1.size → (∀ q : Nat, q < H.size → ¬ A1 q → H1[q]? = H[q]?) → va_S A0 H0 H1 locs1 → W p l e R s m args below meth c H1 locs1 (cells + mc) (slots + ms) Q (F0 m (pc + 3) ls (.long r :: rest))) : W p l e R s m args below meth c H locs cells slots Q (F0 m pc ls st0) := by
  intro T hT X
  rcases hr T hT X with ⟨v, st₀, t, T', L, h0, X', hL, e1, e2, ⟨⟨r, u, hv, hp, hb⟩, hF⟩, st⟩ | ⟨q, st₀, t, T', L, E, ce, h0, X', hL, e1, e2, ⟨u, hp, hb, hF⟩, hce, hcv, hcl, st⟩
  · cases hv
    obtain ⟨k1, k2, k3⟩ := vx_keep h0 e1 hS hA hf hL hF
    obtain ⟨t2, a1, b1⟩ := kk r u t T'.heap (locs ++ L) e1.symm (by rw [← e2]; exact X'.warmed.alike) hp hb k1 k2 k3 T' rfl X'
    exact ⟨t2, st t2 a1, b1⟩
  · obtain ⟨k1, k2, k3⟩ := vx_keep h0 e1 hS hAX hf hL hF
    obtain ⟨t2, a1, b1⟩ := kx E ce q u t T'.heap (locs ++ L) e1.symm (by rw [← e2]; exact X'.warmed.alike) hp hb k1 k2 k3 (by rw [e1]; exact hce) hcv hcl T' rfl X'
    exact ⟨t2, st.trans a1, b1⟩
theorem vx_callf {S SX : Type} {post : UInt32 → S → Prop} {px : SX → Prop} {B : S → State → Prop} {BX : String → SX → State → Prop} {AX : Nat → Prop} (hr : vx_Run p l e R s m args below meth c H locs cells slots mc ms (F0 m pc ls st0) rest (va_Qf post B A1 a) (vx_X px BX AX) free) (hS : va_S A0 H0 H locs) (hA : ∀ q, q < H.size → A1 q → A0 q) (hf : ∀ q, free q → A0 q) (hAX : ∀ q, q < H.size → AX q → A0 q)
    (kx : ∀ (E : String) (ce : Cell) (q9 : Addr) (u : SX) (t : State) (H1 : Heap) (locs1 : List Loc), t.heap = H1 → s.vm.Alike t.vm → px u → BX E u t → H.size ≤ H1.size → (∀ q : Nat, q < H.size → ¬ AX q → H1[q]? = H[q]?) → va_S A0 H0 H1 locs1 → H1[q9]? = some ce → ce.vm = .none → s.vm.findClass E = some ce.cls → vx_W p l e R s m args below meth c H1 locs1 (cells + mc) (slots + ms) Q (F0 m pc ls rest) q9)
    (kk : ∀ (r : UInt32) (u : S) (t : State) (H1 : Heap) (locs1 : List Loc), t.heap = H1 → s.vm.Alike t.vm → post r u → B u t → H.size ≤ H1.size → (∀ q : Nat, q < H.size → ¬ A1 q → H1[q]? = H[q]?) → va_S A0 H0 H1 locs1 → W p l e R s m args below meth c H1 locs1 (cells + mc) (slots + ms) Q (F0 m (pc + 3) ls (.float r :: rest))) : W p l e R s m args below meth c H locs cells slots Q (F0 m pc ls st0) := by
  intro T hT X
  rcases hr T hT X with ⟨v, st₀, t, T', L, h0, X', hL, e1, e2, ⟨⟨r, u, hv, hp, hb⟩, hF⟩, st⟩ | ⟨q, st₀, t, T', L, E, ce, h0, X', hL, e1, e2, ⟨u, hp, hb, hF⟩, hce, hcv, hcl, st⟩
  · cases hv
    obtain ⟨k1, k2, k3⟩ := vx_keep h0 e1 hS hA hf hL hF
    obtain ⟨t2, a1, b1⟩ := kk r u t T'.heap (locs ++ L) e1.symm (by rw [← e2]; exact X'.warmed.alike) hp hb k1 k2 k3 T' rfl X'
    exact ⟨t2, st t2 a1, b1⟩
  · obtain ⟨k1, k2, k3⟩ := vx_keep h0 e1 hS hAX hf hL hF
    obtain ⟨t2, a1, b1⟩ := kx E ce q u t T'.heap (locs ++ L) e1.symm (by rw [← e2]; exact X'.warmed.alike) hp hb k1 k2 k3 (by rw [e1]; exact hce) hcv hcl T' rfl X'
    exact ⟨t2, st.trans a1, b1⟩
theorem vx_calld {S SX : Type} {post : UInt64 → S → Prop} {px : SX → Prop} {B : S → State → Prop} {BX : String → SX → State → Prop} {AX : Nat → Prop} (hr : vx_Run p l e R s m args below meth c H locs cells slots mc ms (F0 m pc ls st0) rest (va_Qd post B A1 a) (vx_X px BX AX) free) (hS : va_S A0 H0 H locs) (hA : ∀ q, q < H.size → A1 q → A0 q) (hf : ∀ q, free q → A0 q) (hAX : ∀ q, q < H.size → AX q → A0 q)
    (kx : ∀ (E : String) (ce : Cell) (q9 : Addr) (u : SX) (t : State) (H1 : Heap) (locs1 : List Loc), t.heap = H1 → s.vm.Alike t.vm → px u → BX E u t → H.size ≤ H1.size → (∀ q : Nat, q < H.size → ¬ AX q → H1[q]? = H[q]?) → va_S A0 H0 H1 locs1 → H1[q9]? = some ce → ce.vm = .none → s.vm.findClass E = some ce.cls → vx_W p l e R s m args below meth c H1 locs1 (cells + mc) (slots + ms) Q (F0 m pc ls rest) q9)
    (kk : ∀ (r : UInt64) (u : S) (t : State) (H1 : Heap) (locs1 : List Loc), t.heap = H1 → s.vm.Alike t.vm → post r u → B u t → H.size ≤ H1.size → (∀ q : Nat, q < H.size → ¬ A1 q → H1[q]? = H[q]?) → va_S A0 H0 H1 locs1 → W p l e R s m args below meth c H1 locs1 (cells + mc) (slots + ms) Q (F0 m (pc + 3) ls (.double r :: rest))) : W p l e R s m args below meth c H locs cells slots Q (F0 m pc ls st0) := by
  intro T hT X
  rcases hr T hT X with ⟨v, st₀, t, T', L, h0, X', hL, e1, e2, ⟨⟨r, u, hv, hp, hb⟩, hF⟩, st⟩ | ⟨q, st₀, t, T', L, E, ce, h0, X', hL, e1, e2, ⟨u, hp, hb, hF⟩, hce, hcv, hcl, st⟩
  · cases hv
    obtain ⟨k1, k2, k3⟩ := vx_keep h0 e1 hS hA hf hL hF
    obtain ⟨t2, a1, b1⟩ := kk r u t T'.heap (locs ++ L) e1.symm (by rw [← e2]; exact X'.warmed.alike) hp hb k1 k2 k3 T' rfl X'
    exact ⟨t2, st t2 a1, b1⟩
  · obtain ⟨k1, k2, k3⟩ := vx_keep h0 e1 hS hAX hf hL hF
    obtain ⟨t2, a1, b1⟩ := kx E ce q u t T'.heap (locs ++ L) e1.symm (by rw [← e2]; exact X'.warmed.alike) hp hb k1 k2 k3 (by rw [e1]; exact hce) hcv hcl T' rfl X'
    exact ⟨t2, st.trans a1, b1⟩
theorem vx_callv {S SX : Type} {post : S → Prop} {px : SX → Prop} {B : S → State → Prop} {BX : String → SX → State → Prop} {AX : Nat → Prop} (hr : vx_Run p l e R s m args below meth c H locs cells slots mc ms (F0 m pc ls st0) rest (va_Qv post B A1 a) (vx_X px BX AX) free) (hS : va_S A0 H0 H locs) (hA : ∀ q, q < H.size → A1 q → A0 q) (hf : ∀ q, free q → A0 q) (hAX : ∀ q, q < H.size → AX q → A0 q)
    (kx : ∀ (E : String) (ce : Cell) (q9 : Addr) (u : SX) (t : State) (H1 : Heap) (locs1 : List Loc), t.heap = H1 → s.vm.Alike t.vm → px u → BX E u t → H.size ≤ H1.size → (∀ q : Nat, q < H.size → ¬ AX q → H1[q]? = H[q]?) → va_S A0 H0 H1 locs1 → H1[q9]? = some ce → ce.vm = .none → s.vm.findClass E = some ce.cls → vx_W p l e R s m args below meth c H1 locs1 (cells + mc) (slots + ms) Q (F0 m pc ls rest) q9)
    (kk : ∀ (u : S) (t : State) (H1 : Heap) (locs1 : List Loc), t.heap = H1 → s.vm.Alike t.vm → post u → B u t → H.size ≤ H1.size → (∀ q : Nat, q < H.size → ¬ A1 q → H1[q]? = H[q]?) → va_S A0 H0 H1 locs1 → W p l e R s m args below meth c H1 locs1 (cells + mc) (slots + ms) Q (F0 m (pc + 3) ls (rest))) : W p l e R s m args below meth c H locs cells slots Q (F0 m pc ls st0) := by
  intro T hT X
  rcases hr T hT X with ⟨v, st₀, t, T', L, h0, X', hL, e1, e2, ⟨⟨u, hv, hp, hb⟩, hF⟩, st⟩ | ⟨q, st₀, t, T', L, E, ce, h0, X', hL, e1, e2, ⟨u, hp, hb, hF⟩, hce, hcv, hcl, st⟩
  · cases hv
    obtain ⟨k1, k2, k3⟩ := vx_keep h0 e1 hS hA hf hL hF
    obtain ⟨t2, a1, b1⟩ := kk u t T'.heap (locs ++ L) e1.symm (by rw [← e2]; exact X'.warmed.alike) hp hb k1 k2 k3 T' rfl X'
    exact ⟨t2, st t2 a1, b1⟩
  · obtain ⟨k1, k2, k3⟩ := vx_keep h0 e1 hS hAX hf hL hF
    obtain ⟨t2, a1, b1⟩ := kx E ce q u t T'.heap (locs ++ L) e1.symm (by rw [← e2]; exact X'.warmed.alike) hp hb k1 k2 k3 (by rw [e1]; exact hce) hcv hcl T' rfl X'
    exact ⟨t2, st.trans a1, b1⟩
/-- caught by the row x of this method's table; the rows ahead don't take it -/
theorem vx_catch {own name : String} {E : String} {ce : Cell} {q : Addr} (hown : s.vm.findClass own = some m.cls) (pre : List ExceptionTableEntry) (x : ExceptionTableEntry) (suf : List ExceptionTableEntry) (hsplit : c.exceptionTable.toList = pre ++ x :: suf)
    (hpass : ∀ z ∈ pre, covers z pc = false ∨ (z.catchType ≠ 0 ∧ ∃ nm : String, (Cond.classLink own z.catchType nm).before args s = true ∧ va_Nc E nm s)) (hx : covers x pc = true) (h0 : x.catchType ≠ 0)
    (hlink : (Cond.classLink own x.catchType name).before args s = true) (hcast : (Cond.castable E name).before args s = true) (hcell : H[q]? = some ce) (hv : ce.vm = .none) (hcl : s.vm.findClass E = some ce.cls)
    (kk : W p l e R s m args below meth c H locs cells slots Q (F0 m x.handlerPc ls [.ref q])) : vx_W p l e R s m args below meth c H locs cells slots Q (F0 m pc ls rest) q := by
  intro T hT X
  have hpl : e.platform.magicAccessors = ({} : Platform).magicAccessors := by rw [X.admits.platform]
  obtain ⟨c3, c4, hc3, hc4, hasg⟩ := Cond.castable_spec hcast
  cases Option.some.inj (hc3.symm.trans hcl)
  obtain ⟨c5, hc5, hcl5⟩ := Cond.classLink_spec hown hlink e.platform hpl
  cases Option.some.inj (hc4.symm.trans hc5)
  obtain ⟨vm', X', st⟩ := X.thenCaughtThrough q (g := F0 m pc ls rest) rfl (Steps.refl _) (by rw [hT]; exact hcell) (by rw [hv]; rfl) (by obtain ⟨k9, h9, -⟩ := Vm.findClass_spec hcl; exact ⟨k9, h9⟩) pre x suf hsplit
    (fun z hz => by
      rcases hpass z hz with h | ⟨hz0, nm, hl1, hn1⟩
      · exact Or.inl h
      · obtain ⟨c6, hc6, hcl6⟩ := Cond.classLink_spec hown hl1 e.platform hpl
        obtain ⟨a8, b8, h1, h2, h3⟩ := hn1
        cases Option.some.inj (h1.symm.trans hcl)
        cases Option.some.inj (h2.symm.trans hc6)
        exact Or.inr ⟨hz0, _, hcl6, h3⟩) hx (Or.inr ⟨h0, c4, hcl5, hasg⟩)
  obtain ⟨t, a1, b1⟩ := kk (T.setVm vm') hT X'
  exact ⟨t, st.trans a1, b1⟩
end Rows
section Ends
variable {p : Program} {l : Launch} {e : Env} {R : Room} {s : State} {m : MethodId} {args : Array Value} {below : List Frame} {meth : Method} {c : Code} {H : Heap} {locs : List Loc} {cells slots : Nat} {Q : State → Prop}
variable {mc ms : Nat} {free : Addr → Prop} {A0 A1 : Nat → Prop} {H0 : Heap} {a : Array Value} {ls : Array Slot} {st0 rest : List Value}
variable {Qc : Array Value → State → Outcome → State → Prop} {XC : String → State → State → Prop}
/-- what a body that may throw owes at its end -/
def vx_MQ (below : List Frame) (Qc : Array Value → State → Outcome → State → Prop) (XC : String → State → State → Prop) (a : Array Value) (s : State) (mc ms : Nat) (free : Addr → Prop) : State → Prop := fun t =>
  ∃ o, t.status = .running ∧ Ended t below o ∧ vx_Q Qc XC mc ms free a s o t
theorem vx_ret {g : JFrame} {mc ms : Nat} (k : W p l e R s m args below meth c H locs cells slots (MQ below Qc args s mc ms free) g) : W p l e R s m args below meth c H locs cells slots (vx_MQ below Qc XC args s mc ms free) g := by
  intro T hT X
  obtain ⟨t, a1, o, b1, b2, b3, b4⟩ := k T hT X
  exact ⟨t, a1, o, b1, b2, Or.inl ⟨b3, b4⟩⟩
/-- not caught here: it goes on to the caller -/
theorem vx_widen {g : JFrame} {q : Addr} {k n : Nat} (h1 : cells ≤ k) (h2 : slots ≤ n) (kk : vx_W p l e R s m args below meth c H locs k n Q g q) : vx_W p l e R s m args below meth c H locs cells slots Q g q := fun T hT X => kk T hT (stand_widen X h1 h2)
theorem vx_out {pc : Nat} {E : String} {ce : Cell} {q : Addr} {mc ms : Nat} (hout : ∀ x ∈ c.exceptionTable.toList, covers x pc = false) (hlocks : meth.locks = false) (hcell : H[q]? = some ce) (hv : ce.vm = .none) (hcl : s.vm.findClass E = some ce.cls)
    (hx : ∀ t : State, t.heap = H → s.vm.Alike t.vm → XC E s t) (hf : ∀ z ∈ locs, free z.base) (hc : cells ≤ mc) (hs : slots ≤ ms) :
    vx_W p l e R s m args below meth c H locs cells slots (vx_MQ below Qc XC args s mc ms free) (F0 m pc ls rest) q := by
  intro T hT X
  obtain ⟨st1, hrun, hend, hW, hsm⟩ := X.leaveThrown q (g := F0 m pc ls rest) rfl rfl rfl hout hlocks
  have hcell9 : (T.setFrames (.throwing q :: below)).heap[q]? = some ce := by
    show T.heap[q]? = some ce
    rw [hT]; exact hcell
  exact ⟨_, st1, .threw q, hrun, hend, Or.inr ⟨q, rfl, E, ce, locs, hx _ hT hW.alike, hcell9, hv, hcl, hW, hsm.mono hc hs, hf⟩⟩
theorem vx_frame {U : State} {k n : Nat} (h : s.sameButNew ({ U with vm := s.vm } : State) locs k n) : s.heap.size ≤ U.heap.size ∧ ∀ q : Nat, q < s.heap.size → (∀ z ∈ locs, z.base ≠ q) → U.heap[q]? = s.heap[q]? := by
  obtain ⟨-, h2, -, -, -, h6⟩ := h
  refine ⟨h2, fun q hq hz => ?_⟩
  obtain ⟨c9, e1, e2, e3, e4⟩ := h6 q _ (Array.getElem?_eq_getElem hq)
  have hs : c9.slots = (s.heap[q]).slots := Array.ext_getElem? fun i => e4 i fun hm => hz _ hm rfl
  have h9 : c9 = s.heap[q] := by
    rw [hs] at e2
    exact e2
  have e5 : U.heap[q]? = some c9 := e1
  rw [e5, h9, Array.getElem?_eq_getElem hq]
/-- the words of a throw but the four that speak of the heap -/
def vx_no (w : Cond) : Bool := decide (w ≠ .isRef (.static Bundle.tN "UNASSIGNED_STACK" Bundle.steD)) && decide (w ≠ .isRef (.static Bundle.tN "SUPPRESSED_SENTINEL" Bundle.listD)) && decide (w ≠ .laysStatic Bundle.tN "UNASSIGNED_STACK" Bundle.steD) && decide (w ≠ .laysStatic Bundle.tN "SUPPRESSED_SENTINEL" Bundle.listD)
def vx_at0 (own : String) (ic : Nat) (X : String) (names : List String) : List Cond := (Bundle.ownAtoms0 own ic X names).filter vx_no
def vx_atS (own : String) (ic : Nat) (X : String) (names : List String) : List Cond := (Bundle.ownAtoms own ic X names).filter vx_no
/-- a word that the tables alone decide, or a good one -/
def vx_ot (w : Cond) : Bool := w.onTables || goodWord w
theorem vx_ot_at {args a' : Array Value} {s U : State} {w : Cond} (hW : s.WarmedH U.vm) (hvm : s.vm = U.vm) (hg : vx_ot w = true) (h : w.before args s = true) : w.before a' U = true := by
  simp only [vx_ot, Bool.or_eq_true] at hg
  rcases hg with hg | hg
  · exact va_tabs hg hvm h
  · exact word_at hW (good_of_word hg) h
/-- a list's words: the good ones out of the method's own list, the others by premises of their own -/
theorem vx_hat {args : Array Value} {s : State} {L B : List Cond} (h1 : ∀ w ∈ L.filter goodWord, w.before args s = true) (h2 : ∀ w ∈ L.filter (fun w => !goodWord w), w ∈ B) (h3 : ∀ w ∈ B, w.before args s = true) : ∀ w ∈ L, w.before args s = true := by
  intro w hw
  by_cases g : goodWord w = true
  · exact h1 w (List.mem_filter.mpr ⟨hw, g⟩)
  · refine h3 w (h2 w (List.mem_filter.mpr ⟨hw, ?_⟩))
    show (!goodWord w) = true
    cases hgw : goodWord w
    · rfl
    · exact absurd hgw g
theorem vx_c {args : Array Value} {s : State} {w : Cond} {B : List Cond} (h : w.before args s = true) (t : ∀ w ∈ B, w.before args s = true) : ∀ w' ∈ w :: B, w'.before args s = true := fun w' h' => (List.mem_cons.mp h').elim (fun e => by rw [e]; exact h) (t w')
theorem vx_n {args : Array Value} {s : State} : ∀ w ∈ ([] : List Cond), w.before args s = true := fun _ h => nomatch h
theorem vx_own {args : Array Value} {s : State} {L : List Cond} (h1 : ∀ w ∈ L.filter vx_no, w.before args s = true)
    (hU : (Cond.isRef (.static Bundle.tN "UNASSIGNED_STACK" Bundle.steD)).before args s = true) (hN : (Cond.isRef (.static Bundle.tN "SUPPRESSED_SENTINEL" Bundle.listD)).before args s = true)
    (lU : (Cond.laysStatic Bundle.tN "UNASSIGNED_STACK" Bundle.steD).before args s = true) (lN : (Cond.laysStatic Bundle.tN "SUPPRESSED_SENTINEL" Bundle.listD).before args s = true) : ∀ w ∈ L, w.before args s = true := by
  intro w hw
  by_cases e1 : w = .isRef (.static Bundle.tN "UNASSIGNED_STACK" Bundle.steD)
  · rw [e1]; exact hU
  · by_cases e2 : w = .isRef (.static Bundle.tN "SUPPRESSED_SENTINEL" Bundle.listD)
    · rw [e2]; exact hN
    · by_cases e3 : w = .laysStatic Bundle.tN "UNASSIGNED_STACK" Bundle.steD
      · rw [e3]; exact lU
      · by_cases e4 : w = .laysStatic Bundle.tN "SUPPRESSED_SENTINEL" Bundle.listD
        · rw [e4]; exact lN
        · exact h1 w (List.mem_filter.mpr ⟨hw, by unfold vx_no; rw [decide_eq_true e1, decide_eq_true e2, decide_eq_true e3, decide_eq_true e4]; rfl⟩)
/-- where a static field lies, its class's statics cell in H -/
def vx_L (C n d : String) (A : Nat → Prop) (U : State) (H : Heap) : Prop := ∃ (c : ClassId) (k : Class) (i : Nat) (f : Field) (a : Nat) (cell : Cell), U.vm.findClass C = some c ∧ U.fieldFound? C n d = some (c, k, i, f) ∧ f.isStatic = true ∧ k.statics = some a ∧ H[a]? = some cell ∧ cell.vm.isStatics = true ∧ cell.cls = c ∧ f.slot < cell.slots.size ∧ k.staticTypes[f.slot]? = some f.type ∧ ¬ A a
theorem vx_L.moved {C n d : String} {A : Nat → Prop} {u U : State} {H : Heap} (hvm : u.vm.Alike U.vm) (h : vx_L C n d A u H) : vx_L C n d A U H := by
  obtain ⟨c, k, i, f, a, cell, h1, h2, h3, h4, h5, h6, h7, h8, h9, h10⟩ := h
  obtain ⟨k', hi', he⟩ := State.fieldFound?_setVm hvm h2
  exact ⟨c, k', i, f, a, cell, by rw [hvm.findClass]; exact h1, hi', h3, by rw [he]; exact h4, h5, h6, h7, h8, by rw [he]; exact h9, h10⟩
theorem vx_L.kept {C n d : String} {A : Nat → Prop} {U : State} {H H1 : Heap} (h : vx_L C n d A U H) (hq : ∀ a : Nat, a < H.size → ¬ A a → H1[a]? = H[a]?) : vx_L C n d A U H1 := by
  obtain ⟨c, k, i, f, a, cell, h1, h2, h3, h4, h5, h6, h7, h8, h9, h10⟩ := h
  exact ⟨c, k, i, f, a, cell, h1, h2, h3, h4, by rw [hq a (Array.getElem?_eq_some_iff.mp h5).1 h10]; exact h5, h6, h7, h8, h9, h10⟩
theorem vx_L.narrow {C n d : String} {A B : Nat → Prop} {U : State} {H : Heap} (h : vx_L C n d A U H) (hAB : ∀ q, B q → A q) : vx_L C n d B U H := by
  obtain ⟨c, k, i, f, a, cell, h1, h2, h3, h4, h5, h6, h7, h8, h9, h10⟩ := h
  exact ⟨c, k, i, f, a, cell, h1, h2, h3, h4, h5, h6, h7, h8, h9, fun z => h10 (hAB _ z)⟩
theorem vx_L.word {C n d : String} {A : Nat → Prop} {s : State} {args : Array Value} (h : vx_L C n d A s s.heap) : (Cond.laysStatic C n d).before args s = true := by
  obtain ⟨c, k, i, f, a, cell, h1, h2, h3, h4, h5, h6, h7, h8, h9, -⟩ := h
  show (Cond.laysStatic C n d).holds args s none s [] = true
  exact Cond.laysStatic_of h1 h2 h3 h4 h5 h6 h7 h8 h9
/-- .. and what it holds: null or some reference -/
def vx_Zq (C n d : String) (A : Nat → Prop) (U : State) (H : Heap) : Prop := va_Zq C n d A U H ∧ vx_L C n d A U H
theorem vx_Zq.moved {C n d : String} {A : Nat → Prop} {u U : State} {H : Heap} (hvm : u.vm.Alike U.vm) (h : vx_Zq C n d A u H) : vx_Zq C n d A U H := ⟨va_Zq.moved hvm h.1, vx_L.moved hvm h.2⟩
theorem vx_Zq.kept {C n d : String} {A : Nat → Prop} {U : State} {H H1 : Heap} (h : vx_Zq C n d A U H) (hq : ∀ a : Nat, a < H.size → ¬ A a → H1[a]? = H[a]?) : vx_Zq C n d A U H1 := ⟨va_Zq.kept h.1 hq, vx_L.kept h.2 hq⟩
theorem vx_Zq.narrow {C n d : String} {A B : Nat → Prop} {U : State} {H : Heap} (h : vx_Zq C n d A U H) (hAB : ∀ q, B q → A q) : vx_Zq C n d B U H := ⟨va_Zq.narrow h.1 hAB, vx_L.narrow h.2 hAB⟩
theorem vx_Zqof {args : Array Value} {s : State} {C n d : String} {A : Nat → Prop} (hl : (Cond.laysStatic C n d).before args s = true) (hini : (Cond.initialized C).before args s = true) (h : (Cond.isRef (.static C n d)).before args s = true) (hA : ∀ a : Nat, a < s.heap.size → ¬ A a) : vx_Zq C n d A s s.heap := by
  refine ⟨va_Zqof hl hini h hA, ?_⟩
  obtain ⟨c, k, i, f, a, cell, h1, h2, h3, h4, h5, h6, h7, h8, h9⟩ := Cond.laysStatic_spec hl
  exact ⟨c, k, i, f, a, cell, h1, h2, h3, h4, h5, h6, h7, h8, h9, hA a (Array.getElem?_eq_some_iff.mp h5).1⟩
theorem vx_isRef {C n d : String} {v : Value} {A : Nat → Prop} {s : State} {args : Array Value} (h : va_Z C n d v A s s.heap) (hv : v.isRef = true) : (Cond.isRef (.static C n d)).before args s = true := by
  obtain ⟨cf, kf, fi, f, a, cell, h1, h2, h3, h4, h5, h6, h7, -⟩ := h
  have he : (Term.static C n d).eval args s none [] s = some v := by
    simp [Term.eval, State.fieldNamed?, h1, h2, h4, h5, h6, h7]
  simp only [Cond.before, Cond.holds, Cond.value, he]
  cases v <;> simp_all [Value.isRef]
theorem vx_isRefq {C n d : String} {A : Nat → Prop} {s : State} {args : Array Value} (h : va_Zq C n d A s s.heap) : (Cond.isRef (.static C n d)).before args s = true := by
  rcases h with h | ⟨t, h⟩
  · exact vx_isRef h rfl
  · exact vx_isRef h rfl
/-- the same frame, seen from here: as if the method were called anew in this heap -/
theorem vx_rebase {T : State} (X : Stand p l e R s m args below meth c T locs cells slots) {R' : Room} (hf : R'.frames ≤ R.frames) (hl : R'.locals ≤ R.locals) (hc : cells + R'.cells ≤ R.cells) (hs : slots + R'.slots ≤ R.slots) :
    Stand p l e R' ((T.setVm s.vm).setFrames (.invoking m args :: below)) m args below meth c T [] 0 0 := by
  have htop : (T.setVm s.vm).topJava?.isSome := X.here.top
  have hF : ((T.setVm s.vm).setFrames (.invoking m args :: below)).frames = .invoking m args :: below := State.frames_setFrames _ (State.cur_lt_of_top htop)
  obtain ⟨g₀, hg0⟩ := Option.isSome_iff_exists.mp htop
  obtain ⟨r, hr⟩ := State.topJava?_eq_some.mp hg0
  have hl9 : e.platform.stackLimits (T.setVm s.vm).me = e.platform.stackLimits s.me := X.limits
  have hb9 : (T.setVm s.vm).me.stackBytes = s.me.stackBytes := X.bytes
  refine ⟨X.admits, X.cas, X.clock, hF, ?_, X.hears, X.method, X.code, X.here, X.tail, X.warmed, ?_, ?_, ?_⟩
  · have h := X.room
    have hU : ((T.setVm s.vm).setFrames (.invoking m args :: below)).localsInUse = s.localsInUse := by
      rw [State.localsInUse_invoking hF (meth := meth) (c := c) X.method X.code, State.localsInUse_invoking X.frames X.method X.code]
    simp only [State.hasRoom, Bool.and_eq_true, decide_eq_true_eq] at h ⊢
    obtain ⟨⟨⟨⟨h1, h2, h3, h4, h5, h6⟩, h7⟩, h8⟩, h9⟩ := h
    rw [X.frames, List.length_cons] at h2 h3
    have q1 := X.heapSize
    have q2 := X.used
    simp only [hF, hU, List.length_cons, State.stackLimits_setFrames, State.stackBytes_setFrames, hl9, hb9]
    refine ⟨⟨⟨⟨by omega, by omega, by omega, by omega, by omega, h6⟩, ?_⟩, ?_⟩, X.book⟩
    · show T.heap.size + R'.cells ≤ e.platform.maxCells
      omega
    · show T.slotsUsed + R'.slots ≤ e.platform.maxSlots
      omega
  · rw [State.stackLimits_setFrames]; rfl
  · rw [State.stackBytes_setFrames]; rfl
  · refine ⟨?_, Nat.le_refl _, Nat.le_refl _, ?_, ?_, fun a c9 h9 => ⟨c9, h9, rfl, rfl, fun _ _ => rfl⟩⟩
    · obtain ⟨t, ht, -⟩ := State.frames_cons hr
      show T.setVm s.vm = { ((T.setVm s.vm).setFrames (.invoking m args :: below)).setFrames (T.setVm s.vm).frames with heap := T.heap, slotsUsed := T.slotsUsed }
      rw [State.setFrames_setFrames, State.setFrames_self ht]
      rfl
    · show T.slotsUsed = T.slotsUsed + ((T.heap.toList.drop T.heap.size).map (·.slots.size)).sum
      rw [List.drop_eq_nil_of_le (Nat.le_of_eq Array.length_toList)]
      rfl
    · show ((T.heap.toList.drop T.heap.size).map (·.slots.size)).sum ≤ 0
      rw [List.drop_eq_nil_of_le (Nat.le_of_eq Array.length_toList)]
      exact Nat.le_refl _
/-- 'throw new E()': new; dup; invokespecial; athrow -/
theorem vx_throw0 {cc : ByteArray} {pc : Nat} (hexec : p.tables.exec = Jvm.exec) (hb : c.code = cc) (hl : l.stackTraces = false) {own cls : String} {names : List String} {ik ic mc ms : Nat} {A : Nat → Prop}
    (hown : s.vm.findClass own = some m.cls) (hcls : Bundle.fit cls = true) (hnames : ∀ n ∈ names, Bundle.fit n = true)
    (hk : (Cond.classLink own ik cls).before args s = true) (hini : (Cond.initialized cls).before args s = true) (hat : ∀ w ∈ vx_at0 own ic cls names, w.before args s = true)
    (hgood : ∀ w ∈ Cond.classLink own ik cls :: Cond.initialized cls :: vx_at0 own ic cls names, vx_ot w = true)
    (hU : vx_Zq Bundle.tN "UNASSIGNED_STACK" Bundle.steD A s s.heap) (hN : vx_Zq Bundle.tN "SUPPRESSED_SENTINEL" Bundle.listD A s s.heap) (hS : va_S A s.heap H locs) (hsize : ls.size = c.maxLocals)
    (d0 : decode cc pc = .ok (.new ik, 3)) (d3 : decode cc (pc + 3) = .ok (.dup, 1)) (d4 : decode cc (pc + 4) = .ok (.invokespecial ic, 3)) (d7 : decode cc (pc + 7) = .ok (.athrow, 1))
    (hout : ∀ x ∈ c.exceptionTable.toList, covers x (pc + 7) = false)
    (hRframes : names.length + 3 < R.frames) (hRlocals : (rest.map fun v => v.category).sum + (13 * (names.length + 1) + 42) ≤ R.locals) (hRcells : cells + 1 ≤ R.cells) (hRslots : slots + 6 ≤ R.slots) (hlocks : meth.locks = false)
    (hx : ∀ t : State, s.vm.Alike t.vm → H.size ≤ t.heap.size → (∀ q : Nat, q < H.size → t.heap[q]? = H[q]?) → XC cls s t)
    (hf : ∀ z ∈ locs, free z.base) (hc : cells + 1 ≤ mc) (hs : slots + 6 ≤ ms) :
    W p l e R s m args below meth c H locs cells slots (vx_MQ below Qc XC args s mc ms free) (F0 m pc ls rest) := by
  intro T hT X
  have htr : e.platform.stackTraces = false := (show e.platform.stackTraces = l.stackTraces by rw [X.admits.platform]).trans hl
  have Y := vx_rebase X (R' := { frames := R.frames, locals := R.locals, cells := 1, slots := 6 }) (Nat.le_refl _) (Nat.le_refl _) hRcells hRslots
  obtain ⟨s', hA⟩ : ∃ z, z = (T.setVm s.vm).setFrames (.invoking m args :: below) := ⟨_, rfl⟩
  rw [← hA] at Y
  have hvm : s'.vm = s.vm := by rw [hA]; rfl
  have hhp : s'.heap = H := by rw [hA]; exact hT
  have hW0 : s.WarmedH s'.vm := by rw [hvm]; exact State.WarmedH.refl s
  have hat' : ∀ w ∈ vx_at0 own ic cls names, w.before args s' = true := fun w hw => vx_ot_at hW0 hvm.symm (hgood w (List.mem_cons_of_mem _ (List.mem_cons_of_mem _ hw))) (hat w hw)
  have hk' : (Cond.classLink own ik cls).before args s' = true := vx_ot_at hW0 hvm.symm (hgood _ List.mem_cons_self) hk
  have hini' : (Cond.initialized cls).before args s' = true := vx_ot_at hW0 hvm.symm (hgood _ (List.mem_cons_of_mem _ List.mem_cons_self)) hini
  have hU' : vx_Zq Bundle.tN "UNASSIGNED_STACK" Bundle.steD A s' s'.heap := by rw [hhp]; exact vx_Zq.moved hW0.alike (hU.kept hS.2.1)
  have hN' : vx_Zq Bundle.tN "SUPPRESSED_SENTINEL" Bundle.listD A s' s'.heap := by rw [hhp]; exact vx_Zq.moved hW0.alike (hN.kept hS.2.1)
  have h : ∀ w ∈ Bundle.ownAtoms0 own ic cls names, w.before args s' = true := vx_own hat' (vx_isRefq hU'.1) (vx_isRefq hN'.1) hU'.2.word hN'.2.word
  have hown' : s'.vm.findClass own = some m.cls := by rw [hvm]; exact hown
  have hins : (Cond.instantiable cls 6).before args s' = true := h _ (by simp [Bundle.ownAtoms0])
  obtain ⟨vm₁, cX, kX, hfX, hkX, -, -, X₁, st1⟩ := Y.newCold hexec (own := own) (C := cls) (index := ik) (n := 6) hown' hk' hins hini'
    (g := F0 m pc ls rest) rfl (by rw [hb]; exact d0) (Nat.le_refl _) (Nat.le_refl _)
  generalize hT1 : (T.setVm vm₁).pushCell { cls := cX, slots := kX.instanceTypes.map defaultValue, vm := .none } = T1 at X₁ st1
  have hcat : (Value.ref T.heap.size).category = 1 := rfl
  have hcellA : T1.heap[T.heap.size]? = some (freshCell cX kX) := by rw [← hT1]; exact State.heap_pushCell_size _ _
  have d3' : decode c.code (pc + 3) = .ok (.dup, 1) := by rw [hb]; exact d3
  obtain ⟨U, hsteps, hrun, hend, hW, hsame, ce, hce, hO⟩ := X₁.ctorThrow0 hexec htr (own := own) (cls := cls) (names := names) (ic := ic) hown' hcls hnames h (fun x hx => nomatch hx) hfX hkX hcellA (by rw [hhp, hT]; exact Nat.le_refl _)
    (g := { method := m, pc := pc + 4, locals := ls, stack := .ref T.heap.size :: .ref T.heap.size :: rest, locked := none }) rfl hsize rfl rfl (rest := rest) rfl
    (by rw [hb]; exact d4) (by rw [hb]; exact d7) hout hRframes (by simp only [List.map_cons, List.sum_cons, hcat]; omega) hlocks
  obtain ⟨f1, f2⟩ := vx_frame hsame
  rw [hhp] at f1 f2
  have hWs : s.WarmedH U.vm := State.WarmedH.trans hW0 hW
  have hcl : s.vm.findClass cls = some ce.cls := by
    have h9 := hO.cls
    rw [hvm] at h9
    exact h9
  have hall : s.sameButNew ({ U with vm := s.vm } : State) locs mc ms := by
    subst hA
    obtain ⟨e1, e2⟩ := hsame
    rw [State.setFrames_setFrames] at e1
    have h2 : (T.setVm s.vm).sameButNew ({ U with vm := s.vm } : State) [] (0 + 1) (0 + 6) := ⟨e1, e2⟩
    have h3 := X.same.trans h2
    rw [List.append_nil] at h3
    exact h3.mono hc hs
  refine ⟨U, ?_, .threw T.heap.size, hrun, hend, Or.inr ⟨T.heap.size, rfl, cls, ce, locs, hx U hWs.alike f1 (fun q hq => f2 q hq (fun z hz => nomatch hz)), hce, hO.vm, hcl, hWs, hall, hf⟩⟩
  refine st1 _ ?_
  show Steps p.tables e below (T1.setTop { method := m, pc := pc + 3, locals := ls, stack := .ref T.heap.size :: rest, locked := none }) _
  jvm_step X₁.here [X₁.here.top, hexec, d3', Value.category]
  exact hsteps
/-- 'throw new E("text")': new; dup; ldc; invokespecial; athrow -/
theorem vx_throwS {cc : ByteArray} {pc : Nat} (hexec : p.tables.exec = Jvm.exec) (hb : c.code = cc) (hl : l.stackTraces = false) {own cls text : String} {names : List String} {ik is ic mc ms sa : Nat} {A : Nat → Prop}
    (hown : s.vm.findClass own = some m.cls) (hcls : Bundle.fit cls = true) (hnames : ∀ n ∈ names, Bundle.fit n = true)
    (hk : (Cond.classLink own ik cls).before args s = true) (hini : (Cond.initialized cls).before args s = true) (hstr : vk_R own is text sa s) (hat : ∀ w ∈ vx_atS own ic cls names, w.before args s = true)
    (hgood : ∀ w ∈ Cond.classLink own ik cls :: Cond.initialized cls :: vx_atS own ic cls names, vx_ot w = true)
    (hU : vx_Zq Bundle.tN "UNASSIGNED_STACK" Bundle.steD A s s.heap) (hN : vx_Zq Bundle.tN "SUPPRESSED_SENTINEL" Bundle.listD A s s.heap) (hS : va_S A s.heap H locs) (hsize : ls.size = c.maxLocals)
    (d0 : decode cc pc = .ok (.new ik, 3)) (d3 : decode cc (pc + 3) = .ok (.dup, 1)) (d4 : decode cc (pc + 4) = .ok (.ldc is, 2)) (d6 : decode cc (pc + 6) = .ok (.invokespecial ic, 3)) (d9 : decode cc (pc + 9) = .ok (.athrow, 1))
    (hout : ∀ x ∈ c.exceptionTable.toList, covers x (pc + 9) = false)
    (hRframes : names.length + 3 < R.frames) (hRlocals : (rest.map fun v => v.category).sum + (13 * (names.length + 1) + 43) ≤ R.locals) (hRcells : cells + 1 ≤ R.cells) (hRslots : slots + 6 ≤ R.slots) (hlocks : meth.locks = false)
    (hx : ∀ t : State, s.vm.Alike t.vm → H.size ≤ t.heap.size → (∀ q : Nat, q < H.size → t.heap[q]? = H[q]?) → XC cls s t)
    (hf : ∀ z ∈ locs, free z.base) (hc : cells + 1 ≤ mc) (hs : slots + 6 ≤ ms) :
    W p l e R s m args below meth c H locs cells slots (vx_MQ below Qc XC args s mc ms free) (F0 m pc ls rest) := by
  intro T hT X
  have htr : e.platform.stackTraces = false := (show e.platform.stackTraces = l.stackTraces by rw [X.admits.platform]).trans hl
  have Y := vx_rebase X (R' := { frames := R.frames, locals := R.locals, cells := 1, slots := 6 }) (Nat.le_refl _) (Nat.le_refl _) hRcells hRslots
  obtain ⟨s', hA⟩ : ∃ z, z = (T.setVm s.vm).setFrames (.invoking m args :: below) := ⟨_, rfl⟩
  rw [← hA] at Y
  have hvm : s'.vm = s.vm := by rw [hA]; rfl
  have hhp : s'.heap = H := by rw [hA]; exact hT
  have hW0 : s.WarmedH s'.vm := by rw [hvm]; exact State.WarmedH.refl s
  have hat' : ∀ w ∈ vx_atS own ic cls names, w.before args s' = true := fun w hw => vx_ot_at hW0 hvm.symm (hgood w (List.mem_cons_of_mem _ (List.mem_cons_of_mem _ hw))) (hat w hw)
  have hk' : (Cond.classLink own ik cls).before args s' = true := vx_ot_at hW0 hvm.symm (hgood _ List.mem_cons_self) hk
  have hini' : (Cond.initialized cls).before args s' = true := vx_ot_at hW0 hvm.symm (hgood _ (List.mem_cons_of_mem _ List.mem_cons_self)) hini
  have hU' : vx_Zq Bundle.tN "UNASSIGNED_STACK" Bundle.steD A s' s'.heap := by rw [hhp]; exact vx_Zq.moved hW0.alike (hU.kept hS.2.1)
  have hN' : vx_Zq Bundle.tN "SUPPRESSED_SENTINEL" Bundle.listD A s' s'.heap := by rw [hhp]; exact vx_Zq.moved hW0.alike (hN.kept hS.2.1)
  have h : ∀ w ∈ Bundle.ownAtoms own ic cls names, w.before args s' = true := vx_own hat' (vx_isRefq hU'.1) (vx_isRefq hN'.1) hU'.2.word hN'.2.word
  have hown' : s'.vm.findClass own = some m.cls := by rw [hvm]; exact hown
  have hins : (Cond.instantiable cls 6).before args s' = true := h _ (by simp [Bundle.ownAtoms])
  obtain ⟨vm₁, cX, kX, hfX, hkX, -, -, X₁, st1⟩ := Y.newCold hexec (own := own) (C := cls) (index := ik) (n := 6) hown' hk' hins hini'
    (g := F0 m pc ls rest) rfl (by rw [hb]; exact d0) (Nat.le_refl _) (Nat.le_refl _)
  generalize hT1 : (T.setVm vm₁).pushCell { cls := cX, slots := kX.instanceTypes.map defaultValue, vm := .none } = T1 at X₁ st1
  have hcat : (Value.ref T.heap.size).category = 1 := rfl
  have hcellA : T1.heap[T.heap.size]? = some (freshCell cX kX) := by rw [← hT1]; exact State.heap_pushCell_size _ _
  have d3' : decode c.code (pc + 3) = .ok (.dup, 1) := by rw [hb]; exact d3
  have d4' : decode c.code (pc + 4) = .ok (.ldc is, 2) := by rw [hb]; exact d4
  have hstr' : vk_R own is text sa s' := vk_R.warm hW0 hstr
  obtain ⟨U, hsteps, hrun, hend, hW, hsame, ce, hce, hO⟩ := X₁.ctorThrowS hexec htr (own := own) (cls := cls) (names := names) (ic := ic) hown' hcls hnames h (fun x hx => nomatch hx) hfX hkX hcellA (by rw [hhp, hT]; exact Nat.le_refl _) (msg := .ref sa) rfl
    (g := { method := m, pc := pc + 6, locals := ls, stack := .ref sa :: .ref T.heap.size :: .ref T.heap.size :: rest, locked := none }) rfl hsize rfl rfl (rest := rest) rfl
    (by rw [hb]; exact d6) (by rw [hb]; exact d9) hout hRframes (by simp only [List.map_cons, List.sum_cons, hcat]; omega) hlocks
  obtain ⟨f1, f2⟩ := vx_frame hsame
  rw [hhp] at f1 f2
  have hWs : s.WarmedH U.vm := State.WarmedH.trans hW0 hW
  have hcl : s.vm.findClass cls = some ce.cls := by
    have h9 := hO.cls
    rw [hvm] at h9
    exact h9
  have hall : s.sameButNew ({ U with vm := s.vm } : State) locs mc ms := by
    subst hA
    obtain ⟨e1, e2⟩ := hsame
    rw [State.setFrames_setFrames] at e1
    have h2 : (T.setVm s.vm).sameButNew ({ U with vm := s.vm } : State) [] (0 + 1) (0 + 6) := ⟨e1, e2⟩
    have h3 := X.same.trans h2
    rw [List.append_nil] at h3
    exact h3.mono hc hs
  refine ⟨U, ?_, .threw T.heap.size, hrun, hend, Or.inr ⟨T.heap.size, rfl, cls, ce, locs, hx U hWs.alike f1 (fun q hq => f2 q hq (fun z hz => nomatch hz)), hce, hO.vm, hcl, hWs, hall, hf⟩⟩
  refine st1 _ ?_
  show Steps p.tables e below (T1.setTop { method := m, pc := pc + 3, locals := ls, stack := .ref T.heap.size :: rest, locked := none }) _
  jvm_step X₁.here [X₁.here.top, hexec, d3', Value.category]
  exact X₁.ldcString hexec (own := own) (text := text) (index := is) (a := sa) hown' hstr'.1 hstr'.2
    (g := { method := m, pc := pc + 4, locals := ls, stack := .ref T.heap.size :: .ref T.heap.size :: rest, locked := none }) rfl d4' _ hsteps
/-- 'throw new E("text")', the text by a wide index -/
theorem vx_throwSW {cc : ByteArray} {pc : Nat} (hexec : p.tables.exec = Jvm.exec) (hb : c.code = cc) (hl : l.stackTraces = false) {own cls text : String} {names : List String} {ik is ic mc ms sa : Nat} {A : Nat → Prop}
    (hown : s.vm.findClass own = some m.cls) (hcls : Bundle.fit cls = true) (hnames : ∀ n ∈ names, Bundle.fit n = true)
    (hk : (Cond.classLink own ik cls).before args s = true) (hini : (Cond.initialized cls).before args s = true) (hstr : vk_R own is text sa s) (hat : ∀ w ∈ vx_atS own ic cls names, w.before args s = true)
    (hgood : ∀ w ∈ Cond.classLink own ik cls :: Cond.initialized cls :: vx_atS own ic cls names, vx_ot w = true)
    (hU : vx_Zq Bundle.tN "UNASSIGNED_STACK" Bundle.steD A s s.heap) (hN : vx_Zq Bundle.tN "SUPPRESSED_SENTINEL" Bundle.listD A s s.heap) (hS : va_S A s.heap H locs) (hsize : ls.size = c.maxLocals)
    (d0 : decode cc pc = .ok (.new ik, 3)) (d3 : decode cc (pc + 3) = .ok (.dup, 1)) (d4 : decode cc (pc + 4) = .ok (.ldc_w is, 3)) (d7 : decode cc (pc + 7) = .ok (.invokespecial ic, 3)) (d10 : decode cc (pc + 10) = .ok (.athrow, 1))
    (hout : ∀ x ∈ c.exceptionTable.toList, covers x (pc + 10) = false)
    (hRframes : names.length + 3 < R.frames) (hRlocals : (rest.map fun v => v.category).sum + (13 * (names.length + 1) + 43) ≤ R.locals) (hRcells : cells + 1 ≤ R.cells) (hRslots : slots + 6 ≤ R.slots) (hlocks : meth.locks = false)
    (hx : ∀ t : State, s.vm.Alike t.vm → H.size ≤ t.heap.size → (∀ q : Nat, q < H.size → t.heap[q]? = H[q]?) → XC cls s t)
    (hf : ∀ z ∈ locs, free z.base) (hc : cells + 1 ≤ mc) (hs : slots + 6 ≤ ms) :
    W p l e R s m args below meth c H locs cells slots (vx_MQ below Qc XC args s mc ms free) (F0 m pc ls rest) := by
  intro T hT X
  have htr : e.platform.stackTraces = false := (show e.platform.stackTraces = l.stackTraces by rw [X.admits.platform]).trans hl
  have Y := vx_rebase X (R' := { frames := R.frames, locals := R.locals, cells := 1, slots := 6 }) (Nat.le_refl _) (Nat.le_refl _) hRcells hRslots
  obtain ⟨s', hA⟩ : ∃ z, z = (T.setVm s.vm).setFrames (.invoking m args :: below) := ⟨_, rfl⟩
  rw [← hA] at Y
  have hvm : s'.vm = s.vm := by rw [hA]; rfl
  have hhp : s'.heap = H := by rw [hA]; exact hT
  have hW0 : s.WarmedH s'.vm := by rw [hvm]; exact State.WarmedH.refl s
  have hat' : ∀ w ∈ vx_atS own ic cls names, w.before args s' = true := fun w hw => vx_ot_at hW0 hvm.symm (hgood w (List.mem_cons_of_mem _ (List.mem_cons_of_mem _ hw))) (hat w hw)
  have hk' : (Cond.classLink own ik cls).before args s' = true := vx_ot_at hW0 hvm.symm (hgood _ List.mem_cons_self) hk
  have hini' : (Cond.initialized cls).before args s' = true := vx_ot_at hW0 hvm.symm (hgood _ (List.mem_cons_of_mem _ List.mem_cons_self)) hini
  have hU' : vx_Zq Bundle.tN "UNASSIGNED_STACK" Bundle.steD A s' s'.heap := by rw [hhp]; exact vx_Zq.moved hW0.alike (hU.kept hS.2.1)
  have hN' : vx_Zq Bundle.tN "SUPPRESSED_SENTINEL" Bundle.listD A s' s'.heap := by rw [hhp]; exact vx_Zq.moved hW0.alike (hN.kept hS.2.1)
  have h : ∀ w ∈ Bundle.ownAtoms own ic cls names, w.before args s' = true := vx_own hat' (vx_isRefq hU'.1) (vx_isRefq hN'.1) hU'.2.word hN'.2.word
  have hown' : s'.vm.findClass own = some m.cls := by rw [hvm]; exact hown
  have hins : (Cond.instantiable cls 6).before args s' = true := h _ (by simp [Bundle.ownAtoms])
  obtain ⟨vm₁, cX, kX, hfX, hkX, -, -, X₁, st1⟩ := Y.newCold hexec (own := own) (C := cls) (index := ik) (n := 6) hown' hk' hins hini'
    (g := F0 m pc ls rest) rfl (by rw [hb]; exact d0) (Nat.le_refl _) (Nat.le_refl _)
  generalize hT1 : (T.setVm vm₁).pushCell { cls := cX, slots := kX.instanceTypes.map defaultValue, vm := .none } = T1 at X₁ st1
  have hcat : (Value.ref T.heap.size).category = 1 := rfl
  have hcellA : T1.heap[T.heap.size]? = some (freshCell cX kX) := by rw [← hT1]; exact State.heap_pushCell_size _ _
  have d3' : decode c.code (pc + 3) = .ok (.dup, 1) := by rw [hb]; exact d3
  have d4' : decode c.code (pc + 4) = .ok (.ldc_w is, 3) := by rw [hb]; exact d4
  have hstr' : vk_R own is text sa s' := vk_R.warm hW0 hstr
  obtain ⟨U, hsteps, hrun, hend, hW, hsame, ce, hce, hO⟩ := X₁.ctorThrowS hexec htr (own := own) (cls := cls) (names := names) (ic := ic) hown' hcls hnames h (fun x hx => nomatch hx) hfX hkX hcellA (by rw [hhp, hT]; exact Nat.le_refl _) (msg := .ref sa) rfl
    (g := { method := m, pc := pc + 7, locals := ls, stack := .ref sa :: .ref T.heap.size :: .ref T.heap.size :: rest, locked := none }) rfl hsize rfl rfl (rest := rest) rfl
    (by rw [hb]; exact d7) (by rw [hb]; exact d10) hout hRframes (by simp only [List.map_cons, List.sum_cons, hcat]; omega) hlocks
  obtain ⟨f1, f2⟩ := vx_frame hsame
  rw [hhp] at f1 f2
  have hWs : s.WarmedH U.vm := State.WarmedH.trans hW0 hW
  have hcl : s.vm.findClass cls = some ce.cls := by
    have h9 := hO.cls
    rw [hvm] at h9
    exact h9
  have hall : s.sameButNew ({ U with vm := s.vm } : State) locs mc ms := by
    subst hA
    obtain ⟨e1, e2⟩ := hsame
    rw [State.setFrames_setFrames] at e1
    have h2 : (T.setVm s.vm).sameButNew ({ U with vm := s.vm } : State) [] (0 + 1) (0 + 6) := ⟨e1, e2⟩
    have h3 := X.same.trans h2
    rw [List.append_nil] at h3
    exact h3.mono hc hs
  refine ⟨U, ?_, .threw T.heap.size, hrun, hend, Or.inr ⟨T.heap.size, rfl, cls, ce, locs, hx U hWs.alike f1 (fun q hq => f2 q hq (fun z hz => nomatch hz)), hce, hO.vm, hcl, hWs, hall, hf⟩⟩
  refine st1 _ ?_
  show Steps p.tables e below (T1.setTop { method := m, pc := pc + 3, locals := ls, stack := .ref T.heap.size :: rest, locked := none }) _
  jvm_step X₁.here [X₁.here.top, hexec, d3', Value.category]
  exact X₁.ldcStringW hexec (own := own) (text := text) (index := is) (a := sa) hown' hstr'.1 hstr'.2
    (g := { method := m, pc := pc + 4, locals := ls, stack := .ref T.heap.size :: .ref T.heap.size :: rest, locked := none }) rfl d4' _ hsteps
end Ends
section Bodies
variable {l : Launch}
theorem vx_ofW {y : MethodName} {ws ws' : List Cond} {rm : Room} {Pc : Array Value → State → Prop} {Qc : Array Value → State → Outcome → State → Prop} {XC : String → State → State → Prop} {mc ms : Nat} {free : Addr → Prop} {cc : ByteArray} {maxL : Nat} {ret : Option FieldType}
    (hy : plainName y.cls = true) (hw : ws = Cond.code y cc maxL ret :: ws')
    (body : ∀ p e s m args below meth c s₁, BodyLoose p l y (headSpec ws rm) cc maxL ret e s m args below meth c s₁ → c.maxLocals = maxL → (∀ x ∈ c.exceptionTable.toList, False) → Pc args s →
      W p l e (headSpec ws rm).room s m args below meth c s.heap [] 0 0 (vx_MQ below Qc XC args s mc ms free) (entryFrame m args maxL)) : vx_Met l y ws rm Pc Qc XC mc ms free := by
  refine MetFree.of_bodyS (code := cc) (maxLocals := maxL) (ret := ret) hy ?_ ?_
  · intro args s m h hn
    obtain ⟨meth, c, h1, h2, h3, h4, h5, h6, -, -⟩ := Cond.code_spec hn (atoms_spec (ws := ws) h _ (by rw [hw]; exact List.mem_cons_self))
    exact ⟨meth, c, h1, h2, h3, h4, h5, h6⟩
  · intro p e s m args below meth c s₁ B hml hP _
    have hh0 : s₁.heap = s.heap := by rw [B.state]; rfl
    have ht : ∀ x ∈ c.exceptionTable.toList, False := by
      obtain ⟨meth9, c9, h1, h2, -, -, -, -, h7, -⟩ := Cond.code_spec B.named (atoms_spec (ws := ws) B.pre _ (by rw [hw]; exact List.mem_cons_self))
      cases Option.some.inj (h1.symm.trans B.method)
      cases Option.some.inj (h2.symm.trans (Stand.of_body B).code)
      intro x hx
      rw [Array.isEmpty_iff.mp h7] at hx
      cases hx
    obtain ⟨t, a1, o, b1, b2, b3⟩ := body p e s m args below meth c s₁ B hml ht hP s₁ hh0 (Stand.of_body B)
    exact ⟨t, o, a1, b1, b2, b3⟩
/-- the table of a body with handlers -/
theorem vx_table {p : Program} {x y : MethodName} {S : Spec} {cc bytes : ByteArray} {maxL maxL' : Nat} {ret ret' : Option FieldType} {e : Env} {s s₁ : State} {m : MethodId} {args : Array Value} {below : List Frame} {meth : Method} {c : Code} {hh : List (Nat × Nat × Nat × Nat)}
    (B : BodyLoose p l y S cc maxL ret e s m args below meth c s₁) (h : (Cond.codeWith y bytes maxL' ret' hh).before args s = true) : c.exceptionTable.toList = tableOf hh := by
  obtain ⟨m9, meth9, c9, hn9, h1, h2, -, -, h6, -⟩ := Cond.codeWith_spec h
  cases Option.some.inj (hn9.symm.trans B.named)
  cases Option.some.inj (h1.symm.trans B.method)
  cases Option.some.inj (h2.symm.trans (Stand.of_body B).code)
  rw [← h6, table_eq]
end Bodies
end VXA
/-! ===== END ===== -/
/-! ===== BEGIN a static call of a method with an exception table ===== -/
section VXS
variable {p : Program} {l : Launch} {e : Env} {R : Room} {s : State} {m : MethodId} {args : Array Value} {below : List Frame} {meth : Method} {c : Code} {T : State} {H : Heap} {locs : List Loc} {cells slots : Nat}
abbrev vx_CSW (R : Room) (s : State) (args : Array Value) (own : String) (index : Nat) (y : MethodName) (bytes : ByteArray) (maxL : Nat) (ret : Option FieldType) (hh : List (Nat × Nat × Nat × Nat)) (ws : List Cond) (rm : Room) (mc ms n : Nat) : Prop :=
  (rm.cells = mc ∧ rm.slots = ms ∧ rm.frames + 1 ≤ R.frames ∧ 8 + (maxL + 11) + rm.locals ≤ R.locals ∧ (∀ w ∈ ws, ∀ (a' : Array Value) (U : State), s.WarmedH U.vm → w.before a' U = true) ∧ Cond.codeWith y bytes maxL ret hh ∈ ws) ∧
  (Cond.codeWith y bytes maxL ret hh).before args s = true ∧ (Cond.initialized y.cls).before args s = true ∧ (y.cls ≠ "java/lang/invoke/MethodHandle" ∧ y.cls ≠ "java/lang/invoke/VarHandle") ∧
  (∀ sig, parseMethodDescriptor y.desc = some sig → n = sig.parameters.length) ∧ (Cond.methodLink own index y).before args s = true ∧ (Cond.static y).before args s = true
theorem vx_cwSW {own : String} {index maxL mc ms : Nat} {y : MethodName} {bytes : ByteArray} {ret : Option FieldType} {hh : List (Nat × Nat × Nat × Nat)} {Ts ws ws' : List Cond} {rm : Room} (n : Nat) (ht : ∀ w ∈ Ts, w.before args s = true) (hT : GoodIn Ts (va_wsS own index y ws)) (hw : ws = Cond.codeWith y bytes maxL ret hh :: ws') (hrc : rm.cells = mc) (hrs : rm.slots = ms)
    (hd : y.cls ≠ "java/lang/invoke/MethodHandle" ∧ y.cls ≠ "java/lang/invoke/VarHandle" ∧ (parseMethodDescriptor y.desc).map (fun d => d.parameters.length) = some n) (hR : rm.frames + 1 ≤ R.frames ∧ 8 + (maxL + 11) + rm.locals ≤ R.locals) :
    vx_CSW R s args own index y bytes maxL ret hh ws rm mc ms n := by
  have ok : ∀ w ∈ va_wsS own index y ws, w.before args s = true := fun w h => ht w (hT w h).1
  have hG : GoodIn Ts ws := fun w h => hT w (by unfold va_wsS; exact List.mem_append_right _ h)
  have hc : Cond.codeWith y bytes maxL ret hh ∈ ws := by rw [hw]; exact List.mem_cons_self
  refine ⟨⟨hrc, hrs, hR.1, hR.2, pay_in ht hG, hc⟩, ht _ (hG _ hc).1, ok _ (by simp [va_wsS]), ⟨hd.1, hd.2.1⟩, fun sig h => ?_, ok _ (by simp [va_wsS]), ok _ (by simp [va_wsS])⟩
  have h2 := hd.2.2
  rw [h] at h2
  exact (Option.some.inj h2).symm
theorem vx_callSW (X : Stand p l e R s m args below meth c T locs cells slots) (hexec : p.tables.exec = Jvm.exec) {own : String} {index : Nat} {y : MethodName} {bytes : ByteArray} {maxL : Nat} {ret : Option FieldType} {hh : List (Nat × Nat × Nat × Nat)}
    (hown : s.vm.findClass own = some m.cls) (hlink : (Cond.methodLink own index y).before args s = true) (hstat : (Cond.static y).before args s = true) (hinit : (Cond.initialized y.cls).before args s = true)
    (hcode : (Cond.codeWith y bytes maxL ret hh).before args s = true) (hy : y.cls ≠ "java/lang/invoke/MethodHandle" ∧ y.cls ≠ "java/lang/invoke/VarHandle")
    {W9 : Nat} {Pre : Pt → Array Value → Prop} {Post : Pt → Array Value → Option Value → Pt → Prop} (hK : Back l R p e below s args y 3 W9 Pre Post)
    {g : JFrame} (hg : g.method = m) (hsize : g.locals.size = c.maxLocals) {argsL rest : List Value} (hlen : ∀ sig, parseMethodDescriptor y.desc = some sig → argsL.length = sig.parameters.length)
    (hstack : g.stack = argsL.reverse ++ rest) (hW : 2 * g.monitorRoom + (rest.map fun v => v.category).sum ≤ W9) (hdg : decode c.code g.pc = .ok (.invokestatic index, 3))
    (hpre : ∀ vm₁, s.WarmedH vm₁ → Pre ⟨T.setVm vm₁, locs, cells, slots⟩ argsL.toArray) :
    ∃ (v : Option Value) (vm₁ : Vm) (B : Pt), s.WarmedH vm₁ ∧ Stand p l e R s m args below meth c B.U B.locs B.cells B.slots ∧ Post ⟨T.setVm vm₁, locs, cells, slots⟩ argsL.toArray v B ∧
      ∀ target, Steps p.tables e below (B.U.setTop { g with pc := g.pc + 3, stack := v.toList ++ rest }) target → Steps p.tables e below (T.setTop g) target := by
  obtain ⟨mk, methM, cM, hnamed, hmethM, -, -, -, -, -, -, hsigM⟩ := Cond.codeWith_spec hcode
  have hstatic : methM.isStatic = true := Cond.static_spec hnamed hmethM hstat
  obtain ⟨kP, hkP, -⟩ := className_of_methodNamed hnamed
  have hinitP : kP.init = .initialized := Cond.initialized_spec (findClass_of_methodNamed hnamed) hkP hinit
  obtain ⟨vm₁, X₁, hstep₁⟩ := X.invokestatic hexec hown hlink hnamed hmethM hstatic hkP hinitP hy (g := g) hg (argsL := argsL) (rest := rest) (hlen _ hsigM) hstack hdg
  obtain ⟨v, B, X', hpost, hsteps⟩ := hK m meth c ⟨T.setVm vm₁, locs, cells, slots⟩ { g with stack := rest } (.invokestatic index) mk argsL.toArray X₁ hg hsize hdg hW (X₁.named hnamed) (hpre vm₁ X₁.warmed)
  exact ⟨v, vm₁, B, X₁.warmed, X', hpost, fun target h => hstep₁ _ fun acts => by rw [doInvoke_state]; exact hsteps.trans h⟩
theorem vx_runSW {y : MethodName} {bytes cc : ByteArray} {maxL nL mc ms n index : Nat} {ret : Option FieldType} {hh : List (Nat × Nat × Nat × Nat)} {ws : List Cond} {rm : Room} {Pc : Array Value → State → Prop} {Qc : Array Value → State → Outcome → State → Prop} {free : Addr → Prop} {Ts : List Cond} {own : String} {As rest : List Value} {g : JFrame}
    (S : CallFix p m c cc nL s args Ts own) (hM : Met l y ws rm Pc Qc mc ms free) (cw : vx_CSW R s args own index y bytes maxL ret hh ws rm mc ms n) (hp : PreS s H Pc As)
    (hg : g.method = m) (hn : As.length = n) (hsize : g.locals.size = nL) (hstack : g.stack = As.reverse ++ rest) (hW : 2 * g.monitorRoom + (rest.map fun v => v.category).sum ≤ 8) (hdg : decode cc g.pc = .ok (.invokestatic index, 3)) (hf : cells + mc ≤ R.cells ∧ slots + ms ≤ R.slots) :
    va_Run p l e R s m args below meth c H locs cells slots mc ms g rest (Qc As.toArray) (free) := by
  obtain ⟨⟨hrc, hrs, hfr, hlo, hws, hcw⟩, hcode, hini, hy, hlen, hl, hstt⟩ := cw
  have hK : Back l R p e below s args y 3 8 (PreOf R mc ms Pc) (PostOf Qc mc ms free) := va_backW (hh := hh) (bytes := bytes) (maxL := maxL) (ret := ret) hM hp.1 hrc hrs hfr hlo hws hcw (fun a' U hW => word_at hW (Or.inl (by first | rfl | simp [Cond.onTables, Cond.keeps, Cond.steady])) hini)
  obtain ⟨hx, hb, hml, ho, -⟩ := S
  intro T hT X
  obtain ⟨v, vm₁, ⟨U', l2, c2, s2⟩, hW₁, X', ⟨g', mk, t, L, e1, e2, hq, h1, hL, h2, h3⟩, st⟩ := vx_callSW X hx (hh := hh) (bytes := bytes) (maxL := maxL) (ret := ret) ho hl hstt hini hcode hy hK hg (hsize.trans hml.symm) (argsL := As) (rest := rest) (fun sig h => hn.trans (hlen sig h)) hstack hW (by rw [hb]; exact hdg)
    (fun vm₁ hW₁ => ⟨hf.1, hf.2, hp.2 (T.setVm vm₁) hT hW₁⟩)
  dsimp only [Pt.U, Pt.locs, Pt.cells, Pt.slots] at X' e1 e2 h1 h2 h3 st
  subst h1; subst h2; subst h3
  exact ⟨v, (T.setVm vm₁).calling g' mk As.toArray, t, U', L, hT, X', hL, e1, e2, hq, st⟩
/-- not caught here, past rows that name other classes: it goes on to the caller -/
theorem vx_outP {p : Program} {l : Launch} {e : Env} {R : Room} {s : State} {m : MethodId} {args : Array Value} {below : List Frame} {meth : Method} {c : Code} {H : Heap} {locs : List Loc} {cells slots : Nat} {free : Addr → Prop} {ls : Array Slot} {rest : List Value} {Qc : Array Value → State → Outcome → State → Prop} {XC : String → State → State → Prop}
    {pc : Nat} {own E : String} {ce : Cell} {q : Addr} {mc ms : Nat} (hown : s.vm.findClass own = some m.cls) (hlocks : meth.locks = false)
    (hpass : ∀ z ∈ c.exceptionTable.toList, covers z pc = false ∨ (z.catchType ≠ 0 ∧ ∃ nm : String, (Cond.classLink own z.catchType nm).before args s = true ∧ va_Nc E nm s)) (hcell : H[q]? = some ce) (hv : ce.vm = .none) (hcl : s.vm.findClass E = some ce.cls)
    (hx : ∀ t : State, t.heap = H → s.vm.Alike t.vm → XC E s t) (hf : ∀ z ∈ locs, free z.base) (hc : cells ≤ mc) (hs : slots ≤ ms) :
    vx_W p l e R s m args below meth c H locs cells slots (vx_MQ below Qc XC args s mc ms free) (F0 m pc ls rest) q := by
  intro T hT X
  have hpl : e.platform.magicAccessors = ({} : Platform).magicAccessors := by rw [X.admits.platform]
  obtain ⟨vm', hW', X', st⟩ := X.outThrough hlocks q (g := F0 m pc ls rest) rfl rfl rfl (cell := ce) (by rw [hT]; exact hcell) (by rw [hv]; rfl)
    (by obtain ⟨k9, h9, -⟩ := Vm.findClass_spec hcl; exact ⟨k9, h9⟩) (fun z hz => by
      rcases hpass z hz with h | ⟨hz0, nm, hl1, hn1⟩
      · exact Or.inl h
      · obtain ⟨c6, hc6, hcl6⟩ := Cond.classLink_spec hown hl1 e.platform hpl
        obtain ⟨a8, b8, h1, h2, h3⟩ := hn1
        cases Option.some.inj (h1.symm.trans hcl)
        cases Option.some.inj (h2.symm.trans hc6)
        exact Or.inr ⟨hz0, _, hcl6, h3⟩)
  obtain ⟨g₀, hfr⟩ := X'.frames_eq
  have hcell9 : ((T.setVm vm').setFrames (.throwing q :: below)).heap[q]? = some ce := by
    show T.heap[q]? = some ce
    rw [hT]; exact hcell
  have hend : Ended ((T.setVm vm').setFrames (.throwing q :: below)) below (.threw q) := State.frames_setFrames _ (State.cur_lt_of_frames hfr)
  refine ⟨(T.setVm vm').setFrames (.throwing q :: below), ?_, .threw q, X'.here.running, hend, Or.inr ⟨q, rfl, E, ce, locs, hx _ hT (X'.ends _).1.alike, hcell9, hv, hcl, (X'.ends _).1, (X'.ends _).2.mono hc hs, hf⟩⟩
  rw [X.pushThrowing_eq]
  exact st
/-- a thing of a world lies in the heap -/
theorem vx_lt {D : va_G} {cl : List vw_C} {ws : va_W} {H1 : Heap} (h : va_P D cl ws H1) {k : Nat} {q : Nat × va_E} (hk : ws[k]? = some q) : q.1 < H1.size := (h k q hk).lt
end VXS
/-! ===== END ===== -/
/-! ===== BEGIN methods with a table of their own: called by a name, returning or throwing ===== -/
section VXH
/-! vx_backW, vx_callVX, vx_callSX, vx_callVW, vx_runVW, vx_runVX, vx_runSX, vx_ofWH follow the same proofs as their sisters above (Free/Laws.lean, Shelf42/LK1.lean); vx_outP calls Shelf42/NT130.lean (outThrough). -/
section
variable {l : Launch} {R : Room} {p : Program} {e : Env} {below : List Frame} {s : State} {sargs : Array Value} {y : MethodName} {len W9 : Nat}
theorem vx_backW {ws : List Cond} {rm : Room} {Pc : Array Value → State → Prop} {Qc : Array Value → State → Outcome → State → Prop} {XC : String → State → State → Prop} {mc ms : Nat} {free : Addr → Prop} {bytes : ByteArray} {maxL : Nat} {ret : Option FieldType} {hh : List (Nat × Nat × Nat × Nat)}
    (hM : vx_Met l y ws rm Pc Qc XC mc ms free) (hblind : FrameBlind Pc) (hrc : rm.cells = mc) (hrs : rm.slots = ms)
    (hframes : rm.frames + 1 ≤ R.frames) (hlocals : W9 + (maxL + 11) + rm.locals ≤ R.locals)
    (hws : ∀ w ∈ ws, ∀ a' U, s.WarmedH U.vm → w.before a' U = true) (hcode : Cond.codeWith y bytes maxL ret hh ∈ ws) (hinit : ∀ a' U, s.WarmedH U.vm → (Cond.initialized y.cls).before a' U = true) :
    vx_Back l R p e below s sargs y len W9 (PreOf R mc ms Pc) (PostOf Qc mc ms free) (vx_Post XC mc ms free) := by
  intro m meth c A g ig mk a X hg hsize hdg hW hn hp
  have h1 : (headSpec ws rm).pre.before a A.U = true := atoms_intro fun w hw => hws w hw _ _ X.warmed
  have h2 : (Cond.codeWith y bytes maxL ret hh).before a A.U = true := hws _ hcode _ _ X.warmed
  have h3 : (Cond.initialized y.cls).before a A.U = true := hinit _ _ X.warmed
  have h4 : A.cells + (headSpec ws rm).room.cells ≤ R.cells := by rw [show (headSpec ws rm).room.cells = mc from hrc]; exact hp.1
  have h5 : A.slots + (headSpec ws rm).room.slots ≤ R.slots := by rw [show (headSpec ws rm).room.slots = ms from hrs]; exact hp.2.1
  have hPc : Pc a (A.U.calling g mk a) := hblind _ _ _ _ hp.2.2
  obtain ⟨U, Ls, c0, s0⟩ := A
  dsimp only [Pt.U, Pt.locs, Pt.cells, Pt.slots] at h1 h2 h3 h4 h5 X hn hPc ⊢
  obtain ⟨m9, methY, cY, hn9, hmY, hcY, -, hlY, -⟩ := Cond.codeWith_spec h2
  cases Option.some.inj (hn9.symm.trans hn)
  obtain ⟨kY, hkY, -⟩ := className_of_methodNamed hn
  have hinitY : kY.init = .initialized := Cond.initialized_spec (findClass_of_methodNamed hn) hkY h3
  have h : At U g.method c below := by rw [hg]; exact X.here
  have hlocals9 : W9 + (maxL + 11) + (headSpec ws rm).room.locals ≤ R.locals := hlocals
  have happ : (headSpec ws rm).appliesLoose y e.platform (U.calling g mk a) = true :=
    Spec.appliesLoose_calling (g := g) h hdg hn hkY hinitY
      (X.room_calling (g := g) (R' := (headSpec ws rm).room) hsize hmY hcY hframes (by rw [hlY]; omega) h4 h5) h1
  obtain ⟨mid, hmid⟩ := h.above
  have hfr : (U.setTop g).frames = (.java g :: mid) ++ below := by rw [State.frames_setTop' g h.top, hmid]; rfl
  obtain ⟨o, s₂, hsteps, -, hend, hq⟩ := Steps.callFree hM p X.admits X.cas X.clock (acts := []) hfr happ hPc trivial
  have hq' : vx_Q Qc XC mc ms free a (U.calling g mk a) o s₂ := hq
  rw [State.frames_setTop' g h.top] at hend
  obtain ⟨g₀, hg0⟩ := Option.isSome_iff_exists.mp h.top
  obtain ⟨r, hr⟩ := State.topJava?_eq_some.mp hg0
  have hr' : (({ U with heap := s₂.heap, slotsUsed := s₂.slotsUsed } : State).setVm s₂.vm).frames = .java g₀ :: r := hr
  rcases hq' with ⟨hqc, L, hfe, hL⟩ | ⟨q, rfl, E, ce, L, hx, hce, hcv, hcl, hW₂, hsm, hL⟩
  · obtain ⟨⟨v, rfl⟩, hW₂, e2, q2, q3, q4, q5, q6⟩ := id hfe
    have e3 : s₂ = ({ (U.calling g mk a).setFrames s₂.frames with heap := s₂.heap, slotsUsed := s₂.slotsUsed } : State).setVm s₂.vm := by
      have : s₂ = ({ s₂ with vm := (U.calling g mk a).vm } : State).setVm s₂.vm := rfl
      rw [e2] at this
      exact this
    obtain ⟨c₂, i₂, len₂, hc₂, hd₂, hf₂⟩ := hend
    have hW' : U.WarmedH s₂.vm := hW₂
    have hcc : c₂ = c := by
      have h1 : s₂.code? g.method = U.code? g.method := by
        rw [State.code?_eq, State.code?_eq, hW'.alike.method?]
      exact Option.some.inj (hc₂.symm.trans (h1.trans h.code))
    subst hcc
    have hlen : len₂ = len := by rw [hdg] at hd₂; cases hd₂; rfl
    subst hlen
    have hs₂ : s₂ = (({ U with heap := s₂.heap, slotsUsed := s₂.slotsUsed } : State).setVm s₂.vm).setTop { g with pc := g.pc + len₂, stack := v.toList ++ g.stack } := by
      refine e3.trans ?_
      rw [hf₂, State.calling_eq h.top, State.setFrames_setFrames, State.setTop_of_frames _ hr', hr]
      rfl
    have hsame : U.sameButNew ({ U with heap := s₂.heap, slotsUsed := s₂.slotsUsed } : State) L mc ms := by
      refine ⟨?_, q2, q3, q4, q5, q6⟩
      obtain ⟨t, ht, -⟩ := State.frames_cons hr
      show ({ U with heap := s₂.heap, slotsUsed := s₂.slotsUsed } : State) = { U.setFrames U.frames with heap := s₂.heap, slotsUsed := s₂.slotsUsed }
      rw [State.setFrames_self ht]
    subst hg
    refine Or.inl ⟨v, ⟨(({ U with heap := s₂.heap, slotsUsed := s₂.slotsUsed } : State).setVm s₂.vm), Ls ++ L, c0 + mc, s0 + ms⟩,
      ⟨X.admits, X.cas, X.clock, X.frames, X.room, X.hears, X.method, X.code, (X.here.setHeapUsed s₂.heap s₂.slotsUsed).setVm hW'.alike, X.tail, State.WarmedH.trans X.warmed hW', X.limits, X.bytes, X.same.trans (hsame.setVm s.vm)⟩,
      ⟨g, mk, s₂, L, rfl, rfl, hqc, rfl, hL, rfl, rfl⟩, ?_⟩
    show Steps p.tables e below _ ((({ U with heap := s₂.heap, slotsUsed := s₂.slotsUsed } : State).setVm s₂.vm).setTop { g with pc := g.pc + len₂, stack := v.toList ++ g.stack })
    rw [← hs₂]
    exact hsteps
  · obtain ⟨e2, q2, q3, q4, q5, q6⟩ := id hsm
    have e3 : s₂ = ({ (U.calling g mk a).setFrames s₂.frames with heap := s₂.heap, slotsUsed := s₂.slotsUsed } : State).setVm s₂.vm := by
      have : s₂ = ({ s₂ with vm := (U.calling g mk a).vm } : State).setVm s₂.vm := rfl
      rw [e2] at this
      exact this
    have hf₂ : s₂.frames = .throwing q :: .java g :: U.frames.tail := hend
    have hW' : U.WarmedH s₂.vm := hW₂
    have hs₂ : s₂ = ((({ U with heap := s₂.heap, slotsUsed := s₂.slotsUsed } : State).setVm s₂.vm).setTop g).pushFrame (.throwing q) := by
      refine e3.trans ?_
      rw [hf₂, State.calling_eq h.top, State.setFrames_setFrames, State.pushFrame, State.frames_setTop _ hr', State.setTop_of_frames _ hr', State.setFrames_setFrames, hr]
      rfl
    have hsame : U.sameButNew ({ U with heap := s₂.heap, slotsUsed := s₂.slotsUsed } : State) L mc ms := by
      refine ⟨?_, q2, q3, q4, q5, q6⟩
      obtain ⟨t, ht, -⟩ := State.frames_cons hr
      show ({ U with heap := s₂.heap, slotsUsed := s₂.slotsUsed } : State) = { U.setFrames U.frames with heap := s₂.heap, slotsUsed := s₂.slotsUsed }
      rw [State.setFrames_self ht]
    subst hg
    refine Or.inr ⟨q, ⟨(({ U with heap := s₂.heap, slotsUsed := s₂.slotsUsed } : State).setVm s₂.vm), Ls ++ L, c0 + mc, s0 + ms⟩,
      ⟨X.admits, X.cas, X.clock, X.frames, X.room, X.hears, X.method, X.code, (X.here.setHeapUsed s₂.heap s₂.slotsUsed).setVm hW'.alike, X.tail, State.WarmedH.trans X.warmed hW', X.limits, X.bytes, X.same.trans (hsame.setVm s.vm)⟩,
      ⟨g, mk, s₂, L, E, ce, rfl, rfl, hx, hce, hcv, hcl, rfl, hL, rfl, rfl⟩, ?_⟩
    show Steps p.tables e below _ (((({ U with heap := s₂.heap, slotsUsed := s₂.slotsUsed } : State).setVm s₂.vm).setTop g).pushFrame (.throwing q))
    rw [← hs₂]
    exact hsteps
end
variable {p : Program} {l : Launch} {e : Env} {R : Room} {s : State} {m : MethodId} {args : Array Value} {below : List Frame} {meth : Method} {c : Code} {T : State} {H : Heap} {locs : List Loc} {cells slots : Nat}
theorem vx_callVX (X : Stand p l e R s m args below meth c T locs cells slots) (hexec : p.tables.exec = Jvm.exec) {own C : String} {index : Nat} {y : MethodName} {bytes : ByteArray} {maxL : Nat} {ret : Option FieldType} {hh : List (Nat × Nat × Nat × Nat)}
    (hown : s.vm.findClass own = some m.cls) (hlink : (Cond.methodLink own index y).before args s = true) (hinst : (Cond.instanceMethod y).before args s = true) (hsel : (Cond.selects C y y).before args s = true)
    (hcode : (Cond.codeWith y bytes maxL ret hh).before args s = true) (hy : y.cls ≠ "java/lang/invoke/MethodHandle" ∧ y.cls ≠ "java/lang/invoke/VarHandle")
    {W9 : Nat} {Pre : Pt → Array Value → Prop} {Post : Pt → Array Value → Option Value → Pt → Prop} {PostX : Pt → Array Value → Addr → Pt → Prop} (hK : vx_Back l R p e below s args y 3 W9 Pre Post PostX)
    {b : Addr} {cellB : Cell} (hcell : T.heap[b]? = some cellB) (hobj : cellB.vm.isStatics = false) (hcls : s.vm.findClass C = some cellB.cls)
    {g : JFrame} (hg : g.method = m) (hsize : g.locals.size = c.maxLocals) {argsL rest : List Value} (hlen : ∀ sig, parseMethodDescriptor y.desc = some sig → argsL.length = sig.parameters.length)
    (hstack : g.stack = argsL.reverse ++ .ref b :: rest) (hW : 2 * g.monitorRoom + (rest.map fun v => v.category).sum ≤ W9) (hdg : decode c.code g.pc = .ok (.invokevirtual index, 3))
    (hpre : ∀ vm₁, s.WarmedH vm₁ → Pre ⟨T.setVm vm₁, locs, cells, slots⟩ (Value.ref b :: argsL).toArray) :
    (∃ (v : Option Value) (vm₁ : Vm) (B : Pt), s.WarmedH vm₁ ∧ Stand p l e R s m args below meth c B.U B.locs B.cells B.slots ∧ Post ⟨T.setVm vm₁, locs, cells, slots⟩ (Value.ref b :: argsL).toArray v B ∧
      ∀ target, Steps p.tables e below (B.U.setTop { g with pc := g.pc + 3, stack := v.toList ++ rest }) target → Steps p.tables e below (T.setTop g) target) ∨
    (∃ (q : Addr) (vm₁ : Vm) (B : Pt), s.WarmedH vm₁ ∧ Stand p l e R s m args below meth c B.U B.locs B.cells B.slots ∧ PostX ⟨T.setVm vm₁, locs, cells, slots⟩ (Value.ref b :: argsL).toArray q B ∧
      Steps p.tables e below (T.setTop g) ((B.U.setTop { g with stack := rest }).pushFrame (.throwing q))) := by
  obtain ⟨mk, methM, hnamed, hmethM, hstM, habM⟩ := Cond.instanceMethod_spec hinst
  obtain ⟨m8, methM', cM, hn8, hmethM', -, -, -, -, -, -, hsigM⟩ := Cond.codeWith_spec hcode
  cases Option.some.inj (hn8.symm.trans hnamed)
  cases hmethM.symm.trans hmethM'
  obtain ⟨c2, r2, m2, q1, q2, q3, q4, kP, hkP, hkPi⟩ := Cond.selects_spec hsel
  cases hcls.symm.trans q1
  cases (State.methodFound?_of_named hnamed hy).symm.trans q2
  cases hnamed.symm.trans q3
  have hselP : selectMethod e.platform s.vm cellB.cls mk = .method mk := by rw [Launch.admits_selectMethod X.admits]; exact q4
  obtain ⟨vm₁, X₁, hstep₁⟩ := X.invokevirtual hexec hown hlink hnamed hmethM hstM hkP hkPi hy (a := b) (cell := cellB) hcell
    (fun z h => by rw [h] at hobj; cases hobj) hselP hmethM habM hkP hkPi (g := g) hg (argsL := argsL) (rest := rest) (hlen _ hsigM) hstack hdg
  rcases hK m meth c ⟨T.setVm vm₁, locs, cells, slots⟩ { g with stack := rest } (.invokevirtual index) mk (Value.ref b :: argsL).toArray X₁ hg hsize hdg hW (X₁.named hnamed) (hpre vm₁ X₁.warmed) with ⟨v, B, X', hpost, hsteps⟩ | ⟨q, B, X', hpost, hsteps⟩
  · exact Or.inl ⟨v, vm₁, B, X₁.warmed, X', hpost, fun target h => hstep₁ _ fun acts => by rw [doInvoke_state]; exact hsteps.trans h⟩
  · exact Or.inr ⟨q, vm₁, B, X₁.warmed, X', hpost, hstep₁ _ fun acts => by rw [doInvoke_state]; exact hsteps⟩
theorem vx_callSX (X : Stand p l e R s m args below meth c T locs cells slots) (hexec : p.tables.exec = Jvm.exec) {own : String} {index : Nat} {y : MethodName} {bytes : ByteArray} {maxL : Nat} {ret : Option FieldType} {hh : List (Nat × Nat × Nat × Nat)}
    (hown : s.vm.findClass own = some m.cls) (hlink : (Cond.methodLink own index y).before args s = true) (hstat : (Cond.static y).before args s = true) (hinit : (Cond.initialized y.cls).before args s = true)
    (hcode : (Cond.codeWith y bytes maxL ret hh).before args s = true) (hy : y.cls ≠ "java/lang/invoke/MethodHandle" ∧ y.cls ≠ "java/lang/invoke/VarHandle")
    {W9 : Nat} {Pre : Pt → Array Value → Prop} {Post : Pt → Array Value → Option Value → Pt → Prop} {PostX : Pt → Array Value → Addr → Pt → Prop} (hK : vx_Back l R p e below s args y 3 W9 Pre Post PostX)
    {g : JFrame} (hg : g.method = m) (hsize : g.locals.size = c.maxLocals) {argsL rest : List Value} (hlen : ∀ sig, parseMethodDescriptor y.desc = some sig → argsL.length = sig.parameters.length)
    (hstack : g.stack = argsL.reverse ++ rest) (hW : 2 * g.monitorRoom + (rest.map fun v => v.category).sum ≤ W9) (hdg : decode c.code g.pc = .ok (.invokestatic index, 3))
    (hpre : ∀ vm₁, s.WarmedH vm₁ → Pre ⟨T.setVm vm₁, locs, cells, slots⟩ argsL.toArray) :
    (∃ (v : Option Value) (vm₁ : Vm) (B : Pt), s.WarmedH vm₁ ∧ Stand p l e R s m args below meth c B.U B.locs B.cells B.slots ∧ Post ⟨T.setVm vm₁, locs, cells, slots⟩ argsL.toArray v B ∧
      ∀ target, Steps p.tables e below (B.U.setTop { g with pc := g.pc + 3, stack := v.toList ++ rest }) target → Steps p.tables e below (T.setTop g) target) ∨
    (∃ (q : Addr) (vm₁ : Vm) (B : Pt), s.WarmedH vm₁ ∧ Stand p l e R s m args below meth c B.U B.locs B.cells B.slots ∧ PostX ⟨T.setVm vm₁, locs, cells, slots⟩ argsL.toArray q B ∧
      Steps p.tables e below (T.setTop g) ((B.U.setTop { g with stack := rest }).pushFrame (.throwing q))) := by
  obtain ⟨mk, methM, cM, hnamed, hmethM, -, -, -, -, -, -, hsigM⟩ := Cond.codeWith_spec hcode
  have hstatic : methM.isStatic = true := Cond.static_spec hnamed hmethM hstat
  obtain ⟨kP, hkP, -⟩ := className_of_methodNamed hnamed
  have hinitP : kP.init = .initialized := Cond.initialized_spec (findClass_of_methodNamed hnamed) hkP hinit
  obtain ⟨vm₁, X₁, hstep₁⟩ := X.invokestatic hexec hown hlink hnamed hmethM hstatic hkP hinitP hy (g := g) hg (argsL := argsL) (rest := rest) (hlen _ hsigM) hstack hdg
  rcases hK m meth c ⟨T.setVm vm₁, locs, cells, slots⟩ { g with stack := rest } (.invokestatic index) mk argsL.toArray X₁ hg hsize hdg hW (X₁.named hnamed) (hpre vm₁ X₁.warmed) with ⟨v, B, X', hpost, hsteps⟩ | ⟨q, B, X', hpost, hsteps⟩
  · exact Or.inl ⟨v, vm₁, B, X₁.warmed, X', hpost, fun target h => hstep₁ _ fun acts => by rw [doInvoke_state]; exact hsteps.trans h⟩
  · exact Or.inr ⟨q, vm₁, B, X₁.warmed, X', hpost, hstep₁ _ fun acts => by rw [doInvoke_state]; exact hsteps⟩
theorem vx_callVW (X : Stand p l e R s m args below meth c T locs cells slots) (hexec : p.tables.exec = Jvm.exec) {own C : String} {index : Nat} {y : MethodName} {bytes : ByteArray} {maxL : Nat} {ret : Option FieldType} {hh : List (Nat × Nat × Nat × Nat)}
    (hown : s.vm.findClass own = some m.cls) (hlink : (Cond.methodLink own index y).before args s = true) (hinst : (Cond.instanceMethod y).before args s = true) (hsel : (Cond.selects C y y).before args s = true)
    (hcode : (Cond.codeWith y bytes maxL ret hh).before args s = true) (hy : y.cls ≠ "java/lang/invoke/MethodHandle" ∧ y.cls ≠ "java/lang/invoke/VarHandle")
    {W9 : Nat} {Pre : Pt → Array Value → Prop} {Post : Pt → Array Value → Option Value → Pt → Prop} (hK : Back l R p e below s args y 3 W9 Pre Post)
    {b : Addr} {cellB : Cell} (hcell : T.heap[b]? = some cellB) (hobj : cellB.vm.isStatics = false) (hcls : s.vm.findClass C = some cellB.cls)
    {g : JFrame} (hg : g.method = m) (hsize : g.locals.size = c.maxLocals) {argsL rest : List Value} (hlen : ∀ sig, parseMethodDescriptor y.desc = some sig → argsL.length = sig.parameters.length)
    (hstack : g.stack = argsL.reverse ++ .ref b :: rest) (hW : 2 * g.monitorRoom + (rest.map fun v => v.category).sum ≤ W9) (hdg : decode c.code g.pc = .ok (.invokevirtual index, 3))
    (hpre : ∀ vm₁, s.WarmedH vm₁ → Pre ⟨T.setVm vm₁, locs, cells, slots⟩ (Value.ref b :: argsL).toArray) :
    ∃ (v : Option Value) (vm₁ : Vm) (B : Pt), s.WarmedH vm₁ ∧ Stand p l e R s m args below meth c B.U B.locs B.cells B.slots ∧ Post ⟨T.setVm vm₁, locs, cells, slots⟩ (Value.ref b :: argsL).toArray v B ∧
      ∀ target, Steps p.tables e below (B.U.setTop { g with pc := g.pc + 3, stack := v.toList ++ rest }) target → Steps p.tables e below (T.setTop g) target := by
  obtain ⟨mk, methM, hnamed, hmethM, hstM, habM⟩ := Cond.instanceMethod_spec hinst
  obtain ⟨m8, methM', cM, hn8, hmethM', -, -, -, -, -, -, hsigM⟩ := Cond.codeWith_spec hcode
  cases Option.some.inj (hn8.symm.trans hnamed)
  cases hmethM.symm.trans hmethM'
  obtain ⟨c2, r2, m2, q1, q2, q3, q4, kP, hkP, hkPi⟩ := Cond.selects_spec hsel
  cases hcls.symm.trans q1
  cases (State.methodFound?_of_named hnamed hy).symm.trans q2
  cases hnamed.symm.trans q3
  have hselP : selectMethod e.platform s.vm cellB.cls mk = .method mk := by rw [Launch.admits_selectMethod X.admits]; exact q4
  obtain ⟨vm₁, X₁, hstep₁⟩ := X.invokevirtual hexec hown hlink hnamed hmethM hstM hkP hkPi hy (a := b) (cell := cellB) hcell
    (fun z h => by rw [h] at hobj; cases hobj) hselP hmethM habM hkP hkPi (g := g) hg (argsL := argsL) (rest := rest) (hlen _ hsigM) hstack hdg
  obtain ⟨v, B, X', hpost, hsteps⟩ := hK m meth c ⟨T.setVm vm₁, locs, cells, slots⟩ { g with stack := rest } (.invokevirtual index) mk (Value.ref b :: argsL).toArray X₁ hg hsize hdg hW (X₁.named hnamed) (hpre vm₁ X₁.warmed)
  exact ⟨v, vm₁, B, X₁.warmed, X', hpost, fun target h => hstep₁ _ fun acts => by rw [doInvoke_state]; exact hsteps.trans h⟩
abbrev vx_CVW (R : Room) (s : State) (args : Array Value) (own C : String) (index : Nat) (y : MethodName) (bytes : ByteArray) (maxL : Nat) (ret : Option FieldType) (hh : List (Nat × Nat × Nat × Nat)) (ws : List Cond) (rm : Room) (mc ms n : Nat) : Prop :=
  (rm.cells = mc ∧ rm.slots = ms ∧ rm.frames + 1 ≤ R.frames ∧ 8 + (maxL + 11) + rm.locals ≤ R.locals ∧ (∀ w ∈ ws, ∀ (a' : Array Value) (U : State), s.WarmedH U.vm → w.before a' U = true) ∧ Cond.codeWith y bytes maxL ret hh ∈ ws) ∧
  (Cond.codeWith y bytes maxL ret hh).before args s = true ∧ (Cond.initialized y.cls).before args s = true ∧ (y.cls ≠ "java/lang/invoke/MethodHandle" ∧ y.cls ≠ "java/lang/invoke/VarHandle") ∧
  (∀ sig, parseMethodDescriptor y.desc = some sig → n = sig.parameters.length) ∧ (Cond.methodLink own index y).before args s = true ∧ (Cond.instanceMethod y).before args s = true ∧ (Cond.selects C y y).before args s = true
theorem vx_cwVW {own C : String} {index maxL mc ms : Nat} {y : MethodName} {bytes : ByteArray} {ret : Option FieldType} {hh : List (Nat × Nat × Nat × Nat)} {Ts ws ws' : List Cond} {rm : Room} (n : Nat) (ht : ∀ w ∈ Ts, w.before args s = true) (hT : GoodIn Ts (wsV own index C y ws)) (hw : ws = Cond.codeWith y bytes maxL ret hh :: ws') (hrc : rm.cells = mc) (hrs : rm.slots = ms)
    (hd : y.cls = C ∧ y.cls ≠ "java/lang/invoke/MethodHandle" ∧ y.cls ≠ "java/lang/invoke/VarHandle" ∧ (parseMethodDescriptor y.desc).map (fun d => d.parameters.length) = some n) (hR : rm.frames + 1 ≤ R.frames ∧ 8 + (maxL + 11) + rm.locals ≤ R.locals) :
    vx_CVW R s args own C index y bytes maxL ret hh ws rm mc ms n := by
  obtain ⟨hC, hd⟩ := hd
  subst hC
  have ok : ∀ w ∈ wsV own index y.cls y ws, w.before args s = true := fun w h => ht w (hT w h).1
  have hG : GoodIn Ts ws := fun w h => hT w (by unfold wsV; exact List.mem_append_right _ h)
  have hc : Cond.codeWith y bytes maxL ret hh ∈ ws := by rw [hw]; exact List.mem_cons_self
  refine ⟨⟨hrc, hrs, hR.1, hR.2, pay_in ht hG, hc⟩, ht _ (hG _ hc).1, ok _ (by simp [wsV]), ⟨hd.1, hd.2.1⟩, fun sig h => ?_, ok _ (by simp [wsV]), ok _ (by simp [wsV]), ok _ (by simp [wsV])⟩
  have h2 := hd.2.2
  rw [h] at h2
  exact (Option.some.inj h2).symm
theorem vx_runVW {y : MethodName} {bytes cc : ByteArray} {maxL nL mc ms n index : Nat} {ret : Option FieldType} {hh : List (Nat × Nat × Nat × Nat)} {ws : List Cond} {rm : Room} {Pc : Array Value → State → Prop} {Qc : Array Value → State → Outcome → State → Prop} {free : Addr → Prop} {Ts : List Cond} {own C : String} {b : Addr} {As rest : List Value} {g : JFrame}
    (S : CallFix p m c cc nL s args Ts own) (hM : Met l y ws rm Pc Qc mc ms free) (cw : vx_CVW R s args own C index y bytes maxL ret hh ws rm mc ms n) (hp : PreV s H C b Pc As)
    (hg : g.method = m) (hn : As.length = n) (hsize : g.locals.size = nL) (hstack : g.stack = As.reverse ++ .ref b :: rest) (hW : 2 * g.monitorRoom + (rest.map fun v => v.category).sum ≤ 8) (hdg : decode cc g.pc = .ok (.invokevirtual index, 3)) (hf : cells + mc ≤ R.cells ∧ slots + ms ≤ R.slots) :
    va_Run p l e R s m args below meth c H locs cells slots mc ms g rest (Qc (Value.ref b :: As).toArray) free := by
  obtain ⟨⟨hrc, hrs, hfr, hlo, hws, hcw⟩, hcode, hini, hy, hlen, hl, hin, hse⟩ := cw
  have hK : Back l R p e below s args y 3 8 (PreOf R mc ms Pc) (PostOf Qc mc ms free) := va_backW (hh := hh) (bytes := bytes) (maxL := maxL) (ret := ret) hM hp.1 hrc hrs hfr hlo hws hcw (fun a' U hW => word_at hW (Or.inl (by first | rfl | simp [Cond.onTables, Cond.keeps, Cond.steady])) hini)
  obtain ⟨hx, hb, hml, ho, -⟩ := S
  obtain ⟨-, ⟨cellB, hcB, hoB, hclB⟩, hPc⟩ := hp
  intro T hT X
  obtain ⟨v, vm₁, ⟨U', l2, c2, s2⟩, hW₁, X', ⟨g', mk, t, L, e1, e2, hq, h1, hL, h2, h3⟩, st⟩ := vx_callVW X hx (C := C) (hh := hh) (bytes := bytes) (maxL := maxL) (ret := ret) ho hl hin hse hcode hy hK (by rw [hT]; exact hcB) hoB hclB hg (hsize.trans hml.symm) (argsL := As) (rest := rest) (fun sig h => hn.trans (hlen sig h)) hstack hW (by rw [hb]; exact hdg)
    (fun vm₁ hW₁ => ⟨hf.1, hf.2, hPc (T.setVm vm₁) hT hW₁⟩)
  dsimp only [Pt.U, Pt.locs, Pt.cells, Pt.slots] at X' e1 e2 h1 h2 h3 st
  subst h1; subst h2; subst h3
  exact ⟨v, (T.setVm vm₁).calling g' mk (Value.ref b :: As).toArray, t, U', L, hT, X', hL, e1, e2, hq, st⟩
section
variable {y : MethodName} {bytes cc : ByteArray} {maxL nL mc ms n index : Nat} {ret : Option FieldType} {ws : List Cond} {rm : Room} {Pc : Array Value → State → Prop} {Qc : Array Value → State → Outcome → State → Prop} {XC : String → State → State → Prop} {free : Addr → Prop} {Ts : List Cond} {own C : String} {b : Addr} {As rest : List Value} {g : JFrame}
theorem vx_runVX {hh : List (Nat × Nat × Nat × Nat)} (S : CallFix p m c cc nL s args Ts own) (hM : vx_Met l y ws rm Pc Qc XC mc ms free) (cw : vx_CVW R s args own C index y bytes maxL ret hh ws rm mc ms n) (hp : PreV s H C b Pc As)
    (hg : g.method = m) (hn : As.length = n) (hsize : g.locals.size = nL) (hstack : g.stack = As.reverse ++ .ref b :: rest) (hW : 2 * g.monitorRoom + (rest.map fun v => v.category).sum ≤ 8) (hdg : decode cc g.pc = .ok (.invokevirtual index, 3)) (hf : cells + mc ≤ R.cells ∧ slots + ms ≤ R.slots) :
    vx_Run p l e R s m args below meth c H locs cells slots mc ms g rest (Qc (Value.ref b :: As).toArray) XC free := by
  obtain ⟨⟨hrc, hrs, hfr, hlo, hws, hcw⟩, hcode, hini, hy, hlen, hl, hin, hse⟩ := cw
  have hK : vx_Back l R p e below s args y 3 8 (PreOf R mc ms Pc) (PostOf Qc mc ms free) (vx_Post XC mc ms free) := vx_backW (hh := hh) (bytes := bytes) (maxL := maxL) (ret := ret) hM hp.1 hrc hrs hfr hlo hws hcw (fun a' U hW => word_at hW (Or.inl (by first | rfl | simp [Cond.onTables, Cond.keeps, Cond.steady])) hini)
  obtain ⟨hx, hb, hml, ho, -⟩ := S
  obtain ⟨-, ⟨cellB, hcB, hoB, hclB⟩, hPc⟩ := hp
  intro T hT X
  rcases vx_callVX X hx (C := C) (hh := hh) (bytes := bytes) (maxL := maxL) (ret := ret) ho hl hin hse hcode hy hK (by rw [hT]; exact hcB) hoB hclB hg (hsize.trans hml.symm) (argsL := As) (rest := rest) (fun sig h => hn.trans (hlen sig h)) hstack hW (by rw [hb]; exact hdg)
    (fun vm₁ hW₁ => ⟨hf.1, hf.2, hPc (T.setVm vm₁) hT hW₁⟩) with ⟨v, vm₁, ⟨U', l2, c2, s2⟩, hW₁, X', ⟨g', mk, t, L, e1, e2, hq, h1, hL, h2, h3⟩, st⟩ | ⟨q, vm₁, ⟨U', l2, c2, s2⟩, hW₁, X', ⟨g', mk, t, L, E, ce, e1, e2, hq, hce, hcv, hcl, h1, hL, h2, h3⟩, st⟩
  · dsimp only [Pt.U, Pt.locs, Pt.cells, Pt.slots] at X' e1 e2 h1 h2 h3 st
    subst h1; subst h2; subst h3
    exact Or.inl ⟨v, (T.setVm vm₁).calling g' mk (Value.ref b :: As).toArray, t, U', L, hT, X', hL, e1, e2, hq, st⟩
  · dsimp only [Pt.U, Pt.locs, Pt.cells, Pt.slots] at X' e1 e2 h1 h2 h3 st hcl
    subst h1; subst h2; subst h3
    exact Or.inr ⟨q, (T.setVm vm₁).calling g' mk (Value.ref b :: As).toArray, t, U', L, E, ce, hT, X', hL, e1, e2, hq, hce, hcv, vx_cls hW₁ hcl, st⟩
theorem vx_runSX {hh : List (Nat × Nat × Nat × Nat)} (S : CallFix p m c cc nL s args Ts own) (hM : vx_Met l y ws rm Pc Qc XC mc ms free) (cw : vx_CSW R s args own index y bytes maxL ret hh ws rm mc ms n) (hp : PreS s H Pc As)
    (hg : g.method = m) (hn : As.length = n) (hsize : g.locals.size = nL) (hstack : g.stack = As.reverse ++ rest) (hW : 2 * g.monitorRoom + (rest.map fun v => v.category).sum ≤ 8) (hdg : decode cc g.pc = .ok (.invokestatic index, 3)) (hf : cells + mc ≤ R.cells ∧ slots + ms ≤ R.slots) :
    vx_Run p l e R s m args below meth c H locs cells slots mc ms g rest (Qc As.toArray) XC free := by
  obtain ⟨⟨hrc, hrs, hfr, hlo, hws, hcw⟩, hcode, hini, hy, hlen, hl, hstt⟩ := cw
  have hK : vx_Back l R p e below s args y 3 8 (PreOf R mc ms Pc) (PostOf Qc mc ms free) (vx_Post XC mc ms free) := vx_backW (hh := hh) (bytes := bytes) (maxL := maxL) (ret := ret) hM hp.1 hrc hrs hfr hlo hws hcw (fun a' U hW => word_at hW (Or.inl (by first | rfl | simp [Cond.onTables, Cond.keeps, Cond.steady])) hini)
  obtain ⟨hx, hb, hml, ho, -⟩ := S
  intro T hT X
  rcases vx_callSX X hx (hh := hh) (bytes := bytes) (maxL := maxL) (ret := ret) ho hl hstt hini hcode hy hK hg (hsize.trans hml.symm) (argsL := As) (rest := rest) (fun sig h => hn.trans (hlen sig h)) hstack hW (by rw [hb]; exact hdg)
    (fun vm₁ hW₁ => ⟨hf.1, hf.2, hp.2 (T.setVm vm₁) hT hW₁⟩) with ⟨v, vm₁, ⟨U', l2, c2, s2⟩, hW₁, X', ⟨g', mk, t, L, e1, e2, hq, h1, hL, h2, h3⟩, st⟩ | ⟨q, vm₁, ⟨U', l2, c2, s2⟩, hW₁, X', ⟨g', mk, t, L, E, ce, e1, e2, hq, hce, hcv, hcl, h1, hL, h2, h3⟩, st⟩
  · dsimp only [Pt.U, Pt.locs, Pt.cells, Pt.slots] at X' e1 e2 h1 h2 h3 st
    subst h1; subst h2; subst h3
    exact Or.inl ⟨v, (T.setVm vm₁).calling g' mk As.toArray, t, U', L, hT, X', hL, e1, e2, hq, st⟩
  · dsimp only [Pt.U, Pt.locs, Pt.cells, Pt.slots] at X' e1 e2 h1 h2 h3 st hcl
    subst h1; subst h2; subst h3
    exact Or.inr ⟨q, (T.setVm vm₁).calling g' mk As.toArray, t, U', L, E, ce, hT, X', hL, e1, e2, hq, hce, hcv, vx_cls hW₁ hcl, st⟩
end
end VXH
theorem vx_ofWH {l : Launch} {y : MethodName} {ws ws' : List Cond} {rm : Room} {Pc : Array Value → State → Prop} {Qc : Array Value → State → Outcome → State → Prop} {XC : String → State → State → Prop} {mc ms : Nat} {free : Addr → Prop} {cc : ByteArray} {maxL : Nat} {ret : Option FieldType} {hh : List (Nat × Nat × Nat × Nat)}
    (hy : plainName y.cls = true) (hw : ws = Cond.codeWith y cc maxL ret hh :: ws')
    (body : ∀ p e s m args below meth c s₁, BodyLoose p l y (headSpec ws rm) cc maxL ret e s m args below meth c s₁ → c.maxLocals = maxL → Pc args s →
      W p l e (headSpec ws rm).room s m args below meth c s.heap [] 0 0 (vx_MQ below Qc XC args s mc ms free) (entryFrame m args maxL)) : vx_Met l y ws rm Pc Qc XC mc ms free := by
  refine MetFree.of_bodyS (code := cc) (maxLocals := maxL) (ret := ret) hy ?_ ?_
  · intro args s m h hn
    obtain ⟨m9, meth, c, hn9, h1, h2, h3, h4, -, h5, h6, -⟩ := Cond.codeWith_spec (atoms_spec (ws := ws) h _ (by rw [hw]; exact List.mem_cons_self))
    cases hn.symm.trans hn9
    exact ⟨meth, c, h1, h2, h3, h4, h5, h6⟩
  · intro p e s m args below meth c s₁ B hml hP _
    have hh0 : s₁.heap = s.heap := by rw [B.state]; rfl
    obtain ⟨t, a1, o, b1, b2, b3⟩ := body p e s m args below meth c s₁ B hml hP s₁ hh0 (Stand.of_body B)
    exact ⟨t, o, a1, b1, b2, b3⟩
/-! ===== END ===== -/

def RX0 : String := "Scripthouse$Budget"
def TX0 : u_T := fun k => match k with
  | 0 => ("Scripthouse$Budget", "lines", "[I", true)
  | 1 => ("Scripthouse$Budget", "fee", "I", false)
  | 2 => ("Scripthouse$Budget", "costs", "I", false)
  | _ => ("Scripthouse$Budget", "unreturned", "I", false)
def tyX0 : Nat → FieldType := fun k => match k with
  | 0 => .array .int
  | 1 => .int
  | 2 => .int
  | _ => .int
abbrev wsX00 : List Cond := u_ws RX0 TX0 4
theorem nmX0 : ∀ a, a < 4 → ∀ b, b < 4 → a ≠ b → (TX0 a).2.1 ≠ (TX0 b).2.1 := by decide +kernel
theorem tyX0_ok : ∀ k, k < 4 → parseFieldDescriptor (TX0 k).2.2.1 = some (tyX0 k) := by decide +kernel
abbrev cX0_init : ByteArray := prog_2_method_1_code
def yX0_init : MethodName := ⟨RX0, "<init>", "()V"⟩
abbrev cX0_lackOf : ByteArray := prog_2_method_2_code
def yX0_lackOf : MethodName := ⟨RX0, "lackOf", "(II)I"⟩
abbrev cX0_pay : ByteArray := prog_2_method_3_code
def yX0_pay : MethodName := ⟨RX0, "pay", "(II)I"⟩
abbrev cX0_payBack : ByteArray := prog_2_method_4_code
def yX0_payBack : MethodName := ⟨RX0, "payBack", "(I)I"⟩
def RX1 : String := "Scripthouse$Layers"
def TX1 : u_T := fun k => match k with
  | 0 => ("Scripthouse$Layers", "lenders", "[I", true)
  | 1 => ("Scripthouse$Layers", "loanOpen", "[I", true)
  | 2 => ("Scripthouse$Layers", "wholes", "[I", true)
  | 3 => ("Scripthouse$Layers", "holders", "[I", true)
  | 4 => ("Scripthouse$Layers", "percents", "[I", true)
  | 5 => ("Scripthouse$Layers", "shares", "[I", true)
  | 6 => ("Scripthouse$Layers", "gains", "[I", true)
  | 7 => ("Scripthouse$Layers", "loans", "I", false)
  | 8 => ("Scripthouse$Layers", "parts", "I", false)
  | _ => ("Scripthouse$Layers", "houseGain", "I", false)
def tyX1 : Nat → FieldType := fun k => match k with
  | 0 => .array .int
  | 1 => .array .int
  | 2 => .array .int
  | 3 => .array .int
  | 4 => .array .int
  | 5 => .array .int
  | 6 => .array .int
  | 7 => .int
  | 8 => .int
  | _ => .int
abbrev wsX10 : List Cond := u_ws RX1 TX1 10
theorem nmX1 : ∀ a, a < 10 → ∀ b, b < 10 → a ≠ b → (TX1 a).2.1 ≠ (TX1 b).2.1 := by decide +kernel
theorem tyX1_ok : ∀ k, k < 10 → parseFieldDescriptor (TX1 k).2.2.1 = some (tyX1 k) := by decide +kernel
abbrev cX1_init : ByteArray := prog_3_method_1_code
def yX1_init : MethodName := ⟨RX1, "<init>", "()V"⟩
abbrev cX1_appendLoan : ByteArray := prog_3_method_2_code
def yX1_appendLoan : MethodName := ⟨RX1, "appendLoan", "(II)I"⟩
abbrev cX1_appendPart : ByteArray := prog_3_method_3_code
def yX1_appendPart : MethodName := ⟨RX1, "appendPart", "(III)I"⟩
abbrev cX1_percentOf : ByteArray := prog_3_method_4_code
def yX1_percentOf : MethodName := ⟨RX1, "percentOf", "(I)I"⟩
abbrev cX1_payBackLoans : ByteArray := prog_3_method_5_code
def yX1_payBackLoans : MethodName := ⟨RX1, "payBackLoans", "(I)I"⟩
abbrev cX1_share : ByteArray := prog_3_method_6_code
def yX1_share : MethodName := ⟨RX1, "share", "(I)V"⟩
def RX2 : String := "Scripthouse$Planner"
def TX2 : u_T := fun k => match k with
  | 0 => ("Scripthouse$Planner", "scenes", "LScripthouse$Scenes;", true)
  | 1 => ("Scripthouse$Planner", "order", "[I", true)
  | 2 => ("Scripthouse$Planner", "begin", "[I", true)
  | 3 => ("Scripthouse$Planner", "bestOrder", "[I", true)
  | 4 => ("Scripthouse$Planner", "bestBegin", "[I", true)
  | 5 => ("Scripthouse$Planner", "bestDays", "I", false)
  | 6 => ("Scripthouse$Planner", "today", "I", false)
  | _ => ("Scripthouse$Planner", "isMade", "Z", false)
def tyX2 : Nat → FieldType := fun k => match k with
  | 0 => .object "Scripthouse$Scenes"
  | 1 => .array .int
  | 2 => .array .int
  | 3 => .array .int
  | 4 => .array .int
  | 5 => .int
  | 6 => .int
  | _ => .boolean
abbrev wsX20 : List Cond := u_ws RX2 TX2 8
theorem nmX2 : ∀ a, a < 8 → ∀ b, b < 8 → a ≠ b → (TX2 a).2.1 ≠ (TX2 b).2.1 := by decide +kernel
theorem tyX2_ok : ∀ k, k < 8 → parseFieldDescriptor (TX2 k).2.2.1 = some (tyX2 k) := by decide +kernel
abbrev cX2_init : ByteArray := prog_4_method_1_code
def yX2_init : MethodName := ⟨RX2, "<init>", "()V"⟩
abbrev cX2_forget : ByteArray := prog_4_method_2_code
def yX2_forget : MethodName := ⟨RX2, "forget", "()V"⟩
abbrev cX2_makePlan : ByteArray := prog_4_method_3_code
def yX2_makePlan : MethodName := ⟨RX2, "makePlan", "()V"⟩
abbrev cX2_fewestDays : ByteArray := prog_4_method_4_code
def yX2_fewestDays : MethodName := ⟨RX2, "fewestDays", "()I"⟩
abbrev cX2_shootable : ByteArray := prog_4_method_5_code
def yX2_shootable : MethodName := ⟨RX2, "shootable", "(Z)I"⟩
abbrev cX2_endDay : ByteArray := prog_4_method_6_code
def yX2_endDay : MethodName := ⟨RX2, "endDay", "(I)V"⟩
abbrev cX2_tryOrders : ByteArray := prog_4_method_7_code
def yX2_tryOrders : MethodName := ⟨RX2, "tryOrders", "(LScripthouse$Planner;II)V"⟩
abbrev cX2_fewestOfAll : ByteArray := prog_4_method_8_code
def yX2_fewestOfAll : MethodName := ⟨RX2, "fewestOfAll", "(LScripthouse$Planner;II)I"⟩
abbrev cX2_keep : ByteArray := prog_4_method_9_code
def yX2_keep : MethodName := ⟨RX2, "keep", "(I)V"⟩
abbrev cX2_daysUpTo : ByteArray := prog_4_method_10_code
def yX2_daysUpTo : MethodName := ⟨RX2, "daysUpTo", "(I)I"⟩
abbrev cX2_canBeBetter : ByteArray := prog_4_method_11_code
def yX2_canBeBetter : MethodName := ⟨RX2, "canBeBetter", "(II)Z"⟩
abbrev cX2_hasRoom : ByteArray := prog_4_method_12_code
def yX2_hasRoom : MethodName := ⟨RX2, "hasRoom", "(III)Z"⟩
abbrev cX2_hasRoomForChildren : ByteArray := prog_4_method_13_code
def yX2_hasRoomForChildren : MethodName := ⟨RX2, "hasRoomForChildren", "(IIII)Z"⟩
abbrev cX2_hoursIn : ByteArray := prog_4_method_14_code
def yX2_hoursIn : MethodName := ⟨RX2, "hoursIn", "(II)I"⟩
abbrev cX2_place : ByteArray := prog_4_method_15_code
def yX2_place : MethodName := ⟨RX2, "place", "(III)V"⟩
abbrev cX2_endsInTime : ByteArray := prog_4_method_16_code
def yX2_endsInTime : MethodName := ⟨RX2, "endsInTime", "(III)Z"⟩
abbrev cX2_beginFrom : ByteArray := prog_4_method_17_code
def yX2_beginFrom : MethodName := ⟨RX2, "beginFrom", "(IIII)I"⟩
abbrev cX2_isFitForChildren : ByteArray := prog_4_method_18_code
def yX2_isFitForChildren : MethodName := ⟨RX2, "isFitForChildren", "(III)Z"⟩
abbrev cX2_hoursFor : ByteArray := prog_4_method_19_code
def yX2_hoursFor : MethodName := ⟨RX2, "hoursFor", "(II)I"⟩
abbrev cX2_placedOn : ByteArray := prog_4_method_20_code
def yX2_placedOn : MethodName := ⟨RX2, "placedOn", "(II)I"⟩
abbrev cX2_endOf : ByteArray := prog_4_method_21_code
def yX2_endOf : MethodName := ⟨RX2, "endOf", "(I)I"⟩
abbrev cX2_dayOf : ByteArray := prog_4_method_22_code
def yX2_dayOf : MethodName := ⟨RX2, "dayOf", "(I)I"⟩
abbrev cX2_startOf : ByteArray := prog_4_method_23_code
def yX2_startOf : MethodName := ⟨RX2, "startOf", "(I)I"⟩
def RX3 : String := "Scripthouse$Scenes"
def TX3 : u_T := fun k => match k with
  | 0 => ("Scripthouse$Scenes", "hours", "[I", true)
  | 1 => ("Scripthouse$Scenes", "places", "[I", true)
  | 2 => ("Scripthouse$Scenes", "players", "[I", true)
  | 3 => ("Scripthouse$Scenes", "lights", "[I", true)
  | 4 => ("Scripthouse$Scenes", "aheads", "[I", true)
  | 5 => ("Scripthouse$Scenes", "count", "I", false)
  | 6 => ("Scripthouse$Scenes", "done", "I", false)
  | 7 => ("Scripthouse$Scenes", "outdoors", "I", false)
  | _ => ("Scripthouse$Scenes", "children", "I", false)
def tyX3 : Nat → FieldType := fun k => match k with
  | 0 => .array .int
  | 1 => .array .int
  | 2 => .array .int
  | 3 => .array .int
  | 4 => .array .int
  | 5 => .int
  | 6 => .int
  | 7 => .int
  | _ => .int
abbrev wsX30 : List Cond := u_ws RX3 TX3 9
theorem nmX3 : ∀ a, a < 9 → ∀ b, b < 9 → a ≠ b → (TX3 a).2.1 ≠ (TX3 b).2.1 := by decide +kernel
theorem tyX3_ok : ∀ k, k < 9 → parseFieldDescriptor (TX3 k).2.2.1 = some (tyX3 k) := by decide +kernel
abbrev cX3_init : ByteArray := prog_5_method_1_code
def yX3_init : MethodName := ⟨RX3, "<init>", "()V"⟩
abbrev cX3_append : ByteArray := prog_5_method_2_code
def yX3_append : MethodName := ⟨RX3, "append", "(IIIII)I"⟩
abbrev cX3_everyScene : ByteArray := prog_5_method_3_code
def yX3_everyScene : MethodName := ⟨RX3, "everyScene", "()I"⟩
abbrev cX3_countOpen : ByteArray := prog_5_method_4_code
def yX3_countOpen : MethodName := ⟨RX3, "countOpen", "()I"⟩
abbrev cX3_hoursOf : ByteArray := prog_5_method_5_code
def yX3_hoursOf : MethodName := ⟨RX3, "hoursOf", "(I)I"⟩
abbrev cX3_isFree : ByteArray := prog_5_method_6_code
def yX3_isFree : MethodName := ⟨RX3, "isFree", "(II)Z"⟩
abbrev cX3_canFollow : ByteArray := prog_5_method_7_code
def yX3_canFollow : MethodName := ⟨RX3, "canFollow", "(II)Z"⟩
abbrev cX3_isOutdoors : ByteArray := prog_5_method_8_code
def yX3_isOutdoors : MethodName := ⟨RX3, "isOutdoors", "(I)Z"⟩
def RX4 : String := "Scripthouse"
def TX4 : u_T := fun k => match k with
  | 0 => ("Scripthouse", "scenes", "LScripthouse$Scenes;", true)
  | 1 => ("Scripthouse", "planner", "LScripthouse$Planner;", true)
  | 2 => ("Scripthouse", "budget", "LScripthouse$Budget;", true)
  | 3 => ("Scripthouse", "layers", "LScripthouse$Layers;", true)
  | 4 => ("Scripthouse", "rate", "I", false)
  | 5 => ("Scripthouse", "cover", "I", false)
  | _ => ("Scripthouse", "isCovered", "Z", false)
def tyX4 : Nat → FieldType := fun k => match k with
  | 0 => .object "Scripthouse$Scenes"
  | 1 => .object "Scripthouse$Planner"
  | 2 => .object "Scripthouse$Budget"
  | 3 => .object "Scripthouse$Layers"
  | 4 => .int
  | 5 => .int
  | _ => .boolean
abbrev wsX40 : List Cond := u_ws RX4 TX4 7
theorem nmX4 : ∀ a, a < 7 → ∀ b, b < 7 → a ≠ b → (TX4 a).2.1 ≠ (TX4 b).2.1 := by decide +kernel
theorem tyX4_ok : ∀ k, k < 7 → parseFieldDescriptor (TX4 k).2.2.1 = some (tyX4 k) := by decide +kernel
abbrev cX4_init : ByteArray := prog_1_method_1_code
def yX4_init : MethodName := ⟨RX4, "<init>", "()V"⟩
abbrev cX4_addScene : ByteArray := prog_1_method_2_code
def yX4_addScene : MethodName := ⟨RX4, "addScene", "(IIIII)I"⟩
abbrev cX4_setOut : ByteArray := prog_1_method_3_code
def yX4_setOut : MethodName := ⟨RX4, "setOut", "(IZ)Z"⟩
abbrev cX4_setChild : ByteArray := prog_1_method_4_code
def yX4_setChild : MethodName := ⟨RX4, "setChild", "(IZ)Z"⟩
abbrev cX4_setRates : ByteArray := prog_1_method_5_code
def yX4_setRates : MethodName := ⟨RX4, "setRates", "(II)I"⟩
abbrev cX4_hold : ByteArray := prog_1_method_6_code
def yX4_hold : MethodName := ⟨RX4, "hold", "(Z)Z"⟩
abbrev cX4_shoot : ByteArray := prog_1_method_7_code
def yX4_shoot : MethodName := ⟨RX4, "shoot", "(Z)I"⟩
abbrev cX4_approve : ByteArray := prog_1_method_8_code
def yX4_approve : MethodName := ⟨RX4, "approve", "(II)I"⟩
abbrev cX4_grant : ByteArray := prog_1_method_9_code
def yX4_grant : MethodName := ⟨RX4, "grant", "(I)I"⟩
abbrev cX4_bill : ByteArray := prog_1_method_10_code
def yX4_bill : MethodName := ⟨RX4, "bill", "(II)I"⟩
abbrev cX4_loan : ByteArray := prog_1_method_11_code
def yX4_loan : MethodName := ⟨RX4, "loan", "(II)I"⟩
abbrev cX4_part : ByteArray := prog_1_method_12_code
def yX4_part : MethodName := ⟨RX4, "part", "(III)I"⟩
abbrev cX4_income : ByteArray := prog_1_method_13_code
def yX4_income : MethodName := ⟨RX4, "income", "(I)I"⟩
abbrev cX4_today : ByteArray := prog_1_method_14_code
def yX4_today : MethodName := ⟨RX4, "today", "()I"⟩
abbrev cX4_shot : ByteArray := prog_1_method_15_code
def yX4_shot : MethodName := ⟨RX4, "shot", "()I"⟩
abbrev cX4_days : ByteArray := prog_1_method_16_code
def yX4_days : MethodName := ⟨RX4, "days", "()I"⟩
abbrev cX4_daysByAll : ByteArray := prog_1_method_17_code
def yX4_daysByAll : MethodName := ⟨RX4, "daysByAll", "()I"⟩
abbrev cX4_planned : ByteArray := prog_1_method_18_code
def yX4_planned : MethodName := ⟨RX4, "planned", "(I)I"⟩
abbrev cX4_begins : ByteArray := prog_1_method_19_code
def yX4_begins : MethodName := ⟨RX4, "begins", "(I)I"⟩
abbrev cX4_left : ByteArray := prog_1_method_20_code
def yX4_left : MethodName := ⟨RX4, "left", "(I)I"⟩
abbrev cX4_fee : ByteArray := prog_1_method_21_code
def yX4_fee : MethodName := ⟨RX4, "fee", "()I"⟩
abbrev cX4_costs : ByteArray := prog_1_method_22_code
def yX4_costs : MethodName := ⟨RX4, "costs", "()I"⟩
abbrev cX4_open : ByteArray := prog_1_method_23_code
def yX4_open : MethodName := ⟨RX4, "open", "()I"⟩
abbrev cX4_openOf : ByteArray := prog_1_method_24_code
def yX4_openOf : MethodName := ⟨RX4, "openOf", "(I)I"⟩
abbrev cX4_got : ByteArray := prog_1_method_25_code
def yX4_got : MethodName := ⟨RX4, "got", "(I)I"⟩
abbrev cX4_house : ByteArray := prog_1_method_26_code
def yX4_house : MethodName := ⟨RX4, "house", "()I"⟩
abbrev cX4_isWithin : ByteArray := prog_1_method_27_code
def yX4_isWithin : MethodName := ⟨RX4, "isWithin", "(III)Z"⟩
abbrev cX4_at : ByteArray := prog_1_method_28_code
def yX4_at : MethodName := ⟨RX4, "at", "([II)I"⟩
abbrev cX4_put : ByteArray := prog_1_method_29_code
def yX4_put : MethodName := ⟨RX4, "put", "([III)V"⟩
abbrev cX4_add : ByteArray := prog_1_method_30_code
def yX4_add : MethodName := ⟨RX4, "add", "([III)V"⟩
abbrev cX4_isIn : ByteArray := prog_1_method_31_code
def yX4_isIn : MethodName := ⟨RX4, "isIn", "(II)Z"⟩
abbrev cX4_with : ByteArray := prog_1_method_32_code
def yX4_with : MethodName := ⟨RX4, "with", "(IIZ)I"⟩
def RX5 : String := "ScripthouseModel"
def TX5 : u_T := fun k => match k with
  | 0 => ("ScripthouseModel", "scenes", "I", false)
  | 1 => ("ScripthouseModel", "hours", "[I", true)
  | 2 => ("ScripthouseModel", "place", "[I", true)
  | 3 => ("ScripthouseModel", "players", "[I", true)
  | 4 => ("ScripthouseModel", "light", "[I", true)
  | 5 => ("ScripthouseModel", "ahead", "[I", true)
  | 6 => ("ScripthouseModel", "done", "I", false)
  | 7 => ("ScripthouseModel", "when", "[I", true)
  | 8 => ("ScripthouseModel", "children", "I", false)
  | 9 => ("ScripthouseModel", "out", "I", false)
  | 10 => ("ScripthouseModel", "today", "I", false)
  | 11 => ("ScripthouseModel", "rate", "I", false)
  | 12 => ("ScripthouseModel", "cover", "I", false)
  | 13 => ("ScripthouseModel", "held", "Z", false)
  | 14 => ("ScripthouseModel", "plan", "[I", true)
  | 15 => ("ScripthouseModel", "planned", "[I", true)
  | 16 => ("ScripthouseModel", "many", "I", false)
  | 17 => ("ScripthouseModel", "days", "I", false)
  | 18 => ("ScripthouseModel", "stale", "Z", false)
  | 19 => ("ScripthouseModel", "row", "[I", true)
  | 20 => ("ScripthouseModel", "start", "[I", true)
  | 21 => ("ScripthouseModel", "left", "[I", true)
  | 22 => ("ScripthouseModel", "fee", "I", false)
  | 23 => ("ScripthouseModel", "costs", "I", false)
  | 24 => ("ScripthouseModel", "open", "I", false)
  | 25 => ("ScripthouseModel", "loans", "I", false)
  | 26 => ("ScripthouseModel", "lender", "[I", true)
  | 27 => ("ScripthouseModel", "owed", "[I", true)
  | 28 => ("ScripthouseModel", "parts", "I", false)
  | 29 => ("ScripthouseModel", "of", "[I", true)
  | 30 => ("ScripthouseModel", "holder", "[I", true)
  | 31 => ("ScripthouseModel", "percent", "[I", true)
  | 32 => ("ScripthouseModel", "has", "[I", true)
  | 33 => ("ScripthouseModel", "got", "[I", true)
  | 34 => ("ScripthouseModel", "house", "I", false)
  | _ => ("ScripthouseModel", "thrown", "I", false)
def tyX5 : Nat → FieldType := fun k => match k with
  | 0 => .int
  | 1 => .array .int
  | 2 => .array .int
  | 3 => .array .int
  | 4 => .array .int
  | 5 => .array .int
  | 6 => .int
  | 7 => .array .int
  | 8 => .int
  | 9 => .int
  | 10 => .int
  | 11 => .int
  | 12 => .int
  | 13 => .boolean
  | 14 => .array .int
  | 15 => .array .int
  | 16 => .int
  | 17 => .int
  | 18 => .boolean
  | 19 => .array .int
  | 20 => .array .int
  | 21 => .array .int
  | 22 => .int
  | 23 => .int
  | 24 => .int
  | 25 => .int
  | 26 => .array .int
  | 27 => .array .int
  | 28 => .int
  | 29 => .array .int
  | 30 => .array .int
  | 31 => .array .int
  | 32 => .array .int
  | 33 => .array .int
  | 34 => .int
  | _ => .int
abbrev wsX50 : List Cond := u_ws RX5 TX5 36
theorem nmX5 : ∀ a, a < 36 → ∀ b, b < 36 → a ≠ b → (TX5 a).2.1 ≠ (TX5 b).2.1 := by decide +kernel
theorem tyX5_ok : ∀ k, k < 36 → parseFieldDescriptor (TX5 k).2.2.1 = some (tyX5 k) := by decide +kernel
abbrev cX5_init : ByteArray := prog_7_method_1_code
def yX5_init : MethodName := ⟨RX5, "<init>", "()V"⟩
abbrev cX5_thrown : ByteArray := prog_7_method_2_code
def yX5_thrown : MethodName := ⟨RX5, "thrown", "()I"⟩
abbrev cX5_isIn : ByteArray := prog_7_method_3_code
def yX5_isIn : MethodName := ⟨RX5, "isIn", "(III)Z"⟩
abbrev cX5_isIn4 : ByteArray := prog_7_method_4_code
def yX5_isIn4 : MethodName := ⟨RX5, "isIn4", "(I)Z"⟩
abbrev cX5_isPerson : ByteArray := prog_7_method_5_code
def yX5_isPerson : MethodName := ⟨RX5, "isPerson", "(I)Z"⟩
abbrev cX5_rested : ByteArray := prog_7_method_6_code
def yX5_rested : MethodName := ⟨RX5, "rested", "(III)I"⟩
abbrev cX5_plays : ByteArray := prog_7_method_7_code
def yX5_plays : MethodName := ⟨RX5, "plays", "(III)I"⟩
abbrev cX5_isTooLong : ByteArray := prog_7_method_8_code
def yX5_isTooLong : MethodName := ⟨RX5, "isTooLong", "(III)Z"⟩
abbrev cX5_begin : ByteArray := prog_7_method_9_code
def yX5_begin : MethodName := ⟨RX5, "begin", "(I)I"⟩
abbrev cX5_may : ByteArray := prog_7_method_10_code
def yX5_may : MethodName := ⟨RX5, "may", "(I)Z"⟩
abbrev cX5_finds : ByteArray := prog_7_method_11_code
def yX5_finds : MethodName := ⟨RX5, "finds", "()V"⟩
abbrev cX5_keeps : ByteArray := prog_7_method_12_code
def yX5_keeps : MethodName := ⟨RX5, "keeps", "()V"⟩
abbrev cX5_plans : ByteArray := prog_7_method_13_code
def yX5_plans : MethodName := ⟨RX5, "plans", "()V"⟩
abbrev cX5_addScene : ByteArray := prog_7_method_14_code
def yX5_addScene : MethodName := ⟨RX5, "addScene", "(IIIII)I"⟩
abbrev cX5_setOut : ByteArray := prog_7_method_15_code
def yX5_setOut : MethodName := ⟨RX5, "setOut", "(IZ)Z"⟩
abbrev cX5_setChild : ByteArray := prog_7_method_16_code
def yX5_setChild : MethodName := ⟨RX5, "setChild", "(IZ)Z"⟩
abbrev cX5_setRates : ByteArray := prog_7_method_17_code
def yX5_setRates : MethodName := ⟨RX5, "setRates", "(II)I"⟩
abbrev cX5_hold : ByteArray := prog_7_method_18_code
def yX5_hold : MethodName := ⟨RX5, "hold", "(Z)Z"⟩
abbrev cX5_lacks : ByteArray := prog_7_method_19_code
def yX5_lacks : MethodName := ⟨RX5, "lacks", "(II)I"⟩
abbrev cX5_pays : ByteArray := prog_7_method_20_code
def yX5_pays : MethodName := ⟨RX5, "pays", "(II)V"⟩
abbrev cX5_shoot : ByteArray := prog_7_method_21_code
def yX5_shoot : MethodName := ⟨RX5, "shoot", "(Z)I"⟩
abbrev cX5_isLine : ByteArray := prog_7_method_22_code
def yX5_isLine : MethodName := ⟨RX5, "isLine", "(I)Z"⟩
abbrev cX5_isMoney : ByteArray := prog_7_method_23_code
def yX5_isMoney : MethodName := ⟨RX5, "isMoney", "(I)Z"⟩
abbrev cX5_approve : ByteArray := prog_7_method_24_code
def yX5_approve : MethodName := ⟨RX5, "approve", "(II)I"⟩
abbrev cX5_grant : ByteArray := prog_7_method_25_code
def yX5_grant : MethodName := ⟨RX5, "grant", "(I)I"⟩
abbrev cX5_bill : ByteArray := prog_7_method_26_code
def yX5_bill : MethodName := ⟨RX5, "bill", "(II)I"⟩
abbrev cX5_loan : ByteArray := prog_7_method_27_code
def yX5_loan : MethodName := ⟨RX5, "loan", "(II)I"⟩
abbrev cX5_part : ByteArray := prog_7_method_28_code
def yX5_part : MethodName := ⟨RX5, "part", "(III)I"⟩
abbrev cX5_income : ByteArray := prog_7_method_29_code
def yX5_income : MethodName := ⟨RX5, "income", "(I)I"⟩
abbrev cX5_today : ByteArray := prog_7_method_30_code
def yX5_today : MethodName := ⟨RX5, "today", "()I"⟩
abbrev cX5_shot : ByteArray := prog_7_method_31_code
def yX5_shot : MethodName := ⟨RX5, "shot", "()I"⟩
abbrev cX5_days : ByteArray := prog_7_method_32_code
def yX5_days : MethodName := ⟨RX5, "days", "()I"⟩
abbrev cX5_daysByAll : ByteArray := prog_7_method_33_code
def yX5_daysByAll : MethodName := ⟨RX5, "daysByAll", "()I"⟩
abbrev cX5_planned : ByteArray := prog_7_method_34_code
def yX5_planned : MethodName := ⟨RX5, "planned", "(I)I"⟩
abbrev cX5_begins : ByteArray := prog_7_method_35_code
def yX5_begins : MethodName := ⟨RX5, "begins", "(I)I"⟩
abbrev cX5_left : ByteArray := prog_7_method_36_code
def yX5_left : MethodName := ⟨RX5, "left", "(I)I"⟩
abbrev cX5_fee : ByteArray := prog_7_method_37_code
def yX5_fee : MethodName := ⟨RX5, "fee", "()I"⟩
abbrev cX5_costs : ByteArray := prog_7_method_38_code
def yX5_costs : MethodName := ⟨RX5, "costs", "()I"⟩
abbrev cX5_open : ByteArray := prog_7_method_39_code
def yX5_open : MethodName := ⟨RX5, "open", "()I"⟩
abbrev cX5_openOf : ByteArray := prog_7_method_40_code
def yX5_openOf : MethodName := ⟨RX5, "openOf", "(I)I"⟩
abbrev cX5_got : ByteArray := prog_7_method_41_code
def yX5_got : MethodName := ⟨RX5, "got", "(I)I"⟩
abbrev cX5_house : ByteArray := prog_7_method_42_code
def yX5_house : MethodName := ⟨RX5, "house", "()I"⟩
def RJ6 : String := "java/lang/Integer"
def TJ6 : u_T := fun k => match k with
  | _ => ("", "", "", false)
def tyJ6 : Nat → FieldType := fun k => match k with
  | _ => .int
abbrev wsJ60 : List Cond := u_ws RJ6 TJ6 0
theorem tyJ6_ok : ∀ k, k < 0 → parseFieldDescriptor (TJ6 k).2.2.1 = some (tyJ6 k) := by decide +kernel
abbrev cJ6_bitCount_0f7a4 : ByteArray := prog_12_method_49_code
def yJ6_bitCount_0f7a4 : MethodName := ⟨RJ6, "bitCount", "(I)I"⟩
def RJ9 : String := "java/lang/Math"
def TJ9 : u_T := fun k => match k with
  | _ => ("", "", "", false)
def tyJ9 : Nat → FieldType := fun k => match k with
  | _ => .int
abbrev wsJ90 : List Cond := u_ws RJ9 TJ9 0
theorem tyJ9_ok : ∀ k, k < 0 → parseFieldDescriptor (TJ9 k).2.2.1 = some (tyJ9 k) := by decide +kernel
abbrev cJ9_max_7cf53 : ByteArray := prog_13_method_65_code
def yJ9_max_7cf53 : MethodName := ⟨RJ9, "max", "(II)I"⟩
abbrev cJ9_min_7cf53 : ByteArray := prog_13_method_69_code
def yJ9_min_7cf53 : MethodName := ⟨RJ9, "min", "(II)I"⟩
def RL : String := "ScripthouseLaw"
abbrev cL_addScene : ByteArray := method_3_code
def yL_addScene : MethodName := ⟨RL, "addScene", "(LScripthouse;IIIII[J)I"⟩
abbrev cL_setOut : ByteArray := method_4_code
def yL_setOut : MethodName := ⟨RL, "setOut", "(LScripthouse;IZ[J)I"⟩
abbrev cL_setChild : ByteArray := method_5_code
def yL_setChild : MethodName := ⟨RL, "setChild", "(LScripthouse;IZ[J)I"⟩
abbrev cL_setRates : ByteArray := method_6_code
def yL_setRates : MethodName := ⟨RL, "setRates", "(LScripthouse;II[J)I"⟩
abbrev cL_shoot : ByteArray := method_7_code
def yL_shoot : MethodName := ⟨RL, "shoot", "(LScripthouse;Z[J)I"⟩
abbrev cL_approve : ByteArray := method_8_code
def yL_approve : MethodName := ⟨RL, "approve", "(LScripthouse;II[J)I"⟩
abbrev cL_grant : ByteArray := method_9_code
def yL_grant : MethodName := ⟨RL, "grant", "(LScripthouse;I[J)I"⟩
abbrev cL_bill : ByteArray := method_10_code
def yL_bill : MethodName := ⟨RL, "bill", "(LScripthouse;II[J)I"⟩
abbrev cL_loan : ByteArray := method_11_code
def yL_loan : MethodName := ⟨RL, "loan", "(LScripthouse;II[J)I"⟩
abbrev cL_part : ByteArray := method_12_code
def yL_part : MethodName := ⟨RL, "part", "(LScripthouse;III[J)I"⟩
abbrev cL_income : ByteArray := method_13_code
def yL_income : MethodName := ⟨RL, "income", "(LScripthouse;I[J)I"⟩
abbrev cL_daysByAll : ByteArray := method_14_code
def yL_daysByAll : MethodName := ⟨RL, "daysByAll", "(LScripthouse;[J)I"⟩
abbrev cL_planned : ByteArray := method_15_code
def yL_planned : MethodName := ⟨RL, "planned", "(LScripthouse;I[J)I"⟩
abbrev cL_begins : ByteArray := method_16_code
def yL_begins : MethodName := ⟨RL, "begins", "(LScripthouse;I[J)I"⟩
abbrev cL_left : ByteArray := method_17_code
def yL_left : MethodName := ⟨RL, "left", "(LScripthouse;I[J)I"⟩
abbrev cL_openOf : ByteArray := method_18_code
def yL_openOf : MethodName := ⟨RL, "openOf", "(LScripthouse;I[J)I"⟩
abbrev cL_got : ByteArray := method_19_code
def yL_got : MethodName := ⟨RL, "got", "(LScripthouse;I[J)I"⟩
abbrev cL_law : ByteArray := code
def yL_law : MethodName := ⟨RL, "law", "([I)Z"⟩
abbrev vwCl : List vw_C := [(RX0, TX0, 4), (RX1, TX1, 10), (RX2, TX2, 8), (RX3, TX3, 9), (RX4, TX4, 7), (RX5, TX5, 36)]
/-- the good words of the tables -/
def wALL : List Cond := lw_tbl.filter goodWord
theorem tk0 {w : Cond} {i : Nat} (h : (k2_sels lw_privs)[i]? = some w) (hg : goodWord w = true) : w ∈ wALL := List.mem_filter.mpr ⟨List.mem_append_left _ (List.mem_of_getElem? h), hg⟩
theorem tk1 {w : Cond} {i : Nat} (h : tables_1_1[i]? = some w) (hg : goodWord w = true) : w ∈ wALL := List.mem_filter.mpr ⟨List.mem_append_right _ (List.mem_append_left _ (List.mem_of_getElem? h)), hg⟩
theorem tk2 {w : Cond} {i : Nat} (h : tables_1_2[i]? = some w) (hg : goodWord w = true) : w ∈ wALL := List.mem_filter.mpr ⟨List.mem_append_right _ (List.mem_append_right _ (List.mem_append_left _ (List.mem_of_getElem? h))), hg⟩
theorem tk3 {w : Cond} {i : Nat} (h : tables_1_3[i]? = some w) (hg : goodWord w = true) : w ∈ wALL := List.mem_filter.mpr ⟨List.mem_append_right _ (List.mem_append_right _ (List.mem_append_right _ (List.mem_append_left _ (List.mem_of_getElem? h)))), hg⟩
theorem tk4 {w : Cond} {i : Nat} (h : tables_1_4[i]? = some w) (hg : goodWord w = true) : w ∈ wALL := List.mem_filter.mpr ⟨List.mem_append_right _ (List.mem_append_right _ (List.mem_append_right _ (List.mem_append_right _ (List.mem_of_getElem? h)))), hg⟩
theorem wALL_tbl : ∀ w ∈ wALL, w ∈ lw_tbl := fun _ h => (List.mem_filter.mp h).1
theorem all_good : ∀ w ∈ wALL, goodWord w = true := fun _ h => (List.mem_filter.mp h).2
end
section
theorem dX0_init_0 : decode cX0_init 0 = .ok (.aload_n 0, 1) := by decide +kernel
theorem dX0_init_1 : decode cX0_init 1 = .ok (.invokespecial 3, 3) := by decide +kernel
theorem dX0_init_4 : decode cX0_init 4 = .ok (.aload_n 0, 1) := by decide +kernel
theorem dX0_init_5 : decode cX0_init 5 = .ok (.iconst 4, 1) := by decide +kernel
theorem dX0_init_6 : decode cX0_init 6 = .ok (.newarray .int, 2) := by decide +kernel
theorem dX0_init_8 : decode cX0_init 8 = .ok (.putfield 9, 3) := by decide +kernel
theorem dX0_init_11 : decode cX0_init 11 = .ok (.return_, 1) := by decide +kernel
theorem dX0_lackOf_0 : decode cX0_lackOf 0 = .ok (.iconst 0, 1) := by decide +kernel
theorem dX0_lackOf_1 : decode cX0_lackOf 1 = .ok (.iload_n 2, 1) := by decide +kernel
theorem dX0_lackOf_2 : decode cX0_lackOf 2 = .ok (.aload_n 0, 1) := by decide +kernel
theorem dX0_lackOf_3 : decode cX0_lackOf 3 = .ok (.getfield 9, 3) := by decide +kernel
theorem dX0_lackOf_6 : decode cX0_lackOf 6 = .ok (.iload_n 1, 1) := by decide +kernel
theorem dX0_lackOf_7 : decode cX0_lackOf 7 = .ok (.invokestatic 15, 3) := by decide +kernel
theorem dX0_lackOf_10 : decode cX0_lackOf 10 = .ok (.isub, 1) := by decide +kernel
theorem dX0_lackOf_11 : decode cX0_lackOf 11 = .ok (.invokestatic 19, 3) := by decide +kernel
theorem dX0_lackOf_14 : decode cX0_lackOf 14 = .ok (.ireturn, 1) := by decide +kernel
theorem dX0_pay_0 : decode cX0_pay 0 = .ok (.aload_n 0, 1) := by decide +kernel
theorem dX0_pay_1 : decode cX0_pay 1 = .ok (.iload_n 1, 1) := by decide +kernel
theorem dX0_pay_2 : decode cX0_pay 2 = .ok (.iload_n 2, 1) := by decide +kernel
theorem dX0_pay_3 : decode cX0_pay 3 = .ok (.invokevirtual 25, 3) := by decide +kernel
theorem dX0_pay_6 : decode cX0_pay 6 = .ok (.istore_n 3, 1) := by decide +kernel
theorem dX0_pay_7 : decode cX0_pay 7 = .ok (.aload_n 0, 1) := by decide +kernel
theorem dX0_pay_8 : decode cX0_pay 8 = .ok (.getfield 9, 3) := by decide +kernel
theorem dX0_pay_11 : decode cX0_pay 11 = .ok (.iload_n 1, 1) := by decide +kernel
theorem dX0_pay_12 : decode cX0_pay 12 = .ok (.iload_n 3, 1) := by decide +kernel
theorem dX0_pay_13 : decode cX0_pay 13 = .ok (.iload_n 2, 1) := by decide +kernel
theorem dX0_pay_14 : decode cX0_pay 14 = .ok (.isub, 1) := by decide +kernel
theorem dX0_pay_15 : decode cX0_pay 15 = .ok (.invokestatic 28, 3) := by decide +kernel
theorem dX0_pay_18 : decode cX0_pay 18 = .ok (.aload_n 0, 1) := by decide +kernel
theorem dX0_pay_19 : decode cX0_pay 19 = .ok (.dup, 1) := by decide +kernel
theorem dX0_pay_20 : decode cX0_pay 20 = .ok (.getfield 32, 3) := by decide +kernel
theorem dX0_pay_23 : decode cX0_pay 23 = .ok (.iload_n 3, 1) := by decide +kernel
theorem dX0_pay_24 : decode cX0_pay 24 = .ok (.isub, 1) := by decide +kernel
theorem dX0_pay_25 : decode cX0_pay 25 = .ok (.putfield 32, 3) := by decide +kernel
theorem dX0_pay_28 : decode cX0_pay 28 = .ok (.aload_n 0, 1) := by decide +kernel
theorem dX0_pay_29 : decode cX0_pay 29 = .ok (.dup, 1) := by decide +kernel
theorem dX0_pay_30 : decode cX0_pay 30 = .ok (.getfield 36, 3) := by decide +kernel
theorem dX0_pay_33 : decode cX0_pay 33 = .ok (.iload_n 2, 1) := by decide +kernel
theorem dX0_pay_34 : decode cX0_pay 34 = .ok (.iadd, 1) := by decide +kernel
theorem dX0_pay_35 : decode cX0_pay 35 = .ok (.putfield 36, 3) := by decide +kernel
theorem dX0_pay_38 : decode cX0_pay 38 = .ok (.aload_n 0, 1) := by decide +kernel
theorem dX0_pay_39 : decode cX0_pay 39 = .ok (.dup, 1) := by decide +kernel
theorem dX0_pay_40 : decode cX0_pay 40 = .ok (.getfield 39, 3) := by decide +kernel
theorem dX0_pay_43 : decode cX0_pay 43 = .ok (.iload_n 2, 1) := by decide +kernel
theorem dX0_pay_44 : decode cX0_pay 44 = .ok (.iadd, 1) := by decide +kernel
theorem dX0_pay_45 : decode cX0_pay 45 = .ok (.putfield 39, 3) := by decide +kernel
theorem dX0_pay_48 : decode cX0_pay 48 = .ok (.iload_n 3, 1) := by decide +kernel
theorem dX0_pay_49 : decode cX0_pay 49 = .ok (.ireturn, 1) := by decide +kernel
theorem dX0_payBack_0 : decode cX0_payBack 0 = .ok (.iload_n 1, 1) := by decide +kernel
theorem dX0_payBack_1 : decode cX0_payBack 1 = .ok (.aload_n 0, 1) := by decide +kernel
theorem dX0_payBack_2 : decode cX0_payBack 2 = .ok (.getfield 39, 3) := by decide +kernel
theorem dX0_payBack_5 : decode cX0_payBack 5 = .ok (.invokestatic 42, 3) := by decide +kernel
theorem dX0_payBack_8 : decode cX0_payBack 8 = .ok (.istore_n 2, 1) := by decide +kernel
theorem dX0_payBack_9 : decode cX0_payBack 9 = .ok (.aload_n 0, 1) := by decide +kernel
theorem dX0_payBack_10 : decode cX0_payBack 10 = .ok (.dup, 1) := by decide +kernel
theorem dX0_payBack_11 : decode cX0_payBack 11 = .ok (.getfield 39, 3) := by decide +kernel
theorem dX0_payBack_14 : decode cX0_payBack 14 = .ok (.iload_n 2, 1) := by decide +kernel
theorem dX0_payBack_15 : decode cX0_payBack 15 = .ok (.isub, 1) := by decide +kernel
theorem dX0_payBack_16 : decode cX0_payBack 16 = .ok (.putfield 39, 3) := by decide +kernel
theorem dX0_payBack_19 : decode cX0_payBack 19 = .ok (.iload_n 1, 1) := by decide +kernel
theorem dX0_payBack_20 : decode cX0_payBack 20 = .ok (.iload_n 2, 1) := by decide +kernel
theorem dX0_payBack_21 : decode cX0_payBack 21 = .ok (.isub, 1) := by decide +kernel
theorem dX0_payBack_22 : decode cX0_payBack 22 = .ok (.ireturn, 1) := by decide +kernel
theorem dX1_init_0 : decode cX1_init 0 = .ok (.aload_n 0, 1) := by decide +kernel
theorem dX1_init_1 : decode cX1_init 1 = .ok (.invokespecial 3, 3) := by decide +kernel
theorem dX1_init_4 : decode cX1_init 4 = .ok (.aload_n 0, 1) := by decide +kernel
theorem dX1_init_5 : decode cX1_init 5 = .ok (.bipush 10, 2) := by decide +kernel
theorem dX1_init_7 : decode cX1_init 7 = .ok (.newarray .int, 2) := by decide +kernel
theorem dX1_init_9 : decode cX1_init 9 = .ok (.putfield 9, 3) := by decide +kernel
theorem dX1_init_12 : decode cX1_init 12 = .ok (.aload_n 0, 1) := by decide +kernel
theorem dX1_init_13 : decode cX1_init 13 = .ok (.bipush 10, 2) := by decide +kernel
theorem dX1_init_15 : decode cX1_init 15 = .ok (.newarray .int, 2) := by decide +kernel
theorem dX1_init_17 : decode cX1_init 17 = .ok (.putfield 15, 3) := by decide +kernel
theorem dX1_init_20 : decode cX1_init 20 = .ok (.aload_n 0, 1) := by decide +kernel
theorem dX1_init_21 : decode cX1_init 21 = .ok (.bipush 12, 2) := by decide +kernel
theorem dX1_init_23 : decode cX1_init 23 = .ok (.newarray .int, 2) := by decide +kernel
theorem dX1_init_25 : decode cX1_init 25 = .ok (.putfield 18, 3) := by decide +kernel
theorem dX1_init_28 : decode cX1_init 28 = .ok (.aload_n 0, 1) := by decide +kernel
theorem dX1_init_29 : decode cX1_init 29 = .ok (.bipush 12, 2) := by decide +kernel
theorem dX1_init_31 : decode cX1_init 31 = .ok (.newarray .int, 2) := by decide +kernel
theorem dX1_init_33 : decode cX1_init 33 = .ok (.putfield 21, 3) := by decide +kernel
theorem dX1_init_36 : decode cX1_init 36 = .ok (.aload_n 0, 1) := by decide +kernel
theorem dX1_init_37 : decode cX1_init 37 = .ok (.bipush 12, 2) := by decide +kernel
theorem dX1_init_39 : decode cX1_init 39 = .ok (.newarray .int, 2) := by decide +kernel
theorem dX1_init_41 : decode cX1_init 41 = .ok (.putfield 24, 3) := by decide +kernel
theorem dX1_init_44 : decode cX1_init 44 = .ok (.aload_n 0, 1) := by decide +kernel
theorem dX1_init_45 : decode cX1_init 45 = .ok (.bipush 12, 2) := by decide +kernel
theorem dX1_init_47 : decode cX1_init 47 = .ok (.newarray .int, 2) := by decide +kernel
theorem dX1_init_49 : decode cX1_init 49 = .ok (.putfield 27, 3) := by decide +kernel
theorem dX1_init_52 : decode cX1_init 52 = .ok (.aload_n 0, 1) := by decide +kernel
theorem dX1_init_53 : decode cX1_init 53 = .ok (.bipush 6, 2) := by decide +kernel
theorem dX1_init_55 : decode cX1_init 55 = .ok (.newarray .int, 2) := by decide +kernel
theorem dX1_init_57 : decode cX1_init 57 = .ok (.putfield 30, 3) := by decide +kernel
theorem dX1_init_60 : decode cX1_init 60 = .ok (.return_, 1) := by decide +kernel
theorem dX1_appendLoan_0 : decode cX1_appendLoan 0 = .ok (.aload_n 0, 1) := by decide +kernel
theorem dX1_appendLoan_1 : decode cX1_appendLoan 1 = .ok (.getfield 9, 3) := by decide +kernel
theorem dX1_appendLoan_4 : decode cX1_appendLoan 4 = .ok (.aload_n 0, 1) := by decide +kernel
theorem dX1_appendLoan_5 : decode cX1_appendLoan 5 = .ok (.getfield 33, 3) := by decide +kernel
theorem dX1_appendLoan_8 : decode cX1_appendLoan 8 = .ok (.iload_n 1, 1) := by decide +kernel
theorem dX1_appendLoan_9 : decode cX1_appendLoan 9 = .ok (.invokestatic 37, 3) := by decide +kernel
theorem dX1_appendLoan_12 : decode cX1_appendLoan 12 = .ok (.aload_n 0, 1) := by decide +kernel
theorem dX1_appendLoan_13 : decode cX1_appendLoan 13 = .ok (.getfield 15, 3) := by decide +kernel
theorem dX1_appendLoan_16 : decode cX1_appendLoan 16 = .ok (.aload_n 0, 1) := by decide +kernel
theorem dX1_appendLoan_17 : decode cX1_appendLoan 17 = .ok (.getfield 33, 3) := by decide +kernel
theorem dX1_appendLoan_20 : decode cX1_appendLoan 20 = .ok (.iload_n 2, 1) := by decide +kernel
theorem dX1_appendLoan_21 : decode cX1_appendLoan 21 = .ok (.invokestatic 37, 3) := by decide +kernel
theorem dX1_appendLoan_24 : decode cX1_appendLoan 24 = .ok (.aload_n 0, 1) := by decide +kernel
theorem dX1_appendLoan_25 : decode cX1_appendLoan 25 = .ok (.dup, 1) := by decide +kernel
theorem dX1_appendLoan_26 : decode cX1_appendLoan 26 = .ok (.getfield 33, 3) := by decide +kernel
theorem dX1_appendLoan_29 : decode cX1_appendLoan 29 = .ok (.iconst 1, 1) := by decide +kernel
theorem dX1_appendLoan_30 : decode cX1_appendLoan 30 = .ok (.iadd, 1) := by decide +kernel
theorem dX1_appendLoan_31 : decode cX1_appendLoan 31 = .ok (.putfield 33, 3) := by decide +kernel
theorem dX1_appendLoan_34 : decode cX1_appendLoan 34 = .ok (.aload_n 0, 1) := by decide +kernel
theorem dX1_appendLoan_35 : decode cX1_appendLoan 35 = .ok (.getfield 33, 3) := by decide +kernel
theorem dX1_appendLoan_38 : decode cX1_appendLoan 38 = .ok (.iconst 1, 1) := by decide +kernel
theorem dX1_appendLoan_39 : decode cX1_appendLoan 39 = .ok (.isub, 1) := by decide +kernel
theorem dX1_appendLoan_40 : decode cX1_appendLoan 40 = .ok (.ireturn, 1) := by decide +kernel
theorem dX1_appendPart_0 : decode cX1_appendPart 0 = .ok (.aload_n 0, 1) := by decide +kernel
theorem dX1_appendPart_1 : decode cX1_appendPart 1 = .ok (.getfield 18, 3) := by decide +kernel
theorem dX1_appendPart_4 : decode cX1_appendPart 4 = .ok (.aload_n 0, 1) := by decide +kernel
theorem dX1_appendPart_5 : decode cX1_appendPart 5 = .ok (.getfield 41, 3) := by decide +kernel
theorem dX1_appendPart_8 : decode cX1_appendPart 8 = .ok (.iload_n 1, 1) := by decide +kernel
theorem dX1_appendPart_9 : decode cX1_appendPart 9 = .ok (.invokestatic 37, 3) := by decide +kernel
theorem dX1_appendPart_12 : decode cX1_appendPart 12 = .ok (.aload_n 0, 1) := by decide +kernel
theorem dX1_appendPart_13 : decode cX1_appendPart 13 = .ok (.getfield 21, 3) := by decide +kernel
theorem dX1_appendPart_16 : decode cX1_appendPart 16 = .ok (.aload_n 0, 1) := by decide +kernel
theorem dX1_appendPart_17 : decode cX1_appendPart 17 = .ok (.getfield 41, 3) := by decide +kernel
theorem dX1_appendPart_20 : decode cX1_appendPart 20 = .ok (.iload_n 2, 1) := by decide +kernel
theorem dX1_appendPart_21 : decode cX1_appendPart 21 = .ok (.invokestatic 37, 3) := by decide +kernel
theorem dX1_appendPart_24 : decode cX1_appendPart 24 = .ok (.aload_n 0, 1) := by decide +kernel
theorem dX1_appendPart_25 : decode cX1_appendPart 25 = .ok (.getfield 24, 3) := by decide +kernel
theorem dX1_appendPart_28 : decode cX1_appendPart 28 = .ok (.aload_n 0, 1) := by decide +kernel
theorem dX1_appendPart_29 : decode cX1_appendPart 29 = .ok (.getfield 41, 3) := by decide +kernel
theorem dX1_appendPart_32 : decode cX1_appendPart 32 = .ok (.iload_n 3, 1) := by decide +kernel
theorem dX1_appendPart_33 : decode cX1_appendPart 33 = .ok (.invokestatic 37, 3) := by decide +kernel
theorem dX1_appendPart_36 : decode cX1_appendPart 36 = .ok (.aload_n 0, 1) := by decide +kernel
theorem dX1_appendPart_37 : decode cX1_appendPart 37 = .ok (.dup, 1) := by decide +kernel
theorem dX1_appendPart_38 : decode cX1_appendPart 38 = .ok (.getfield 41, 3) := by decide +kernel
theorem dX1_appendPart_41 : decode cX1_appendPart 41 = .ok (.iconst 1, 1) := by decide +kernel
theorem dX1_appendPart_42 : decode cX1_appendPart 42 = .ok (.iadd, 1) := by decide +kernel
theorem dX1_appendPart_43 : decode cX1_appendPart 43 = .ok (.putfield 41, 3) := by decide +kernel
theorem dX1_appendPart_46 : decode cX1_appendPart 46 = .ok (.aload_n 0, 1) := by decide +kernel
theorem dX1_appendPart_47 : decode cX1_appendPart 47 = .ok (.getfield 41, 3) := by decide +kernel
theorem dX1_appendPart_50 : decode cX1_appendPart 50 = .ok (.iconst 1, 1) := by decide +kernel
theorem dX1_appendPart_51 : decode cX1_appendPart 51 = .ok (.isub, 1) := by decide +kernel
theorem dX1_appendPart_52 : decode cX1_appendPart 52 = .ok (.ireturn, 1) := by decide +kernel
theorem dX1_percentOf_0 : decode cX1_percentOf 0 = .ok (.iconst 0, 1) := by decide +kernel
theorem dX1_percentOf_1 : decode cX1_percentOf 1 = .ok (.istore_n 2, 1) := by decide +kernel
theorem dX1_percentOf_2 : decode cX1_percentOf 2 = .ok (.iconst 0, 1) := by decide +kernel
theorem dX1_percentOf_3 : decode cX1_percentOf 3 = .ok (.istore_n 3, 1) := by decide +kernel
theorem dX1_percentOf_4 : decode cX1_percentOf 4 = .ok (.iload_n 3, 1) := by decide +kernel
theorem dX1_percentOf_5 : decode cX1_percentOf 5 = .ok (.aload_n 0, 1) := by decide +kernel
theorem dX1_percentOf_6 : decode cX1_percentOf 6 = .ok (.getfield 41, 3) := by decide +kernel
theorem dX1_percentOf_9 : decode cX1_percentOf 9 = .ok (.if_icmp .ge 32, 3) := by decide +kernel
theorem dX1_percentOf_12 : decode cX1_percentOf 12 = .ok (.aload_n 0, 1) := by decide +kernel
theorem dX1_percentOf_13 : decode cX1_percentOf 13 = .ok (.getfield 18, 3) := by decide +kernel
theorem dX1_percentOf_16 : decode cX1_percentOf 16 = .ok (.iload_n 3, 1) := by decide +kernel
theorem dX1_percentOf_17 : decode cX1_percentOf 17 = .ok (.invokestatic 44, 3) := by decide +kernel
theorem dX1_percentOf_20 : decode cX1_percentOf 20 = .ok (.iload_n 1, 1) := by decide +kernel
theorem dX1_percentOf_21 : decode cX1_percentOf 21 = .ok (.if_icmp .ne 14, 3) := by decide +kernel
theorem dX1_percentOf_24 : decode cX1_percentOf 24 = .ok (.iload_n 2, 1) := by decide +kernel
theorem dX1_percentOf_25 : decode cX1_percentOf 25 = .ok (.aload_n 0, 1) := by decide +kernel
theorem dX1_percentOf_26 : decode cX1_percentOf 26 = .ok (.getfield 24, 3) := by decide +kernel
theorem dX1_percentOf_29 : decode cX1_percentOf 29 = .ok (.iload_n 3, 1) := by decide +kernel
theorem dX1_percentOf_30 : decode cX1_percentOf 30 = .ok (.invokestatic 44, 3) := by decide +kernel
theorem dX1_percentOf_33 : decode cX1_percentOf 33 = .ok (.iadd, 1) := by decide +kernel
theorem dX1_percentOf_34 : decode cX1_percentOf 34 = .ok (.istore_n 2, 1) := by decide +kernel
theorem dX1_percentOf_35 : decode cX1_percentOf 35 = .ok (.iinc 3 1, 3) := by decide +kernel
theorem dX1_percentOf_38 : decode cX1_percentOf 38 = .ok (.goto (-34), 3) := by decide +kernel
theorem dX1_percentOf_41 : decode cX1_percentOf 41 = .ok (.iload_n 2, 1) := by decide +kernel
theorem dX1_percentOf_42 : decode cX1_percentOf 42 = .ok (.ireturn, 1) := by decide +kernel
theorem dX1_payBackLoans_0 : decode cX1_payBackLoans 0 = .ok (.iload_n 1, 1) := by decide +kernel
theorem dX1_payBackLoans_1 : decode cX1_payBackLoans 1 = .ok (.istore_n 2, 1) := by decide +kernel
theorem dX1_payBackLoans_2 : decode cX1_payBackLoans 2 = .ok (.iconst 0, 1) := by decide +kernel
theorem dX1_payBackLoans_3 : decode cX1_payBackLoans 3 = .ok (.istore_n 3, 1) := by decide +kernel
theorem dX1_payBackLoans_4 : decode cX1_payBackLoans 4 = .ok (.iload_n 3, 1) := by decide +kernel
theorem dX1_payBackLoans_5 : decode cX1_payBackLoans 5 = .ok (.aload_n 0, 1) := by decide +kernel
theorem dX1_payBackLoans_6 : decode cX1_payBackLoans 6 = .ok (.getfield 33, 3) := by decide +kernel
theorem dX1_payBackLoans_9 : decode cX1_payBackLoans 9 = .ok (.if_icmp .ge 56, 3) := by decide +kernel
theorem dX1_payBackLoans_12 : decode cX1_payBackLoans 12 = .ok (.iload_n 2, 1) := by decide +kernel
theorem dX1_payBackLoans_13 : decode cX1_payBackLoans 13 = .ok (.aload_n 0, 1) := by decide +kernel
theorem dX1_payBackLoans_14 : decode cX1_payBackLoans 14 = .ok (.getfield 15, 3) := by decide +kernel
theorem dX1_payBackLoans_17 : decode cX1_payBackLoans 17 = .ok (.iload_n 3, 1) := by decide +kernel
theorem dX1_payBackLoans_18 : decode cX1_payBackLoans 18 = .ok (.invokestatic 44, 3) := by decide +kernel
theorem dX1_payBackLoans_21 : decode cX1_payBackLoans 21 = .ok (.invokestatic 48, 3) := by decide +kernel
theorem dX1_payBackLoans_24 : decode cX1_payBackLoans 24 = .ok (.istore 4, 2) := by decide +kernel
theorem dX1_payBackLoans_26 : decode cX1_payBackLoans 26 = .ok (.aload_n 0, 1) := by decide +kernel
theorem dX1_payBackLoans_27 : decode cX1_payBackLoans 27 = .ok (.getfield 15, 3) := by decide +kernel
theorem dX1_payBackLoans_30 : decode cX1_payBackLoans 30 = .ok (.iload_n 3, 1) := by decide +kernel
theorem dX1_payBackLoans_31 : decode cX1_payBackLoans 31 = .ok (.iload 4, 2) := by decide +kernel
theorem dX1_payBackLoans_33 : decode cX1_payBackLoans 33 = .ok (.ineg, 1) := by decide +kernel
theorem dX1_payBackLoans_34 : decode cX1_payBackLoans 34 = .ok (.invokestatic 54, 3) := by decide +kernel
theorem dX1_payBackLoans_37 : decode cX1_payBackLoans 37 = .ok (.aload_n 0, 1) := by decide +kernel
theorem dX1_payBackLoans_38 : decode cX1_payBackLoans 38 = .ok (.getfield 30, 3) := by decide +kernel
theorem dX1_payBackLoans_41 : decode cX1_payBackLoans 41 = .ok (.aload_n 0, 1) := by decide +kernel
theorem dX1_payBackLoans_42 : decode cX1_payBackLoans 42 = .ok (.getfield 9, 3) := by decide +kernel
theorem dX1_payBackLoans_45 : decode cX1_payBackLoans 45 = .ok (.iload_n 3, 1) := by decide +kernel
theorem dX1_payBackLoans_46 : decode cX1_payBackLoans 46 = .ok (.invokestatic 44, 3) := by decide +kernel
theorem dX1_payBackLoans_49 : decode cX1_payBackLoans 49 = .ok (.iload 4, 2) := by decide +kernel
theorem dX1_payBackLoans_51 : decode cX1_payBackLoans 51 = .ok (.invokestatic 54, 3) := by decide +kernel
theorem dX1_payBackLoans_54 : decode cX1_payBackLoans 54 = .ok (.iload_n 2, 1) := by decide +kernel
theorem dX1_payBackLoans_55 : decode cX1_payBackLoans 55 = .ok (.iload 4, 2) := by decide +kernel
theorem dX1_payBackLoans_57 : decode cX1_payBackLoans 57 = .ok (.isub, 1) := by decide +kernel
theorem dX1_payBackLoans_58 : decode cX1_payBackLoans 58 = .ok (.istore_n 2, 1) := by decide +kernel
theorem dX1_payBackLoans_59 : decode cX1_payBackLoans 59 = .ok (.iinc 3 1, 3) := by decide +kernel
theorem dX1_payBackLoans_62 : decode cX1_payBackLoans 62 = .ok (.goto (-58), 3) := by decide +kernel
theorem dX1_payBackLoans_65 : decode cX1_payBackLoans 65 = .ok (.iload_n 2, 1) := by decide +kernel
theorem dX1_payBackLoans_66 : decode cX1_payBackLoans 66 = .ok (.ireturn, 1) := by decide +kernel
theorem dX1_share_0 : decode cX1_share 0 = .ok (.iload_n 1, 1) := by decide +kernel
theorem dX1_share_1 : decode cX1_share 1 = .ok (.istore_n 2, 1) := by decide +kernel
theorem dX1_share_2 : decode cX1_share 2 = .ok (.iconst 0, 1) := by decide +kernel
theorem dX1_share_3 : decode cX1_share 3 = .ok (.istore_n 3, 1) := by decide +kernel
theorem dX1_share_4 : decode cX1_share 4 = .ok (.iload_n 3, 1) := by decide +kernel
theorem dX1_share_5 : decode cX1_share 5 = .ok (.aload_n 0, 1) := by decide +kernel
theorem dX1_share_6 : decode cX1_share 6 = .ok (.getfield 41, 3) := by decide +kernel
theorem dX1_share_9 : decode cX1_share 9 = .ok (.if_icmp .ge 112, 3) := by decide +kernel
theorem dX1_share_12 : decode cX1_share 12 = .ok (.aload_n 0, 1) := by decide +kernel
theorem dX1_share_13 : decode cX1_share 13 = .ok (.getfield 18, 3) := by decide +kernel
theorem dX1_share_16 : decode cX1_share 16 = .ok (.iload_n 3, 1) := by decide +kernel
theorem dX1_share_17 : decode cX1_share 17 = .ok (.invokestatic 44, 3) := by decide +kernel
theorem dX1_share_20 : decode cX1_share 20 = .ok (.istore 4, 2) := by decide +kernel
theorem dX1_share_22 : decode cX1_share 22 = .ok (.iload 4, 2) := by decide +kernel
theorem dX1_share_24 : decode cX1_share 24 = .ok (.iconst (-1), 1) := by decide +kernel
theorem dX1_share_25 : decode cX1_share 25 = .ok (.if_icmp .ne 7, 3) := by decide +kernel
theorem dX1_share_28 : decode cX1_share 28 = .ok (.iload_n 1, 1) := by decide +kernel
theorem dX1_share_29 : decode cX1_share 29 = .ok (.goto 12, 3) := by decide +kernel
theorem dX1_share_32 : decode cX1_share 32 = .ok (.aload_n 0, 1) := by decide +kernel
theorem dX1_share_33 : decode cX1_share 33 = .ok (.getfield 27, 3) := by decide +kernel
theorem dX1_share_36 : decode cX1_share 36 = .ok (.iload 4, 2) := by decide +kernel
theorem dX1_share_38 : decode cX1_share 38 = .ok (.invokestatic 44, 3) := by decide +kernel
theorem dX1_share_41 : decode cX1_share 41 = .ok (.aload_n 0, 1) := by decide +kernel
theorem dX1_share_42 : decode cX1_share 42 = .ok (.getfield 24, 3) := by decide +kernel
theorem dX1_share_45 : decode cX1_share 45 = .ok (.iload_n 3, 1) := by decide +kernel
theorem dX1_share_46 : decode cX1_share 46 = .ok (.invokestatic 44, 3) := by decide +kernel
theorem dX1_share_49 : decode cX1_share 49 = .ok (.imul, 1) := by decide +kernel
theorem dX1_share_50 : decode cX1_share 50 = .ok (.bipush 100, 2) := by decide +kernel
theorem dX1_share_52 : decode cX1_share 52 = .ok (.idiv, 1) := by decide +kernel
theorem dX1_share_53 : decode cX1_share 53 = .ok (.istore 5, 2) := by decide +kernel
theorem dX1_share_55 : decode cX1_share 55 = .ok (.aload_n 0, 1) := by decide +kernel
theorem dX1_share_56 : decode cX1_share 56 = .ok (.getfield 27, 3) := by decide +kernel
theorem dX1_share_59 : decode cX1_share 59 = .ok (.iload_n 3, 1) := by decide +kernel
theorem dX1_share_60 : decode cX1_share 60 = .ok (.iload 5, 2) := by decide +kernel
theorem dX1_share_62 : decode cX1_share 62 = .ok (.invokestatic 37, 3) := by decide +kernel
theorem dX1_share_65 : decode cX1_share 65 = .ok (.aload_n 0, 1) := by decide +kernel
theorem dX1_share_66 : decode cX1_share 66 = .ok (.getfield 30, 3) := by decide +kernel
theorem dX1_share_69 : decode cX1_share 69 = .ok (.aload_n 0, 1) := by decide +kernel
theorem dX1_share_70 : decode cX1_share 70 = .ok (.getfield 21, 3) := by decide +kernel
theorem dX1_share_73 : decode cX1_share 73 = .ok (.iload_n 3, 1) := by decide +kernel
theorem dX1_share_74 : decode cX1_share 74 = .ok (.invokestatic 44, 3) := by decide +kernel
theorem dX1_share_77 : decode cX1_share 77 = .ok (.iload 5, 2) := by decide +kernel
theorem dX1_share_79 : decode cX1_share 79 = .ok (.invokestatic 54, 3) := by decide +kernel
theorem dX1_share_82 : decode cX1_share 82 = .ok (.iload 4, 2) := by decide +kernel
theorem dX1_share_84 : decode cX1_share 84 = .ok (.iconst (-1), 1) := by decide +kernel
theorem dX1_share_85 : decode cX1_share 85 = .ok (.if_icmp .ne 11, 3) := by decide +kernel
theorem dX1_share_88 : decode cX1_share 88 = .ok (.iload_n 2, 1) := by decide +kernel
theorem dX1_share_89 : decode cX1_share 89 = .ok (.iload 5, 2) := by decide +kernel
theorem dX1_share_91 : decode cX1_share 91 = .ok (.isub, 1) := by decide +kernel
theorem dX1_share_92 : decode cX1_share 92 = .ok (.istore_n 2, 1) := by decide +kernel
theorem dX1_share_93 : decode cX1_share 93 = .ok (.goto 22, 3) := by decide +kernel
theorem dX1_share_96 : decode cX1_share 96 = .ok (.aload_n 0, 1) := by decide +kernel
theorem dX1_share_97 : decode cX1_share 97 = .ok (.getfield 30, 3) := by decide +kernel
theorem dX1_share_100 : decode cX1_share 100 = .ok (.aload_n 0, 1) := by decide +kernel
theorem dX1_share_101 : decode cX1_share 101 = .ok (.getfield 21, 3) := by decide +kernel
theorem dX1_share_104 : decode cX1_share 104 = .ok (.iload 4, 2) := by decide +kernel
theorem dX1_share_106 : decode cX1_share 106 = .ok (.invokestatic 44, 3) := by decide +kernel
theorem dX1_share_109 : decode cX1_share 109 = .ok (.iload 5, 2) := by decide +kernel
theorem dX1_share_111 : decode cX1_share 111 = .ok (.ineg, 1) := by decide +kernel
theorem dX1_share_112 : decode cX1_share 112 = .ok (.invokestatic 54, 3) := by decide +kernel
theorem dX1_share_115 : decode cX1_share 115 = .ok (.iinc 3 1, 3) := by decide +kernel
theorem dX1_share_118 : decode cX1_share 118 = .ok (.goto (-114), 3) := by decide +kernel
theorem dX1_share_121 : decode cX1_share 121 = .ok (.aload_n 0, 1) := by decide +kernel
theorem dX1_share_122 : decode cX1_share 122 = .ok (.dup, 1) := by decide +kernel
theorem dX1_share_123 : decode cX1_share 123 = .ok (.getfield 57, 3) := by decide +kernel
theorem dX1_share_126 : decode cX1_share 126 = .ok (.iload_n 2, 1) := by decide +kernel
theorem dX1_share_127 : decode cX1_share 127 = .ok (.iadd, 1) := by decide +kernel
theorem dX1_share_128 : decode cX1_share 128 = .ok (.putfield 57, 3) := by decide +kernel
theorem dX1_share_131 : decode cX1_share 131 = .ok (.return_, 1) := by decide +kernel
theorem dX2_init_0 : decode cX2_init 0 = .ok (.aload_n 0, 1) := by decide +kernel
theorem dX2_init_1 : decode cX2_init 1 = .ok (.invokespecial 3, 3) := by decide +kernel
theorem dX2_init_4 : decode cX2_init 4 = .ok (.aload_n 0, 1) := by decide +kernel
theorem dX2_init_5 : decode cX2_init 5 = .ok (.new 9, 3) := by decide +kernel
theorem dX2_init_8 : decode cX2_init 8 = .ok (.dup, 1) := by decide +kernel
theorem dX2_init_9 : decode cX2_init 9 = .ok (.invokespecial 11, 3) := by decide +kernel
theorem dX2_init_12 : decode cX2_init 12 = .ok (.putfield 12, 3) := by decide +kernel
theorem dX2_init_15 : decode cX2_init 15 = .ok (.aload_n 0, 1) := by decide +kernel
theorem dX2_init_16 : decode cX2_init 16 = .ok (.bipush 8, 2) := by decide +kernel
theorem dX2_init_18 : decode cX2_init 18 = .ok (.newarray .int, 2) := by decide +kernel
theorem dX2_init_20 : decode cX2_init 20 = .ok (.putfield 18, 3) := by decide +kernel
theorem dX2_init_23 : decode cX2_init 23 = .ok (.aload_n 0, 1) := by decide +kernel
theorem dX2_init_24 : decode cX2_init 24 = .ok (.bipush 8, 2) := by decide +kernel
theorem dX2_init_26 : decode cX2_init 26 = .ok (.newarray .int, 2) := by decide +kernel
theorem dX2_init_28 : decode cX2_init 28 = .ok (.putfield 22, 3) := by decide +kernel
theorem dX2_init_31 : decode cX2_init 31 = .ok (.aload_n 0, 1) := by decide +kernel
theorem dX2_init_32 : decode cX2_init 32 = .ok (.bipush 8, 2) := by decide +kernel
theorem dX2_init_34 : decode cX2_init 34 = .ok (.newarray .int, 2) := by decide +kernel
theorem dX2_init_36 : decode cX2_init 36 = .ok (.putfield 25, 3) := by decide +kernel
theorem dX2_init_39 : decode cX2_init 39 = .ok (.aload_n 0, 1) := by decide +kernel
theorem dX2_init_40 : decode cX2_init 40 = .ok (.bipush 8, 2) := by decide +kernel
theorem dX2_init_42 : decode cX2_init 42 = .ok (.newarray .int, 2) := by decide +kernel
theorem dX2_init_44 : decode cX2_init 44 = .ok (.putfield 28, 3) := by decide +kernel
theorem dX2_init_47 : decode cX2_init 47 = .ok (.return_, 1) := by decide +kernel
theorem dX2_forget_0 : decode cX2_forget 0 = .ok (.aload_n 0, 1) := by decide +kernel
theorem dX2_forget_1 : decode cX2_forget 1 = .ok (.iconst 0, 1) := by decide +kernel
theorem dX2_forget_2 : decode cX2_forget 2 = .ok (.putfield 31, 3) := by decide +kernel
theorem dX2_forget_5 : decode cX2_forget 5 = .ok (.return_, 1) := by decide +kernel
theorem dX2_makePlan_0 : decode cX2_makePlan 0 = .ok (.aload_n 0, 1) := by decide +kernel
theorem dX2_makePlan_1 : decode cX2_makePlan 1 = .ok (.getfield 31, 3) := by decide +kernel
theorem dX2_makePlan_4 : decode cX2_makePlan 4 = .ok (.ifCond .ne 26, 3) := by decide +kernel
theorem dX2_makePlan_7 : decode cX2_makePlan 7 = .ok (.aload_n 0, 1) := by decide +kernel
theorem dX2_makePlan_8 : decode cX2_makePlan 8 = .ok (.bipush 9, 2) := by decide +kernel
theorem dX2_makePlan_10 : decode cX2_makePlan 10 = .ok (.putfield 35, 3) := by decide +kernel
theorem dX2_makePlan_13 : decode cX2_makePlan 13 = .ok (.aload_n 0, 1) := by decide +kernel
theorem dX2_makePlan_14 : decode cX2_makePlan 14 = .ok (.iconst 0, 1) := by decide +kernel
theorem dX2_makePlan_15 : decode cX2_makePlan 15 = .ok (.aload_n 0, 1) := by decide +kernel
theorem dX2_makePlan_16 : decode cX2_makePlan 16 = .ok (.getfield 12, 3) := by decide +kernel
theorem dX2_makePlan_19 : decode cX2_makePlan 19 = .ok (.getfield 39, 3) := by decide +kernel
theorem dX2_makePlan_22 : decode cX2_makePlan 22 = .ok (.invokestatic 42, 3) := by decide +kernel
theorem dX2_makePlan_25 : decode cX2_makePlan 25 = .ok (.aload_n 0, 1) := by decide +kernel
theorem dX2_makePlan_26 : decode cX2_makePlan 26 = .ok (.iconst 1, 1) := by decide +kernel
theorem dX2_makePlan_27 : decode cX2_makePlan 27 = .ok (.putfield 31, 3) := by decide +kernel
theorem dX2_makePlan_30 : decode cX2_makePlan 30 = .ok (.return_, 1) := by decide +kernel
theorem dX2_fewestDays_0 : decode cX2_fewestDays 0 = .ok (.aload_n 0, 1) := by decide +kernel
theorem dX2_fewestDays_1 : decode cX2_fewestDays 1 = .ok (.iconst 0, 1) := by decide +kernel
theorem dX2_fewestDays_2 : decode cX2_fewestDays 2 = .ok (.aload_n 0, 1) := by decide +kernel
theorem dX2_fewestDays_3 : decode cX2_fewestDays 3 = .ok (.getfield 12, 3) := by decide +kernel
theorem dX2_fewestDays_6 : decode cX2_fewestDays 6 = .ok (.getfield 39, 3) := by decide +kernel
theorem dX2_fewestDays_9 : decode cX2_fewestDays 9 = .ok (.invokestatic 46, 3) := by decide +kernel
theorem dX2_fewestDays_12 : decode cX2_fewestDays 12 = .ok (.ireturn, 1) := by decide +kernel
theorem dX2_shootable_0 : decode cX2_shootable 0 = .ok (.iconst 0, 1) := by decide +kernel
theorem dX2_shootable_1 : decode cX2_shootable 1 = .ok (.istore_n 2, 1) := by decide +kernel
theorem dX2_shootable_2 : decode cX2_shootable 2 = .ok (.iconst 0, 1) := by decide +kernel
theorem dX2_shootable_3 : decode cX2_shootable 3 = .ok (.istore_n 3, 1) := by decide +kernel
theorem dX2_shootable_4 : decode cX2_shootable 4 = .ok (.iload_n 3, 1) := by decide +kernel
theorem dX2_shootable_5 : decode cX2_shootable 5 = .ok (.aload_n 0, 1) := by decide +kernel
theorem dX2_shootable_6 : decode cX2_shootable 6 = .ok (.getfield 12, 3) := by decide +kernel
theorem dX2_shootable_9 : decode cX2_shootable 9 = .ok (.invokevirtual 50, 3) := by decide +kernel
theorem dX2_shootable_12 : decode cX2_shootable 12 = .ok (.if_icmp .ge 83, 3) := by decide +kernel
theorem dX2_shootable_15 : decode cX2_shootable 15 = .ok (.aload_n 0, 1) := by decide +kernel
theorem dX2_shootable_16 : decode cX2_shootable 16 = .ok (.getfield 25, 3) := by decide +kernel
theorem dX2_shootable_19 : decode cX2_shootable 19 = .ok (.iload_n 3, 1) := by decide +kernel
theorem dX2_shootable_20 : decode cX2_shootable 20 = .ok (.invokestatic 54, 3) := by decide +kernel
theorem dX2_shootable_23 : decode cX2_shootable 23 = .ok (.istore 4, 2) := by decide +kernel
theorem dX2_shootable_25 : decode cX2_shootable 25 = .ok (.aload_n 0, 1) := by decide +kernel
theorem dX2_shootable_26 : decode cX2_shootable 26 = .ok (.getfield 28, 3) := by decide +kernel
theorem dX2_shootable_29 : decode cX2_shootable 29 = .ok (.iload 4, 2) := by decide +kernel
theorem dX2_shootable_31 : decode cX2_shootable 31 = .ok (.invokestatic 54, 3) := by decide +kernel
theorem dX2_shootable_34 : decode cX2_shootable 34 = .ok (.invokestatic 58, 3) := by decide +kernel
theorem dX2_shootable_37 : decode cX2_shootable 37 = .ok (.aload_n 0, 1) := by decide +kernel
theorem dX2_shootable_38 : decode cX2_shootable 38 = .ok (.getfield 62, 3) := by decide +kernel
theorem dX2_shootable_41 : decode cX2_shootable 41 = .ok (.if_icmp .ne 48, 3) := by decide +kernel
theorem dX2_shootable_44 : decode cX2_shootable 44 = .ok (.iload_n 1, 1) := by decide +kernel
theorem dX2_shootable_45 : decode cX2_shootable 45 = .ok (.ifCond .eq 15, 3) := by decide +kernel
theorem dX2_shootable_48 : decode cX2_shootable 48 = .ok (.aload_n 0, 1) := by decide +kernel
theorem dX2_shootable_49 : decode cX2_shootable 49 = .ok (.getfield 12, 3) := by decide +kernel
theorem dX2_shootable_52 : decode cX2_shootable 52 = .ok (.iload 4, 2) := by decide +kernel
theorem dX2_shootable_54 : decode cX2_shootable 54 = .ok (.invokevirtual 65, 3) := by decide +kernel
theorem dX2_shootable_57 : decode cX2_shootable 57 = .ok (.ifCond .ne 32, 3) := by decide +kernel
theorem dX2_shootable_60 : decode cX2_shootable 60 = .ok (.aload_n 0, 1) := by decide +kernel
theorem dX2_shootable_61 : decode cX2_shootable 61 = .ok (.getfield 12, 3) := by decide +kernel
theorem dX2_shootable_64 : decode cX2_shootable 64 = .ok (.iload 4, 2) := by decide +kernel
theorem dX2_shootable_66 : decode cX2_shootable 66 = .ok (.aload_n 0, 1) := by decide +kernel
theorem dX2_shootable_67 : decode cX2_shootable 67 = .ok (.getfield 12, 3) := by decide +kernel
theorem dX2_shootable_70 : decode cX2_shootable 70 = .ok (.getfield 39, 3) := by decide +kernel
theorem dX2_shootable_73 : decode cX2_shootable 73 = .ok (.iload_n 2, 1) := by decide +kernel
theorem dX2_shootable_74 : decode cX2_shootable 74 = .ok (.ior, 1) := by decide +kernel
theorem dX2_shootable_75 : decode cX2_shootable 75 = .ok (.invokevirtual 69, 3) := by decide +kernel
theorem dX2_shootable_78 : decode cX2_shootable 78 = .ok (.ifCond .eq 11, 3) := by decide +kernel
theorem dX2_shootable_81 : decode cX2_shootable 81 = .ok (.iload_n 2, 1) := by decide +kernel
theorem dX2_shootable_82 : decode cX2_shootable 82 = .ok (.iload 4, 2) := by decide +kernel
theorem dX2_shootable_84 : decode cX2_shootable 84 = .ok (.iconst 1, 1) := by decide +kernel
theorem dX2_shootable_85 : decode cX2_shootable 85 = .ok (.invokestatic 73, 3) := by decide +kernel
theorem dX2_shootable_88 : decode cX2_shootable 88 = .ok (.istore_n 2, 1) := by decide +kernel
theorem dX2_shootable_89 : decode cX2_shootable 89 = .ok (.iinc 3 1, 3) := by decide +kernel
theorem dX2_shootable_92 : decode cX2_shootable 92 = .ok (.goto (-88), 3) := by decide +kernel
theorem dX2_shootable_95 : decode cX2_shootable 95 = .ok (.iload_n 2, 1) := by decide +kernel
theorem dX2_shootable_96 : decode cX2_shootable 96 = .ok (.ireturn, 1) := by decide +kernel
theorem dX2_endDay_0 : decode cX2_endDay 0 = .ok (.iconst 0, 1) := by decide +kernel
theorem dX2_endDay_1 : decode cX2_endDay 1 = .ok (.istore_n 2, 1) := by decide +kernel
theorem dX2_endDay_2 : decode cX2_endDay 2 = .ok (.iload_n 2, 1) := by decide +kernel
theorem dX2_endDay_3 : decode cX2_endDay 3 = .ok (.aload_n 0, 1) := by decide +kernel
theorem dX2_endDay_4 : decode cX2_endDay 4 = .ok (.getfield 12, 3) := by decide +kernel
theorem dX2_endDay_7 : decode cX2_endDay 7 = .ok (.getfield 77, 3) := by decide +kernel
theorem dX2_endDay_10 : decode cX2_endDay 10 = .ok (.if_icmp .ge 33, 3) := by decide +kernel
theorem dX2_endDay_13 : decode cX2_endDay 13 = .ok (.iload_n 1, 1) := by decide +kernel
theorem dX2_endDay_14 : decode cX2_endDay 14 = .ok (.iload_n 2, 1) := by decide +kernel
theorem dX2_endDay_15 : decode cX2_endDay 15 = .ok (.invokestatic 80, 3) := by decide +kernel
theorem dX2_endDay_18 : decode cX2_endDay 18 = .ok (.ifCond .eq 19, 3) := by decide +kernel
theorem dX2_endDay_21 : decode cX2_endDay 21 = .ok (.aload_n 0, 1) := by decide +kernel
theorem dX2_endDay_22 : decode cX2_endDay 22 = .ok (.getfield 22, 3) := by decide +kernel
theorem dX2_endDay_25 : decode cX2_endDay 25 = .ok (.iload_n 2, 1) := by decide +kernel
theorem dX2_endDay_26 : decode cX2_endDay 26 = .ok (.aload_n 0, 1) := by decide +kernel
theorem dX2_endDay_27 : decode cX2_endDay 27 = .ok (.getfield 28, 3) := by decide +kernel
theorem dX2_endDay_30 : decode cX2_endDay 30 = .ok (.iload_n 2, 1) := by decide +kernel
theorem dX2_endDay_31 : decode cX2_endDay 31 = .ok (.invokestatic 54, 3) := by decide +kernel
theorem dX2_endDay_34 : decode cX2_endDay 34 = .ok (.invokestatic 83, 3) := by decide +kernel
theorem dX2_endDay_37 : decode cX2_endDay 37 = .ok (.iinc 2 1, 3) := by decide +kernel
theorem dX2_endDay_40 : decode cX2_endDay 40 = .ok (.goto (-38), 3) := by decide +kernel
theorem dX2_endDay_43 : decode cX2_endDay 43 = .ok (.aload_n 0, 1) := by decide +kernel
theorem dX2_endDay_44 : decode cX2_endDay 44 = .ok (.getfield 12, 3) := by decide +kernel
theorem dX2_endDay_47 : decode cX2_endDay 47 = .ok (.dup, 1) := by decide +kernel
theorem dX2_endDay_48 : decode cX2_endDay 48 = .ok (.getfield 39, 3) := by decide +kernel
theorem dX2_endDay_51 : decode cX2_endDay 51 = .ok (.iload_n 1, 1) := by decide +kernel
theorem dX2_endDay_52 : decode cX2_endDay 52 = .ok (.ior, 1) := by decide +kernel
theorem dX2_endDay_53 : decode cX2_endDay 53 = .ok (.putfield 39, 3) := by decide +kernel
theorem dX2_endDay_56 : decode cX2_endDay 56 = .ok (.aload_n 0, 1) := by decide +kernel
theorem dX2_endDay_57 : decode cX2_endDay 57 = .ok (.dup, 1) := by decide +kernel
theorem dX2_endDay_58 : decode cX2_endDay 58 = .ok (.getfield 62, 3) := by decide +kernel
theorem dX2_endDay_61 : decode cX2_endDay 61 = .ok (.iconst 1, 1) := by decide +kernel
theorem dX2_endDay_62 : decode cX2_endDay 62 = .ok (.iadd, 1) := by decide +kernel
theorem dX2_endDay_63 : decode cX2_endDay 63 = .ok (.putfield 62, 3) := by decide +kernel
theorem dX2_endDay_66 : decode cX2_endDay 66 = .ok (.aload_n 0, 1) := by decide +kernel
theorem dX2_endDay_67 : decode cX2_endDay 67 = .ok (.invokevirtual 87, 3) := by decide +kernel
theorem dX2_endDay_70 : decode cX2_endDay 70 = .ok (.return_, 1) := by decide +kernel
theorem dX2_tryOrders_0 : decode cX2_tryOrders 0 = .ok (.iload_n 2, 1) := by decide +kernel
theorem dX2_tryOrders_1 : decode cX2_tryOrders 1 = .ok (.aload_n 0, 1) := by decide +kernel
theorem dX2_tryOrders_2 : decode cX2_tryOrders 2 = .ok (.getfield 12, 3) := by decide +kernel
theorem dX2_tryOrders_5 : decode cX2_tryOrders 5 = .ok (.invokevirtual 90, 3) := by decide +kernel
theorem dX2_tryOrders_8 : decode cX2_tryOrders 8 = .ok (.if_icmp .eq 9, 3) := by decide +kernel
theorem dX2_tryOrders_11 : decode cX2_tryOrders 11 = .ok (.iload_n 1, 1) := by decide +kernel
theorem dX2_tryOrders_12 : decode cX2_tryOrders 12 = .ok (.bipush 8, 2) := by decide +kernel
theorem dX2_tryOrders_14 : decode cX2_tryOrders 14 = .ok (.if_icmp .lt 9, 3) := by decide +kernel
theorem dX2_tryOrders_17 : decode cX2_tryOrders 17 = .ok (.aload_n 0, 1) := by decide +kernel
theorem dX2_tryOrders_18 : decode cX2_tryOrders 18 = .ok (.iload_n 1, 1) := by decide +kernel
theorem dX2_tryOrders_19 : decode cX2_tryOrders 19 = .ok (.invokevirtual 93, 3) := by decide +kernel
theorem dX2_tryOrders_22 : decode cX2_tryOrders 22 = .ok (.return_, 1) := by decide +kernel
theorem dX2_tryOrders_23 : decode cX2_tryOrders 23 = .ok (.iconst 0, 1) := by decide +kernel
theorem dX2_tryOrders_24 : decode cX2_tryOrders 24 = .ok (.istore_n 3, 1) := by decide +kernel
theorem dX2_tryOrders_25 : decode cX2_tryOrders 25 = .ok (.iload_n 3, 1) := by decide +kernel
theorem dX2_tryOrders_26 : decode cX2_tryOrders 26 = .ok (.aload_n 0, 1) := by decide +kernel
theorem dX2_tryOrders_27 : decode cX2_tryOrders 27 = .ok (.getfield 12, 3) := by decide +kernel
theorem dX2_tryOrders_30 : decode cX2_tryOrders 30 = .ok (.getfield 77, 3) := by decide +kernel
theorem dX2_tryOrders_33 : decode cX2_tryOrders 33 = .ok (.if_icmp .ge 57, 3) := by decide +kernel
theorem dX2_tryOrders_36 : decode cX2_tryOrders 36 = .ok (.aload_n 0, 1) := by decide +kernel
theorem dX2_tryOrders_37 : decode cX2_tryOrders 37 = .ok (.getfield 12, 3) := by decide +kernel
theorem dX2_tryOrders_40 : decode cX2_tryOrders 40 = .ok (.iload_n 3, 1) := by decide +kernel
theorem dX2_tryOrders_41 : decode cX2_tryOrders 41 = .ok (.iload_n 2, 1) := by decide +kernel
theorem dX2_tryOrders_42 : decode cX2_tryOrders 42 = .ok (.invokevirtual 97, 3) := by decide +kernel
theorem dX2_tryOrders_45 : decode cX2_tryOrders 45 = .ok (.ifCond .eq 39, 3) := by decide +kernel
theorem dX2_tryOrders_48 : decode cX2_tryOrders 48 = .ok (.aload_n 0, 1) := by decide +kernel
theorem dX2_tryOrders_49 : decode cX2_tryOrders 49 = .ok (.iload_n 3, 1) := by decide +kernel
theorem dX2_tryOrders_50 : decode cX2_tryOrders 50 = .ok (.iload_n 1, 1) := by decide +kernel
theorem dX2_tryOrders_51 : decode cX2_tryOrders 51 = .ok (.iload_n 2, 1) := by decide +kernel
theorem dX2_tryOrders_52 : decode cX2_tryOrders 52 = .ok (.invokevirtual 100, 3) := by decide +kernel
theorem dX2_tryOrders_55 : decode cX2_tryOrders 55 = .ok (.iload_n 2, 1) := by decide +kernel
theorem dX2_tryOrders_56 : decode cX2_tryOrders 56 = .ok (.iload_n 3, 1) := by decide +kernel
theorem dX2_tryOrders_57 : decode cX2_tryOrders 57 = .ok (.iconst 1, 1) := by decide +kernel
theorem dX2_tryOrders_58 : decode cX2_tryOrders 58 = .ok (.invokestatic 73, 3) := by decide +kernel
theorem dX2_tryOrders_61 : decode cX2_tryOrders 61 = .ok (.istore 4, 2) := by decide +kernel
theorem dX2_tryOrders_63 : decode cX2_tryOrders 63 = .ok (.aload_n 0, 1) := by decide +kernel
theorem dX2_tryOrders_64 : decode cX2_tryOrders 64 = .ok (.iload_n 1, 1) := by decide +kernel
theorem dX2_tryOrders_65 : decode cX2_tryOrders 65 = .ok (.iconst 1, 1) := by decide +kernel
theorem dX2_tryOrders_66 : decode cX2_tryOrders 66 = .ok (.iadd, 1) := by decide +kernel
theorem dX2_tryOrders_67 : decode cX2_tryOrders 67 = .ok (.iload 4, 2) := by decide +kernel
theorem dX2_tryOrders_69 : decode cX2_tryOrders 69 = .ok (.invokevirtual 104, 3) := by decide +kernel
theorem dX2_tryOrders_72 : decode cX2_tryOrders 72 = .ok (.ifCond .eq 12, 3) := by decide +kernel
theorem dX2_tryOrders_75 : decode cX2_tryOrders 75 = .ok (.aload_n 0, 1) := by decide +kernel
theorem dX2_tryOrders_76 : decode cX2_tryOrders 76 = .ok (.iload_n 1, 1) := by decide +kernel
theorem dX2_tryOrders_77 : decode cX2_tryOrders 77 = .ok (.iconst 1, 1) := by decide +kernel
theorem dX2_tryOrders_78 : decode cX2_tryOrders 78 = .ok (.iadd, 1) := by decide +kernel
theorem dX2_tryOrders_79 : decode cX2_tryOrders 79 = .ok (.iload 4, 2) := by decide +kernel
theorem dX2_tryOrders_81 : decode cX2_tryOrders 81 = .ok (.invokestatic 42, 3) := by decide +kernel
theorem dX2_tryOrders_84 : decode cX2_tryOrders 84 = .ok (.iinc 3 1, 3) := by decide +kernel
theorem dX2_tryOrders_87 : decode cX2_tryOrders 87 = .ok (.goto (-62), 3) := by decide +kernel
theorem dX2_tryOrders_90 : decode cX2_tryOrders 90 = .ok (.return_, 1) := by decide +kernel
theorem dX2_fewestOfAll_0 : decode cX2_fewestOfAll 0 = .ok (.iload_n 2, 1) := by decide +kernel
theorem dX2_fewestOfAll_1 : decode cX2_fewestOfAll 1 = .ok (.aload_n 0, 1) := by decide +kernel
theorem dX2_fewestOfAll_2 : decode cX2_fewestOfAll 2 = .ok (.getfield 12, 3) := by decide +kernel
theorem dX2_fewestOfAll_5 : decode cX2_fewestOfAll 5 = .ok (.invokevirtual 90, 3) := by decide +kernel
theorem dX2_fewestOfAll_8 : decode cX2_fewestOfAll 8 = .ok (.if_icmp .eq 9, 3) := by decide +kernel
theorem dX2_fewestOfAll_11 : decode cX2_fewestOfAll 11 = .ok (.iload_n 1, 1) := by decide +kernel
theorem dX2_fewestOfAll_12 : decode cX2_fewestOfAll 12 = .ok (.bipush 8, 2) := by decide +kernel
theorem dX2_fewestOfAll_14 : decode cX2_fewestOfAll 14 = .ok (.if_icmp .lt 9, 3) := by decide +kernel
theorem dX2_fewestOfAll_17 : decode cX2_fewestOfAll 17 = .ok (.aload_n 0, 1) := by decide +kernel
theorem dX2_fewestOfAll_18 : decode cX2_fewestOfAll 18 = .ok (.iload_n 1, 1) := by decide +kernel
theorem dX2_fewestOfAll_19 : decode cX2_fewestOfAll 19 = .ok (.invokevirtual 107, 3) := by decide +kernel
theorem dX2_fewestOfAll_22 : decode cX2_fewestOfAll 22 = .ok (.ireturn, 1) := by decide +kernel
theorem dX2_fewestOfAll_23 : decode cX2_fewestOfAll 23 = .ok (.bipush 9, 2) := by decide +kernel
theorem dX2_fewestOfAll_25 : decode cX2_fewestOfAll 25 = .ok (.istore_n 3, 1) := by decide +kernel
theorem dX2_fewestOfAll_26 : decode cX2_fewestOfAll 26 = .ok (.iconst 0, 1) := by decide +kernel
theorem dX2_fewestOfAll_27 : decode cX2_fewestOfAll 27 = .ok (.istore 4, 2) := by decide +kernel
theorem dX2_fewestOfAll_29 : decode cX2_fewestOfAll 29 = .ok (.iload 4, 2) := by decide +kernel
theorem dX2_fewestOfAll_31 : decode cX2_fewestOfAll 31 = .ok (.aload_n 0, 1) := by decide +kernel
theorem dX2_fewestOfAll_32 : decode cX2_fewestOfAll 32 = .ok (.getfield 12, 3) := by decide +kernel
theorem dX2_fewestOfAll_35 : decode cX2_fewestOfAll 35 = .ok (.getfield 77, 3) := by decide +kernel
theorem dX2_fewestOfAll_38 : decode cX2_fewestOfAll 38 = .ok (.if_icmp .ge 49, 3) := by decide +kernel
theorem dX2_fewestOfAll_41 : decode cX2_fewestOfAll 41 = .ok (.aload_n 0, 1) := by decide +kernel
theorem dX2_fewestOfAll_42 : decode cX2_fewestOfAll 42 = .ok (.getfield 12, 3) := by decide +kernel
theorem dX2_fewestOfAll_45 : decode cX2_fewestOfAll 45 = .ok (.iload 4, 2) := by decide +kernel
theorem dX2_fewestOfAll_47 : decode cX2_fewestOfAll 47 = .ok (.iload_n 2, 1) := by decide +kernel
theorem dX2_fewestOfAll_48 : decode cX2_fewestOfAll 48 = .ok (.invokevirtual 97, 3) := by decide +kernel
theorem dX2_fewestOfAll_51 : decode cX2_fewestOfAll 51 = .ok (.ifCond .eq 30, 3) := by decide +kernel
theorem dX2_fewestOfAll_54 : decode cX2_fewestOfAll 54 = .ok (.aload_n 0, 1) := by decide +kernel
theorem dX2_fewestOfAll_55 : decode cX2_fewestOfAll 55 = .ok (.iload 4, 2) := by decide +kernel
theorem dX2_fewestOfAll_57 : decode cX2_fewestOfAll 57 = .ok (.iload_n 1, 1) := by decide +kernel
theorem dX2_fewestOfAll_58 : decode cX2_fewestOfAll 58 = .ok (.iload_n 2, 1) := by decide +kernel
theorem dX2_fewestOfAll_59 : decode cX2_fewestOfAll 59 = .ok (.invokevirtual 100, 3) := by decide +kernel
theorem dX2_fewestOfAll_62 : decode cX2_fewestOfAll 62 = .ok (.iload_n 3, 1) := by decide +kernel
theorem dX2_fewestOfAll_63 : decode cX2_fewestOfAll 63 = .ok (.aload_n 0, 1) := by decide +kernel
theorem dX2_fewestOfAll_64 : decode cX2_fewestOfAll 64 = .ok (.iload_n 1, 1) := by decide +kernel
theorem dX2_fewestOfAll_65 : decode cX2_fewestOfAll 65 = .ok (.iconst 1, 1) := by decide +kernel
theorem dX2_fewestOfAll_66 : decode cX2_fewestOfAll 66 = .ok (.iadd, 1) := by decide +kernel
theorem dX2_fewestOfAll_67 : decode cX2_fewestOfAll 67 = .ok (.iload_n 2, 1) := by decide +kernel
theorem dX2_fewestOfAll_68 : decode cX2_fewestOfAll 68 = .ok (.iload 4, 2) := by decide +kernel
theorem dX2_fewestOfAll_70 : decode cX2_fewestOfAll 70 = .ok (.iconst 1, 1) := by decide +kernel
theorem dX2_fewestOfAll_71 : decode cX2_fewestOfAll 71 = .ok (.invokestatic 73, 3) := by decide +kernel
theorem dX2_fewestOfAll_74 : decode cX2_fewestOfAll 74 = .ok (.invokestatic 46, 3) := by decide +kernel
theorem dX2_fewestOfAll_77 : decode cX2_fewestOfAll 77 = .ok (.invokestatic 110, 3) := by decide +kernel
theorem dX2_fewestOfAll_80 : decode cX2_fewestOfAll 80 = .ok (.istore_n 3, 1) := by decide +kernel
theorem dX2_fewestOfAll_81 : decode cX2_fewestOfAll 81 = .ok (.iinc 4 1, 3) := by decide +kernel
theorem dX2_fewestOfAll_84 : decode cX2_fewestOfAll 84 = .ok (.goto (-55), 3) := by decide +kernel
theorem dX2_fewestOfAll_87 : decode cX2_fewestOfAll 87 = .ok (.iload_n 3, 1) := by decide +kernel
theorem dX2_fewestOfAll_88 : decode cX2_fewestOfAll 88 = .ok (.ireturn, 1) := by decide +kernel
theorem dX2_keep_0 : decode cX2_keep 0 = .ok (.aload_n 0, 1) := by decide +kernel
theorem dX2_keep_1 : decode cX2_keep 1 = .ok (.aload_n 0, 1) := by decide +kernel
theorem dX2_keep_2 : decode cX2_keep 2 = .ok (.iload_n 1, 1) := by decide +kernel
theorem dX2_keep_3 : decode cX2_keep 3 = .ok (.invokevirtual 107, 3) := by decide +kernel
theorem dX2_keep_6 : decode cX2_keep 6 = .ok (.putfield 35, 3) := by decide +kernel
theorem dX2_keep_9 : decode cX2_keep 9 = .ok (.iconst 0, 1) := by decide +kernel
theorem dX2_keep_10 : decode cX2_keep 10 = .ok (.istore_n 2, 1) := by decide +kernel
theorem dX2_keep_11 : decode cX2_keep 11 = .ok (.iload_n 2, 1) := by decide +kernel
theorem dX2_keep_12 : decode cX2_keep 12 = .ok (.bipush 8, 2) := by decide +kernel
theorem dX2_keep_14 : decode cX2_keep 14 = .ok (.if_icmp .ge 41, 3) := by decide +kernel
theorem dX2_keep_17 : decode cX2_keep 17 = .ok (.aload_n 0, 1) := by decide +kernel
theorem dX2_keep_18 : decode cX2_keep 18 = .ok (.getfield 25, 3) := by decide +kernel
theorem dX2_keep_21 : decode cX2_keep 21 = .ok (.iload_n 2, 1) := by decide +kernel
theorem dX2_keep_22 : decode cX2_keep 22 = .ok (.aload_n 0, 1) := by decide +kernel
theorem dX2_keep_23 : decode cX2_keep 23 = .ok (.getfield 18, 3) := by decide +kernel
theorem dX2_keep_26 : decode cX2_keep 26 = .ok (.iload_n 2, 1) := by decide +kernel
theorem dX2_keep_27 : decode cX2_keep 27 = .ok (.invokestatic 54, 3) := by decide +kernel
theorem dX2_keep_30 : decode cX2_keep 30 = .ok (.invokestatic 83, 3) := by decide +kernel
theorem dX2_keep_33 : decode cX2_keep 33 = .ok (.aload_n 0, 1) := by decide +kernel
theorem dX2_keep_34 : decode cX2_keep 34 = .ok (.getfield 28, 3) := by decide +kernel
theorem dX2_keep_37 : decode cX2_keep 37 = .ok (.iload_n 2, 1) := by decide +kernel
theorem dX2_keep_38 : decode cX2_keep 38 = .ok (.aload_n 0, 1) := by decide +kernel
theorem dX2_keep_39 : decode cX2_keep 39 = .ok (.getfield 22, 3) := by decide +kernel
theorem dX2_keep_42 : decode cX2_keep 42 = .ok (.iload_n 2, 1) := by decide +kernel
theorem dX2_keep_43 : decode cX2_keep 43 = .ok (.invokestatic 54, 3) := by decide +kernel
theorem dX2_keep_46 : decode cX2_keep 46 = .ok (.invokestatic 83, 3) := by decide +kernel
theorem dX2_keep_49 : decode cX2_keep 49 = .ok (.iinc 2 1, 3) := by decide +kernel
theorem dX2_keep_52 : decode cX2_keep 52 = .ok (.goto (-41), 3) := by decide +kernel
theorem dX2_keep_55 : decode cX2_keep 55 = .ok (.return_, 1) := by decide +kernel
theorem dX2_daysUpTo_0 : decode cX2_daysUpTo 0 = .ok (.iload_n 1, 1) := by decide +kernel
theorem dX2_daysUpTo_1 : decode cX2_daysUpTo 1 = .ok (.ifCond .ne 7, 3) := by decide +kernel
theorem dX2_daysUpTo_4 : decode cX2_daysUpTo 4 = .ok (.iconst 0, 1) := by decide +kernel
theorem dX2_daysUpTo_5 : decode cX2_daysUpTo 5 = .ok (.goto 30, 3) := by decide +kernel
theorem dX2_daysUpTo_8 : decode cX2_daysUpTo 8 = .ok (.aload_n 0, 1) := by decide +kernel
theorem dX2_daysUpTo_9 : decode cX2_daysUpTo 9 = .ok (.getfield 22, 3) := by decide +kernel
theorem dX2_daysUpTo_12 : decode cX2_daysUpTo 12 = .ok (.aload_n 0, 1) := by decide +kernel
theorem dX2_daysUpTo_13 : decode cX2_daysUpTo 13 = .ok (.getfield 18, 3) := by decide +kernel
theorem dX2_daysUpTo_16 : decode cX2_daysUpTo 16 = .ok (.iload_n 1, 1) := by decide +kernel
theorem dX2_daysUpTo_17 : decode cX2_daysUpTo 17 = .ok (.iconst 1, 1) := by decide +kernel
theorem dX2_daysUpTo_18 : decode cX2_daysUpTo 18 = .ok (.isub, 1) := by decide +kernel
theorem dX2_daysUpTo_19 : decode cX2_daysUpTo 19 = .ok (.invokestatic 54, 3) := by decide +kernel
theorem dX2_daysUpTo_22 : decode cX2_daysUpTo 22 = .ok (.invokestatic 54, 3) := by decide +kernel
theorem dX2_daysUpTo_25 : decode cX2_daysUpTo 25 = .ok (.invokestatic 58, 3) := by decide +kernel
theorem dX2_daysUpTo_28 : decode cX2_daysUpTo 28 = .ok (.aload_n 0, 1) := by decide +kernel
theorem dX2_daysUpTo_29 : decode cX2_daysUpTo 29 = .ok (.getfield 62, 3) := by decide +kernel
theorem dX2_daysUpTo_32 : decode cX2_daysUpTo 32 = .ok (.isub, 1) := by decide +kernel
theorem dX2_daysUpTo_33 : decode cX2_daysUpTo 33 = .ok (.iconst 1, 1) := by decide +kernel
theorem dX2_daysUpTo_34 : decode cX2_daysUpTo 34 = .ok (.iadd, 1) := by decide +kernel
theorem dX2_daysUpTo_35 : decode cX2_daysUpTo 35 = .ok (.ireturn, 1) := by decide +kernel
theorem dX2_canBeBetter_0 : decode cX2_canBeBetter 0 = .ok (.aload_n 0, 1) := by decide +kernel
theorem dX2_canBeBetter_1 : decode cX2_canBeBetter 1 = .ok (.getfield 35, 3) := by decide +kernel
theorem dX2_canBeBetter_4 : decode cX2_canBeBetter 4 = .ok (.iconst 1, 1) := by decide +kernel
theorem dX2_canBeBetter_5 : decode cX2_canBeBetter 5 = .ok (.isub, 1) := by decide +kernel
theorem dX2_canBeBetter_6 : decode cX2_canBeBetter 6 = .ok (.aload_n 0, 1) := by decide +kernel
theorem dX2_canBeBetter_7 : decode cX2_canBeBetter 7 = .ok (.iload_n 1, 1) := by decide +kernel
theorem dX2_canBeBetter_8 : decode cX2_canBeBetter 8 = .ok (.invokevirtual 107, 3) := by decide +kernel
theorem dX2_canBeBetter_11 : decode cX2_canBeBetter 11 = .ok (.isub, 1) := by decide +kernel
theorem dX2_canBeBetter_12 : decode cX2_canBeBetter 12 = .ok (.istore_n 3, 1) := by decide +kernel
theorem dX2_canBeBetter_13 : decode cX2_canBeBetter 13 = .ok (.aload_n 0, 1) := by decide +kernel
theorem dX2_canBeBetter_14 : decode cX2_canBeBetter 14 = .ok (.getfield 18, 3) := by decide +kernel
theorem dX2_canBeBetter_17 : decode cX2_canBeBetter 17 = .ok (.iload_n 1, 1) := by decide +kernel
theorem dX2_canBeBetter_18 : decode cX2_canBeBetter 18 = .ok (.iconst 1, 1) := by decide +kernel
theorem dX2_canBeBetter_19 : decode cX2_canBeBetter 19 = .ok (.isub, 1) := by decide +kernel
theorem dX2_canBeBetter_20 : decode cX2_canBeBetter 20 = .ok (.invokestatic 54, 3) := by decide +kernel
theorem dX2_canBeBetter_23 : decode cX2_canBeBetter 23 = .ok (.istore 4, 2) := by decide +kernel
theorem dX2_canBeBetter_25 : decode cX2_canBeBetter 25 = .ok (.aload_n 0, 1) := by decide +kernel
theorem dX2_canBeBetter_26 : decode cX2_canBeBetter 26 = .ok (.getfield 12, 3) := by decide +kernel
theorem dX2_canBeBetter_29 : decode cX2_canBeBetter 29 = .ok (.invokevirtual 90, 3) := by decide +kernel
theorem dX2_canBeBetter_32 : decode cX2_canBeBetter 32 = .ok (.iload_n 2, 1) := by decide +kernel
theorem dX2_canBeBetter_33 : decode cX2_canBeBetter 33 = .ok (.iconst (-1), 1) := by decide +kernel
theorem dX2_canBeBetter_34 : decode cX2_canBeBetter 34 = .ok (.ixor, 1) := by decide +kernel
theorem dX2_canBeBetter_35 : decode cX2_canBeBetter 35 = .ok (.iand, 1) := by decide +kernel
theorem dX2_canBeBetter_36 : decode cX2_canBeBetter 36 = .ok (.istore 5, 2) := by decide +kernel
theorem dX2_canBeBetter_38 : decode cX2_canBeBetter 38 = .ok (.iload_n 3, 1) := by decide +kernel
theorem dX2_canBeBetter_39 : decode cX2_canBeBetter 39 = .ok (.ifCond .lt 32, 3) := by decide +kernel
theorem dX2_canBeBetter_42 : decode cX2_canBeBetter 42 = .ok (.aload_n 0, 1) := by decide +kernel
theorem dX2_canBeBetter_43 : decode cX2_canBeBetter 43 = .ok (.iload 5, 2) := by decide +kernel
theorem dX2_canBeBetter_45 : decode cX2_canBeBetter 45 = .ok (.iload 4, 2) := by decide +kernel
theorem dX2_canBeBetter_47 : decode cX2_canBeBetter 47 = .ok (.iload_n 3, 1) := by decide +kernel
theorem dX2_canBeBetter_48 : decode cX2_canBeBetter 48 = .ok (.invokevirtual 116, 3) := by decide +kernel
theorem dX2_canBeBetter_51 : decode cX2_canBeBetter 51 = .ok (.ifCond .eq 20, 3) := by decide +kernel
theorem dX2_canBeBetter_54 : decode cX2_canBeBetter 54 = .ok (.aload_n 0, 1) := by decide +kernel
theorem dX2_canBeBetter_55 : decode cX2_canBeBetter 55 = .ok (.iload 5, 2) := by decide +kernel
theorem dX2_canBeBetter_57 : decode cX2_canBeBetter 57 = .ok (.iload_n 2, 1) := by decide +kernel
theorem dX2_canBeBetter_58 : decode cX2_canBeBetter 58 = .ok (.iload 4, 2) := by decide +kernel
theorem dX2_canBeBetter_60 : decode cX2_canBeBetter 60 = .ok (.iload_n 3, 1) := by decide +kernel
theorem dX2_canBeBetter_61 : decode cX2_canBeBetter 61 = .ok (.invokevirtual 120, 3) := by decide +kernel
theorem dX2_canBeBetter_64 : decode cX2_canBeBetter 64 = .ok (.ifCond .eq 7, 3) := by decide +kernel
theorem dX2_canBeBetter_67 : decode cX2_canBeBetter 67 = .ok (.iconst 1, 1) := by decide +kernel
theorem dX2_canBeBetter_68 : decode cX2_canBeBetter 68 = .ok (.goto 4, 3) := by decide +kernel
theorem dX2_canBeBetter_71 : decode cX2_canBeBetter 71 = .ok (.iconst 0, 1) := by decide +kernel
theorem dX2_canBeBetter_72 : decode cX2_canBeBetter 72 = .ok (.ireturn, 1) := by decide +kernel
theorem dX2_hasRoom_0 : decode cX2_hasRoom 0 = .ok (.aload_n 0, 1) := by decide +kernel
theorem dX2_hasRoom_1 : decode cX2_hasRoom 1 = .ok (.iload_n 2, 1) := by decide +kernel
theorem dX2_hasRoom_2 : decode cX2_hasRoom 2 = .ok (.invokevirtual 124, 3) := by decide +kernel
theorem dX2_hasRoom_5 : decode cX2_hasRoom 5 = .ok (.bipush 24, 2) := by decide +kernel
theorem dX2_hasRoom_7 : decode cX2_hasRoom 7 = .ok (.aload_n 0, 1) := by decide +kernel
theorem dX2_hasRoom_8 : decode cX2_hasRoom 8 = .ok (.getfield 22, 3) := by decide +kernel
theorem dX2_hasRoom_11 : decode cX2_hasRoom 11 = .ok (.iload_n 2, 1) := by decide +kernel
theorem dX2_hasRoom_12 : decode cX2_hasRoom 12 = .ok (.invokestatic 54, 3) := by decide +kernel
theorem dX2_hasRoom_15 : decode cX2_hasRoom 15 = .ok (.invokestatic 58, 3) := by decide +kernel
theorem dX2_hasRoom_18 : decode cX2_hasRoom 18 = .ok (.imul, 1) := by decide +kernel
theorem dX2_hasRoom_19 : decode cX2_hasRoom 19 = .ok (.isub, 1) := by decide +kernel
theorem dX2_hasRoom_20 : decode cX2_hasRoom 20 = .ok (.istore 4, 2) := by decide +kernel
theorem dX2_hasRoom_22 : decode cX2_hasRoom 22 = .ok (.aload_n 0, 1) := by decide +kernel
theorem dX2_hasRoom_23 : decode cX2_hasRoom 23 = .ok (.getfield 12, 3) := by decide +kernel
theorem dX2_hasRoom_26 : decode cX2_hasRoom 26 = .ok (.iload_n 1, 1) := by decide +kernel
theorem dX2_hasRoom_27 : decode cX2_hasRoom 27 = .ok (.invokevirtual 127, 3) := by decide +kernel
theorem dX2_hasRoom_30 : decode cX2_hasRoom 30 = .ok (.bipush 24, 2) := by decide +kernel
theorem dX2_hasRoom_32 : decode cX2_hasRoom 32 = .ok (.iload 4, 2) := by decide +kernel
theorem dX2_hasRoom_34 : decode cX2_hasRoom 34 = .ok (.isub, 1) := by decide +kernel
theorem dX2_hasRoom_35 : decode cX2_hasRoom 35 = .ok (.iload_n 3, 1) := by decide +kernel
theorem dX2_hasRoom_36 : decode cX2_hasRoom 36 = .ok (.bipush 16, 2) := by decide +kernel
theorem dX2_hasRoom_38 : decode cX2_hasRoom 38 = .ok (.imul, 1) := by decide +kernel
theorem dX2_hasRoom_39 : decode cX2_hasRoom 39 = .ok (.iadd, 1) := by decide +kernel
theorem dX2_hasRoom_40 : decode cX2_hasRoom 40 = .ok (.if_icmp .gt 54, 3) := by decide +kernel
theorem dX2_hasRoom_43 : decode cX2_hasRoom 43 = .ok (.aload_n 0, 1) := by decide +kernel
theorem dX2_hasRoom_44 : decode cX2_hasRoom 44 = .ok (.iload_n 1, 1) := by decide +kernel
theorem dX2_hasRoom_45 : decode cX2_hasRoom 45 = .ok (.iconst 1, 1) := by decide +kernel
theorem dX2_hasRoom_46 : decode cX2_hasRoom 46 = .ok (.invokevirtual 130, 3) := by decide +kernel
theorem dX2_hasRoom_49 : decode cX2_hasRoom 49 = .ok (.iconst 0, 1) := by decide +kernel
theorem dX2_hasRoom_50 : decode cX2_hasRoom 50 = .ok (.bipush 18, 2) := by decide +kernel
theorem dX2_hasRoom_52 : decode cX2_hasRoom 52 = .ok (.iload 4, 2) := by decide +kernel
theorem dX2_hasRoom_54 : decode cX2_hasRoom 54 = .ok (.isub, 1) := by decide +kernel
theorem dX2_hasRoom_55 : decode cX2_hasRoom 55 = .ok (.invokestatic 133, 3) := by decide +kernel
theorem dX2_hasRoom_58 : decode cX2_hasRoom 58 = .ok (.iload_n 3, 1) := by decide +kernel
theorem dX2_hasRoom_59 : decode cX2_hasRoom 59 = .ok (.bipush 10, 2) := by decide +kernel
theorem dX2_hasRoom_61 : decode cX2_hasRoom 61 = .ok (.imul, 1) := by decide +kernel
theorem dX2_hasRoom_62 : decode cX2_hasRoom 62 = .ok (.iadd, 1) := by decide +kernel
theorem dX2_hasRoom_63 : decode cX2_hasRoom 63 = .ok (.if_icmp .gt 31, 3) := by decide +kernel
theorem dX2_hasRoom_66 : decode cX2_hasRoom 66 = .ok (.aload_n 0, 1) := by decide +kernel
theorem dX2_hasRoom_67 : decode cX2_hasRoom 67 = .ok (.iload_n 1, 1) := by decide +kernel
theorem dX2_hasRoom_68 : decode cX2_hasRoom 68 = .ok (.iconst 2, 1) := by decide +kernel
theorem dX2_hasRoom_69 : decode cX2_hasRoom 69 = .ok (.invokevirtual 130, 3) := by decide +kernel
theorem dX2_hasRoom_72 : decode cX2_hasRoom 72 = .ok (.bipush 24, 2) := by decide +kernel
theorem dX2_hasRoom_74 : decode cX2_hasRoom 74 = .ok (.bipush 18, 2) := by decide +kernel
theorem dX2_hasRoom_76 : decode cX2_hasRoom 76 = .ok (.iload 4, 2) := by decide +kernel
theorem dX2_hasRoom_78 : decode cX2_hasRoom 78 = .ok (.invokestatic 133, 3) := by decide +kernel
theorem dX2_hasRoom_81 : decode cX2_hasRoom 81 = .ok (.isub, 1) := by decide +kernel
theorem dX2_hasRoom_82 : decode cX2_hasRoom 82 = .ok (.iload_n 3, 1) := by decide +kernel
theorem dX2_hasRoom_83 : decode cX2_hasRoom 83 = .ok (.bipush 6, 2) := by decide +kernel
theorem dX2_hasRoom_85 : decode cX2_hasRoom 85 = .ok (.imul, 1) := by decide +kernel
theorem dX2_hasRoom_86 : decode cX2_hasRoom 86 = .ok (.iadd, 1) := by decide +kernel
theorem dX2_hasRoom_87 : decode cX2_hasRoom 87 = .ok (.if_icmp .gt 7, 3) := by decide +kernel
theorem dX2_hasRoom_90 : decode cX2_hasRoom 90 = .ok (.iconst 1, 1) := by decide +kernel
theorem dX2_hasRoom_91 : decode cX2_hasRoom 91 = .ok (.goto 4, 3) := by decide +kernel
theorem dX2_hasRoom_94 : decode cX2_hasRoom 94 = .ok (.iconst 0, 1) := by decide +kernel
theorem dX2_hasRoom_95 : decode cX2_hasRoom 95 = .ok (.ireturn, 1) := by decide +kernel
theorem dX2_hasRoomForChildren_0 : decode cX2_hasRoomForChildren 0 = .ok (.aload_n 0, 1) := by decide +kernel
theorem dX2_hasRoomForChildren_1 : decode cX2_hasRoomForChildren 1 = .ok (.getfield 22, 3) := by decide +kernel
theorem dX2_hasRoomForChildren_4 : decode cX2_hasRoomForChildren 4 = .ok (.iload_n 3, 1) := by decide +kernel
theorem dX2_hasRoomForChildren_5 : decode cX2_hasRoomForChildren 5 = .ok (.invokestatic 54, 3) := by decide +kernel
theorem dX2_hasRoomForChildren_8 : decode cX2_hasRoomForChildren 8 = .ok (.invokestatic 58, 3) := by decide +kernel
theorem dX2_hasRoomForChildren_11 : decode cX2_hasRoomForChildren 11 = .ok (.istore 5, 2) := by decide +kernel
theorem dX2_hasRoomForChildren_13 : decode cX2_hasRoomForChildren 13 = .ok (.iconst 0, 1) := by decide +kernel
theorem dX2_hasRoomForChildren_14 : decode cX2_hasRoomForChildren 14 = .ok (.istore 6, 2) := by decide +kernel
theorem dX2_hasRoomForChildren_16 : decode cX2_hasRoomForChildren 16 = .ok (.iload 6, 2) := by decide +kernel
theorem dX2_hasRoomForChildren_18 : decode cX2_hasRoomForChildren 18 = .ok (.bipush 6, 2) := by decide +kernel
theorem dX2_hasRoomForChildren_20 : decode cX2_hasRoomForChildren 20 = .ok (.if_icmp .ge 57, 3) := by decide +kernel
theorem dX2_hasRoomForChildren_23 : decode cX2_hasRoomForChildren 23 = .ok (.aload_n 0, 1) := by decide +kernel
theorem dX2_hasRoomForChildren_24 : decode cX2_hasRoomForChildren 24 = .ok (.getfield 12, 3) := by decide +kernel
theorem dX2_hasRoomForChildren_27 : decode cX2_hasRoomForChildren 27 = .ok (.getfield 136, 3) := by decide +kernel
theorem dX2_hasRoomForChildren_30 : decode cX2_hasRoomForChildren 30 = .ok (.iload 6, 2) := by decide +kernel
theorem dX2_hasRoomForChildren_32 : decode cX2_hasRoomForChildren 32 = .ok (.invokestatic 80, 3) := by decide +kernel
theorem dX2_hasRoomForChildren_35 : decode cX2_hasRoomForChildren 35 = .ok (.ifCond .eq 36, 3) := by decide +kernel
theorem dX2_hasRoomForChildren_38 : decode cX2_hasRoomForChildren 38 = .ok (.aload_n 0, 1) := by decide +kernel
theorem dX2_hasRoomForChildren_39 : decode cX2_hasRoomForChildren 39 = .ok (.iload 6, 2) := by decide +kernel
theorem dX2_hasRoomForChildren_41 : decode cX2_hasRoomForChildren 41 = .ok (.iload_n 1, 1) := by decide +kernel
theorem dX2_hasRoomForChildren_42 : decode cX2_hasRoomForChildren 42 = .ok (.invokevirtual 139, 3) := by decide +kernel
theorem dX2_hasRoomForChildren_45 : decode cX2_hasRoomForChildren 45 = .ok (.bipush 6, 2) := by decide +kernel
theorem dX2_hasRoomForChildren_47 : decode cX2_hasRoomForChildren 47 = .ok (.iload 4, 2) := by decide +kernel
theorem dX2_hasRoomForChildren_49 : decode cX2_hasRoomForChildren 49 = .ok (.iconst 1, 1) := by decide +kernel
theorem dX2_hasRoomForChildren_50 : decode cX2_hasRoomForChildren 50 = .ok (.iadd, 1) := by decide +kernel
theorem dX2_hasRoomForChildren_51 : decode cX2_hasRoomForChildren 51 = .ok (.imul, 1) := by decide +kernel
theorem dX2_hasRoomForChildren_52 : decode cX2_hasRoomForChildren 52 = .ok (.aload_n 0, 1) := by decide +kernel
theorem dX2_hasRoomForChildren_53 : decode cX2_hasRoomForChildren 53 = .ok (.iload 6, 2) := by decide +kernel
theorem dX2_hasRoomForChildren_55 : decode cX2_hasRoomForChildren 55 = .ok (.aload_n 0, 1) := by decide +kernel
theorem dX2_hasRoomForChildren_56 : decode cX2_hasRoomForChildren 56 = .ok (.iload 5, 2) := by decide +kernel
theorem dX2_hasRoomForChildren_58 : decode cX2_hasRoomForChildren 58 = .ok (.iload_n 2, 1) := by decide +kernel
theorem dX2_hasRoomForChildren_59 : decode cX2_hasRoomForChildren 59 = .ok (.invokevirtual 142, 3) := by decide +kernel
theorem dX2_hasRoomForChildren_62 : decode cX2_hasRoomForChildren 62 = .ok (.invokevirtual 139, 3) := by decide +kernel
theorem dX2_hasRoomForChildren_65 : decode cX2_hasRoomForChildren 65 = .ok (.isub, 1) := by decide +kernel
theorem dX2_hasRoomForChildren_66 : decode cX2_hasRoomForChildren 66 = .ok (.if_icmp .le 5, 3) := by decide +kernel
theorem dX2_hasRoomForChildren_69 : decode cX2_hasRoomForChildren 69 = .ok (.iconst 0, 1) := by decide +kernel
theorem dX2_hasRoomForChildren_70 : decode cX2_hasRoomForChildren 70 = .ok (.ireturn, 1) := by decide +kernel
theorem dX2_hasRoomForChildren_71 : decode cX2_hasRoomForChildren 71 = .ok (.iinc 6 1, 3) := by decide +kernel
theorem dX2_hasRoomForChildren_74 : decode cX2_hasRoomForChildren 74 = .ok (.goto (-58), 3) := by decide +kernel
theorem dX2_hasRoomForChildren_77 : decode cX2_hasRoomForChildren 77 = .ok (.iconst 1, 1) := by decide +kernel
theorem dX2_hasRoomForChildren_78 : decode cX2_hasRoomForChildren 78 = .ok (.ireturn, 1) := by decide +kernel
theorem dX2_hoursIn_0 : decode cX2_hoursIn 0 = .ok (.iconst 0, 1) := by decide +kernel
theorem dX2_hoursIn_1 : decode cX2_hoursIn 1 = .ok (.istore_n 3, 1) := by decide +kernel
theorem dX2_hoursIn_2 : decode cX2_hoursIn 2 = .ok (.iconst 0, 1) := by decide +kernel
theorem dX2_hoursIn_3 : decode cX2_hoursIn 3 = .ok (.istore 4, 2) := by decide +kernel
theorem dX2_hoursIn_5 : decode cX2_hoursIn 5 = .ok (.iload 4, 2) := by decide +kernel
theorem dX2_hoursIn_7 : decode cX2_hoursIn 7 = .ok (.aload_n 0, 1) := by decide +kernel
theorem dX2_hoursIn_8 : decode cX2_hoursIn 8 = .ok (.getfield 12, 3) := by decide +kernel
theorem dX2_hoursIn_11 : decode cX2_hoursIn 11 = .ok (.getfield 77, 3) := by decide +kernel
theorem dX2_hoursIn_14 : decode cX2_hoursIn 14 = .ok (.if_icmp .ge 49, 3) := by decide +kernel
theorem dX2_hoursIn_17 : decode cX2_hoursIn 17 = .ok (.iload_n 1, 1) := by decide +kernel
theorem dX2_hoursIn_18 : decode cX2_hoursIn 18 = .ok (.iload 4, 2) := by decide +kernel
theorem dX2_hoursIn_20 : decode cX2_hoursIn 20 = .ok (.invokestatic 80, 3) := by decide +kernel
theorem dX2_hoursIn_23 : decode cX2_hoursIn 23 = .ok (.ifCond .eq 34, 3) := by decide +kernel
theorem dX2_hoursIn_26 : decode cX2_hoursIn 26 = .ok (.aload_n 0, 1) := by decide +kernel
theorem dX2_hoursIn_27 : decode cX2_hoursIn 27 = .ok (.getfield 12, 3) := by decide +kernel
theorem dX2_hoursIn_30 : decode cX2_hoursIn 30 = .ok (.getfield 145, 3) := by decide +kernel
theorem dX2_hoursIn_33 : decode cX2_hoursIn 33 = .ok (.iload 4, 2) := by decide +kernel
theorem dX2_hoursIn_35 : decode cX2_hoursIn 35 = .ok (.invokestatic 54, 3) := by decide +kernel
theorem dX2_hoursIn_38 : decode cX2_hoursIn 38 = .ok (.iload_n 2, 1) := by decide +kernel
theorem dX2_hoursIn_39 : decode cX2_hoursIn 39 = .ok (.if_icmp .ne 18, 3) := by decide +kernel
theorem dX2_hoursIn_42 : decode cX2_hoursIn 42 = .ok (.iload_n 3, 1) := by decide +kernel
theorem dX2_hoursIn_43 : decode cX2_hoursIn 43 = .ok (.aload_n 0, 1) := by decide +kernel
theorem dX2_hoursIn_44 : decode cX2_hoursIn 44 = .ok (.getfield 12, 3) := by decide +kernel
theorem dX2_hoursIn_47 : decode cX2_hoursIn 47 = .ok (.getfield 148, 3) := by decide +kernel
theorem dX2_hoursIn_50 : decode cX2_hoursIn 50 = .ok (.iload 4, 2) := by decide +kernel
theorem dX2_hoursIn_52 : decode cX2_hoursIn 52 = .ok (.invokestatic 54, 3) := by decide +kernel
theorem dX2_hoursIn_55 : decode cX2_hoursIn 55 = .ok (.iadd, 1) := by decide +kernel
theorem dX2_hoursIn_56 : decode cX2_hoursIn 56 = .ok (.istore_n 3, 1) := by decide +kernel
theorem dX2_hoursIn_57 : decode cX2_hoursIn 57 = .ok (.iinc 4 1, 3) := by decide +kernel
theorem dX2_hoursIn_60 : decode cX2_hoursIn 60 = .ok (.goto (-55), 3) := by decide +kernel
theorem dX2_hoursIn_63 : decode cX2_hoursIn 63 = .ok (.iload_n 3, 1) := by decide +kernel
theorem dX2_hoursIn_64 : decode cX2_hoursIn 64 = .ok (.ireturn, 1) := by decide +kernel
theorem dX2_place_0 : decode cX2_place 0 = .ok (.aload_n 0, 1) := by decide +kernel
theorem dX2_place_1 : decode cX2_place 1 = .ok (.getfield 62, 3) := by decide +kernel
theorem dX2_place_4 : decode cX2_place 4 = .ok (.istore 4, 2) := by decide +kernel
theorem dX2_place_6 : decode cX2_place 6 = .ok (.iload 4, 2) := by decide +kernel
theorem dX2_place_8 : decode cX2_place 8 = .ok (.invokestatic 151, 3) := by decide +kernel
theorem dX2_place_11 : decode cX2_place 11 = .ok (.istore 5, 2) := by decide +kernel
theorem dX2_place_13 : decode cX2_place 13 = .ok (.iload_n 2, 1) := by decide +kernel
theorem dX2_place_14 : decode cX2_place 14 = .ok (.ifCond .le 69, 3) := by decide +kernel
theorem dX2_place_17 : decode cX2_place 17 = .ok (.aload_n 0, 1) := by decide +kernel
theorem dX2_place_18 : decode cX2_place 18 = .ok (.getfield 18, 3) := by decide +kernel
theorem dX2_place_21 : decode cX2_place 21 = .ok (.iload_n 2, 1) := by decide +kernel
theorem dX2_place_22 : decode cX2_place 22 = .ok (.iconst 1, 1) := by decide +kernel
theorem dX2_place_23 : decode cX2_place 23 = .ok (.isub, 1) := by decide +kernel
theorem dX2_place_24 : decode cX2_place 24 = .ok (.invokestatic 54, 3) := by decide +kernel
theorem dX2_place_27 : decode cX2_place 27 = .ok (.istore 6, 2) := by decide +kernel
theorem dX2_place_29 : decode cX2_place 29 = .ok (.aload_n 0, 1) := by decide +kernel
theorem dX2_place_30 : decode cX2_place 30 = .ok (.getfield 22, 3) := by decide +kernel
theorem dX2_place_33 : decode cX2_place 33 = .ok (.iload 6, 2) := by decide +kernel
theorem dX2_place_35 : decode cX2_place 35 = .ok (.invokestatic 54, 3) := by decide +kernel
theorem dX2_place_38 : decode cX2_place 38 = .ok (.invokestatic 58, 3) := by decide +kernel
theorem dX2_place_41 : decode cX2_place 41 = .ok (.istore 4, 2) := by decide +kernel
theorem dX2_place_43 : decode cX2_place 43 = .ok (.aload_n 0, 1) := by decide +kernel
theorem dX2_place_44 : decode cX2_place 44 = .ok (.iload 6, 2) := by decide +kernel
theorem dX2_place_46 : decode cX2_place 46 = .ok (.invokevirtual 124, 3) := by decide +kernel
theorem dX2_place_49 : decode cX2_place 49 = .ok (.aload_n 0, 1) := by decide +kernel
theorem dX2_place_50 : decode cX2_place 50 = .ok (.getfield 12, 3) := by decide +kernel
theorem dX2_place_53 : decode cX2_place 53 = .ok (.getfield 154, 3) := by decide +kernel
theorem dX2_place_56 : decode cX2_place 56 = .ok (.iload 6, 2) := by decide +kernel
theorem dX2_place_58 : decode cX2_place 58 = .ok (.invokestatic 54, 3) := by decide +kernel
theorem dX2_place_61 : decode cX2_place 61 = .ok (.aload_n 0, 1) := by decide +kernel
theorem dX2_place_62 : decode cX2_place 62 = .ok (.getfield 12, 3) := by decide +kernel
theorem dX2_place_65 : decode cX2_place 65 = .ok (.getfield 154, 3) := by decide +kernel
theorem dX2_place_68 : decode cX2_place 68 = .ok (.iload_n 1, 1) := by decide +kernel
theorem dX2_place_69 : decode cX2_place 69 = .ok (.invokestatic 54, 3) := by decide +kernel
theorem dX2_place_72 : decode cX2_place 72 = .ok (.if_icmp .ne 7, 3) := by decide +kernel
theorem dX2_place_75 : decode cX2_place 75 = .ok (.iconst 0, 1) := by decide +kernel
theorem dX2_place_76 : decode cX2_place 76 = .ok (.goto 4, 3) := by decide +kernel
theorem dX2_place_79 : decode cX2_place 79 = .ok (.iconst 1, 1) := by decide +kernel
theorem dX2_place_80 : decode cX2_place 80 = .ok (.iadd, 1) := by decide +kernel
theorem dX2_place_81 : decode cX2_place 81 = .ok (.istore 5, 2) := by decide +kernel
theorem dX2_place_83 : decode cX2_place 83 = .ok (.aload_n 0, 1) := by decide +kernel
theorem dX2_place_84 : decode cX2_place 84 = .ok (.iload 5, 2) := by decide +kernel
theorem dX2_place_86 : decode cX2_place 86 = .ok (.iload_n 1, 1) := by decide +kernel
theorem dX2_place_87 : decode cX2_place 87 = .ok (.iload 4, 2) := by decide +kernel
theorem dX2_place_89 : decode cX2_place 89 = .ok (.iload_n 3, 1) := by decide +kernel
theorem dX2_place_90 : decode cX2_place 90 = .ok (.invokevirtual 157, 3) := by decide +kernel
theorem dX2_place_93 : decode cX2_place 93 = .ok (.istore 5, 2) := by decide +kernel
theorem dX2_place_95 : decode cX2_place 95 = .ok (.aload_n 0, 1) := by decide +kernel
theorem dX2_place_96 : decode cX2_place 96 = .ok (.iload_n 1, 1) := by decide +kernel
theorem dX2_place_97 : decode cX2_place 97 = .ok (.iload 5, 2) := by decide +kernel
theorem dX2_place_99 : decode cX2_place 99 = .ok (.iload 4, 2) := by decide +kernel
theorem dX2_place_101 : decode cX2_place 101 = .ok (.invokevirtual 161, 3) := by decide +kernel
theorem dX2_place_104 : decode cX2_place 104 = .ok (.ifCond .eq 14, 3) := by decide +kernel
theorem dX2_place_107 : decode cX2_place 107 = .ok (.aload_n 0, 1) := by decide +kernel
theorem dX2_place_108 : decode cX2_place 108 = .ok (.iload_n 1, 1) := by decide +kernel
theorem dX2_place_109 : decode cX2_place 109 = .ok (.iload 4, 2) := by decide +kernel
theorem dX2_place_111 : decode cX2_place 111 = .ok (.iload_n 3, 1) := by decide +kernel
theorem dX2_place_112 : decode cX2_place 112 = .ok (.invokevirtual 164, 3) := by decide +kernel
theorem dX2_place_115 : decode cX2_place 115 = .ok (.ifCond .ne 21, 3) := by decide +kernel
theorem dX2_place_118 : decode cX2_place 118 = .ok (.iinc 4 1, 3) := by decide +kernel
theorem dX2_place_121 : decode cX2_place 121 = .ok (.aload_n 0, 1) := by decide +kernel
theorem dX2_place_122 : decode cX2_place 122 = .ok (.iload 4, 2) := by decide +kernel
theorem dX2_place_124 : decode cX2_place 124 = .ok (.invokestatic 151, 3) := by decide +kernel
theorem dX2_place_127 : decode cX2_place 127 = .ok (.iload_n 1, 1) := by decide +kernel
theorem dX2_place_128 : decode cX2_place 128 = .ok (.iload 4, 2) := by decide +kernel
theorem dX2_place_130 : decode cX2_place 130 = .ok (.iload_n 3, 1) := by decide +kernel
theorem dX2_place_131 : decode cX2_place 131 = .ok (.invokevirtual 157, 3) := by decide +kernel
theorem dX2_place_134 : decode cX2_place 134 = .ok (.istore 5, 2) := by decide +kernel
theorem dX2_place_136 : decode cX2_place 136 = .ok (.aload_n 0, 1) := by decide +kernel
theorem dX2_place_137 : decode cX2_place 137 = .ok (.getfield 18, 3) := by decide +kernel
theorem dX2_place_140 : decode cX2_place 140 = .ok (.iload_n 2, 1) := by decide +kernel
theorem dX2_place_141 : decode cX2_place 141 = .ok (.iload_n 1, 1) := by decide +kernel
theorem dX2_place_142 : decode cX2_place 142 = .ok (.invokestatic 83, 3) := by decide +kernel
theorem dX2_place_145 : decode cX2_place 145 = .ok (.aload_n 0, 1) := by decide +kernel
theorem dX2_place_146 : decode cX2_place 146 = .ok (.getfield 22, 3) := by decide +kernel
theorem dX2_place_149 : decode cX2_place 149 = .ok (.iload_n 1, 1) := by decide +kernel
theorem dX2_place_150 : decode cX2_place 150 = .ok (.iload 5, 2) := by decide +kernel
theorem dX2_place_152 : decode cX2_place 152 = .ok (.invokestatic 83, 3) := by decide +kernel
theorem dX2_place_155 : decode cX2_place 155 = .ok (.return_, 1) := by decide +kernel
theorem dX2_endsInTime_0 : decode cX2_endsInTime 0 = .ok (.aload_n 0, 1) := by decide +kernel
theorem dX2_endsInTime_1 : decode cX2_endsInTime 1 = .ok (.getfield 12, 3) := by decide +kernel
theorem dX2_endsInTime_4 : decode cX2_endsInTime 4 = .ok (.getfield 145, 3) := by decide +kernel
theorem dX2_endsInTime_7 : decode cX2_endsInTime 7 = .ok (.iload_n 1, 1) := by decide +kernel
theorem dX2_endsInTime_8 : decode cX2_endsInTime 8 = .ok (.invokestatic 54, 3) := by decide +kernel
theorem dX2_endsInTime_11 : decode cX2_endsInTime 11 = .ok (.iconst 1, 1) := by decide +kernel
theorem dX2_endsInTime_12 : decode cX2_endsInTime 12 = .ok (.if_icmp .ne 8, 3) := by decide +kernel
theorem dX2_endsInTime_15 : decode cX2_endsInTime 15 = .ok (.bipush 18, 2) := by decide +kernel
theorem dX2_endsInTime_17 : decode cX2_endsInTime 17 = .ok (.goto 5, 3) := by decide +kernel
theorem dX2_endsInTime_20 : decode cX2_endsInTime 20 = .ok (.bipush 24, 2) := by decide +kernel
theorem dX2_endsInTime_22 : decode cX2_endsInTime 22 = .ok (.istore 4, 2) := by decide +kernel
theorem dX2_endsInTime_24 : decode cX2_endsInTime 24 = .ok (.iload_n 2, 1) := by decide +kernel
theorem dX2_endsInTime_25 : decode cX2_endsInTime 25 = .ok (.aload_n 0, 1) := by decide +kernel
theorem dX2_endsInTime_26 : decode cX2_endsInTime 26 = .ok (.getfield 12, 3) := by decide +kernel
theorem dX2_endsInTime_29 : decode cX2_endsInTime 29 = .ok (.getfield 148, 3) := by decide +kernel
theorem dX2_endsInTime_32 : decode cX2_endsInTime 32 = .ok (.iload_n 1, 1) := by decide +kernel
theorem dX2_endsInTime_33 : decode cX2_endsInTime 33 = .ok (.invokestatic 54, 3) := by decide +kernel
theorem dX2_endsInTime_36 : decode cX2_endsInTime 36 = .ok (.iadd, 1) := by decide +kernel
theorem dX2_endsInTime_37 : decode cX2_endsInTime 37 = .ok (.bipush 24, 2) := by decide +kernel
theorem dX2_endsInTime_39 : decode cX2_endsInTime 39 = .ok (.iload_n 3, 1) := by decide +kernel
theorem dX2_endsInTime_40 : decode cX2_endsInTime 40 = .ok (.imul, 1) := by decide +kernel
theorem dX2_endsInTime_41 : decode cX2_endsInTime 41 = .ok (.iload 4, 2) := by decide +kernel
theorem dX2_endsInTime_43 : decode cX2_endsInTime 43 = .ok (.iadd, 1) := by decide +kernel
theorem dX2_endsInTime_44 : decode cX2_endsInTime 44 = .ok (.if_icmp .gt 7, 3) := by decide +kernel
theorem dX2_endsInTime_47 : decode cX2_endsInTime 47 = .ok (.iconst 1, 1) := by decide +kernel
theorem dX2_endsInTime_48 : decode cX2_endsInTime 48 = .ok (.goto 4, 3) := by decide +kernel
theorem dX2_endsInTime_51 : decode cX2_endsInTime 51 = .ok (.iconst 0, 1) := by decide +kernel
theorem dX2_endsInTime_52 : decode cX2_endsInTime 52 = .ok (.ireturn, 1) := by decide +kernel
theorem dX2_beginFrom_0 : decode cX2_beginFrom 0 = .ok (.bipush 24, 2) := by decide +kernel
theorem dX2_beginFrom_2 : decode cX2_beginFrom 2 = .ok (.iload_n 3, 1) := by decide +kernel
theorem dX2_beginFrom_3 : decode cX2_beginFrom 3 = .ok (.imul, 1) := by decide +kernel
theorem dX2_beginFrom_4 : decode cX2_beginFrom 4 = .ok (.aload_n 0, 1) := by decide +kernel
theorem dX2_beginFrom_5 : decode cX2_beginFrom 5 = .ok (.getfield 12, 3) := by decide +kernel
theorem dX2_beginFrom_8 : decode cX2_beginFrom 8 = .ok (.getfield 145, 3) := by decide +kernel
theorem dX2_beginFrom_11 : decode cX2_beginFrom 11 = .ok (.iload_n 2, 1) := by decide +kernel
theorem dX2_beginFrom_12 : decode cX2_beginFrom 12 = .ok (.invokestatic 54, 3) := by decide +kernel
theorem dX2_beginFrom_15 : decode cX2_beginFrom 15 = .ok (.iconst 2, 1) := by decide +kernel
theorem dX2_beginFrom_16 : decode cX2_beginFrom 16 = .ok (.if_icmp .ne 8, 3) := by decide +kernel
theorem dX2_beginFrom_19 : decode cX2_beginFrom 19 = .ok (.bipush 18, 2) := by decide +kernel
theorem dX2_beginFrom_21 : decode cX2_beginFrom 21 = .ok (.goto 5, 3) := by decide +kernel
theorem dX2_beginFrom_24 : decode cX2_beginFrom 24 = .ok (.bipush 8, 2) := by decide +kernel
theorem dX2_beginFrom_26 : decode cX2_beginFrom 26 = .ok (.iadd, 1) := by decide +kernel
theorem dX2_beginFrom_27 : decode cX2_beginFrom 27 = .ok (.istore 5, 2) := by decide +kernel
theorem dX2_beginFrom_29 : decode cX2_beginFrom 29 = .ok (.iload_n 1, 1) := by decide +kernel
theorem dX2_beginFrom_30 : decode cX2_beginFrom 30 = .ok (.iload 5, 2) := by decide +kernel
theorem dX2_beginFrom_32 : decode cX2_beginFrom 32 = .ok (.invokestatic 133, 3) := by decide +kernel
theorem dX2_beginFrom_35 : decode cX2_beginFrom 35 = .ok (.istore 6, 2) := by decide +kernel
theorem dX2_beginFrom_37 : decode cX2_beginFrom 37 = .ok (.iconst 0, 1) := by decide +kernel
theorem dX2_beginFrom_38 : decode cX2_beginFrom 38 = .ok (.istore 7, 2) := by decide +kernel
theorem dX2_beginFrom_40 : decode cX2_beginFrom 40 = .ok (.iload 7, 2) := by decide +kernel
theorem dX2_beginFrom_42 : decode cX2_beginFrom 42 = .ok (.aload_n 0, 1) := by decide +kernel
theorem dX2_beginFrom_43 : decode cX2_beginFrom 43 = .ok (.getfield 12, 3) := by decide +kernel
theorem dX2_beginFrom_46 : decode cX2_beginFrom 46 = .ok (.getfield 77, 3) := by decide +kernel
theorem dX2_beginFrom_49 : decode cX2_beginFrom 49 = .ok (.if_icmp .ge 78, 3) := by decide +kernel
theorem dX2_beginFrom_52 : decode cX2_beginFrom 52 = .ok (.iload 4, 2) := by decide +kernel
theorem dX2_beginFrom_54 : decode cX2_beginFrom 54 = .ok (.iload 7, 2) := by decide +kernel
theorem dX2_beginFrom_56 : decode cX2_beginFrom 56 = .ok (.invokestatic 80, 3) := by decide +kernel
theorem dX2_beginFrom_59 : decode cX2_beginFrom 59 = .ok (.ifCond .eq 62, 3) := by decide +kernel
theorem dX2_beginFrom_62 : decode cX2_beginFrom 62 = .ok (.aload_n 0, 1) := by decide +kernel
theorem dX2_beginFrom_63 : decode cX2_beginFrom 63 = .ok (.getfield 12, 3) := by decide +kernel
theorem dX2_beginFrom_66 : decode cX2_beginFrom 66 = .ok (.getfield 167, 3) := by decide +kernel
theorem dX2_beginFrom_69 : decode cX2_beginFrom 69 = .ok (.iload 7, 2) := by decide +kernel
theorem dX2_beginFrom_71 : decode cX2_beginFrom 71 = .ok (.invokestatic 54, 3) := by decide +kernel
theorem dX2_beginFrom_74 : decode cX2_beginFrom 74 = .ok (.aload_n 0, 1) := by decide +kernel
theorem dX2_beginFrom_75 : decode cX2_beginFrom 75 = .ok (.getfield 12, 3) := by decide +kernel
theorem dX2_beginFrom_78 : decode cX2_beginFrom 78 = .ok (.getfield 167, 3) := by decide +kernel
theorem dX2_beginFrom_81 : decode cX2_beginFrom 81 = .ok (.iload_n 2, 1) := by decide +kernel
theorem dX2_beginFrom_82 : decode cX2_beginFrom 82 = .ok (.invokestatic 54, 3) := by decide +kernel
theorem dX2_beginFrom_85 : decode cX2_beginFrom 85 = .ok (.iand, 1) := by decide +kernel
theorem dX2_beginFrom_86 : decode cX2_beginFrom 86 = .ok (.ifCond .eq 35, 3) := by decide +kernel
theorem dX2_beginFrom_89 : decode cX2_beginFrom 89 = .ok (.aload_n 0, 1) := by decide +kernel
theorem dX2_beginFrom_90 : decode cX2_beginFrom 90 = .ok (.getfield 22, 3) := by decide +kernel
theorem dX2_beginFrom_93 : decode cX2_beginFrom 93 = .ok (.iload 7, 2) := by decide +kernel
theorem dX2_beginFrom_95 : decode cX2_beginFrom 95 = .ok (.invokestatic 54, 3) := by decide +kernel
theorem dX2_beginFrom_98 : decode cX2_beginFrom 98 = .ok (.invokestatic 58, 3) := by decide +kernel
theorem dX2_beginFrom_101 : decode cX2_beginFrom 101 = .ok (.iload_n 3, 1) := by decide +kernel
theorem dX2_beginFrom_102 : decode cX2_beginFrom 102 = .ok (.if_icmp .ge 19, 3) := by decide +kernel
theorem dX2_beginFrom_105 : decode cX2_beginFrom 105 = .ok (.iload 6, 2) := by decide +kernel
theorem dX2_beginFrom_107 : decode cX2_beginFrom 107 = .ok (.aload_n 0, 1) := by decide +kernel
theorem dX2_beginFrom_108 : decode cX2_beginFrom 108 = .ok (.iload 7, 2) := by decide +kernel
theorem dX2_beginFrom_110 : decode cX2_beginFrom 110 = .ok (.invokevirtual 124, 3) := by decide +kernel
theorem dX2_beginFrom_113 : decode cX2_beginFrom 113 = .ok (.bipush 11, 2) := by decide +kernel
theorem dX2_beginFrom_115 : decode cX2_beginFrom 115 = .ok (.iadd, 1) := by decide +kernel
theorem dX2_beginFrom_116 : decode cX2_beginFrom 116 = .ok (.invokestatic 133, 3) := by decide +kernel
theorem dX2_beginFrom_119 : decode cX2_beginFrom 119 = .ok (.istore 6, 2) := by decide +kernel
theorem dX2_beginFrom_121 : decode cX2_beginFrom 121 = .ok (.iinc 7 1, 3) := by decide +kernel
theorem dX2_beginFrom_124 : decode cX2_beginFrom 124 = .ok (.goto (-84), 3) := by decide +kernel
theorem dX2_beginFrom_127 : decode cX2_beginFrom 127 = .ok (.iload 6, 2) := by decide +kernel
theorem dX2_beginFrom_129 : decode cX2_beginFrom 129 = .ok (.ireturn, 1) := by decide +kernel
theorem dX2_isFitForChildren_0 : decode cX2_isFitForChildren 0 = .ok (.aload_n 0, 1) := by decide +kernel
theorem dX2_isFitForChildren_1 : decode cX2_isFitForChildren 1 = .ok (.getfield 12, 3) := by decide +kernel
theorem dX2_isFitForChildren_4 : decode cX2_isFitForChildren 4 = .ok (.getfield 136, 3) := by decide +kernel
theorem dX2_isFitForChildren_7 : decode cX2_isFitForChildren 7 = .ok (.aload_n 0, 1) := by decide +kernel
theorem dX2_isFitForChildren_8 : decode cX2_isFitForChildren 8 = .ok (.getfield 12, 3) := by decide +kernel
theorem dX2_isFitForChildren_11 : decode cX2_isFitForChildren 11 = .ok (.getfield 167, 3) := by decide +kernel
theorem dX2_isFitForChildren_14 : decode cX2_isFitForChildren 14 = .ok (.iload_n 1, 1) := by decide +kernel
theorem dX2_isFitForChildren_15 : decode cX2_isFitForChildren 15 = .ok (.invokestatic 54, 3) := by decide +kernel
theorem dX2_isFitForChildren_18 : decode cX2_isFitForChildren 18 = .ok (.iand, 1) := by decide +kernel
theorem dX2_isFitForChildren_19 : decode cX2_isFitForChildren 19 = .ok (.istore 4, 2) := by decide +kernel
theorem dX2_isFitForChildren_21 : decode cX2_isFitForChildren 21 = .ok (.iconst 0, 1) := by decide +kernel
theorem dX2_isFitForChildren_22 : decode cX2_isFitForChildren 22 = .ok (.istore 5, 2) := by decide +kernel
theorem dX2_isFitForChildren_24 : decode cX2_isFitForChildren 24 = .ok (.iload 5, 2) := by decide +kernel
theorem dX2_isFitForChildren_26 : decode cX2_isFitForChildren 26 = .ok (.bipush 6, 2) := by decide +kernel
theorem dX2_isFitForChildren_28 : decode cX2_isFitForChildren 28 = .ok (.if_icmp .ge 50, 3) := by decide +kernel
theorem dX2_isFitForChildren_31 : decode cX2_isFitForChildren 31 = .ok (.iload 4, 2) := by decide +kernel
theorem dX2_isFitForChildren_33 : decode cX2_isFitForChildren 33 = .ok (.iload 5, 2) := by decide +kernel
theorem dX2_isFitForChildren_35 : decode cX2_isFitForChildren 35 = .ok (.invokestatic 80, 3) := by decide +kernel
theorem dX2_isFitForChildren_38 : decode cX2_isFitForChildren 38 = .ok (.ifCond .eq 34, 3) := by decide +kernel
theorem dX2_isFitForChildren_41 : decode cX2_isFitForChildren 41 = .ok (.aload_n 0, 1) := by decide +kernel
theorem dX2_isFitForChildren_42 : decode cX2_isFitForChildren 42 = .ok (.iload 5, 2) := by decide +kernel
theorem dX2_isFitForChildren_44 : decode cX2_isFitForChildren 44 = .ok (.aload_n 0, 1) := by decide +kernel
theorem dX2_isFitForChildren_45 : decode cX2_isFitForChildren 45 = .ok (.iload_n 2, 1) := by decide +kernel
theorem dX2_isFitForChildren_46 : decode cX2_isFitForChildren 46 = .ok (.iload_n 3, 1) := by decide +kernel
theorem dX2_isFitForChildren_47 : decode cX2_isFitForChildren 47 = .ok (.invokevirtual 142, 3) := by decide +kernel
theorem dX2_isFitForChildren_50 : decode cX2_isFitForChildren 50 = .ok (.invokevirtual 139, 3) := by decide +kernel
theorem dX2_isFitForChildren_53 : decode cX2_isFitForChildren 53 = .ok (.aload_n 0, 1) := by decide +kernel
theorem dX2_isFitForChildren_54 : decode cX2_isFitForChildren 54 = .ok (.getfield 12, 3) := by decide +kernel
theorem dX2_isFitForChildren_57 : decode cX2_isFitForChildren 57 = .ok (.getfield 148, 3) := by decide +kernel
theorem dX2_isFitForChildren_60 : decode cX2_isFitForChildren 60 = .ok (.iload_n 1, 1) := by decide +kernel
theorem dX2_isFitForChildren_61 : decode cX2_isFitForChildren 61 = .ok (.invokestatic 54, 3) := by decide +kernel
theorem dX2_isFitForChildren_64 : decode cX2_isFitForChildren 64 = .ok (.iadd, 1) := by decide +kernel
theorem dX2_isFitForChildren_65 : decode cX2_isFitForChildren 65 = .ok (.bipush 6, 2) := by decide +kernel
theorem dX2_isFitForChildren_67 : decode cX2_isFitForChildren 67 = .ok (.if_icmp .le 5, 3) := by decide +kernel
theorem dX2_isFitForChildren_70 : decode cX2_isFitForChildren 70 = .ok (.iconst 0, 1) := by decide +kernel
theorem dX2_isFitForChildren_71 : decode cX2_isFitForChildren 71 = .ok (.ireturn, 1) := by decide +kernel
theorem dX2_isFitForChildren_72 : decode cX2_isFitForChildren 72 = .ok (.iinc 5 1, 3) := by decide +kernel
theorem dX2_isFitForChildren_75 : decode cX2_isFitForChildren 75 = .ok (.goto (-51), 3) := by decide +kernel
theorem dX2_isFitForChildren_78 : decode cX2_isFitForChildren 78 = .ok (.iconst 1, 1) := by decide +kernel
theorem dX2_isFitForChildren_79 : decode cX2_isFitForChildren 79 = .ok (.ireturn, 1) := by decide +kernel
theorem dX2_hoursFor_0 : decode cX2_hoursFor 0 = .ok (.iconst 0, 1) := by decide +kernel
theorem dX2_hoursFor_1 : decode cX2_hoursFor 1 = .ok (.istore_n 3, 1) := by decide +kernel
theorem dX2_hoursFor_2 : decode cX2_hoursFor 2 = .ok (.iconst 0, 1) := by decide +kernel
theorem dX2_hoursFor_3 : decode cX2_hoursFor 3 = .ok (.istore 4, 2) := by decide +kernel
theorem dX2_hoursFor_5 : decode cX2_hoursFor 5 = .ok (.iload 4, 2) := by decide +kernel
theorem dX2_hoursFor_7 : decode cX2_hoursFor 7 = .ok (.aload_n 0, 1) := by decide +kernel
theorem dX2_hoursFor_8 : decode cX2_hoursFor 8 = .ok (.getfield 12, 3) := by decide +kernel
theorem dX2_hoursFor_11 : decode cX2_hoursFor 11 = .ok (.getfield 77, 3) := by decide +kernel
theorem dX2_hoursFor_14 : decode cX2_hoursFor 14 = .ok (.if_icmp .ge 52, 3) := by decide +kernel
theorem dX2_hoursFor_17 : decode cX2_hoursFor 17 = .ok (.iload_n 2, 1) := by decide +kernel
theorem dX2_hoursFor_18 : decode cX2_hoursFor 18 = .ok (.iload 4, 2) := by decide +kernel
theorem dX2_hoursFor_20 : decode cX2_hoursFor 20 = .ok (.invokestatic 80, 3) := by decide +kernel
theorem dX2_hoursFor_23 : decode cX2_hoursFor 23 = .ok (.ifCond .eq 37, 3) := by decide +kernel
theorem dX2_hoursFor_26 : decode cX2_hoursFor 26 = .ok (.aload_n 0, 1) := by decide +kernel
theorem dX2_hoursFor_27 : decode cX2_hoursFor 27 = .ok (.getfield 12, 3) := by decide +kernel
theorem dX2_hoursFor_30 : decode cX2_hoursFor 30 = .ok (.getfield 167, 3) := by decide +kernel
theorem dX2_hoursFor_33 : decode cX2_hoursFor 33 = .ok (.iload 4, 2) := by decide +kernel
theorem dX2_hoursFor_35 : decode cX2_hoursFor 35 = .ok (.invokestatic 54, 3) := by decide +kernel
theorem dX2_hoursFor_38 : decode cX2_hoursFor 38 = .ok (.iload_n 1, 1) := by decide +kernel
theorem dX2_hoursFor_39 : decode cX2_hoursFor 39 = .ok (.invokestatic 80, 3) := by decide +kernel
theorem dX2_hoursFor_42 : decode cX2_hoursFor 42 = .ok (.ifCond .eq 18, 3) := by decide +kernel
theorem dX2_hoursFor_45 : decode cX2_hoursFor 45 = .ok (.iload_n 3, 1) := by decide +kernel
theorem dX2_hoursFor_46 : decode cX2_hoursFor 46 = .ok (.aload_n 0, 1) := by decide +kernel
theorem dX2_hoursFor_47 : decode cX2_hoursFor 47 = .ok (.getfield 12, 3) := by decide +kernel
theorem dX2_hoursFor_50 : decode cX2_hoursFor 50 = .ok (.getfield 148, 3) := by decide +kernel
theorem dX2_hoursFor_53 : decode cX2_hoursFor 53 = .ok (.iload 4, 2) := by decide +kernel
theorem dX2_hoursFor_55 : decode cX2_hoursFor 55 = .ok (.invokestatic 54, 3) := by decide +kernel
theorem dX2_hoursFor_58 : decode cX2_hoursFor 58 = .ok (.iadd, 1) := by decide +kernel
theorem dX2_hoursFor_59 : decode cX2_hoursFor 59 = .ok (.istore_n 3, 1) := by decide +kernel
theorem dX2_hoursFor_60 : decode cX2_hoursFor 60 = .ok (.iinc 4 1, 3) := by decide +kernel
theorem dX2_hoursFor_63 : decode cX2_hoursFor 63 = .ok (.goto (-58), 3) := by decide +kernel
theorem dX2_hoursFor_66 : decode cX2_hoursFor 66 = .ok (.iload_n 3, 1) := by decide +kernel
theorem dX2_hoursFor_67 : decode cX2_hoursFor 67 = .ok (.ireturn, 1) := by decide +kernel
theorem dX2_placedOn_0 : decode cX2_placedOn 0 = .ok (.iconst 0, 1) := by decide +kernel
theorem dX2_placedOn_1 : decode cX2_placedOn 1 = .ok (.istore_n 3, 1) := by decide +kernel
theorem dX2_placedOn_2 : decode cX2_placedOn 2 = .ok (.iconst 0, 1) := by decide +kernel
theorem dX2_placedOn_3 : decode cX2_placedOn 3 = .ok (.istore 4, 2) := by decide +kernel
theorem dX2_placedOn_5 : decode cX2_placedOn 5 = .ok (.iload 4, 2) := by decide +kernel
theorem dX2_placedOn_7 : decode cX2_placedOn 7 = .ok (.aload_n 0, 1) := by decide +kernel
theorem dX2_placedOn_8 : decode cX2_placedOn 8 = .ok (.getfield 12, 3) := by decide +kernel
theorem dX2_placedOn_11 : decode cX2_placedOn 11 = .ok (.getfield 77, 3) := by decide +kernel
theorem dX2_placedOn_14 : decode cX2_placedOn 14 = .ok (.if_icmp .ge 42, 3) := by decide +kernel
theorem dX2_placedOn_17 : decode cX2_placedOn 17 = .ok (.iload_n 2, 1) := by decide +kernel
theorem dX2_placedOn_18 : decode cX2_placedOn 18 = .ok (.iload 4, 2) := by decide +kernel
theorem dX2_placedOn_20 : decode cX2_placedOn 20 = .ok (.invokestatic 80, 3) := by decide +kernel
theorem dX2_placedOn_23 : decode cX2_placedOn 23 = .ok (.ifCond .eq 27, 3) := by decide +kernel
theorem dX2_placedOn_26 : decode cX2_placedOn 26 = .ok (.aload_n 0, 1) := by decide +kernel
theorem dX2_placedOn_27 : decode cX2_placedOn 27 = .ok (.getfield 22, 3) := by decide +kernel
theorem dX2_placedOn_30 : decode cX2_placedOn 30 = .ok (.iload 4, 2) := by decide +kernel
theorem dX2_placedOn_32 : decode cX2_placedOn 32 = .ok (.invokestatic 54, 3) := by decide +kernel
theorem dX2_placedOn_35 : decode cX2_placedOn 35 = .ok (.invokestatic 58, 3) := by decide +kernel
theorem dX2_placedOn_38 : decode cX2_placedOn 38 = .ok (.iload_n 1, 1) := by decide +kernel
theorem dX2_placedOn_39 : decode cX2_placedOn 39 = .ok (.if_icmp .ne 11, 3) := by decide +kernel
theorem dX2_placedOn_42 : decode cX2_placedOn 42 = .ok (.iload_n 3, 1) := by decide +kernel
theorem dX2_placedOn_43 : decode cX2_placedOn 43 = .ok (.iload 4, 2) := by decide +kernel
theorem dX2_placedOn_45 : decode cX2_placedOn 45 = .ok (.iconst 1, 1) := by decide +kernel
theorem dX2_placedOn_46 : decode cX2_placedOn 46 = .ok (.invokestatic 73, 3) := by decide +kernel
theorem dX2_placedOn_49 : decode cX2_placedOn 49 = .ok (.istore_n 3, 1) := by decide +kernel
theorem dX2_placedOn_50 : decode cX2_placedOn 50 = .ok (.iinc 4 1, 3) := by decide +kernel
theorem dX2_placedOn_53 : decode cX2_placedOn 53 = .ok (.goto (-48), 3) := by decide +kernel
theorem dX2_placedOn_56 : decode cX2_placedOn 56 = .ok (.iload_n 3, 1) := by decide +kernel
theorem dX2_placedOn_57 : decode cX2_placedOn 57 = .ok (.ireturn, 1) := by decide +kernel
theorem dX2_endOf_0 : decode cX2_endOf 0 = .ok (.aload_n 0, 1) := by decide +kernel
theorem dX2_endOf_1 : decode cX2_endOf 1 = .ok (.getfield 22, 3) := by decide +kernel
theorem dX2_endOf_4 : decode cX2_endOf 4 = .ok (.iload_n 1, 1) := by decide +kernel
theorem dX2_endOf_5 : decode cX2_endOf 5 = .ok (.invokestatic 54, 3) := by decide +kernel
theorem dX2_endOf_8 : decode cX2_endOf 8 = .ok (.aload_n 0, 1) := by decide +kernel
theorem dX2_endOf_9 : decode cX2_endOf 9 = .ok (.getfield 12, 3) := by decide +kernel
theorem dX2_endOf_12 : decode cX2_endOf 12 = .ok (.getfield 148, 3) := by decide +kernel
theorem dX2_endOf_15 : decode cX2_endOf 15 = .ok (.iload_n 1, 1) := by decide +kernel
theorem dX2_endOf_16 : decode cX2_endOf 16 = .ok (.invokestatic 54, 3) := by decide +kernel
theorem dX2_endOf_19 : decode cX2_endOf 19 = .ok (.iadd, 1) := by decide +kernel
theorem dX2_endOf_20 : decode cX2_endOf 20 = .ok (.ireturn, 1) := by decide +kernel
theorem dX2_dayOf_0 : decode cX2_dayOf 0 = .ok (.iload_n 0, 1) := by decide +kernel
theorem dX2_dayOf_1 : decode cX2_dayOf 1 = .ok (.bipush 24, 2) := by decide +kernel
theorem dX2_dayOf_3 : decode cX2_dayOf 3 = .ok (.idiv, 1) := by decide +kernel
theorem dX2_dayOf_4 : decode cX2_dayOf 4 = .ok (.ireturn, 1) := by decide +kernel
theorem dX2_startOf_0 : decode cX2_startOf 0 = .ok (.bipush 24, 2) := by decide +kernel
theorem dX2_startOf_2 : decode cX2_startOf 2 = .ok (.iload_n 0, 1) := by decide +kernel
theorem dX2_startOf_3 : decode cX2_startOf 3 = .ok (.imul, 1) := by decide +kernel
theorem dX2_startOf_4 : decode cX2_startOf 4 = .ok (.bipush 8, 2) := by decide +kernel
theorem dX2_startOf_6 : decode cX2_startOf 6 = .ok (.iadd, 1) := by decide +kernel
theorem dX2_startOf_7 : decode cX2_startOf 7 = .ok (.ireturn, 1) := by decide +kernel
theorem dX3_init_0 : decode cX3_init 0 = .ok (.aload_n 0, 1) := by decide +kernel
theorem dX3_init_1 : decode cX3_init 1 = .ok (.invokespecial 3, 3) := by decide +kernel
theorem dX3_init_4 : decode cX3_init 4 = .ok (.aload_n 0, 1) := by decide +kernel
theorem dX3_init_5 : decode cX3_init 5 = .ok (.bipush 8, 2) := by decide +kernel
theorem dX3_init_7 : decode cX3_init 7 = .ok (.newarray .int, 2) := by decide +kernel
theorem dX3_init_9 : decode cX3_init 9 = .ok (.putfield 9, 3) := by decide +kernel
theorem dX3_init_12 : decode cX3_init 12 = .ok (.aload_n 0, 1) := by decide +kernel
theorem dX3_init_13 : decode cX3_init 13 = .ok (.bipush 8, 2) := by decide +kernel
theorem dX3_init_15 : decode cX3_init 15 = .ok (.newarray .int, 2) := by decide +kernel
theorem dX3_init_17 : decode cX3_init 17 = .ok (.putfield 15, 3) := by decide +kernel
theorem dX3_init_20 : decode cX3_init 20 = .ok (.aload_n 0, 1) := by decide +kernel
theorem dX3_init_21 : decode cX3_init 21 = .ok (.bipush 8, 2) := by decide +kernel
theorem dX3_init_23 : decode cX3_init 23 = .ok (.newarray .int, 2) := by decide +kernel
theorem dX3_init_25 : decode cX3_init 25 = .ok (.putfield 18, 3) := by decide +kernel
theorem dX3_init_28 : decode cX3_init 28 = .ok (.aload_n 0, 1) := by decide +kernel
theorem dX3_init_29 : decode cX3_init 29 = .ok (.bipush 8, 2) := by decide +kernel
theorem dX3_init_31 : decode cX3_init 31 = .ok (.newarray .int, 2) := by decide +kernel
theorem dX3_init_33 : decode cX3_init 33 = .ok (.putfield 21, 3) := by decide +kernel
theorem dX3_init_36 : decode cX3_init 36 = .ok (.aload_n 0, 1) := by decide +kernel
theorem dX3_init_37 : decode cX3_init 37 = .ok (.bipush 8, 2) := by decide +kernel
theorem dX3_init_39 : decode cX3_init 39 = .ok (.newarray .int, 2) := by decide +kernel
theorem dX3_init_41 : decode cX3_init 41 = .ok (.putfield 24, 3) := by decide +kernel
theorem dX3_init_44 : decode cX3_init 44 = .ok (.return_, 1) := by decide +kernel
theorem dX3_append_0 : decode cX3_append 0 = .ok (.aload_n 0, 1) := by decide +kernel
theorem dX3_append_1 : decode cX3_append 1 = .ok (.getfield 9, 3) := by decide +kernel
theorem dX3_append_4 : decode cX3_append 4 = .ok (.aload_n 0, 1) := by decide +kernel
theorem dX3_append_5 : decode cX3_append 5 = .ok (.getfield 27, 3) := by decide +kernel
theorem dX3_append_8 : decode cX3_append 8 = .ok (.iload_n 1, 1) := by decide +kernel
theorem dX3_append_9 : decode cX3_append 9 = .ok (.invokestatic 31, 3) := by decide +kernel
theorem dX3_append_12 : decode cX3_append 12 = .ok (.aload_n 0, 1) := by decide +kernel
theorem dX3_append_13 : decode cX3_append 13 = .ok (.getfield 15, 3) := by decide +kernel
theorem dX3_append_16 : decode cX3_append 16 = .ok (.aload_n 0, 1) := by decide +kernel
theorem dX3_append_17 : decode cX3_append 17 = .ok (.getfield 27, 3) := by decide +kernel
theorem dX3_append_20 : decode cX3_append 20 = .ok (.iload_n 2, 1) := by decide +kernel
theorem dX3_append_21 : decode cX3_append 21 = .ok (.invokestatic 31, 3) := by decide +kernel
theorem dX3_append_24 : decode cX3_append 24 = .ok (.aload_n 0, 1) := by decide +kernel
theorem dX3_append_25 : decode cX3_append 25 = .ok (.getfield 18, 3) := by decide +kernel
theorem dX3_append_28 : decode cX3_append 28 = .ok (.aload_n 0, 1) := by decide +kernel
theorem dX3_append_29 : decode cX3_append 29 = .ok (.getfield 27, 3) := by decide +kernel
theorem dX3_append_32 : decode cX3_append 32 = .ok (.iload_n 3, 1) := by decide +kernel
theorem dX3_append_33 : decode cX3_append 33 = .ok (.invokestatic 31, 3) := by decide +kernel
theorem dX3_append_36 : decode cX3_append 36 = .ok (.aload_n 0, 1) := by decide +kernel
theorem dX3_append_37 : decode cX3_append 37 = .ok (.getfield 21, 3) := by decide +kernel
theorem dX3_append_40 : decode cX3_append 40 = .ok (.aload_n 0, 1) := by decide +kernel
theorem dX3_append_41 : decode cX3_append 41 = .ok (.getfield 27, 3) := by decide +kernel
theorem dX3_append_44 : decode cX3_append 44 = .ok (.iload 4, 2) := by decide +kernel
theorem dX3_append_46 : decode cX3_append 46 = .ok (.invokestatic 31, 3) := by decide +kernel
theorem dX3_append_49 : decode cX3_append 49 = .ok (.aload_n 0, 1) := by decide +kernel
theorem dX3_append_50 : decode cX3_append 50 = .ok (.getfield 24, 3) := by decide +kernel
theorem dX3_append_53 : decode cX3_append 53 = .ok (.aload_n 0, 1) := by decide +kernel
theorem dX3_append_54 : decode cX3_append 54 = .ok (.getfield 27, 3) := by decide +kernel
theorem dX3_append_57 : decode cX3_append 57 = .ok (.iload 5, 2) := by decide +kernel
theorem dX3_append_59 : decode cX3_append 59 = .ok (.invokestatic 31, 3) := by decide +kernel
theorem dX3_append_62 : decode cX3_append 62 = .ok (.aload_n 0, 1) := by decide +kernel
theorem dX3_append_63 : decode cX3_append 63 = .ok (.dup, 1) := by decide +kernel
theorem dX3_append_64 : decode cX3_append 64 = .ok (.getfield 27, 3) := by decide +kernel
theorem dX3_append_67 : decode cX3_append 67 = .ok (.iconst 1, 1) := by decide +kernel
theorem dX3_append_68 : decode cX3_append 68 = .ok (.iadd, 1) := by decide +kernel
theorem dX3_append_69 : decode cX3_append 69 = .ok (.putfield 27, 3) := by decide +kernel
theorem dX3_append_72 : decode cX3_append 72 = .ok (.aload_n 0, 1) := by decide +kernel
theorem dX3_append_73 : decode cX3_append 73 = .ok (.getfield 27, 3) := by decide +kernel
theorem dX3_append_76 : decode cX3_append 76 = .ok (.iconst 1, 1) := by decide +kernel
theorem dX3_append_77 : decode cX3_append 77 = .ok (.isub, 1) := by decide +kernel
theorem dX3_append_78 : decode cX3_append 78 = .ok (.ireturn, 1) := by decide +kernel
theorem dX3_everyScene_0 : decode cX3_everyScene 0 = .ok (.iconst 1, 1) := by decide +kernel
theorem dX3_everyScene_1 : decode cX3_everyScene 1 = .ok (.aload_n 0, 1) := by decide +kernel
theorem dX3_everyScene_2 : decode cX3_everyScene 2 = .ok (.getfield 27, 3) := by decide +kernel
theorem dX3_everyScene_5 : decode cX3_everyScene 5 = .ok (.ishl, 1) := by decide +kernel
theorem dX3_everyScene_6 : decode cX3_everyScene 6 = .ok (.iconst 1, 1) := by decide +kernel
theorem dX3_everyScene_7 : decode cX3_everyScene 7 = .ok (.isub, 1) := by decide +kernel
theorem dX3_everyScene_8 : decode cX3_everyScene 8 = .ok (.ireturn, 1) := by decide +kernel
theorem dX3_countOpen_0 : decode cX3_countOpen 0 = .ok (.aload_n 0, 1) := by decide +kernel
theorem dX3_countOpen_1 : decode cX3_countOpen 1 = .ok (.getfield 27, 3) := by decide +kernel
theorem dX3_countOpen_4 : decode cX3_countOpen 4 = .ok (.aload_n 0, 1) := by decide +kernel
theorem dX3_countOpen_5 : decode cX3_countOpen 5 = .ok (.getfield 35, 3) := by decide +kernel
theorem dX3_countOpen_8 : decode cX3_countOpen 8 = .ok (.invokestatic 38, 3) := by decide +kernel
theorem dX3_countOpen_11 : decode cX3_countOpen 11 = .ok (.isub, 1) := by decide +kernel
theorem dX3_countOpen_12 : decode cX3_countOpen 12 = .ok (.ireturn, 1) := by decide +kernel
theorem dX3_hoursOf_0 : decode cX3_hoursOf 0 = .ok (.iconst 0, 1) := by decide +kernel
theorem dX3_hoursOf_1 : decode cX3_hoursOf 1 = .ok (.istore_n 2, 1) := by decide +kernel
theorem dX3_hoursOf_2 : decode cX3_hoursOf 2 = .ok (.iconst 0, 1) := by decide +kernel
theorem dX3_hoursOf_3 : decode cX3_hoursOf 3 = .ok (.istore_n 3, 1) := by decide +kernel
theorem dX3_hoursOf_4 : decode cX3_hoursOf 4 = .ok (.iload_n 3, 1) := by decide +kernel
theorem dX3_hoursOf_5 : decode cX3_hoursOf 5 = .ok (.aload_n 0, 1) := by decide +kernel
theorem dX3_hoursOf_6 : decode cX3_hoursOf 6 = .ok (.getfield 27, 3) := by decide +kernel
theorem dX3_hoursOf_9 : decode cX3_hoursOf 9 = .ok (.if_icmp .ge 28, 3) := by decide +kernel
theorem dX3_hoursOf_12 : decode cX3_hoursOf 12 = .ok (.iload_n 1, 1) := by decide +kernel
theorem dX3_hoursOf_13 : decode cX3_hoursOf 13 = .ok (.iload_n 3, 1) := by decide +kernel
theorem dX3_hoursOf_14 : decode cX3_hoursOf 14 = .ok (.invokestatic 44, 3) := by decide +kernel
theorem dX3_hoursOf_17 : decode cX3_hoursOf 17 = .ok (.ifCond .eq 14, 3) := by decide +kernel
theorem dX3_hoursOf_20 : decode cX3_hoursOf 20 = .ok (.iload_n 2, 1) := by decide +kernel
theorem dX3_hoursOf_21 : decode cX3_hoursOf 21 = .ok (.aload_n 0, 1) := by decide +kernel
theorem dX3_hoursOf_22 : decode cX3_hoursOf 22 = .ok (.getfield 9, 3) := by decide +kernel
theorem dX3_hoursOf_25 : decode cX3_hoursOf 25 = .ok (.iload_n 3, 1) := by decide +kernel
theorem dX3_hoursOf_26 : decode cX3_hoursOf 26 = .ok (.invokestatic 48, 3) := by decide +kernel
theorem dX3_hoursOf_29 : decode cX3_hoursOf 29 = .ok (.iadd, 1) := by decide +kernel
theorem dX3_hoursOf_30 : decode cX3_hoursOf 30 = .ok (.istore_n 2, 1) := by decide +kernel
theorem dX3_hoursOf_31 : decode cX3_hoursOf 31 = .ok (.iinc 3 1, 3) := by decide +kernel
theorem dX3_hoursOf_34 : decode cX3_hoursOf 34 = .ok (.goto (-30), 3) := by decide +kernel
theorem dX3_hoursOf_37 : decode cX3_hoursOf 37 = .ok (.iload_n 2, 1) := by decide +kernel
theorem dX3_hoursOf_38 : decode cX3_hoursOf 38 = .ok (.ireturn, 1) := by decide +kernel
theorem dX3_isFree_0 : decode cX3_isFree 0 = .ok (.aload_n 0, 1) := by decide +kernel
theorem dX3_isFree_1 : decode cX3_isFree 1 = .ok (.getfield 24, 3) := by decide +kernel
theorem dX3_isFree_4 : decode cX3_isFree 4 = .ok (.iload_n 1, 1) := by decide +kernel
theorem dX3_isFree_5 : decode cX3_isFree 5 = .ok (.invokestatic 48, 3) := by decide +kernel
theorem dX3_isFree_8 : decode cX3_isFree 8 = .ok (.iload_n 2, 1) := by decide +kernel
theorem dX3_isFree_9 : decode cX3_isFree 9 = .ok (.iconst (-1), 1) := by decide +kernel
theorem dX3_isFree_10 : decode cX3_isFree 10 = .ok (.ixor, 1) := by decide +kernel
theorem dX3_isFree_11 : decode cX3_isFree 11 = .ok (.iand, 1) := by decide +kernel
theorem dX3_isFree_12 : decode cX3_isFree 12 = .ok (.ifCond .ne 7, 3) := by decide +kernel
theorem dX3_isFree_15 : decode cX3_isFree 15 = .ok (.iconst 1, 1) := by decide +kernel
theorem dX3_isFree_16 : decode cX3_isFree 16 = .ok (.goto 4, 3) := by decide +kernel
theorem dX3_isFree_19 : decode cX3_isFree 19 = .ok (.iconst 0, 1) := by decide +kernel
theorem dX3_isFree_20 : decode cX3_isFree 20 = .ok (.ireturn, 1) := by decide +kernel
theorem dX3_canFollow_0 : decode cX3_canFollow 0 = .ok (.iload_n 2, 1) := by decide +kernel
theorem dX3_canFollow_1 : decode cX3_canFollow 1 = .ok (.iload_n 1, 1) := by decide +kernel
theorem dX3_canFollow_2 : decode cX3_canFollow 2 = .ok (.invokestatic 44, 3) := by decide +kernel
theorem dX3_canFollow_5 : decode cX3_canFollow 5 = .ok (.ifCond .ne 16, 3) := by decide +kernel
theorem dX3_canFollow_8 : decode cX3_canFollow 8 = .ok (.aload_n 0, 1) := by decide +kernel
theorem dX3_canFollow_9 : decode cX3_canFollow 9 = .ok (.iload_n 1, 1) := by decide +kernel
theorem dX3_canFollow_10 : decode cX3_canFollow 10 = .ok (.iload_n 2, 1) := by decide +kernel
theorem dX3_canFollow_11 : decode cX3_canFollow 11 = .ok (.invokevirtual 52, 3) := by decide +kernel
theorem dX3_canFollow_14 : decode cX3_canFollow 14 = .ok (.ifCond .eq 7, 3) := by decide +kernel
theorem dX3_canFollow_17 : decode cX3_canFollow 17 = .ok (.iconst 1, 1) := by decide +kernel
theorem dX3_canFollow_18 : decode cX3_canFollow 18 = .ok (.goto 4, 3) := by decide +kernel
theorem dX3_canFollow_21 : decode cX3_canFollow 21 = .ok (.iconst 0, 1) := by decide +kernel
theorem dX3_canFollow_22 : decode cX3_canFollow 22 = .ok (.ireturn, 1) := by decide +kernel
theorem dX3_isOutdoors_0 : decode cX3_isOutdoors 0 = .ok (.aload_n 0, 1) := by decide +kernel
theorem dX3_isOutdoors_1 : decode cX3_isOutdoors 1 = .ok (.getfield 55, 3) := by decide +kernel
theorem dX3_isOutdoors_4 : decode cX3_isOutdoors 4 = .ok (.aload_n 0, 1) := by decide +kernel
theorem dX3_isOutdoors_5 : decode cX3_isOutdoors 5 = .ok (.getfield 15, 3) := by decide +kernel
theorem dX3_isOutdoors_8 : decode cX3_isOutdoors 8 = .ok (.iload_n 1, 1) := by decide +kernel
theorem dX3_isOutdoors_9 : decode cX3_isOutdoors 9 = .ok (.invokestatic 48, 3) := by decide +kernel
theorem dX3_isOutdoors_12 : decode cX3_isOutdoors 12 = .ok (.invokestatic 44, 3) := by decide +kernel
theorem dX3_isOutdoors_15 : decode cX3_isOutdoors 15 = .ok (.ireturn, 1) := by decide +kernel
theorem dX4_init_0 : decode cX4_init 0 = .ok (.aload_n 0, 1) := by decide +kernel
theorem dX4_init_1 : decode cX4_init 1 = .ok (.invokespecial 1, 3) := by decide +kernel
theorem dX4_init_4 : decode cX4_init 4 = .ok (.aload_n 0, 1) := by decide +kernel
theorem dX4_init_5 : decode cX4_init 5 = .ok (.new 7, 3) := by decide +kernel
theorem dX4_init_8 : decode cX4_init 8 = .ok (.dup, 1) := by decide +kernel
theorem dX4_init_9 : decode cX4_init 9 = .ok (.invokespecial 9, 3) := by decide +kernel
theorem dX4_init_12 : decode cX4_init 12 = .ok (.putfield 10, 3) := by decide +kernel
theorem dX4_init_15 : decode cX4_init 15 = .ok (.aload_n 0, 1) := by decide +kernel
theorem dX4_init_16 : decode cX4_init 16 = .ok (.aload_n 0, 1) := by decide +kernel
theorem dX4_init_17 : decode cX4_init 17 = .ok (.getfield 10, 3) := by decide +kernel
theorem dX4_init_20 : decode cX4_init 20 = .ok (.getfield 16, 3) := by decide +kernel
theorem dX4_init_23 : decode cX4_init 23 = .ok (.putfield 20, 3) := by decide +kernel
theorem dX4_init_26 : decode cX4_init 26 = .ok (.aload_n 0, 1) := by decide +kernel
theorem dX4_init_27 : decode cX4_init 27 = .ok (.new 21, 3) := by decide +kernel
theorem dX4_init_30 : decode cX4_init 30 = .ok (.dup, 1) := by decide +kernel
theorem dX4_init_31 : decode cX4_init 31 = .ok (.invokespecial 23, 3) := by decide +kernel
theorem dX4_init_34 : decode cX4_init 34 = .ok (.putfield 24, 3) := by decide +kernel
theorem dX4_init_37 : decode cX4_init 37 = .ok (.aload_n 0, 1) := by decide +kernel
theorem dX4_init_38 : decode cX4_init 38 = .ok (.new 28, 3) := by decide +kernel
theorem dX4_init_41 : decode cX4_init 41 = .ok (.dup, 1) := by decide +kernel
theorem dX4_init_42 : decode cX4_init 42 = .ok (.invokespecial 30, 3) := by decide +kernel
theorem dX4_init_45 : decode cX4_init 45 = .ok (.putfield 31, 3) := by decide +kernel
theorem dX4_init_48 : decode cX4_init 48 = .ok (.aload_n 0, 1) := by decide +kernel
theorem dX4_init_49 : decode cX4_init 49 = .ok (.bipush 100, 2) := by decide +kernel
theorem dX4_init_51 : decode cX4_init 51 = .ok (.putfield 35, 3) := by decide +kernel
theorem dX4_init_54 : decode cX4_init 54 = .ok (.aload_n 0, 1) := by decide +kernel
theorem dX4_init_55 : decode cX4_init 55 = .ok (.bipush 50, 2) := by decide +kernel
theorem dX4_init_57 : decode cX4_init 57 = .ok (.putfield 39, 3) := by decide +kernel
theorem dX4_init_60 : decode cX4_init 60 = .ok (.return_, 1) := by decide +kernel
theorem dX4_addScene_0 : decode cX4_addScene 0 = .ok (.iload_n 1, 1) := by decide +kernel
theorem dX4_addScene_1 : decode cX4_addScene 1 = .ok (.iconst 1, 1) := by decide +kernel
theorem dX4_addScene_2 : decode cX4_addScene 2 = .ok (.bipush 6, 2) := by decide +kernel
theorem dX4_addScene_4 : decode cX4_addScene 4 = .ok (.invokestatic 42, 3) := by decide +kernel
theorem dX4_addScene_7 : decode cX4_addScene 7 = .ok (.ifCond .eq 47, 3) := by decide +kernel
theorem dX4_addScene_10 : decode cX4_addScene 10 = .ok (.iload_n 2, 1) := by decide +kernel
theorem dX4_addScene_11 : decode cX4_addScene 11 = .ok (.iconst 0, 1) := by decide +kernel
theorem dX4_addScene_12 : decode cX4_addScene 12 = .ok (.iconst 3, 1) := by decide +kernel
theorem dX4_addScene_13 : decode cX4_addScene 13 = .ok (.invokestatic 42, 3) := by decide +kernel
theorem dX4_addScene_16 : decode cX4_addScene 16 = .ok (.ifCond .eq 38, 3) := by decide +kernel
theorem dX4_addScene_19 : decode cX4_addScene 19 = .ok (.iload_n 3, 1) := by decide +kernel
theorem dX4_addScene_20 : decode cX4_addScene 20 = .ok (.iconst 0, 1) := by decide +kernel
theorem dX4_addScene_21 : decode cX4_addScene 21 = .ok (.bipush 63, 2) := by decide +kernel
theorem dX4_addScene_23 : decode cX4_addScene 23 = .ok (.invokestatic 42, 3) := by decide +kernel
theorem dX4_addScene_26 : decode cX4_addScene 26 = .ok (.ifCond .eq 28, 3) := by decide +kernel
theorem dX4_addScene_29 : decode cX4_addScene 29 = .ok (.iload 4, 2) := by decide +kernel
theorem dX4_addScene_31 : decode cX4_addScene 31 = .ok (.iconst 0, 1) := by decide +kernel
theorem dX4_addScene_32 : decode cX4_addScene 32 = .ok (.iconst 2, 1) := by decide +kernel
theorem dX4_addScene_33 : decode cX4_addScene 33 = .ok (.invokestatic 42, 3) := by decide +kernel
theorem dX4_addScene_36 : decode cX4_addScene 36 = .ok (.ifCond .eq 18, 3) := by decide +kernel
theorem dX4_addScene_39 : decode cX4_addScene 39 = .ok (.iload 5, 2) := by decide +kernel
theorem dX4_addScene_41 : decode cX4_addScene 41 = .ok (.aload_n 0, 1) := by decide +kernel
theorem dX4_addScene_42 : decode cX4_addScene 42 = .ok (.getfield 20, 3) := by decide +kernel
theorem dX4_addScene_45 : decode cX4_addScene 45 = .ok (.invokevirtual 46, 3) := by decide +kernel
theorem dX4_addScene_48 : decode cX4_addScene 48 = .ok (.iconst (-1), 1) := by decide +kernel
theorem dX4_addScene_49 : decode cX4_addScene 49 = .ok (.ixor, 1) := by decide +kernel
theorem dX4_addScene_50 : decode cX4_addScene 50 = .ok (.iand, 1) := by decide +kernel
theorem dX4_addScene_51 : decode cX4_addScene 51 = .ok (.ifCond .eq 11, 3) := by decide +kernel
theorem dX4_addScene_54 : decode cX4_addScene 54 = .ok (.new 52, 3) := by decide +kernel
theorem dX4_addScene_57 : decode cX4_addScene 57 = .ok (.dup, 1) := by decide +kernel
theorem dX4_addScene_58 : decode cX4_addScene 58 = .ok (.invokespecial 54, 3) := by decide +kernel
theorem dX4_addScene_61 : decode cX4_addScene 61 = .ok (.athrow, 1) := by decide +kernel
theorem dX4_addScene_62 : decode cX4_addScene 62 = .ok (.aload_n 0, 1) := by decide +kernel
theorem dX4_addScene_63 : decode cX4_addScene 63 = .ok (.getfield 20, 3) := by decide +kernel
theorem dX4_addScene_66 : decode cX4_addScene 66 = .ok (.getfield 55, 3) := by decide +kernel
theorem dX4_addScene_69 : decode cX4_addScene 69 = .ok (.bipush 8, 2) := by decide +kernel
theorem dX4_addScene_71 : decode cX4_addScene 71 = .ok (.if_icmp .lt 11, 3) := by decide +kernel
theorem dX4_addScene_74 : decode cX4_addScene 74 = .ok (.new 58, 3) := by decide +kernel
theorem dX4_addScene_77 : decode cX4_addScene 77 = .ok (.dup, 1) := by decide +kernel
theorem dX4_addScene_78 : decode cX4_addScene 78 = .ok (.invokespecial 60, 3) := by decide +kernel
theorem dX4_addScene_81 : decode cX4_addScene 81 = .ok (.athrow, 1) := by decide +kernel
theorem dX4_addScene_82 : decode cX4_addScene 82 = .ok (.aload_n 0, 1) := by decide +kernel
theorem dX4_addScene_83 : decode cX4_addScene 83 = .ok (.getfield 10, 3) := by decide +kernel
theorem dX4_addScene_86 : decode cX4_addScene 86 = .ok (.invokevirtual 61, 3) := by decide +kernel
theorem dX4_addScene_89 : decode cX4_addScene 89 = .ok (.aload_n 0, 1) := by decide +kernel
theorem dX4_addScene_90 : decode cX4_addScene 90 = .ok (.getfield 20, 3) := by decide +kernel
theorem dX4_addScene_93 : decode cX4_addScene 93 = .ok (.iload_n 1, 1) := by decide +kernel
theorem dX4_addScene_94 : decode cX4_addScene 94 = .ok (.iload_n 2, 1) := by decide +kernel
theorem dX4_addScene_95 : decode cX4_addScene 95 = .ok (.iload_n 3, 1) := by decide +kernel
theorem dX4_addScene_96 : decode cX4_addScene 96 = .ok (.iload 4, 2) := by decide +kernel
theorem dX4_addScene_98 : decode cX4_addScene 98 = .ok (.iload 5, 2) := by decide +kernel
theorem dX4_addScene_100 : decode cX4_addScene 100 = .ok (.invokevirtual 64, 3) := by decide +kernel
theorem dX4_addScene_103 : decode cX4_addScene 103 = .ok (.ireturn, 1) := by decide +kernel
theorem dX4_setOut_0 : decode cX4_setOut 0 = .ok (.iload_n 1, 1) := by decide +kernel
theorem dX4_setOut_1 : decode cX4_setOut 1 = .ok (.iconst 0, 1) := by decide +kernel
theorem dX4_setOut_2 : decode cX4_setOut 2 = .ok (.iconst 3, 1) := by decide +kernel
theorem dX4_setOut_3 : decode cX4_setOut 3 = .ok (.invokestatic 42, 3) := by decide +kernel
theorem dX4_setOut_6 : decode cX4_setOut 6 = .ok (.ifCond .ne 11, 3) := by decide +kernel
theorem dX4_setOut_9 : decode cX4_setOut 9 = .ok (.new 68, 3) := by decide +kernel
theorem dX4_setOut_12 : decode cX4_setOut 12 = .ok (.dup, 1) := by decide +kernel
theorem dX4_setOut_13 : decode cX4_setOut 13 = .ok (.invokespecial 70, 3) := by decide +kernel
theorem dX4_setOut_16 : decode cX4_setOut 16 = .ok (.athrow, 1) := by decide +kernel
theorem dX4_setOut_17 : decode cX4_setOut 17 = .ok (.aload_n 0, 1) := by decide +kernel
theorem dX4_setOut_18 : decode cX4_setOut 18 = .ok (.getfield 20, 3) := by decide +kernel
theorem dX4_setOut_21 : decode cX4_setOut 21 = .ok (.getfield 71, 3) := by decide +kernel
theorem dX4_setOut_24 : decode cX4_setOut 24 = .ok (.iload_n 1, 1) := by decide +kernel
theorem dX4_setOut_25 : decode cX4_setOut 25 = .ok (.invokestatic 74, 3) := by decide +kernel
theorem dX4_setOut_28 : decode cX4_setOut 28 = .ok (.istore_n 3, 1) := by decide +kernel
theorem dX4_setOut_29 : decode cX4_setOut 29 = .ok (.aload_n 0, 1) := by decide +kernel
theorem dX4_setOut_30 : decode cX4_setOut 30 = .ok (.getfield 20, 3) := by decide +kernel
theorem dX4_setOut_33 : decode cX4_setOut 33 = .ok (.aload_n 0, 1) := by decide +kernel
theorem dX4_setOut_34 : decode cX4_setOut 34 = .ok (.getfield 20, 3) := by decide +kernel
theorem dX4_setOut_37 : decode cX4_setOut 37 = .ok (.getfield 71, 3) := by decide +kernel
theorem dX4_setOut_40 : decode cX4_setOut 40 = .ok (.iload_n 1, 1) := by decide +kernel
theorem dX4_setOut_41 : decode cX4_setOut 41 = .ok (.iload_n 2, 1) := by decide +kernel
theorem dX4_setOut_42 : decode cX4_setOut 42 = .ok (.invokestatic 78, 3) := by decide +kernel
theorem dX4_setOut_45 : decode cX4_setOut 45 = .ok (.putfield 71, 3) := by decide +kernel
theorem dX4_setOut_48 : decode cX4_setOut 48 = .ok (.iload_n 3, 1) := by decide +kernel
theorem dX4_setOut_49 : decode cX4_setOut 49 = .ok (.ireturn, 1) := by decide +kernel
theorem dX4_setChild_0 : decode cX4_setChild 0 = .ok (.iload_n 1, 1) := by decide +kernel
theorem dX4_setChild_1 : decode cX4_setChild 1 = .ok (.iconst 0, 1) := by decide +kernel
theorem dX4_setChild_2 : decode cX4_setChild 2 = .ok (.iconst 5, 1) := by decide +kernel
theorem dX4_setChild_3 : decode cX4_setChild 3 = .ok (.invokestatic 42, 3) := by decide +kernel
theorem dX4_setChild_6 : decode cX4_setChild 6 = .ok (.ifCond .ne 11, 3) := by decide +kernel
theorem dX4_setChild_9 : decode cX4_setChild 9 = .ok (.new 68, 3) := by decide +kernel
theorem dX4_setChild_12 : decode cX4_setChild 12 = .ok (.dup, 1) := by decide +kernel
theorem dX4_setChild_13 : decode cX4_setChild 13 = .ok (.invokespecial 70, 3) := by decide +kernel
theorem dX4_setChild_16 : decode cX4_setChild 16 = .ok (.athrow, 1) := by decide +kernel
theorem dX4_setChild_17 : decode cX4_setChild 17 = .ok (.aload_n 0, 1) := by decide +kernel
theorem dX4_setChild_18 : decode cX4_setChild 18 = .ok (.getfield 20, 3) := by decide +kernel
theorem dX4_setChild_21 : decode cX4_setChild 21 = .ok (.getfield 82, 3) := by decide +kernel
theorem dX4_setChild_24 : decode cX4_setChild 24 = .ok (.iload_n 1, 1) := by decide +kernel
theorem dX4_setChild_25 : decode cX4_setChild 25 = .ok (.invokestatic 74, 3) := by decide +kernel
theorem dX4_setChild_28 : decode cX4_setChild 28 = .ok (.istore_n 3, 1) := by decide +kernel
theorem dX4_setChild_29 : decode cX4_setChild 29 = .ok (.iload_n 3, 1) := by decide +kernel
theorem dX4_setChild_30 : decode cX4_setChild 30 = .ok (.iload_n 2, 1) := by decide +kernel
theorem dX4_setChild_31 : decode cX4_setChild 31 = .ok (.if_icmp .eq 29, 3) := by decide +kernel
theorem dX4_setChild_34 : decode cX4_setChild 34 = .ok (.aload_n 0, 1) := by decide +kernel
theorem dX4_setChild_35 : decode cX4_setChild 35 = .ok (.getfield 10, 3) := by decide +kernel
theorem dX4_setChild_38 : decode cX4_setChild 38 = .ok (.invokevirtual 61, 3) := by decide +kernel
theorem dX4_setChild_41 : decode cX4_setChild 41 = .ok (.aload_n 0, 1) := by decide +kernel
theorem dX4_setChild_42 : decode cX4_setChild 42 = .ok (.getfield 20, 3) := by decide +kernel
theorem dX4_setChild_45 : decode cX4_setChild 45 = .ok (.aload_n 0, 1) := by decide +kernel
theorem dX4_setChild_46 : decode cX4_setChild 46 = .ok (.getfield 20, 3) := by decide +kernel
theorem dX4_setChild_49 : decode cX4_setChild 49 = .ok (.getfield 82, 3) := by decide +kernel
theorem dX4_setChild_52 : decode cX4_setChild 52 = .ok (.iload_n 1, 1) := by decide +kernel
theorem dX4_setChild_53 : decode cX4_setChild 53 = .ok (.iload_n 2, 1) := by decide +kernel
theorem dX4_setChild_54 : decode cX4_setChild 54 = .ok (.invokestatic 78, 3) := by decide +kernel
theorem dX4_setChild_57 : decode cX4_setChild 57 = .ok (.putfield 82, 3) := by decide +kernel
theorem dX4_setChild_60 : decode cX4_setChild 60 = .ok (.iload_n 3, 1) := by decide +kernel
theorem dX4_setChild_61 : decode cX4_setChild 61 = .ok (.ireturn, 1) := by decide +kernel
theorem dX4_setRates_0 : decode cX4_setRates 0 = .ok (.iload_n 1, 1) := by decide +kernel
theorem dX4_setRates_1 : decode cX4_setRates 1 = .ok (.iconst 0, 1) := by decide +kernel
theorem dX4_setRates_2 : decode cX4_setRates 2 = .ok (.sipush 1000, 3) := by decide +kernel
theorem dX4_setRates_5 : decode cX4_setRates 5 = .ok (.invokestatic 42, 3) := by decide +kernel
theorem dX4_setRates_8 : decode cX4_setRates 8 = .ok (.ifCond .eq 14, 3) := by decide +kernel
theorem dX4_setRates_11 : decode cX4_setRates 11 = .ok (.iload_n 2, 1) := by decide +kernel
theorem dX4_setRates_12 : decode cX4_setRates 12 = .ok (.iconst 0, 1) := by decide +kernel
theorem dX4_setRates_13 : decode cX4_setRates 13 = .ok (.sipush 1000, 3) := by decide +kernel
theorem dX4_setRates_16 : decode cX4_setRates 16 = .ok (.invokestatic 42, 3) := by decide +kernel
theorem dX4_setRates_19 : decode cX4_setRates 19 = .ok (.ifCond .ne 11, 3) := by decide +kernel
theorem dX4_setRates_22 : decode cX4_setRates 22 = .ok (.new 52, 3) := by decide +kernel
theorem dX4_setRates_25 : decode cX4_setRates 25 = .ok (.dup, 1) := by decide +kernel
theorem dX4_setRates_26 : decode cX4_setRates 26 = .ok (.invokespecial 54, 3) := by decide +kernel
theorem dX4_setRates_29 : decode cX4_setRates 29 = .ok (.athrow, 1) := by decide +kernel
theorem dX4_setRates_30 : decode cX4_setRates 30 = .ok (.aload_n 0, 1) := by decide +kernel
theorem dX4_setRates_31 : decode cX4_setRates 31 = .ok (.getfield 35, 3) := by decide +kernel
theorem dX4_setRates_34 : decode cX4_setRates 34 = .ok (.istore_n 3, 1) := by decide +kernel
theorem dX4_setRates_35 : decode cX4_setRates 35 = .ok (.aload_n 0, 1) := by decide +kernel
theorem dX4_setRates_36 : decode cX4_setRates 36 = .ok (.iload_n 1, 1) := by decide +kernel
theorem dX4_setRates_37 : decode cX4_setRates 37 = .ok (.putfield 35, 3) := by decide +kernel
theorem dX4_setRates_40 : decode cX4_setRates 40 = .ok (.aload_n 0, 1) := by decide +kernel
theorem dX4_setRates_41 : decode cX4_setRates 41 = .ok (.iload_n 2, 1) := by decide +kernel
theorem dX4_setRates_42 : decode cX4_setRates 42 = .ok (.putfield 39, 3) := by decide +kernel
theorem dX4_setRates_45 : decode cX4_setRates 45 = .ok (.iload_n 3, 1) := by decide +kernel
theorem dX4_setRates_46 : decode cX4_setRates 46 = .ok (.ireturn, 1) := by decide +kernel
theorem dX4_hold_0 : decode cX4_hold 0 = .ok (.aload_n 0, 1) := by decide +kernel
theorem dX4_hold_1 : decode cX4_hold 1 = .ok (.getfield 85, 3) := by decide +kernel
theorem dX4_hold_4 : decode cX4_hold 4 = .ok (.istore_n 2, 1) := by decide +kernel
theorem dX4_hold_5 : decode cX4_hold 5 = .ok (.aload_n 0, 1) := by decide +kernel
theorem dX4_hold_6 : decode cX4_hold 6 = .ok (.iload_n 1, 1) := by decide +kernel
theorem dX4_hold_7 : decode cX4_hold 7 = .ok (.putfield 85, 3) := by decide +kernel
theorem dX4_hold_10 : decode cX4_hold 10 = .ok (.iload_n 2, 1) := by decide +kernel
theorem dX4_hold_11 : decode cX4_hold 11 = .ok (.ireturn, 1) := by decide +kernel
theorem dX4_shoot_0 : decode cX4_shoot 0 = .ok (.aload_n 0, 1) := by decide +kernel
theorem dX4_shoot_1 : decode cX4_shoot 1 = .ok (.getfield 10, 3) := by decide +kernel
theorem dX4_shoot_4 : decode cX4_shoot 4 = .ok (.invokevirtual 89, 3) := by decide +kernel
theorem dX4_shoot_7 : decode cX4_shoot 7 = .ok (.aload_n 0, 1) := by decide +kernel
theorem dX4_shoot_8 : decode cX4_shoot 8 = .ok (.getfield 10, 3) := by decide +kernel
theorem dX4_shoot_11 : decode cX4_shoot 11 = .ok (.iload_n 1, 1) := by decide +kernel
theorem dX4_shoot_12 : decode cX4_shoot 12 = .ok (.ifCond .eq 14, 3) := by decide +kernel
theorem dX4_shoot_15 : decode cX4_shoot 15 = .ok (.aload_n 0, 1) := by decide +kernel
theorem dX4_shoot_16 : decode cX4_shoot 16 = .ok (.getfield 85, 3) := by decide +kernel
theorem dX4_shoot_19 : decode cX4_shoot 19 = .ok (.ifCond .ne 7, 3) := by decide +kernel
theorem dX4_shoot_22 : decode cX4_shoot 22 = .ok (.iconst 1, 1) := by decide +kernel
theorem dX4_shoot_23 : decode cX4_shoot 23 = .ok (.goto 4, 3) := by decide +kernel
theorem dX4_shoot_26 : decode cX4_shoot 26 = .ok (.iconst 0, 1) := by decide +kernel
theorem dX4_shoot_27 : decode cX4_shoot 27 = .ok (.invokevirtual 92, 3) := by decide +kernel
theorem dX4_shoot_30 : decode cX4_shoot 30 = .ok (.istore_n 2, 1) := by decide +kernel
theorem dX4_shoot_31 : decode cX4_shoot 31 = .ok (.aload_n 0, 1) := by decide +kernel
theorem dX4_shoot_32 : decode cX4_shoot 32 = .ok (.getfield 20, 3) := by decide +kernel
theorem dX4_shoot_35 : decode cX4_shoot 35 = .ok (.iload_n 2, 1) := by decide +kernel
theorem dX4_shoot_36 : decode cX4_shoot 36 = .ok (.invokevirtual 96, 3) := by decide +kernel
theorem dX4_shoot_39 : decode cX4_shoot 39 = .ok (.aload_n 0, 1) := by decide +kernel
theorem dX4_shoot_40 : decode cX4_shoot 40 = .ok (.getfield 35, 3) := by decide +kernel
theorem dX4_shoot_43 : decode cX4_shoot 43 = .ok (.imul, 1) := by decide +kernel
theorem dX4_shoot_44 : decode cX4_shoot 44 = .ok (.istore_n 3, 1) := by decide +kernel
theorem dX4_shoot_45 : decode cX4_shoot 45 = .ok (.aload_n 0, 1) := by decide +kernel
theorem dX4_shoot_46 : decode cX4_shoot 46 = .ok (.getfield 85, 3) := by decide +kernel
theorem dX4_shoot_49 : decode cX4_shoot 49 = .ok (.ifCond .eq 10, 3) := by decide +kernel
theorem dX4_shoot_52 : decode cX4_shoot 52 = .ok (.aload_n 0, 1) := by decide +kernel
theorem dX4_shoot_53 : decode cX4_shoot 53 = .ok (.getfield 39, 3) := by decide +kernel
theorem dX4_shoot_56 : decode cX4_shoot 56 = .ok (.goto 4, 3) := by decide +kernel
theorem dX4_shoot_59 : decode cX4_shoot 59 = .ok (.iconst 0, 1) := by decide +kernel
theorem dX4_shoot_60 : decode cX4_shoot 60 = .ok (.istore 4, 2) := by decide +kernel
theorem dX4_shoot_62 : decode cX4_shoot 62 = .ok (.aload_n 0, 1) := by decide +kernel
theorem dX4_shoot_63 : decode cX4_shoot 63 = .ok (.getfield 24, 3) := by decide +kernel
theorem dX4_shoot_66 : decode cX4_shoot 66 = .ok (.iconst 0, 1) := by decide +kernel
theorem dX4_shoot_67 : decode cX4_shoot 67 = .ok (.iload_n 3, 1) := by decide +kernel
theorem dX4_shoot_68 : decode cX4_shoot 68 = .ok (.invokevirtual 100, 3) := by decide +kernel
theorem dX4_shoot_71 : decode cX4_shoot 71 = .ok (.aload_n 0, 1) := by decide +kernel
theorem dX4_shoot_72 : decode cX4_shoot 72 = .ok (.getfield 24, 3) := by decide +kernel
theorem dX4_shoot_75 : decode cX4_shoot 75 = .ok (.iconst 1, 1) := by decide +kernel
theorem dX4_shoot_76 : decode cX4_shoot 76 = .ok (.iload 4, 2) := by decide +kernel
theorem dX4_shoot_78 : decode cX4_shoot 78 = .ok (.invokevirtual 100, 3) := by decide +kernel
theorem dX4_shoot_81 : decode cX4_shoot 81 = .ok (.iadd, 1) := by decide +kernel
theorem dX4_shoot_82 : decode cX4_shoot 82 = .ok (.istore 5, 2) := by decide +kernel
theorem dX4_shoot_84 : decode cX4_shoot 84 = .ok (.iload 5, 2) := by decide +kernel
theorem dX4_shoot_86 : decode cX4_shoot 86 = .ok (.aload_n 0, 1) := by decide +kernel
theorem dX4_shoot_87 : decode cX4_shoot 87 = .ok (.getfield 24, 3) := by decide +kernel
theorem dX4_shoot_90 : decode cX4_shoot 90 = .ok (.getfield 104, 3) := by decide +kernel
theorem dX4_shoot_93 : decode cX4_shoot 93 = .ok (.if_icmp .gt 16, 3) := by decide +kernel
theorem dX4_shoot_96 : decode cX4_shoot 96 = .ok (.aload_n 0, 1) := by decide +kernel
theorem dX4_shoot_97 : decode cX4_shoot 97 = .ok (.getfield 10, 3) := by decide +kernel
theorem dX4_shoot_100 : decode cX4_shoot 100 = .ok (.getfield 107, 3) := by decide +kernel
theorem dX4_shoot_103 : decode cX4_shoot 103 = .ok (.sipush 1000, 3) := by decide +kernel
theorem dX4_shoot_106 : decode cX4_shoot 106 = .ok (.if_icmp .lt 11, 3) := by decide +kernel
theorem dX4_shoot_109 : decode cX4_shoot 109 = .ok (.new 58, 3) := by decide +kernel
theorem dX4_shoot_112 : decode cX4_shoot 112 = .ok (.dup, 1) := by decide +kernel
theorem dX4_shoot_113 : decode cX4_shoot 113 = .ok (.invokespecial 60, 3) := by decide +kernel
theorem dX4_shoot_116 : decode cX4_shoot 116 = .ok (.athrow, 1) := by decide +kernel
theorem dX4_shoot_117 : decode cX4_shoot 117 = .ok (.aload_n 0, 1) := by decide +kernel
theorem dX4_shoot_118 : decode cX4_shoot 118 = .ok (.getfield 24, 3) := by decide +kernel
theorem dX4_shoot_121 : decode cX4_shoot 121 = .ok (.iconst 0, 1) := by decide +kernel
theorem dX4_shoot_122 : decode cX4_shoot 122 = .ok (.iload_n 3, 1) := by decide +kernel
theorem dX4_shoot_123 : decode cX4_shoot 123 = .ok (.invokevirtual 110, 3) := by decide +kernel
theorem dX4_shoot_126 : decode cX4_shoot 126 = .ok (.pop, 1) := by decide +kernel
theorem dX4_shoot_127 : decode cX4_shoot 127 = .ok (.aload_n 0, 1) := by decide +kernel
theorem dX4_shoot_128 : decode cX4_shoot 128 = .ok (.getfield 24, 3) := by decide +kernel
theorem dX4_shoot_131 : decode cX4_shoot 131 = .ok (.iconst 1, 1) := by decide +kernel
theorem dX4_shoot_132 : decode cX4_shoot 132 = .ok (.iload 4, 2) := by decide +kernel
theorem dX4_shoot_134 : decode cX4_shoot 134 = .ok (.invokevirtual 110, 3) := by decide +kernel
theorem dX4_shoot_137 : decode cX4_shoot 137 = .ok (.pop, 1) := by decide +kernel
theorem dX4_shoot_138 : decode cX4_shoot 138 = .ok (.aload_n 0, 1) := by decide +kernel
theorem dX4_shoot_139 : decode cX4_shoot 139 = .ok (.getfield 10, 3) := by decide +kernel
theorem dX4_shoot_142 : decode cX4_shoot 142 = .ok (.iload_n 2, 1) := by decide +kernel
theorem dX4_shoot_143 : decode cX4_shoot 143 = .ok (.invokevirtual 113, 3) := by decide +kernel
theorem dX4_shoot_146 : decode cX4_shoot 146 = .ok (.iload_n 2, 1) := by decide +kernel
theorem dX4_shoot_147 : decode cX4_shoot 147 = .ok (.invokestatic 117, 3) := by decide +kernel
theorem dX4_shoot_150 : decode cX4_shoot 150 = .ok (.ireturn, 1) := by decide +kernel
theorem dX4_approve_0 : decode cX4_approve 0 = .ok (.iload_n 1, 1) := by decide +kernel
theorem dX4_approve_1 : decode cX4_approve 1 = .ok (.iconst 0, 1) := by decide +kernel
theorem dX4_approve_2 : decode cX4_approve 2 = .ok (.iconst 3, 1) := by decide +kernel
theorem dX4_approve_3 : decode cX4_approve 3 = .ok (.invokestatic 42, 3) := by decide +kernel
theorem dX4_approve_6 : decode cX4_approve 6 = .ok (.ifCond .ne 11, 3) := by decide +kernel
theorem dX4_approve_9 : decode cX4_approve 9 = .ok (.new 68, 3) := by decide +kernel
theorem dX4_approve_12 : decode cX4_approve 12 = .ok (.dup, 1) := by decide +kernel
theorem dX4_approve_13 : decode cX4_approve 13 = .ok (.invokespecial 70, 3) := by decide +kernel
theorem dX4_approve_16 : decode cX4_approve 16 = .ok (.athrow, 1) := by decide +kernel
theorem dX4_approve_17 : decode cX4_approve 17 = .ok (.iload_n 2, 1) := by decide +kernel
theorem dX4_approve_18 : decode cX4_approve 18 = .ok (.iconst 1, 1) := by decide +kernel
theorem dX4_approve_19 : decode cX4_approve 19 = .ok (.ldc 122, 2) := by decide +kernel
theorem dX4_approve_21 : decode cX4_approve 21 = .ok (.invokestatic 42, 3) := by decide +kernel
theorem dX4_approve_24 : decode cX4_approve 24 = .ok (.ifCond .ne 11, 3) := by decide +kernel
theorem dX4_approve_27 : decode cX4_approve 27 = .ok (.new 52, 3) := by decide +kernel
theorem dX4_approve_30 : decode cX4_approve 30 = .ok (.dup, 1) := by decide +kernel
theorem dX4_approve_31 : decode cX4_approve 31 = .ok (.invokespecial 54, 3) := by decide +kernel
theorem dX4_approve_34 : decode cX4_approve 34 = .ok (.athrow, 1) := by decide +kernel
theorem dX4_approve_35 : decode cX4_approve 35 = .ok (.aload_n 0, 1) := by decide +kernel
theorem dX4_approve_36 : decode cX4_approve 36 = .ok (.getfield 24, 3) := by decide +kernel
theorem dX4_approve_39 : decode cX4_approve 39 = .ok (.getfield 123, 3) := by decide +kernel
theorem dX4_approve_42 : decode cX4_approve 42 = .ok (.iload_n 1, 1) := by decide +kernel
theorem dX4_approve_43 : decode cX4_approve 43 = .ok (.iload_n 2, 1) := by decide +kernel
theorem dX4_approve_44 : decode cX4_approve 44 = .ok (.invokestatic 127, 3) := by decide +kernel
theorem dX4_approve_47 : decode cX4_approve 47 = .ok (.aload_n 0, 1) := by decide +kernel
theorem dX4_approve_48 : decode cX4_approve 48 = .ok (.getfield 24, 3) := by decide +kernel
theorem dX4_approve_51 : decode cX4_approve 51 = .ok (.getfield 123, 3) := by decide +kernel
theorem dX4_approve_54 : decode cX4_approve 54 = .ok (.iload_n 1, 1) := by decide +kernel
theorem dX4_approve_55 : decode cX4_approve 55 = .ok (.invokestatic 131, 3) := by decide +kernel
theorem dX4_approve_58 : decode cX4_approve 58 = .ok (.ireturn, 1) := by decide +kernel
theorem dX4_grant_0 : decode cX4_grant 0 = .ok (.iload_n 1, 1) := by decide +kernel
theorem dX4_grant_1 : decode cX4_grant 1 = .ok (.iconst 1, 1) := by decide +kernel
theorem dX4_grant_2 : decode cX4_grant 2 = .ok (.ldc 122, 2) := by decide +kernel
theorem dX4_grant_4 : decode cX4_grant 4 = .ok (.invokestatic 42, 3) := by decide +kernel
theorem dX4_grant_7 : decode cX4_grant 7 = .ok (.ifCond .ne 11, 3) := by decide +kernel
theorem dX4_grant_10 : decode cX4_grant 10 = .ok (.new 52, 3) := by decide +kernel
theorem dX4_grant_13 : decode cX4_grant 13 = .ok (.dup, 1) := by decide +kernel
theorem dX4_grant_14 : decode cX4_grant 14 = .ok (.invokespecial 54, 3) := by decide +kernel
theorem dX4_grant_17 : decode cX4_grant 17 = .ok (.athrow, 1) := by decide +kernel
theorem dX4_grant_18 : decode cX4_grant 18 = .ok (.aload_n 0, 1) := by decide +kernel
theorem dX4_grant_19 : decode cX4_grant 19 = .ok (.getfield 24, 3) := by decide +kernel
theorem dX4_grant_22 : decode cX4_grant 22 = .ok (.dup, 1) := by decide +kernel
theorem dX4_grant_23 : decode cX4_grant 23 = .ok (.getfield 104, 3) := by decide +kernel
theorem dX4_grant_26 : decode cX4_grant 26 = .ok (.iload_n 1, 1) := by decide +kernel
theorem dX4_grant_27 : decode cX4_grant 27 = .ok (.iadd, 1) := by decide +kernel
theorem dX4_grant_28 : decode cX4_grant 28 = .ok (.putfield 104, 3) := by decide +kernel
theorem dX4_grant_31 : decode cX4_grant 31 = .ok (.aload_n 0, 1) := by decide +kernel
theorem dX4_grant_32 : decode cX4_grant 32 = .ok (.getfield 24, 3) := by decide +kernel
theorem dX4_grant_35 : decode cX4_grant 35 = .ok (.getfield 104, 3) := by decide +kernel
theorem dX4_grant_38 : decode cX4_grant 38 = .ok (.ireturn, 1) := by decide +kernel
theorem dX4_bill_0 : decode cX4_bill 0 = .ok (.iload_n 1, 1) := by decide +kernel
theorem dX4_bill_1 : decode cX4_bill 1 = .ok (.iconst 0, 1) := by decide +kernel
theorem dX4_bill_2 : decode cX4_bill 2 = .ok (.iconst 3, 1) := by decide +kernel
theorem dX4_bill_3 : decode cX4_bill 3 = .ok (.invokestatic 42, 3) := by decide +kernel
theorem dX4_bill_6 : decode cX4_bill 6 = .ok (.ifCond .ne 11, 3) := by decide +kernel
theorem dX4_bill_9 : decode cX4_bill 9 = .ok (.new 68, 3) := by decide +kernel
theorem dX4_bill_12 : decode cX4_bill 12 = .ok (.dup, 1) := by decide +kernel
theorem dX4_bill_13 : decode cX4_bill 13 = .ok (.invokespecial 70, 3) := by decide +kernel
theorem dX4_bill_16 : decode cX4_bill 16 = .ok (.athrow, 1) := by decide +kernel
theorem dX4_bill_17 : decode cX4_bill 17 = .ok (.iload_n 2, 1) := by decide +kernel
theorem dX4_bill_18 : decode cX4_bill 18 = .ok (.iconst 1, 1) := by decide +kernel
theorem dX4_bill_19 : decode cX4_bill 19 = .ok (.ldc 122, 2) := by decide +kernel
theorem dX4_bill_21 : decode cX4_bill 21 = .ok (.invokestatic 42, 3) := by decide +kernel
theorem dX4_bill_24 : decode cX4_bill 24 = .ok (.ifCond .ne 11, 3) := by decide +kernel
theorem dX4_bill_27 : decode cX4_bill 27 = .ok (.new 52, 3) := by decide +kernel
theorem dX4_bill_30 : decode cX4_bill 30 = .ok (.dup, 1) := by decide +kernel
theorem dX4_bill_31 : decode cX4_bill 31 = .ok (.invokespecial 54, 3) := by decide +kernel
theorem dX4_bill_34 : decode cX4_bill 34 = .ok (.athrow, 1) := by decide +kernel
theorem dX4_bill_35 : decode cX4_bill 35 = .ok (.aload_n 0, 1) := by decide +kernel
theorem dX4_bill_36 : decode cX4_bill 36 = .ok (.getfield 24, 3) := by decide +kernel
theorem dX4_bill_39 : decode cX4_bill 39 = .ok (.iload_n 1, 1) := by decide +kernel
theorem dX4_bill_40 : decode cX4_bill 40 = .ok (.iload_n 2, 1) := by decide +kernel
theorem dX4_bill_41 : decode cX4_bill 41 = .ok (.invokevirtual 100, 3) := by decide +kernel
theorem dX4_bill_44 : decode cX4_bill 44 = .ok (.aload_n 0, 1) := by decide +kernel
theorem dX4_bill_45 : decode cX4_bill 45 = .ok (.getfield 24, 3) := by decide +kernel
theorem dX4_bill_48 : decode cX4_bill 48 = .ok (.getfield 104, 3) := by decide +kernel
theorem dX4_bill_51 : decode cX4_bill 51 = .ok (.if_icmp .le 11, 3) := by decide +kernel
theorem dX4_bill_54 : decode cX4_bill 54 = .ok (.new 58, 3) := by decide +kernel
theorem dX4_bill_57 : decode cX4_bill 57 = .ok (.dup, 1) := by decide +kernel
theorem dX4_bill_58 : decode cX4_bill 58 = .ok (.invokespecial 60, 3) := by decide +kernel
theorem dX4_bill_61 : decode cX4_bill 61 = .ok (.athrow, 1) := by decide +kernel
theorem dX4_bill_62 : decode cX4_bill 62 = .ok (.aload_n 0, 1) := by decide +kernel
theorem dX4_bill_63 : decode cX4_bill 63 = .ok (.getfield 24, 3) := by decide +kernel
theorem dX4_bill_66 : decode cX4_bill 66 = .ok (.iload_n 1, 1) := by decide +kernel
theorem dX4_bill_67 : decode cX4_bill 67 = .ok (.iload_n 2, 1) := by decide +kernel
theorem dX4_bill_68 : decode cX4_bill 68 = .ok (.invokevirtual 110, 3) := by decide +kernel
theorem dX4_bill_71 : decode cX4_bill 71 = .ok (.ireturn, 1) := by decide +kernel
theorem dX4_loan_0 : decode cX4_loan 0 = .ok (.iload_n 1, 1) := by decide +kernel
theorem dX4_loan_1 : decode cX4_loan 1 = .ok (.iconst 0, 1) := by decide +kernel
theorem dX4_loan_2 : decode cX4_loan 2 = .ok (.iconst 5, 1) := by decide +kernel
theorem dX4_loan_3 : decode cX4_loan 3 = .ok (.invokestatic 42, 3) := by decide +kernel
theorem dX4_loan_6 : decode cX4_loan 6 = .ok (.ifCond .ne 11, 3) := by decide +kernel
theorem dX4_loan_9 : decode cX4_loan 9 = .ok (.new 68, 3) := by decide +kernel
theorem dX4_loan_12 : decode cX4_loan 12 = .ok (.dup, 1) := by decide +kernel
theorem dX4_loan_13 : decode cX4_loan 13 = .ok (.invokespecial 70, 3) := by decide +kernel
theorem dX4_loan_16 : decode cX4_loan 16 = .ok (.athrow, 1) := by decide +kernel
theorem dX4_loan_17 : decode cX4_loan 17 = .ok (.iload_n 2, 1) := by decide +kernel
theorem dX4_loan_18 : decode cX4_loan 18 = .ok (.iconst 1, 1) := by decide +kernel
theorem dX4_loan_19 : decode cX4_loan 19 = .ok (.ldc 122, 2) := by decide +kernel
theorem dX4_loan_21 : decode cX4_loan 21 = .ok (.invokestatic 42, 3) := by decide +kernel
theorem dX4_loan_24 : decode cX4_loan 24 = .ok (.ifCond .ne 11, 3) := by decide +kernel
theorem dX4_loan_27 : decode cX4_loan 27 = .ok (.new 52, 3) := by decide +kernel
theorem dX4_loan_30 : decode cX4_loan 30 = .ok (.dup, 1) := by decide +kernel
theorem dX4_loan_31 : decode cX4_loan 31 = .ok (.invokespecial 54, 3) := by decide +kernel
theorem dX4_loan_34 : decode cX4_loan 34 = .ok (.athrow, 1) := by decide +kernel
theorem dX4_loan_35 : decode cX4_loan 35 = .ok (.aload_n 0, 1) := by decide +kernel
theorem dX4_loan_36 : decode cX4_loan 36 = .ok (.getfield 31, 3) := by decide +kernel
theorem dX4_loan_39 : decode cX4_loan 39 = .ok (.getfield 135, 3) := by decide +kernel
theorem dX4_loan_42 : decode cX4_loan 42 = .ok (.bipush 10, 2) := by decide +kernel
theorem dX4_loan_44 : decode cX4_loan 44 = .ok (.if_icmp .lt 11, 3) := by decide +kernel
theorem dX4_loan_47 : decode cX4_loan 47 = .ok (.new 58, 3) := by decide +kernel
theorem dX4_loan_50 : decode cX4_loan 50 = .ok (.dup, 1) := by decide +kernel
theorem dX4_loan_51 : decode cX4_loan 51 = .ok (.invokespecial 60, 3) := by decide +kernel
theorem dX4_loan_54 : decode cX4_loan 54 = .ok (.athrow, 1) := by decide +kernel
theorem dX4_loan_55 : decode cX4_loan 55 = .ok (.aload_n 0, 1) := by decide +kernel
theorem dX4_loan_56 : decode cX4_loan 56 = .ok (.getfield 31, 3) := by decide +kernel
theorem dX4_loan_59 : decode cX4_loan 59 = .ok (.iload_n 1, 1) := by decide +kernel
theorem dX4_loan_60 : decode cX4_loan 60 = .ok (.iload_n 2, 1) := by decide +kernel
theorem dX4_loan_61 : decode cX4_loan 61 = .ok (.invokevirtual 138, 3) := by decide +kernel
theorem dX4_loan_64 : decode cX4_loan 64 = .ok (.ireturn, 1) := by decide +kernel
theorem dX4_part_0 : decode cX4_part 0 = .ok (.iload_n 1, 1) := by decide +kernel
theorem dX4_part_1 : decode cX4_part 1 = .ok (.iconst (-1), 1) := by decide +kernel
theorem dX4_part_2 : decode cX4_part 2 = .ok (.aload_n 0, 1) := by decide +kernel
theorem dX4_part_3 : decode cX4_part 3 = .ok (.getfield 31, 3) := by decide +kernel
theorem dX4_part_6 : decode cX4_part 6 = .ok (.getfield 141, 3) := by decide +kernel
theorem dX4_part_9 : decode cX4_part 9 = .ok (.iconst 1, 1) := by decide +kernel
theorem dX4_part_10 : decode cX4_part 10 = .ok (.isub, 1) := by decide +kernel
theorem dX4_part_11 : decode cX4_part 11 = .ok (.invokestatic 42, 3) := by decide +kernel
theorem dX4_part_14 : decode cX4_part 14 = .ok (.ifCond .eq 12, 3) := by decide +kernel
theorem dX4_part_17 : decode cX4_part 17 = .ok (.iload_n 2, 1) := by decide +kernel
theorem dX4_part_18 : decode cX4_part 18 = .ok (.iconst 0, 1) := by decide +kernel
theorem dX4_part_19 : decode cX4_part 19 = .ok (.iconst 5, 1) := by decide +kernel
theorem dX4_part_20 : decode cX4_part 20 = .ok (.invokestatic 42, 3) := by decide +kernel
theorem dX4_part_23 : decode cX4_part 23 = .ok (.ifCond .ne 11, 3) := by decide +kernel
theorem dX4_part_26 : decode cX4_part 26 = .ok (.new 68, 3) := by decide +kernel
theorem dX4_part_29 : decode cX4_part 29 = .ok (.dup, 1) := by decide +kernel
theorem dX4_part_30 : decode cX4_part 30 = .ok (.invokespecial 70, 3) := by decide +kernel
theorem dX4_part_33 : decode cX4_part 33 = .ok (.athrow, 1) := by decide +kernel
theorem dX4_part_34 : decode cX4_part 34 = .ok (.iload_n 3, 1) := by decide +kernel
theorem dX4_part_35 : decode cX4_part 35 = .ok (.iconst 1, 1) := by decide +kernel
theorem dX4_part_36 : decode cX4_part 36 = .ok (.bipush 100, 2) := by decide +kernel
theorem dX4_part_38 : decode cX4_part 38 = .ok (.invokestatic 42, 3) := by decide +kernel
theorem dX4_part_41 : decode cX4_part 41 = .ok (.ifCond .ne 11, 3) := by decide +kernel
theorem dX4_part_44 : decode cX4_part 44 = .ok (.new 52, 3) := by decide +kernel
theorem dX4_part_47 : decode cX4_part 47 = .ok (.dup, 1) := by decide +kernel
theorem dX4_part_48 : decode cX4_part 48 = .ok (.invokespecial 54, 3) := by decide +kernel
theorem dX4_part_51 : decode cX4_part 51 = .ok (.athrow, 1) := by decide +kernel
theorem dX4_part_52 : decode cX4_part 52 = .ok (.aload_n 0, 1) := by decide +kernel
theorem dX4_part_53 : decode cX4_part 53 = .ok (.getfield 31, 3) := by decide +kernel
theorem dX4_part_56 : decode cX4_part 56 = .ok (.getfield 141, 3) := by decide +kernel
theorem dX4_part_59 : decode cX4_part 59 = .ok (.bipush 12, 2) := by decide +kernel
theorem dX4_part_61 : decode cX4_part 61 = .ok (.if_icmp .ge 18, 3) := by decide +kernel
theorem dX4_part_64 : decode cX4_part 64 = .ok (.aload_n 0, 1) := by decide +kernel
theorem dX4_part_65 : decode cX4_part 65 = .ok (.getfield 31, 3) := by decide +kernel
theorem dX4_part_68 : decode cX4_part 68 = .ok (.iload_n 1, 1) := by decide +kernel
theorem dX4_part_69 : decode cX4_part 69 = .ok (.invokevirtual 144, 3) := by decide +kernel
theorem dX4_part_72 : decode cX4_part 72 = .ok (.iload_n 3, 1) := by decide +kernel
theorem dX4_part_73 : decode cX4_part 73 = .ok (.iadd, 1) := by decide +kernel
theorem dX4_part_74 : decode cX4_part 74 = .ok (.bipush 100, 2) := by decide +kernel
theorem dX4_part_76 : decode cX4_part 76 = .ok (.if_icmp .le 11, 3) := by decide +kernel
theorem dX4_part_79 : decode cX4_part 79 = .ok (.new 58, 3) := by decide +kernel
theorem dX4_part_82 : decode cX4_part 82 = .ok (.dup, 1) := by decide +kernel
theorem dX4_part_83 : decode cX4_part 83 = .ok (.invokespecial 60, 3) := by decide +kernel
theorem dX4_part_86 : decode cX4_part 86 = .ok (.athrow, 1) := by decide +kernel
theorem dX4_part_87 : decode cX4_part 87 = .ok (.aload_n 0, 1) := by decide +kernel
theorem dX4_part_88 : decode cX4_part 88 = .ok (.getfield 31, 3) := by decide +kernel
theorem dX4_part_91 : decode cX4_part 91 = .ok (.iload_n 1, 1) := by decide +kernel
theorem dX4_part_92 : decode cX4_part 92 = .ok (.iload_n 2, 1) := by decide +kernel
theorem dX4_part_93 : decode cX4_part 93 = .ok (.iload_n 3, 1) := by decide +kernel
theorem dX4_part_94 : decode cX4_part 94 = .ok (.invokevirtual 147, 3) := by decide +kernel
theorem dX4_part_97 : decode cX4_part 97 = .ok (.ireturn, 1) := by decide +kernel
theorem dX4_income_0 : decode cX4_income 0 = .ok (.iload_n 1, 1) := by decide +kernel
theorem dX4_income_1 : decode cX4_income 1 = .ok (.iconst 1, 1) := by decide +kernel
theorem dX4_income_2 : decode cX4_income 2 = .ok (.ldc 151, 2) := by decide +kernel
theorem dX4_income_4 : decode cX4_income 4 = .ok (.invokestatic 42, 3) := by decide +kernel
theorem dX4_income_7 : decode cX4_income 7 = .ok (.ifCond .ne 11, 3) := by decide +kernel
theorem dX4_income_10 : decode cX4_income 10 = .ok (.new 52, 3) := by decide +kernel
theorem dX4_income_13 : decode cX4_income 13 = .ok (.dup, 1) := by decide +kernel
theorem dX4_income_14 : decode cX4_income 14 = .ok (.invokespecial 54, 3) := by decide +kernel
theorem dX4_income_17 : decode cX4_income 17 = .ok (.athrow, 1) := by decide +kernel
theorem dX4_income_18 : decode cX4_income 18 = .ok (.aload_n 0, 1) := by decide +kernel
theorem dX4_income_19 : decode cX4_income 19 = .ok (.getfield 31, 3) := by decide +kernel
theorem dX4_income_22 : decode cX4_income 22 = .ok (.aload_n 0, 1) := by decide +kernel
theorem dX4_income_23 : decode cX4_income 23 = .ok (.getfield 24, 3) := by decide +kernel
theorem dX4_income_26 : decode cX4_income 26 = .ok (.iload_n 1, 1) := by decide +kernel
theorem dX4_income_27 : decode cX4_income 27 = .ok (.invokevirtual 152, 3) := by decide +kernel
theorem dX4_income_30 : decode cX4_income 30 = .ok (.invokevirtual 155, 3) := by decide +kernel
theorem dX4_income_33 : decode cX4_income 33 = .ok (.istore_n 2, 1) := by decide +kernel
theorem dX4_income_34 : decode cX4_income 34 = .ok (.aload_n 0, 1) := by decide +kernel
theorem dX4_income_35 : decode cX4_income 35 = .ok (.getfield 31, 3) := by decide +kernel
theorem dX4_income_38 : decode cX4_income 38 = .ok (.iload_n 2, 1) := by decide +kernel
theorem dX4_income_39 : decode cX4_income 39 = .ok (.invokevirtual 158, 3) := by decide +kernel
theorem dX4_income_42 : decode cX4_income 42 = .ok (.iload_n 2, 1) := by decide +kernel
theorem dX4_income_43 : decode cX4_income 43 = .ok (.ireturn, 1) := by decide +kernel
theorem dX4_today_0 : decode cX4_today 0 = .ok (.aload_n 0, 1) := by decide +kernel
theorem dX4_today_1 : decode cX4_today 1 = .ok (.getfield 10, 3) := by decide +kernel
theorem dX4_today_4 : decode cX4_today 4 = .ok (.getfield 107, 3) := by decide +kernel
theorem dX4_today_7 : decode cX4_today 7 = .ok (.ireturn, 1) := by decide +kernel
theorem dX4_shot_0 : decode cX4_shot 0 = .ok (.aload_n 0, 1) := by decide +kernel
theorem dX4_shot_1 : decode cX4_shot 1 = .ok (.getfield 20, 3) := by decide +kernel
theorem dX4_shot_4 : decode cX4_shot 4 = .ok (.getfield 161, 3) := by decide +kernel
theorem dX4_shot_7 : decode cX4_shot 7 = .ok (.ireturn, 1) := by decide +kernel
theorem dX4_days_0 : decode cX4_days 0 = .ok (.aload_n 0, 1) := by decide +kernel
theorem dX4_days_1 : decode cX4_days 1 = .ok (.getfield 10, 3) := by decide +kernel
theorem dX4_days_4 : decode cX4_days 4 = .ok (.invokevirtual 89, 3) := by decide +kernel
theorem dX4_days_7 : decode cX4_days 7 = .ok (.aload_n 0, 1) := by decide +kernel
theorem dX4_days_8 : decode cX4_days 8 = .ok (.getfield 10, 3) := by decide +kernel
theorem dX4_days_11 : decode cX4_days 11 = .ok (.getfield 164, 3) := by decide +kernel
theorem dX4_days_14 : decode cX4_days 14 = .ok (.ireturn, 1) := by decide +kernel
theorem dX4_daysByAll_0 : decode cX4_daysByAll 0 = .ok (.aload_n 0, 1) := by decide +kernel
theorem dX4_daysByAll_1 : decode cX4_daysByAll 1 = .ok (.getfield 20, 3) := by decide +kernel
theorem dX4_daysByAll_4 : decode cX4_daysByAll 4 = .ok (.invokevirtual 167, 3) := by decide +kernel
theorem dX4_daysByAll_7 : decode cX4_daysByAll 7 = .ok (.bipush 6, 2) := by decide +kernel
theorem dX4_daysByAll_9 : decode cX4_daysByAll 9 = .ok (.if_icmp .le 11, 3) := by decide +kernel
theorem dX4_daysByAll_12 : decode cX4_daysByAll 12 = .ok (.new 58, 3) := by decide +kernel
theorem dX4_daysByAll_15 : decode cX4_daysByAll 15 = .ok (.dup, 1) := by decide +kernel
theorem dX4_daysByAll_16 : decode cX4_daysByAll 16 = .ok (.invokespecial 60, 3) := by decide +kernel
theorem dX4_daysByAll_19 : decode cX4_daysByAll 19 = .ok (.athrow, 1) := by decide +kernel
theorem dX4_daysByAll_20 : decode cX4_daysByAll 20 = .ok (.aload_n 0, 1) := by decide +kernel
theorem dX4_daysByAll_21 : decode cX4_daysByAll 21 = .ok (.getfield 10, 3) := by decide +kernel
theorem dX4_daysByAll_24 : decode cX4_daysByAll 24 = .ok (.invokevirtual 170, 3) := by decide +kernel
theorem dX4_daysByAll_27 : decode cX4_daysByAll 27 = .ok (.ireturn, 1) := by decide +kernel
theorem dX4_planned_0 : decode cX4_planned 0 = .ok (.iload_n 1, 1) := by decide +kernel
theorem dX4_planned_1 : decode cX4_planned 1 = .ok (.iconst 0, 1) := by decide +kernel
theorem dX4_planned_2 : decode cX4_planned 2 = .ok (.aload_n 0, 1) := by decide +kernel
theorem dX4_planned_3 : decode cX4_planned 3 = .ok (.getfield 20, 3) := by decide +kernel
theorem dX4_planned_6 : decode cX4_planned 6 = .ok (.invokevirtual 167, 3) := by decide +kernel
theorem dX4_planned_9 : decode cX4_planned 9 = .ok (.iconst 1, 1) := by decide +kernel
theorem dX4_planned_10 : decode cX4_planned 10 = .ok (.isub, 1) := by decide +kernel
theorem dX4_planned_11 : decode cX4_planned 11 = .ok (.invokestatic 42, 3) := by decide +kernel
theorem dX4_planned_14 : decode cX4_planned 14 = .ok (.ifCond .ne 11, 3) := by decide +kernel
theorem dX4_planned_17 : decode cX4_planned 17 = .ok (.new 68, 3) := by decide +kernel
theorem dX4_planned_20 : decode cX4_planned 20 = .ok (.dup, 1) := by decide +kernel
theorem dX4_planned_21 : decode cX4_planned 21 = .ok (.invokespecial 70, 3) := by decide +kernel
theorem dX4_planned_24 : decode cX4_planned 24 = .ok (.athrow, 1) := by decide +kernel
theorem dX4_planned_25 : decode cX4_planned 25 = .ok (.aload_n 0, 1) := by decide +kernel
theorem dX4_planned_26 : decode cX4_planned 26 = .ok (.getfield 10, 3) := by decide +kernel
theorem dX4_planned_29 : decode cX4_planned 29 = .ok (.invokevirtual 89, 3) := by decide +kernel
theorem dX4_planned_32 : decode cX4_planned 32 = .ok (.aload_n 0, 1) := by decide +kernel
theorem dX4_planned_33 : decode cX4_planned 33 = .ok (.getfield 10, 3) := by decide +kernel
theorem dX4_planned_36 : decode cX4_planned 36 = .ok (.getfield 173, 3) := by decide +kernel
theorem dX4_planned_39 : decode cX4_planned 39 = .ok (.iload_n 1, 1) := by decide +kernel
theorem dX4_planned_40 : decode cX4_planned 40 = .ok (.invokestatic 131, 3) := by decide +kernel
theorem dX4_planned_43 : decode cX4_planned 43 = .ok (.ireturn, 1) := by decide +kernel
theorem dX4_begins_0 : decode cX4_begins 0 = .ok (.iload_n 1, 1) := by decide +kernel
theorem dX4_begins_1 : decode cX4_begins 1 = .ok (.iconst 0, 1) := by decide +kernel
theorem dX4_begins_2 : decode cX4_begins 2 = .ok (.aload_n 0, 1) := by decide +kernel
theorem dX4_begins_3 : decode cX4_begins 3 = .ok (.getfield 20, 3) := by decide +kernel
theorem dX4_begins_6 : decode cX4_begins 6 = .ok (.getfield 55, 3) := by decide +kernel
theorem dX4_begins_9 : decode cX4_begins 9 = .ok (.iconst 1, 1) := by decide +kernel
theorem dX4_begins_10 : decode cX4_begins 10 = .ok (.isub, 1) := by decide +kernel
theorem dX4_begins_11 : decode cX4_begins 11 = .ok (.invokestatic 42, 3) := by decide +kernel
theorem dX4_begins_14 : decode cX4_begins 14 = .ok (.ifCond .ne 11, 3) := by decide +kernel
theorem dX4_begins_17 : decode cX4_begins 17 = .ok (.new 68, 3) := by decide +kernel
theorem dX4_begins_20 : decode cX4_begins 20 = .ok (.dup, 1) := by decide +kernel
theorem dX4_begins_21 : decode cX4_begins 21 = .ok (.invokespecial 70, 3) := by decide +kernel
theorem dX4_begins_24 : decode cX4_begins 24 = .ok (.athrow, 1) := by decide +kernel
theorem dX4_begins_25 : decode cX4_begins 25 = .ok (.aload_n 0, 1) := by decide +kernel
theorem dX4_begins_26 : decode cX4_begins 26 = .ok (.getfield 10, 3) := by decide +kernel
theorem dX4_begins_29 : decode cX4_begins 29 = .ok (.invokevirtual 89, 3) := by decide +kernel
theorem dX4_begins_32 : decode cX4_begins 32 = .ok (.aload_n 0, 1) := by decide +kernel
theorem dX4_begins_33 : decode cX4_begins 33 = .ok (.getfield 10, 3) := by decide +kernel
theorem dX4_begins_36 : decode cX4_begins 36 = .ok (.getfield 176, 3) := by decide +kernel
theorem dX4_begins_39 : decode cX4_begins 39 = .ok (.iload_n 1, 1) := by decide +kernel
theorem dX4_begins_40 : decode cX4_begins 40 = .ok (.invokestatic 131, 3) := by decide +kernel
theorem dX4_begins_43 : decode cX4_begins 43 = .ok (.ireturn, 1) := by decide +kernel
theorem dX4_left_0 : decode cX4_left 0 = .ok (.iload_n 1, 1) := by decide +kernel
theorem dX4_left_1 : decode cX4_left 1 = .ok (.iconst 0, 1) := by decide +kernel
theorem dX4_left_2 : decode cX4_left 2 = .ok (.iconst 3, 1) := by decide +kernel
theorem dX4_left_3 : decode cX4_left 3 = .ok (.invokestatic 42, 3) := by decide +kernel
theorem dX4_left_6 : decode cX4_left 6 = .ok (.ifCond .ne 11, 3) := by decide +kernel
theorem dX4_left_9 : decode cX4_left 9 = .ok (.new 68, 3) := by decide +kernel
theorem dX4_left_12 : decode cX4_left 12 = .ok (.dup, 1) := by decide +kernel
theorem dX4_left_13 : decode cX4_left 13 = .ok (.invokespecial 70, 3) := by decide +kernel
theorem dX4_left_16 : decode cX4_left 16 = .ok (.athrow, 1) := by decide +kernel
theorem dX4_left_17 : decode cX4_left 17 = .ok (.aload_n 0, 1) := by decide +kernel
theorem dX4_left_18 : decode cX4_left 18 = .ok (.getfield 24, 3) := by decide +kernel
theorem dX4_left_21 : decode cX4_left 21 = .ok (.getfield 123, 3) := by decide +kernel
theorem dX4_left_24 : decode cX4_left 24 = .ok (.iload_n 1, 1) := by decide +kernel
theorem dX4_left_25 : decode cX4_left 25 = .ok (.invokestatic 131, 3) := by decide +kernel
theorem dX4_left_28 : decode cX4_left 28 = .ok (.ireturn, 1) := by decide +kernel
theorem dX4_fee_0 : decode cX4_fee 0 = .ok (.aload_n 0, 1) := by decide +kernel
theorem dX4_fee_1 : decode cX4_fee 1 = .ok (.getfield 24, 3) := by decide +kernel
theorem dX4_fee_4 : decode cX4_fee 4 = .ok (.getfield 104, 3) := by decide +kernel
theorem dX4_fee_7 : decode cX4_fee 7 = .ok (.ireturn, 1) := by decide +kernel
theorem dX4_costs_0 : decode cX4_costs 0 = .ok (.aload_n 0, 1) := by decide +kernel
theorem dX4_costs_1 : decode cX4_costs 1 = .ok (.getfield 24, 3) := by decide +kernel
theorem dX4_costs_4 : decode cX4_costs 4 = .ok (.getfield 179, 3) := by decide +kernel
theorem dX4_costs_7 : decode cX4_costs 7 = .ok (.ireturn, 1) := by decide +kernel
theorem dX4_open_0 : decode cX4_open 0 = .ok (.aload_n 0, 1) := by decide +kernel
theorem dX4_open_1 : decode cX4_open 1 = .ok (.getfield 24, 3) := by decide +kernel
theorem dX4_open_4 : decode cX4_open 4 = .ok (.getfield 182, 3) := by decide +kernel
theorem dX4_open_7 : decode cX4_open 7 = .ok (.ireturn, 1) := by decide +kernel
theorem dX4_openOf_0 : decode cX4_openOf 0 = .ok (.iload_n 1, 1) := by decide +kernel
theorem dX4_openOf_1 : decode cX4_openOf 1 = .ok (.iconst 0, 1) := by decide +kernel
theorem dX4_openOf_2 : decode cX4_openOf 2 = .ok (.aload_n 0, 1) := by decide +kernel
theorem dX4_openOf_3 : decode cX4_openOf 3 = .ok (.getfield 31, 3) := by decide +kernel
theorem dX4_openOf_6 : decode cX4_openOf 6 = .ok (.getfield 135, 3) := by decide +kernel
theorem dX4_openOf_9 : decode cX4_openOf 9 = .ok (.iconst 1, 1) := by decide +kernel
theorem dX4_openOf_10 : decode cX4_openOf 10 = .ok (.isub, 1) := by decide +kernel
theorem dX4_openOf_11 : decode cX4_openOf 11 = .ok (.invokestatic 42, 3) := by decide +kernel
theorem dX4_openOf_14 : decode cX4_openOf 14 = .ok (.ifCond .ne 11, 3) := by decide +kernel
theorem dX4_openOf_17 : decode cX4_openOf 17 = .ok (.new 68, 3) := by decide +kernel
theorem dX4_openOf_20 : decode cX4_openOf 20 = .ok (.dup, 1) := by decide +kernel
theorem dX4_openOf_21 : decode cX4_openOf 21 = .ok (.invokespecial 70, 3) := by decide +kernel
theorem dX4_openOf_24 : decode cX4_openOf 24 = .ok (.athrow, 1) := by decide +kernel
theorem dX4_openOf_25 : decode cX4_openOf 25 = .ok (.aload_n 0, 1) := by decide +kernel
theorem dX4_openOf_26 : decode cX4_openOf 26 = .ok (.getfield 31, 3) := by decide +kernel
theorem dX4_openOf_29 : decode cX4_openOf 29 = .ok (.getfield 185, 3) := by decide +kernel
theorem dX4_openOf_32 : decode cX4_openOf 32 = .ok (.iload_n 1, 1) := by decide +kernel
theorem dX4_openOf_33 : decode cX4_openOf 33 = .ok (.invokestatic 131, 3) := by decide +kernel
theorem dX4_openOf_36 : decode cX4_openOf 36 = .ok (.ireturn, 1) := by decide +kernel
theorem dX4_got_0 : decode cX4_got 0 = .ok (.iload_n 1, 1) := by decide +kernel
theorem dX4_got_1 : decode cX4_got 1 = .ok (.iconst 0, 1) := by decide +kernel
theorem dX4_got_2 : decode cX4_got 2 = .ok (.iconst 5, 1) := by decide +kernel
theorem dX4_got_3 : decode cX4_got 3 = .ok (.invokestatic 42, 3) := by decide +kernel
theorem dX4_got_6 : decode cX4_got 6 = .ok (.ifCond .ne 11, 3) := by decide +kernel
theorem dX4_got_9 : decode cX4_got 9 = .ok (.new 68, 3) := by decide +kernel
theorem dX4_got_12 : decode cX4_got 12 = .ok (.dup, 1) := by decide +kernel
theorem dX4_got_13 : decode cX4_got 13 = .ok (.invokespecial 70, 3) := by decide +kernel
theorem dX4_got_16 : decode cX4_got 16 = .ok (.athrow, 1) := by decide +kernel
theorem dX4_got_17 : decode cX4_got 17 = .ok (.aload_n 0, 1) := by decide +kernel
theorem dX4_got_18 : decode cX4_got 18 = .ok (.getfield 31, 3) := by decide +kernel
theorem dX4_got_21 : decode cX4_got 21 = .ok (.getfield 188, 3) := by decide +kernel
theorem dX4_got_24 : decode cX4_got 24 = .ok (.iload_n 1, 1) := by decide +kernel
theorem dX4_got_25 : decode cX4_got 25 = .ok (.invokestatic 131, 3) := by decide +kernel
theorem dX4_got_28 : decode cX4_got 28 = .ok (.ireturn, 1) := by decide +kernel
theorem dX4_house_0 : decode cX4_house 0 = .ok (.aload_n 0, 1) := by decide +kernel
theorem dX4_house_1 : decode cX4_house 1 = .ok (.getfield 31, 3) := by decide +kernel
theorem dX4_house_4 : decode cX4_house 4 = .ok (.getfield 191, 3) := by decide +kernel
theorem dX4_house_7 : decode cX4_house 7 = .ok (.ireturn, 1) := by decide +kernel
theorem dX4_isWithin_0 : decode cX4_isWithin 0 = .ok (.iload_n 0, 1) := by decide +kernel
theorem dX4_isWithin_1 : decode cX4_isWithin 1 = .ok (.iload_n 1, 1) := by decide +kernel
theorem dX4_isWithin_2 : decode cX4_isWithin 2 = .ok (.if_icmp .lt 12, 3) := by decide +kernel
theorem dX4_isWithin_5 : decode cX4_isWithin 5 = .ok (.iload_n 0, 1) := by decide +kernel
theorem dX4_isWithin_6 : decode cX4_isWithin 6 = .ok (.iload_n 2, 1) := by decide +kernel
theorem dX4_isWithin_7 : decode cX4_isWithin 7 = .ok (.if_icmp .gt 7, 3) := by decide +kernel
theorem dX4_isWithin_10 : decode cX4_isWithin 10 = .ok (.iconst 1, 1) := by decide +kernel
theorem dX4_isWithin_11 : decode cX4_isWithin 11 = .ok (.goto 4, 3) := by decide +kernel
theorem dX4_isWithin_14 : decode cX4_isWithin 14 = .ok (.iconst 0, 1) := by decide +kernel
theorem dX4_isWithin_15 : decode cX4_isWithin 15 = .ok (.ireturn, 1) := by decide +kernel
theorem dX4_at_0 : decode cX4_at 0 = .ok (.iload_n 1, 1) := by decide +kernel
theorem dX4_at_1 : decode cX4_at 1 = .ok (.ifCond .lt 15, 3) := by decide +kernel
theorem dX4_at_4 : decode cX4_at 4 = .ok (.iload_n 1, 1) := by decide +kernel
theorem dX4_at_5 : decode cX4_at 5 = .ok (.aload_n 0, 1) := by decide +kernel
theorem dX4_at_6 : decode cX4_at 6 = .ok (.arraylength, 1) := by decide +kernel
theorem dX4_at_7 : decode cX4_at 7 = .ok (.if_icmp .ge 9, 3) := by decide +kernel
theorem dX4_at_10 : decode cX4_at 10 = .ok (.aload_n 0, 1) := by decide +kernel
theorem dX4_at_11 : decode cX4_at 11 = .ok (.iload_n 1, 1) := by decide +kernel
theorem dX4_at_12 : decode cX4_at 12 = .ok (.iaload, 1) := by decide +kernel
theorem dX4_at_13 : decode cX4_at 13 = .ok (.goto 4, 3) := by decide +kernel
theorem dX4_at_16 : decode cX4_at 16 = .ok (.iconst 0, 1) := by decide +kernel
theorem dX4_at_17 : decode cX4_at 17 = .ok (.ireturn, 1) := by decide +kernel
theorem dX4_put_0 : decode cX4_put 0 = .ok (.iload_n 1, 1) := by decide +kernel
theorem dX4_put_1 : decode cX4_put 1 = .ok (.ifCond .lt 13, 3) := by decide +kernel
theorem dX4_put_4 : decode cX4_put 4 = .ok (.iload_n 1, 1) := by decide +kernel
theorem dX4_put_5 : decode cX4_put 5 = .ok (.aload_n 0, 1) := by decide +kernel
theorem dX4_put_6 : decode cX4_put 6 = .ok (.arraylength, 1) := by decide +kernel
theorem dX4_put_7 : decode cX4_put 7 = .ok (.if_icmp .ge 7, 3) := by decide +kernel
theorem dX4_put_10 : decode cX4_put 10 = .ok (.aload_n 0, 1) := by decide +kernel
theorem dX4_put_11 : decode cX4_put 11 = .ok (.iload_n 1, 1) := by decide +kernel
theorem dX4_put_12 : decode cX4_put 12 = .ok (.iload_n 2, 1) := by decide +kernel
theorem dX4_put_13 : decode cX4_put 13 = .ok (.iastore, 1) := by decide +kernel
theorem dX4_put_14 : decode cX4_put 14 = .ok (.return_, 1) := by decide +kernel
theorem dX4_add_0 : decode cX4_add 0 = .ok (.aload_n 0, 1) := by decide +kernel
theorem dX4_add_1 : decode cX4_add 1 = .ok (.iload_n 1, 1) := by decide +kernel
theorem dX4_add_2 : decode cX4_add 2 = .ok (.aload_n 0, 1) := by decide +kernel
theorem dX4_add_3 : decode cX4_add 3 = .ok (.iload_n 1, 1) := by decide +kernel
theorem dX4_add_4 : decode cX4_add 4 = .ok (.invokestatic 131, 3) := by decide +kernel
theorem dX4_add_7 : decode cX4_add 7 = .ok (.iload_n 2, 1) := by decide +kernel
theorem dX4_add_8 : decode cX4_add 8 = .ok (.iadd, 1) := by decide +kernel
theorem dX4_add_9 : decode cX4_add 9 = .ok (.invokestatic 194, 3) := by decide +kernel
theorem dX4_add_12 : decode cX4_add 12 = .ok (.return_, 1) := by decide +kernel
theorem dX4_isIn_0 : decode cX4_isIn 0 = .ok (.iload_n 0, 1) := by decide +kernel
theorem dX4_isIn_1 : decode cX4_isIn 1 = .ok (.iload_n 1, 1) := by decide +kernel
theorem dX4_isIn_2 : decode cX4_isIn 2 = .ok (.ishr, 1) := by decide +kernel
theorem dX4_isIn_3 : decode cX4_isIn 3 = .ok (.iconst 1, 1) := by decide +kernel
theorem dX4_isIn_4 : decode cX4_isIn 4 = .ok (.iand, 1) := by decide +kernel
theorem dX4_isIn_5 : decode cX4_isIn 5 = .ok (.ifCond .eq 7, 3) := by decide +kernel
theorem dX4_isIn_8 : decode cX4_isIn 8 = .ok (.iconst 1, 1) := by decide +kernel
theorem dX4_isIn_9 : decode cX4_isIn 9 = .ok (.goto 4, 3) := by decide +kernel
theorem dX4_isIn_12 : decode cX4_isIn 12 = .ok (.iconst 0, 1) := by decide +kernel
theorem dX4_isIn_13 : decode cX4_isIn 13 = .ok (.ireturn, 1) := by decide +kernel
theorem dX4_with_0 : decode cX4_with 0 = .ok (.iload_n 2, 1) := by decide +kernel
theorem dX4_with_1 : decode cX4_with 1 = .ok (.ifCond .eq 11, 3) := by decide +kernel
theorem dX4_with_4 : decode cX4_with 4 = .ok (.iload_n 0, 1) := by decide +kernel
theorem dX4_with_5 : decode cX4_with 5 = .ok (.iconst 1, 1) := by decide +kernel
theorem dX4_with_6 : decode cX4_with 6 = .ok (.iload_n 1, 1) := by decide +kernel
theorem dX4_with_7 : decode cX4_with 7 = .ok (.ishl, 1) := by decide +kernel
theorem dX4_with_8 : decode cX4_with 8 = .ok (.ior, 1) := by decide +kernel
theorem dX4_with_9 : decode cX4_with 9 = .ok (.goto 10, 3) := by decide +kernel
theorem dX4_with_12 : decode cX4_with 12 = .ok (.iload_n 0, 1) := by decide +kernel
theorem dX4_with_13 : decode cX4_with 13 = .ok (.iconst 1, 1) := by decide +kernel
theorem dX4_with_14 : decode cX4_with 14 = .ok (.iload_n 1, 1) := by decide +kernel
theorem dX4_with_15 : decode cX4_with 15 = .ok (.ishl, 1) := by decide +kernel
theorem dX4_with_16 : decode cX4_with 16 = .ok (.iconst (-1), 1) := by decide +kernel
theorem dX4_with_17 : decode cX4_with 17 = .ok (.ixor, 1) := by decide +kernel
theorem dX4_with_18 : decode cX4_with 18 = .ok (.iand, 1) := by decide +kernel
theorem dX4_with_19 : decode cX4_with 19 = .ok (.ireturn, 1) := by decide +kernel
theorem dJ6_bitCount_0f7a4_0 : decode cJ6_bitCount_0f7a4 0 = .ok (.iload_n 0, 1) := by decide +kernel
theorem dJ6_bitCount_0f7a4_1 : decode cJ6_bitCount_0f7a4 1 = .ok (.iload_n 0, 1) := by decide +kernel
theorem dJ6_bitCount_0f7a4_2 : decode cJ6_bitCount_0f7a4 2 = .ok (.iconst 1, 1) := by decide +kernel
theorem dJ6_bitCount_0f7a4_3 : decode cJ6_bitCount_0f7a4 3 = .ok (.iushr, 1) := by decide +kernel
theorem dJ6_bitCount_0f7a4_4 : decode cJ6_bitCount_0f7a4 4 = .ok (.ldc_w 265, 3) := by decide +kernel
theorem dJ6_bitCount_0f7a4_7 : decode cJ6_bitCount_0f7a4 7 = .ok (.iand, 1) := by decide +kernel
theorem dJ6_bitCount_0f7a4_8 : decode cJ6_bitCount_0f7a4 8 = .ok (.isub, 1) := by decide +kernel
theorem dJ6_bitCount_0f7a4_9 : decode cJ6_bitCount_0f7a4 9 = .ok (.istore_n 0, 1) := by decide +kernel
theorem dJ6_bitCount_0f7a4_10 : decode cJ6_bitCount_0f7a4 10 = .ok (.iload_n 0, 1) := by decide +kernel
theorem dJ6_bitCount_0f7a4_11 : decode cJ6_bitCount_0f7a4 11 = .ok (.ldc_w 266, 3) := by decide +kernel
theorem dJ6_bitCount_0f7a4_14 : decode cJ6_bitCount_0f7a4 14 = .ok (.iand, 1) := by decide +kernel
theorem dJ6_bitCount_0f7a4_15 : decode cJ6_bitCount_0f7a4 15 = .ok (.iload_n 0, 1) := by decide +kernel
theorem dJ6_bitCount_0f7a4_16 : decode cJ6_bitCount_0f7a4 16 = .ok (.iconst 2, 1) := by decide +kernel
theorem dJ6_bitCount_0f7a4_17 : decode cJ6_bitCount_0f7a4 17 = .ok (.iushr, 1) := by decide +kernel
theorem dJ6_bitCount_0f7a4_18 : decode cJ6_bitCount_0f7a4 18 = .ok (.ldc_w 266, 3) := by decide +kernel
theorem dJ6_bitCount_0f7a4_21 : decode cJ6_bitCount_0f7a4 21 = .ok (.iand, 1) := by decide +kernel
theorem dJ6_bitCount_0f7a4_22 : decode cJ6_bitCount_0f7a4 22 = .ok (.iadd, 1) := by decide +kernel
theorem dJ6_bitCount_0f7a4_23 : decode cJ6_bitCount_0f7a4 23 = .ok (.istore_n 0, 1) := by decide +kernel
theorem dJ6_bitCount_0f7a4_24 : decode cJ6_bitCount_0f7a4 24 = .ok (.iload_n 0, 1) := by decide +kernel
theorem dJ6_bitCount_0f7a4_25 : decode cJ6_bitCount_0f7a4 25 = .ok (.iload_n 0, 1) := by decide +kernel
theorem dJ6_bitCount_0f7a4_26 : decode cJ6_bitCount_0f7a4 26 = .ok (.iconst 4, 1) := by decide +kernel
theorem dJ6_bitCount_0f7a4_27 : decode cJ6_bitCount_0f7a4 27 = .ok (.iushr, 1) := by decide +kernel
theorem dJ6_bitCount_0f7a4_28 : decode cJ6_bitCount_0f7a4 28 = .ok (.iadd, 1) := by decide +kernel
theorem dJ6_bitCount_0f7a4_29 : decode cJ6_bitCount_0f7a4 29 = .ok (.ldc_w 267, 3) := by decide +kernel
theorem dJ6_bitCount_0f7a4_32 : decode cJ6_bitCount_0f7a4 32 = .ok (.iand, 1) := by decide +kernel
theorem dJ6_bitCount_0f7a4_33 : decode cJ6_bitCount_0f7a4 33 = .ok (.istore_n 0, 1) := by decide +kernel
theorem dJ6_bitCount_0f7a4_34 : decode cJ6_bitCount_0f7a4 34 = .ok (.iload_n 0, 1) := by decide +kernel
theorem dJ6_bitCount_0f7a4_35 : decode cJ6_bitCount_0f7a4 35 = .ok (.iload_n 0, 1) := by decide +kernel
theorem dJ6_bitCount_0f7a4_36 : decode cJ6_bitCount_0f7a4 36 = .ok (.bipush 8, 2) := by decide +kernel
theorem dJ6_bitCount_0f7a4_38 : decode cJ6_bitCount_0f7a4 38 = .ok (.iushr, 1) := by decide +kernel
theorem dJ6_bitCount_0f7a4_39 : decode cJ6_bitCount_0f7a4 39 = .ok (.iadd, 1) := by decide +kernel
theorem dJ6_bitCount_0f7a4_40 : decode cJ6_bitCount_0f7a4 40 = .ok (.istore_n 0, 1) := by decide +kernel
theorem dJ6_bitCount_0f7a4_41 : decode cJ6_bitCount_0f7a4 41 = .ok (.iload_n 0, 1) := by decide +kernel
theorem dJ6_bitCount_0f7a4_42 : decode cJ6_bitCount_0f7a4 42 = .ok (.iload_n 0, 1) := by decide +kernel
theorem dJ6_bitCount_0f7a4_43 : decode cJ6_bitCount_0f7a4 43 = .ok (.bipush 16, 2) := by decide +kernel
theorem dJ6_bitCount_0f7a4_45 : decode cJ6_bitCount_0f7a4 45 = .ok (.iushr, 1) := by decide +kernel
theorem dJ6_bitCount_0f7a4_46 : decode cJ6_bitCount_0f7a4 46 = .ok (.iadd, 1) := by decide +kernel
theorem dJ6_bitCount_0f7a4_47 : decode cJ6_bitCount_0f7a4 47 = .ok (.istore_n 0, 1) := by decide +kernel
theorem dJ6_bitCount_0f7a4_48 : decode cJ6_bitCount_0f7a4 48 = .ok (.iload_n 0, 1) := by decide +kernel
theorem dJ6_bitCount_0f7a4_49 : decode cJ6_bitCount_0f7a4 49 = .ok (.bipush 63, 2) := by decide +kernel
theorem dJ6_bitCount_0f7a4_51 : decode cJ6_bitCount_0f7a4 51 = .ok (.iand, 1) := by decide +kernel
theorem dJ6_bitCount_0f7a4_52 : decode cJ6_bitCount_0f7a4 52 = .ok (.ireturn, 1) := by decide +kernel
theorem dJ9_max_7cf53_0 : decode cJ9_max_7cf53 0 = .ok (.iload_n 0, 1) := by decide +kernel
theorem dJ9_max_7cf53_1 : decode cJ9_max_7cf53 1 = .ok (.iload_n 1, 1) := by decide +kernel
theorem dJ9_max_7cf53_2 : decode cJ9_max_7cf53 2 = .ok (.if_icmp .lt 7, 3) := by decide +kernel
theorem dJ9_max_7cf53_5 : decode cJ9_max_7cf53 5 = .ok (.iload_n 0, 1) := by decide +kernel
theorem dJ9_max_7cf53_6 : decode cJ9_max_7cf53 6 = .ok (.goto 4, 3) := by decide +kernel
theorem dJ9_max_7cf53_9 : decode cJ9_max_7cf53 9 = .ok (.iload_n 1, 1) := by decide +kernel
theorem dJ9_max_7cf53_10 : decode cJ9_max_7cf53 10 = .ok (.ireturn, 1) := by decide +kernel
theorem dJ9_min_7cf53_0 : decode cJ9_min_7cf53 0 = .ok (.iload_n 0, 1) := by decide +kernel
theorem dJ9_min_7cf53_1 : decode cJ9_min_7cf53 1 = .ok (.iload_n 1, 1) := by decide +kernel
theorem dJ9_min_7cf53_2 : decode cJ9_min_7cf53 2 = .ok (.if_icmp .gt 7, 3) := by decide +kernel
theorem dJ9_min_7cf53_5 : decode cJ9_min_7cf53 5 = .ok (.iload_n 0, 1) := by decide +kernel
theorem dJ9_min_7cf53_6 : decode cJ9_min_7cf53 6 = .ok (.goto 4, 3) := by decide +kernel
theorem dJ9_min_7cf53_9 : decode cJ9_min_7cf53 9 = .ok (.iload_n 1, 1) := by decide +kernel
theorem dJ9_min_7cf53_10 : decode cJ9_min_7cf53 10 = .ok (.ireturn, 1) := by decide +kernel
end
section
theorem dX5_init_0 : decode cX5_init 0 = .ok (.aload_n 0, 1) := by decide +kernel
theorem dX5_init_1 : decode cX5_init 1 = .ok (.invokespecial 1, 3) := by decide +kernel
theorem dX5_init_4 : decode cX5_init 4 = .ok (.aload_n 0, 1) := by decide +kernel
theorem dX5_init_5 : decode cX5_init 5 = .ok (.bipush 8, 2) := by decide +kernel
theorem dX5_init_7 : decode cX5_init 7 = .ok (.newarray .int, 2) := by decide +kernel
theorem dX5_init_9 : decode cX5_init 9 = .ok (.putfield 7, 3) := by decide +kernel
theorem dX5_init_12 : decode cX5_init 12 = .ok (.aload_n 0, 1) := by decide +kernel
theorem dX5_init_13 : decode cX5_init 13 = .ok (.bipush 8, 2) := by decide +kernel
theorem dX5_init_15 : decode cX5_init 15 = .ok (.newarray .int, 2) := by decide +kernel
theorem dX5_init_17 : decode cX5_init 17 = .ok (.putfield 13, 3) := by decide +kernel
theorem dX5_init_20 : decode cX5_init 20 = .ok (.aload_n 0, 1) := by decide +kernel
theorem dX5_init_21 : decode cX5_init 21 = .ok (.bipush 8, 2) := by decide +kernel
theorem dX5_init_23 : decode cX5_init 23 = .ok (.newarray .int, 2) := by decide +kernel
theorem dX5_init_25 : decode cX5_init 25 = .ok (.putfield 16, 3) := by decide +kernel
theorem dX5_init_28 : decode cX5_init 28 = .ok (.aload_n 0, 1) := by decide +kernel
theorem dX5_init_29 : decode cX5_init 29 = .ok (.bipush 8, 2) := by decide +kernel
theorem dX5_init_31 : decode cX5_init 31 = .ok (.newarray .int, 2) := by decide +kernel
theorem dX5_init_33 : decode cX5_init 33 = .ok (.putfield 19, 3) := by decide +kernel
theorem dX5_init_36 : decode cX5_init 36 = .ok (.aload_n 0, 1) := by decide +kernel
theorem dX5_init_37 : decode cX5_init 37 = .ok (.bipush 8, 2) := by decide +kernel
theorem dX5_init_39 : decode cX5_init 39 = .ok (.newarray .int, 2) := by decide +kernel
theorem dX5_init_41 : decode cX5_init 41 = .ok (.putfield 22, 3) := by decide +kernel
theorem dX5_init_44 : decode cX5_init 44 = .ok (.aload_n 0, 1) := by decide +kernel
theorem dX5_init_45 : decode cX5_init 45 = .ok (.bipush 8, 2) := by decide +kernel
theorem dX5_init_47 : decode cX5_init 47 = .ok (.newarray .int, 2) := by decide +kernel
theorem dX5_init_49 : decode cX5_init 49 = .ok (.putfield 25, 3) := by decide +kernel
theorem dX5_init_52 : decode cX5_init 52 = .ok (.aload_n 0, 1) := by decide +kernel
theorem dX5_init_53 : decode cX5_init 53 = .ok (.bipush 100, 2) := by decide +kernel
theorem dX5_init_55 : decode cX5_init 55 = .ok (.putfield 28, 3) := by decide +kernel
theorem dX5_init_58 : decode cX5_init 58 = .ok (.aload_n 0, 1) := by decide +kernel
theorem dX5_init_59 : decode cX5_init 59 = .ok (.bipush 50, 2) := by decide +kernel
theorem dX5_init_61 : decode cX5_init 61 = .ok (.putfield 32, 3) := by decide +kernel
theorem dX5_init_64 : decode cX5_init 64 = .ok (.aload_n 0, 1) := by decide +kernel
theorem dX5_init_65 : decode cX5_init 65 = .ok (.bipush 8, 2) := by decide +kernel
theorem dX5_init_67 : decode cX5_init 67 = .ok (.newarray .int, 2) := by decide +kernel
theorem dX5_init_69 : decode cX5_init 69 = .ok (.putfield 35, 3) := by decide +kernel
theorem dX5_init_72 : decode cX5_init 72 = .ok (.aload_n 0, 1) := by decide +kernel
theorem dX5_init_73 : decode cX5_init 73 = .ok (.bipush 8, 2) := by decide +kernel
theorem dX5_init_75 : decode cX5_init 75 = .ok (.newarray .int, 2) := by decide +kernel
theorem dX5_init_77 : decode cX5_init 77 = .ok (.putfield 38, 3) := by decide +kernel
theorem dX5_init_80 : decode cX5_init 80 = .ok (.aload_n 0, 1) := by decide +kernel
theorem dX5_init_81 : decode cX5_init 81 = .ok (.bipush 9, 2) := by decide +kernel
theorem dX5_init_83 : decode cX5_init 83 = .ok (.newarray .int, 2) := by decide +kernel
theorem dX5_init_85 : decode cX5_init 85 = .ok (.putfield 41, 3) := by decide +kernel
theorem dX5_init_88 : decode cX5_init 88 = .ok (.aload_n 0, 1) := by decide +kernel
theorem dX5_init_89 : decode cX5_init 89 = .ok (.bipush 9, 2) := by decide +kernel
theorem dX5_init_91 : decode cX5_init 91 = .ok (.newarray .int, 2) := by decide +kernel
theorem dX5_init_93 : decode cX5_init 93 = .ok (.putfield 44, 3) := by decide +kernel
theorem dX5_init_96 : decode cX5_init 96 = .ok (.aload_n 0, 1) := by decide +kernel
theorem dX5_init_97 : decode cX5_init 97 = .ok (.iconst 4, 1) := by decide +kernel
theorem dX5_init_98 : decode cX5_init 98 = .ok (.newarray .int, 2) := by decide +kernel
theorem dX5_init_100 : decode cX5_init 100 = .ok (.putfield 47, 3) := by decide +kernel
theorem dX5_init_103 : decode cX5_init 103 = .ok (.aload_n 0, 1) := by decide +kernel
theorem dX5_init_104 : decode cX5_init 104 = .ok (.bipush 10, 2) := by decide +kernel
theorem dX5_init_106 : decode cX5_init 106 = .ok (.newarray .int, 2) := by decide +kernel
theorem dX5_init_108 : decode cX5_init 108 = .ok (.putfield 50, 3) := by decide +kernel
theorem dX5_init_111 : decode cX5_init 111 = .ok (.aload_n 0, 1) := by decide +kernel
theorem dX5_init_112 : decode cX5_init 112 = .ok (.bipush 10, 2) := by decide +kernel
theorem dX5_init_114 : decode cX5_init 114 = .ok (.newarray .int, 2) := by decide +kernel
theorem dX5_init_116 : decode cX5_init 116 = .ok (.putfield 53, 3) := by decide +kernel
theorem dX5_init_119 : decode cX5_init 119 = .ok (.aload_n 0, 1) := by decide +kernel
theorem dX5_init_120 : decode cX5_init 120 = .ok (.bipush 12, 2) := by decide +kernel
theorem dX5_init_122 : decode cX5_init 122 = .ok (.newarray .int, 2) := by decide +kernel
theorem dX5_init_124 : decode cX5_init 124 = .ok (.putfield 56, 3) := by decide +kernel
theorem dX5_init_127 : decode cX5_init 127 = .ok (.aload_n 0, 1) := by decide +kernel
theorem dX5_init_128 : decode cX5_init 128 = .ok (.bipush 12, 2) := by decide +kernel
theorem dX5_init_130 : decode cX5_init 130 = .ok (.newarray .int, 2) := by decide +kernel
theorem dX5_init_132 : decode cX5_init 132 = .ok (.putfield 59, 3) := by decide +kernel
theorem dX5_init_135 : decode cX5_init 135 = .ok (.aload_n 0, 1) := by decide +kernel
theorem dX5_init_136 : decode cX5_init 136 = .ok (.bipush 12, 2) := by decide +kernel
theorem dX5_init_138 : decode cX5_init 138 = .ok (.newarray .int, 2) := by decide +kernel
theorem dX5_init_140 : decode cX5_init 140 = .ok (.putfield 62, 3) := by decide +kernel
theorem dX5_init_143 : decode cX5_init 143 = .ok (.aload_n 0, 1) := by decide +kernel
theorem dX5_init_144 : decode cX5_init 144 = .ok (.bipush 12, 2) := by decide +kernel
theorem dX5_init_146 : decode cX5_init 146 = .ok (.newarray .int, 2) := by decide +kernel
theorem dX5_init_148 : decode cX5_init 148 = .ok (.putfield 65, 3) := by decide +kernel
theorem dX5_init_151 : decode cX5_init 151 = .ok (.aload_n 0, 1) := by decide +kernel
theorem dX5_init_152 : decode cX5_init 152 = .ok (.bipush 6, 2) := by decide +kernel
theorem dX5_init_154 : decode cX5_init 154 = .ok (.newarray .int, 2) := by decide +kernel
theorem dX5_init_156 : decode cX5_init 156 = .ok (.putfield 68, 3) := by decide +kernel
theorem dX5_init_159 : decode cX5_init 159 = .ok (.return_, 1) := by decide +kernel
theorem dX5_thrown_0 : decode cX5_thrown 0 = .ok (.aload_n 0, 1) := by decide +kernel
theorem dX5_thrown_1 : decode cX5_thrown 1 = .ok (.getfield 71, 3) := by decide +kernel
theorem dX5_thrown_4 : decode cX5_thrown 4 = .ok (.ireturn, 1) := by decide +kernel
theorem dX5_isIn_0 : decode cX5_isIn 0 = .ok (.iload_n 0, 1) := by decide +kernel
theorem dX5_isIn_1 : decode cX5_isIn 1 = .ok (.iload_n 1, 1) := by decide +kernel
theorem dX5_isIn_2 : decode cX5_isIn 2 = .ok (.if_icmp .lt 12, 3) := by decide +kernel
theorem dX5_isIn_5 : decode cX5_isIn 5 = .ok (.iload_n 0, 1) := by decide +kernel
theorem dX5_isIn_6 : decode cX5_isIn 6 = .ok (.iload_n 2, 1) := by decide +kernel
theorem dX5_isIn_7 : decode cX5_isIn 7 = .ok (.if_icmp .gt 7, 3) := by decide +kernel
theorem dX5_isIn_10 : decode cX5_isIn 10 = .ok (.iconst 1, 1) := by decide +kernel
theorem dX5_isIn_11 : decode cX5_isIn 11 = .ok (.goto 4, 3) := by decide +kernel
theorem dX5_isIn_14 : decode cX5_isIn 14 = .ok (.iconst 0, 1) := by decide +kernel
theorem dX5_isIn_15 : decode cX5_isIn 15 = .ok (.ireturn, 1) := by decide +kernel
theorem dX5_isIn4_0 : decode cX5_isIn4 0 = .ok (.iload_n 0, 1) := by decide +kernel
theorem dX5_isIn4_1 : decode cX5_isIn4 1 = .ok (.iconst 0, 1) := by decide +kernel
theorem dX5_isIn4_2 : decode cX5_isIn4 2 = .ok (.iconst 3, 1) := by decide +kernel
theorem dX5_isIn4_3 : decode cX5_isIn4 3 = .ok (.invokestatic 74, 3) := by decide +kernel
theorem dX5_isIn4_6 : decode cX5_isIn4 6 = .ok (.ireturn, 1) := by decide +kernel
theorem dX5_isPerson_0 : decode cX5_isPerson 0 = .ok (.iload_n 0, 1) := by decide +kernel
theorem dX5_isPerson_1 : decode cX5_isPerson 1 = .ok (.iconst 0, 1) := by decide +kernel
theorem dX5_isPerson_2 : decode cX5_isPerson 2 = .ok (.iconst 5, 1) := by decide +kernel
theorem dX5_isPerson_3 : decode cX5_isPerson 3 = .ok (.invokestatic 74, 3) := by decide +kernel
theorem dX5_isPerson_6 : decode cX5_isPerson 6 = .ok (.ireturn, 1) := by decide +kernel
theorem dX5_rested_0 : decode cX5_rested 0 = .ok (.iconst 0, 1) := by decide +kernel
theorem dX5_rested_1 : decode cX5_rested 1 = .ok (.istore 4, 2) := by decide +kernel
theorem dX5_rested_3 : decode cX5_rested 3 = .ok (.iconst 0, 1) := by decide +kernel
theorem dX5_rested_4 : decode cX5_rested 4 = .ok (.istore 5, 2) := by decide +kernel
theorem dX5_rested_6 : decode cX5_rested 6 = .ok (.iload 5, 2) := by decide +kernel
theorem dX5_rested_8 : decode cX5_rested 8 = .ok (.aload_n 0, 1) := by decide +kernel
theorem dX5_rested_9 : decode cX5_rested 9 = .ok (.getfield 78, 3) := by decide +kernel
theorem dX5_rested_12 : decode cX5_rested 12 = .ok (.iload_n 3, 1) := by decide +kernel
theorem dX5_rested_13 : decode cX5_rested 13 = .ok (.iadd, 1) := by decide +kernel
theorem dX5_rested_14 : decode cX5_rested 14 = .ok (.if_icmp .ge 180, 3) := by decide +kernel
theorem dX5_rested_17 : decode cX5_rested 17 = .ok (.iload 5, 2) := by decide +kernel
theorem dX5_rested_19 : decode cX5_rested 19 = .ok (.aload_n 0, 1) := by decide +kernel
theorem dX5_rested_20 : decode cX5_rested 20 = .ok (.getfield 78, 3) := by decide +kernel
theorem dX5_rested_23 : decode cX5_rested 23 = .ok (.if_icmp .ge 8, 3) := by decide +kernel
theorem dX5_rested_26 : decode cX5_rested 26 = .ok (.iload 5, 2) := by decide +kernel
theorem dX5_rested_28 : decode cX5_rested 28 = .ok (.goto 15, 3) := by decide +kernel
theorem dX5_rested_31 : decode cX5_rested 31 = .ok (.aload_n 0, 1) := by decide +kernel
theorem dX5_rested_32 : decode cX5_rested 32 = .ok (.getfield 41, 3) := by decide +kernel
theorem dX5_rested_35 : decode cX5_rested 35 = .ok (.iload 5, 2) := by decide +kernel
theorem dX5_rested_37 : decode cX5_rested 37 = .ok (.aload_n 0, 1) := by decide +kernel
theorem dX5_rested_38 : decode cX5_rested 38 = .ok (.getfield 78, 3) := by decide +kernel
theorem dX5_rested_41 : decode cX5_rested 41 = .ok (.isub, 1) := by decide +kernel
theorem dX5_rested_42 : decode cX5_rested 42 = .ok (.iaload, 1) := by decide +kernel
theorem dX5_rested_43 : decode cX5_rested 43 = .ok (.istore 6, 2) := by decide +kernel
theorem dX5_rested_45 : decode cX5_rested 45 = .ok (.iload 5, 2) := by decide +kernel
theorem dX5_rested_47 : decode cX5_rested 47 = .ok (.aload_n 0, 1) := by decide +kernel
theorem dX5_rested_48 : decode cX5_rested 48 = .ok (.getfield 78, 3) := by decide +kernel
theorem dX5_rested_51 : decode cX5_rested 51 = .ok (.if_icmp .ge 24, 3) := by decide +kernel
theorem dX5_rested_54 : decode cX5_rested 54 = .ok (.aload_n 0, 1) := by decide +kernel
theorem dX5_rested_55 : decode cX5_rested 55 = .ok (.getfield 81, 3) := by decide +kernel
theorem dX5_rested_58 : decode cX5_rested 58 = .ok (.iload 5, 2) := by decide +kernel
theorem dX5_rested_60 : decode cX5_rested 60 = .ok (.ishr, 1) := by decide +kernel
theorem dX5_rested_61 : decode cX5_rested 61 = .ok (.iconst 1, 1) := by decide +kernel
theorem dX5_rested_62 : decode cX5_rested 62 = .ok (.iand, 1) := by decide +kernel
theorem dX5_rested_63 : decode cX5_rested 63 = .ok (.iconst 1, 1) := by decide +kernel
theorem dX5_rested_64 : decode cX5_rested 64 = .ok (.if_icmp .ne 7, 3) := by decide +kernel
theorem dX5_rested_67 : decode cX5_rested 67 = .ok (.iconst 1, 1) := by decide +kernel
theorem dX5_rested_68 : decode cX5_rested 68 = .ok (.goto 31, 3) := by decide +kernel
theorem dX5_rested_71 : decode cX5_rested 71 = .ok (.iconst 0, 1) := by decide +kernel
theorem dX5_rested_72 : decode cX5_rested 72 = .ok (.goto 27, 3) := by decide +kernel
theorem dX5_rested_75 : decode cX5_rested 75 = .ok (.aload_n 0, 1) := by decide +kernel
theorem dX5_rested_76 : decode cX5_rested 76 = .ok (.getfield 44, 3) := by decide +kernel
theorem dX5_rested_79 : decode cX5_rested 79 = .ok (.iload 5, 2) := by decide +kernel
theorem dX5_rested_81 : decode cX5_rested 81 = .ok (.aload_n 0, 1) := by decide +kernel
theorem dX5_rested_82 : decode cX5_rested 82 = .ok (.getfield 78, 3) := by decide +kernel
theorem dX5_rested_85 : decode cX5_rested 85 = .ok (.isub, 1) := by decide +kernel
theorem dX5_rested_86 : decode cX5_rested 86 = .ok (.iaload, 1) := by decide +kernel
theorem dX5_rested_87 : decode cX5_rested 87 = .ok (.bipush 24, 2) := by decide +kernel
theorem dX5_rested_89 : decode cX5_rested 89 = .ok (.idiv, 1) := by decide +kernel
theorem dX5_rested_90 : decode cX5_rested 90 = .ok (.iload_n 2, 1) := by decide +kernel
theorem dX5_rested_91 : decode cX5_rested 91 = .ok (.if_icmp .ge 7, 3) := by decide +kernel
theorem dX5_rested_94 : decode cX5_rested 94 = .ok (.iconst 1, 1) := by decide +kernel
theorem dX5_rested_95 : decode cX5_rested 95 = .ok (.goto 4, 3) := by decide +kernel
theorem dX5_rested_98 : decode cX5_rested 98 = .ok (.iconst 0, 1) := by decide +kernel
theorem dX5_rested_99 : decode cX5_rested 99 = .ok (.istore 7, 2) := by decide +kernel
theorem dX5_rested_101 : decode cX5_rested 101 = .ok (.iload 5, 2) := by decide +kernel
theorem dX5_rested_103 : decode cX5_rested 103 = .ok (.aload_n 0, 1) := by decide +kernel
theorem dX5_rested_104 : decode cX5_rested 104 = .ok (.getfield 78, 3) := by decide +kernel
theorem dX5_rested_107 : decode cX5_rested 107 = .ok (.if_icmp .ge 13, 3) := by decide +kernel
theorem dX5_rested_110 : decode cX5_rested 110 = .ok (.aload_n 0, 1) := by decide +kernel
theorem dX5_rested_111 : decode cX5_rested 111 = .ok (.getfield 25, 3) := by decide +kernel
theorem dX5_rested_114 : decode cX5_rested 114 = .ok (.iload 5, 2) := by decide +kernel
theorem dX5_rested_116 : decode cX5_rested 116 = .ok (.iaload, 1) := by decide +kernel
theorem dX5_rested_117 : decode cX5_rested 117 = .ok (.goto 15, 3) := by decide +kernel
theorem dX5_rested_120 : decode cX5_rested 120 = .ok (.aload_n 0, 1) := by decide +kernel
theorem dX5_rested_121 : decode cX5_rested 121 = .ok (.getfield 44, 3) := by decide +kernel
theorem dX5_rested_124 : decode cX5_rested 124 = .ok (.iload 5, 2) := by decide +kernel
theorem dX5_rested_126 : decode cX5_rested 126 = .ok (.aload_n 0, 1) := by decide +kernel
theorem dX5_rested_127 : decode cX5_rested 127 = .ok (.getfield 78, 3) := by decide +kernel
theorem dX5_rested_130 : decode cX5_rested 130 = .ok (.isub, 1) := by decide +kernel
theorem dX5_rested_131 : decode cX5_rested 131 = .ok (.iaload, 1) := by decide +kernel
theorem dX5_rested_132 : decode cX5_rested 132 = .ok (.aload_n 0, 1) := by decide +kernel
theorem dX5_rested_133 : decode cX5_rested 133 = .ok (.getfield 7, 3) := by decide +kernel
theorem dX5_rested_136 : decode cX5_rested 136 = .ok (.iload 6, 2) := by decide +kernel
theorem dX5_rested_138 : decode cX5_rested 138 = .ok (.iaload, 1) := by decide +kernel
theorem dX5_rested_139 : decode cX5_rested 139 = .ok (.iadd, 1) := by decide +kernel
theorem dX5_rested_140 : decode cX5_rested 140 = .ok (.bipush 11, 2) := by decide +kernel
theorem dX5_rested_142 : decode cX5_rested 142 = .ok (.iadd, 1) := by decide +kernel
theorem dX5_rested_143 : decode cX5_rested 143 = .ok (.bipush 24, 2) := by decide +kernel
theorem dX5_rested_145 : decode cX5_rested 145 = .ok (.iload_n 2, 1) := by decide +kernel
theorem dX5_rested_146 : decode cX5_rested 146 = .ok (.imul, 1) := by decide +kernel
theorem dX5_rested_147 : decode cX5_rested 147 = .ok (.isub, 1) := by decide +kernel
theorem dX5_rested_148 : decode cX5_rested 148 = .ok (.istore 8, 2) := by decide +kernel
theorem dX5_rested_150 : decode cX5_rested 150 = .ok (.iload 7, 2) := by decide +kernel
theorem dX5_rested_152 : decode cX5_rested 152 = .ok (.ifCond .eq 32, 3) := by decide +kernel
theorem dX5_rested_155 : decode cX5_rested 155 = .ok (.aload_n 0, 1) := by decide +kernel
theorem dX5_rested_156 : decode cX5_rested 156 = .ok (.getfield 16, 3) := by decide +kernel
theorem dX5_rested_159 : decode cX5_rested 159 = .ok (.iload 6, 2) := by decide +kernel
theorem dX5_rested_161 : decode cX5_rested 161 = .ok (.iaload, 1) := by decide +kernel
theorem dX5_rested_162 : decode cX5_rested 162 = .ok (.aload_n 0, 1) := by decide +kernel
theorem dX5_rested_163 : decode cX5_rested 163 = .ok (.getfield 16, 3) := by decide +kernel
theorem dX5_rested_166 : decode cX5_rested 166 = .ok (.iload_n 1, 1) := by decide +kernel
theorem dX5_rested_167 : decode cX5_rested 167 = .ok (.iaload, 1) := by decide +kernel
theorem dX5_rested_168 : decode cX5_rested 168 = .ok (.iand, 1) := by decide +kernel
theorem dX5_rested_169 : decode cX5_rested 169 = .ok (.ifCond .eq 15, 3) := by decide +kernel
theorem dX5_rested_172 : decode cX5_rested 172 = .ok (.iload 8, 2) := by decide +kernel
theorem dX5_rested_174 : decode cX5_rested 174 = .ok (.iload 4, 2) := by decide +kernel
theorem dX5_rested_176 : decode cX5_rested 176 = .ok (.if_icmp .le 8, 3) := by decide +kernel
theorem dX5_rested_179 : decode cX5_rested 179 = .ok (.iload 8, 2) := by decide +kernel
theorem dX5_rested_181 : decode cX5_rested 181 = .ok (.goto 5, 3) := by decide +kernel
theorem dX5_rested_184 : decode cX5_rested 184 = .ok (.iload 4, 2) := by decide +kernel
theorem dX5_rested_186 : decode cX5_rested 186 = .ok (.istore 4, 2) := by decide +kernel
theorem dX5_rested_188 : decode cX5_rested 188 = .ok (.iinc 5 1, 3) := by decide +kernel
theorem dX5_rested_191 : decode cX5_rested 191 = .ok (.goto (-185), 3) := by decide +kernel
theorem dX5_rested_194 : decode cX5_rested 194 = .ok (.iload 4, 2) := by decide +kernel
theorem dX5_rested_196 : decode cX5_rested 196 = .ok (.ireturn, 1) := by decide +kernel
theorem dX5_plays_0 : decode cX5_plays 0 = .ok (.iconst 0, 1) := by decide +kernel
theorem dX5_plays_1 : decode cX5_plays 1 = .ok (.istore 4, 2) := by decide +kernel
theorem dX5_plays_3 : decode cX5_plays 3 = .ok (.iconst 0, 1) := by decide +kernel
theorem dX5_plays_4 : decode cX5_plays 4 = .ok (.istore 5, 2) := by decide +kernel
theorem dX5_plays_6 : decode cX5_plays 6 = .ok (.iload 5, 2) := by decide +kernel
theorem dX5_plays_8 : decode cX5_plays 8 = .ok (.iload_n 3, 1) := by decide +kernel
theorem dX5_plays_9 : decode cX5_plays 9 = .ok (.if_icmp .ge 64, 3) := by decide +kernel
theorem dX5_plays_12 : decode cX5_plays 12 = .ok (.iload 4, 2) := by decide +kernel
theorem dX5_plays_14 : decode cX5_plays 14 = .ok (.aload_n 0, 1) := by decide +kernel
theorem dX5_plays_15 : decode cX5_plays 15 = .ok (.getfield 44, 3) := by decide +kernel
theorem dX5_plays_18 : decode cX5_plays 18 = .ok (.iload 5, 2) := by decide +kernel
theorem dX5_plays_20 : decode cX5_plays 20 = .ok (.iaload, 1) := by decide +kernel
theorem dX5_plays_21 : decode cX5_plays 21 = .ok (.bipush 24, 2) := by decide +kernel
theorem dX5_plays_23 : decode cX5_plays 23 = .ok (.idiv, 1) := by decide +kernel
theorem dX5_plays_24 : decode cX5_plays 24 = .ok (.iload_n 2, 1) := by decide +kernel
theorem dX5_plays_25 : decode cX5_plays 25 = .ok (.if_icmp .ne 38, 3) := by decide +kernel
theorem dX5_plays_28 : decode cX5_plays 28 = .ok (.aload_n 0, 1) := by decide +kernel
theorem dX5_plays_29 : decode cX5_plays 29 = .ok (.getfield 16, 3) := by decide +kernel
theorem dX5_plays_32 : decode cX5_plays 32 = .ok (.aload_n 0, 1) := by decide +kernel
theorem dX5_plays_33 : decode cX5_plays 33 = .ok (.getfield 41, 3) := by decide +kernel
theorem dX5_plays_36 : decode cX5_plays 36 = .ok (.iload 5, 2) := by decide +kernel
theorem dX5_plays_38 : decode cX5_plays 38 = .ok (.iaload, 1) := by decide +kernel
theorem dX5_plays_39 : decode cX5_plays 39 = .ok (.iaload, 1) := by decide +kernel
theorem dX5_plays_40 : decode cX5_plays 40 = .ok (.iload_n 1, 1) := by decide +kernel
theorem dX5_plays_41 : decode cX5_plays 41 = .ok (.ishr, 1) := by decide +kernel
theorem dX5_plays_42 : decode cX5_plays 42 = .ok (.iconst 1, 1) := by decide +kernel
theorem dX5_plays_43 : decode cX5_plays 43 = .ok (.iand, 1) := by decide +kernel
theorem dX5_plays_44 : decode cX5_plays 44 = .ok (.iconst 1, 1) := by decide +kernel
theorem dX5_plays_45 : decode cX5_plays 45 = .ok (.if_icmp .ne 18, 3) := by decide +kernel
theorem dX5_plays_48 : decode cX5_plays 48 = .ok (.aload_n 0, 1) := by decide +kernel
theorem dX5_plays_49 : decode cX5_plays 49 = .ok (.getfield 7, 3) := by decide +kernel
theorem dX5_plays_52 : decode cX5_plays 52 = .ok (.aload_n 0, 1) := by decide +kernel
theorem dX5_plays_53 : decode cX5_plays 53 = .ok (.getfield 41, 3) := by decide +kernel
theorem dX5_plays_56 : decode cX5_plays 56 = .ok (.iload 5, 2) := by decide +kernel
theorem dX5_plays_58 : decode cX5_plays 58 = .ok (.iaload, 1) := by decide +kernel
theorem dX5_plays_59 : decode cX5_plays 59 = .ok (.iaload, 1) := by decide +kernel
theorem dX5_plays_60 : decode cX5_plays 60 = .ok (.goto 4, 3) := by decide +kernel
theorem dX5_plays_63 : decode cX5_plays 63 = .ok (.iconst 0, 1) := by decide +kernel
theorem dX5_plays_64 : decode cX5_plays 64 = .ok (.iadd, 1) := by decide +kernel
theorem dX5_plays_65 : decode cX5_plays 65 = .ok (.istore 4, 2) := by decide +kernel
theorem dX5_plays_67 : decode cX5_plays 67 = .ok (.iinc 5 1, 3) := by decide +kernel
theorem dX5_plays_70 : decode cX5_plays 70 = .ok (.goto (-64), 3) := by decide +kernel
theorem dX5_plays_73 : decode cX5_plays 73 = .ok (.iload 4, 2) := by decide +kernel
theorem dX5_plays_75 : decode cX5_plays 75 = .ok (.ireturn, 1) := by decide +kernel
theorem dX5_isTooLong_0 : decode cX5_isTooLong 0 = .ok (.iconst 0, 1) := by decide +kernel
theorem dX5_isTooLong_1 : decode cX5_isTooLong 1 = .ok (.istore 4, 2) := by decide +kernel
theorem dX5_isTooLong_3 : decode cX5_isTooLong 3 = .ok (.iconst 0, 1) := by decide +kernel
theorem dX5_isTooLong_4 : decode cX5_isTooLong 4 = .ok (.istore 5, 2) := by decide +kernel
theorem dX5_isTooLong_6 : decode cX5_isTooLong 6 = .ok (.iload 5, 2) := by decide +kernel
theorem dX5_isTooLong_8 : decode cX5_isTooLong 8 = .ok (.bipush 6, 2) := by decide +kernel
theorem dX5_isTooLong_10 : decode cX5_isTooLong 10 = .ok (.if_icmp .ge 70, 3) := by decide +kernel
theorem dX5_isTooLong_13 : decode cX5_isTooLong 13 = .ok (.aload_n 0, 1) := by decide +kernel
theorem dX5_isTooLong_14 : decode cX5_isTooLong 14 = .ok (.getfield 84, 3) := by decide +kernel
theorem dX5_isTooLong_17 : decode cX5_isTooLong 17 = .ok (.aload_n 0, 1) := by decide +kernel
theorem dX5_isTooLong_18 : decode cX5_isTooLong 18 = .ok (.getfield 16, 3) := by decide +kernel
theorem dX5_isTooLong_21 : decode cX5_isTooLong 21 = .ok (.iload_n 1, 1) := by decide +kernel
theorem dX5_isTooLong_22 : decode cX5_isTooLong 22 = .ok (.iaload, 1) := by decide +kernel
theorem dX5_isTooLong_23 : decode cX5_isTooLong 23 = .ok (.iand, 1) := by decide +kernel
theorem dX5_isTooLong_24 : decode cX5_isTooLong 24 = .ok (.iconst 1, 1) := by decide +kernel
theorem dX5_isTooLong_25 : decode cX5_isTooLong 25 = .ok (.iload 5, 2) := by decide +kernel
theorem dX5_isTooLong_27 : decode cX5_isTooLong 27 = .ok (.ishl, 1) := by decide +kernel
theorem dX5_isTooLong_28 : decode cX5_isTooLong 28 = .ok (.iand, 1) := by decide +kernel
theorem dX5_isTooLong_29 : decode cX5_isTooLong 29 = .ok (.ifCond .eq 7, 3) := by decide +kernel
theorem dX5_isTooLong_32 : decode cX5_isTooLong 32 = .ok (.iconst 1, 1) := by decide +kernel
theorem dX5_isTooLong_33 : decode cX5_isTooLong 33 = .ok (.goto 4, 3) := by decide +kernel
theorem dX5_isTooLong_36 : decode cX5_isTooLong 36 = .ok (.iconst 0, 1) := by decide +kernel
theorem dX5_isTooLong_37 : decode cX5_isTooLong 37 = .ok (.istore 6, 2) := by decide +kernel
theorem dX5_isTooLong_39 : decode cX5_isTooLong 39 = .ok (.iload 4, 2) := by decide +kernel
theorem dX5_isTooLong_41 : decode cX5_isTooLong 41 = .ok (.iload 6, 2) := by decide +kernel
theorem dX5_isTooLong_43 : decode cX5_isTooLong 43 = .ok (.ifCond .eq 27, 3) := by decide +kernel
theorem dX5_isTooLong_46 : decode cX5_isTooLong 46 = .ok (.aload_n 0, 1) := by decide +kernel
theorem dX5_isTooLong_47 : decode cX5_isTooLong 47 = .ok (.iload 5, 2) := by decide +kernel
theorem dX5_isTooLong_49 : decode cX5_isTooLong 49 = .ok (.iload_n 2, 1) := by decide +kernel
theorem dX5_isTooLong_50 : decode cX5_isTooLong 50 = .ok (.iload_n 3, 1) := by decide +kernel
theorem dX5_isTooLong_51 : decode cX5_isTooLong 51 = .ok (.invokevirtual 87, 3) := by decide +kernel
theorem dX5_isTooLong_54 : decode cX5_isTooLong 54 = .ok (.aload_n 0, 1) := by decide +kernel
theorem dX5_isTooLong_55 : decode cX5_isTooLong 55 = .ok (.getfield 7, 3) := by decide +kernel
theorem dX5_isTooLong_58 : decode cX5_isTooLong 58 = .ok (.iload_n 1, 1) := by decide +kernel
theorem dX5_isTooLong_59 : decode cX5_isTooLong 59 = .ok (.iaload, 1) := by decide +kernel
theorem dX5_isTooLong_60 : decode cX5_isTooLong 60 = .ok (.iadd, 1) := by decide +kernel
theorem dX5_isTooLong_61 : decode cX5_isTooLong 61 = .ok (.bipush 6, 2) := by decide +kernel
theorem dX5_isTooLong_63 : decode cX5_isTooLong 63 = .ok (.if_icmp .le 7, 3) := by decide +kernel
theorem dX5_isTooLong_66 : decode cX5_isTooLong 66 = .ok (.iconst 1, 1) := by decide +kernel
theorem dX5_isTooLong_67 : decode cX5_isTooLong 67 = .ok (.goto 4, 3) := by decide +kernel
theorem dX5_isTooLong_70 : decode cX5_isTooLong 70 = .ok (.iconst 0, 1) := by decide +kernel
theorem dX5_isTooLong_71 : decode cX5_isTooLong 71 = .ok (.ior, 1) := by decide +kernel
theorem dX5_isTooLong_72 : decode cX5_isTooLong 72 = .ok (.istore 4, 2) := by decide +kernel
theorem dX5_isTooLong_74 : decode cX5_isTooLong 74 = .ok (.iinc 5 1, 3) := by decide +kernel
theorem dX5_isTooLong_77 : decode cX5_isTooLong 77 = .ok (.goto (-71), 3) := by decide +kernel
theorem dX5_isTooLong_80 : decode cX5_isTooLong 80 = .ok (.iload 4, 2) := by decide +kernel
theorem dX5_isTooLong_82 : decode cX5_isTooLong 82 = .ok (.ireturn, 1) := by decide +kernel
theorem dX5_begin_0 : decode cX5_begin 0 = .ok (.aload_n 0, 1) := by decide +kernel
theorem dX5_begin_1 : decode cX5_begin 1 = .ok (.getfield 41, 3) := by decide +kernel
theorem dX5_begin_4 : decode cX5_begin 4 = .ok (.iload_n 1, 1) := by decide +kernel
theorem dX5_begin_5 : decode cX5_begin 5 = .ok (.iaload, 1) := by decide +kernel
theorem dX5_begin_6 : decode cX5_begin 6 = .ok (.istore_n 2, 1) := by decide +kernel
theorem dX5_begin_7 : decode cX5_begin 7 = .ok (.iload_n 1, 1) := by decide +kernel
theorem dX5_begin_8 : decode cX5_begin 8 = .ok (.ifCond .ne 10, 3) := by decide +kernel
theorem dX5_begin_11 : decode cX5_begin 11 = .ok (.aload_n 0, 1) := by decide +kernel
theorem dX5_begin_12 : decode cX5_begin 12 = .ok (.getfield 91, 3) := by decide +kernel
theorem dX5_begin_15 : decode cX5_begin 15 = .ok (.goto 14, 3) := by decide +kernel
theorem dX5_begin_18 : decode cX5_begin 18 = .ok (.aload_n 0, 1) := by decide +kernel
theorem dX5_begin_19 : decode cX5_begin 19 = .ok (.getfield 44, 3) := by decide +kernel
theorem dX5_begin_22 : decode cX5_begin 22 = .ok (.iload_n 1, 1) := by decide +kernel
theorem dX5_begin_23 : decode cX5_begin 23 = .ok (.iconst 1, 1) := by decide +kernel
theorem dX5_begin_24 : decode cX5_begin 24 = .ok (.isub, 1) := by decide +kernel
theorem dX5_begin_25 : decode cX5_begin 25 = .ok (.iaload, 1) := by decide +kernel
theorem dX5_begin_26 : decode cX5_begin 26 = .ok (.bipush 24, 2) := by decide +kernel
theorem dX5_begin_28 : decode cX5_begin 28 = .ok (.idiv, 1) := by decide +kernel
theorem dX5_begin_29 : decode cX5_begin 29 = .ok (.istore_n 3, 1) := by decide +kernel
theorem dX5_begin_30 : decode cX5_begin 30 = .ok (.iconst (-1), 1) := by decide +kernel
theorem dX5_begin_31 : decode cX5_begin 31 = .ok (.istore 4, 2) := by decide +kernel
theorem dX5_begin_33 : decode cX5_begin 33 = .ok (.iload 4, 2) := by decide +kernel
theorem dX5_begin_35 : decode cX5_begin 35 = .ok (.ifCond .ge 205, 3) := by decide +kernel
theorem dX5_begin_38 : decode cX5_begin 38 = .ok (.aload_n 0, 1) := by decide +kernel
theorem dX5_begin_39 : decode cX5_begin 39 = .ok (.getfield 19, 3) := by decide +kernel
theorem dX5_begin_42 : decode cX5_begin 42 = .ok (.iload_n 2, 1) := by decide +kernel
theorem dX5_begin_43 : decode cX5_begin 43 = .ok (.iaload, 1) := by decide +kernel
theorem dX5_begin_44 : decode cX5_begin 44 = .ok (.iconst 2, 1) := by decide +kernel
theorem dX5_begin_45 : decode cX5_begin 45 = .ok (.if_icmp .ne 8, 3) := by decide +kernel
theorem dX5_begin_48 : decode cX5_begin 48 = .ok (.bipush 18, 2) := by decide +kernel
theorem dX5_begin_50 : decode cX5_begin 50 = .ok (.goto 5, 3) := by decide +kernel
theorem dX5_begin_53 : decode cX5_begin 53 = .ok (.bipush 8, 2) := by decide +kernel
theorem dX5_begin_55 : decode cX5_begin 55 = .ok (.istore 5, 2) := by decide +kernel
theorem dX5_begin_57 : decode cX5_begin 57 = .ok (.iload_n 1, 1) := by decide +kernel
theorem dX5_begin_58 : decode cX5_begin 58 = .ok (.ifCond .le 87, 3) := by decide +kernel
theorem dX5_begin_61 : decode cX5_begin 61 = .ok (.aload_n 0, 1) := by decide +kernel
theorem dX5_begin_62 : decode cX5_begin 62 = .ok (.getfield 44, 3) := by decide +kernel
theorem dX5_begin_65 : decode cX5_begin 65 = .ok (.iload_n 1, 1) := by decide +kernel
theorem dX5_begin_66 : decode cX5_begin 66 = .ok (.iconst 1, 1) := by decide +kernel
theorem dX5_begin_67 : decode cX5_begin 67 = .ok (.isub, 1) := by decide +kernel
theorem dX5_begin_68 : decode cX5_begin 68 = .ok (.iaload, 1) := by decide +kernel
theorem dX5_begin_69 : decode cX5_begin 69 = .ok (.bipush 24, 2) := by decide +kernel
theorem dX5_begin_71 : decode cX5_begin 71 = .ok (.idiv, 1) := by decide +kernel
theorem dX5_begin_72 : decode cX5_begin 72 = .ok (.iload_n 3, 1) := by decide +kernel
theorem dX5_begin_73 : decode cX5_begin 73 = .ok (.if_icmp .ne 72, 3) := by decide +kernel
theorem dX5_begin_76 : decode cX5_begin 76 = .ok (.aload_n 0, 1) := by decide +kernel
theorem dX5_begin_77 : decode cX5_begin 77 = .ok (.getfield 41, 3) := by decide +kernel
theorem dX5_begin_80 : decode cX5_begin 80 = .ok (.iload_n 1, 1) := by decide +kernel
theorem dX5_begin_81 : decode cX5_begin 81 = .ok (.iconst 1, 1) := by decide +kernel
theorem dX5_begin_82 : decode cX5_begin 82 = .ok (.isub, 1) := by decide +kernel
theorem dX5_begin_83 : decode cX5_begin 83 = .ok (.iaload, 1) := by decide +kernel
theorem dX5_begin_84 : decode cX5_begin 84 = .ok (.istore 6, 2) := by decide +kernel
theorem dX5_begin_86 : decode cX5_begin 86 = .ok (.aload_n 0, 1) := by decide +kernel
theorem dX5_begin_87 : decode cX5_begin 87 = .ok (.getfield 44, 3) := by decide +kernel
theorem dX5_begin_90 : decode cX5_begin 90 = .ok (.iload_n 1, 1) := by decide +kernel
theorem dX5_begin_91 : decode cX5_begin 91 = .ok (.iconst 1, 1) := by decide +kernel
theorem dX5_begin_92 : decode cX5_begin 92 = .ok (.isub, 1) := by decide +kernel
theorem dX5_begin_93 : decode cX5_begin 93 = .ok (.iaload, 1) := by decide +kernel
theorem dX5_begin_94 : decode cX5_begin 94 = .ok (.bipush 24, 2) := by decide +kernel
theorem dX5_begin_96 : decode cX5_begin 96 = .ok (.irem, 1) := by decide +kernel
theorem dX5_begin_97 : decode cX5_begin 97 = .ok (.aload_n 0, 1) := by decide +kernel
theorem dX5_begin_98 : decode cX5_begin 98 = .ok (.getfield 7, 3) := by decide +kernel
theorem dX5_begin_101 : decode cX5_begin 101 = .ok (.iload 6, 2) := by decide +kernel
theorem dX5_begin_103 : decode cX5_begin 103 = .ok (.iaload, 1) := by decide +kernel
theorem dX5_begin_104 : decode cX5_begin 104 = .ok (.iadd, 1) := by decide +kernel
theorem dX5_begin_105 : decode cX5_begin 105 = .ok (.aload_n 0, 1) := by decide +kernel
theorem dX5_begin_106 : decode cX5_begin 106 = .ok (.getfield 13, 3) := by decide +kernel
theorem dX5_begin_109 : decode cX5_begin 109 = .ok (.iload 6, 2) := by decide +kernel
theorem dX5_begin_111 : decode cX5_begin 111 = .ok (.iaload, 1) := by decide +kernel
theorem dX5_begin_112 : decode cX5_begin 112 = .ok (.aload_n 0, 1) := by decide +kernel
theorem dX5_begin_113 : decode cX5_begin 113 = .ok (.getfield 13, 3) := by decide +kernel
theorem dX5_begin_116 : decode cX5_begin 116 = .ok (.iload_n 2, 1) := by decide +kernel
theorem dX5_begin_117 : decode cX5_begin 117 = .ok (.iaload, 1) := by decide +kernel
theorem dX5_begin_118 : decode cX5_begin 118 = .ok (.if_icmp .ne 7, 3) := by decide +kernel
theorem dX5_begin_121 : decode cX5_begin 121 = .ok (.iconst 0, 1) := by decide +kernel
theorem dX5_begin_122 : decode cX5_begin 122 = .ok (.goto 4, 3) := by decide +kernel
theorem dX5_begin_125 : decode cX5_begin 125 = .ok (.iconst 1, 1) := by decide +kernel
theorem dX5_begin_126 : decode cX5_begin 126 = .ok (.iadd, 1) := by decide +kernel
theorem dX5_begin_127 : decode cX5_begin 127 = .ok (.istore 7, 2) := by decide +kernel
theorem dX5_begin_129 : decode cX5_begin 129 = .ok (.iload 7, 2) := by decide +kernel
theorem dX5_begin_131 : decode cX5_begin 131 = .ok (.iload 5, 2) := by decide +kernel
theorem dX5_begin_133 : decode cX5_begin 133 = .ok (.if_icmp .le 8, 3) := by decide +kernel
theorem dX5_begin_136 : decode cX5_begin 136 = .ok (.iload 7, 2) := by decide +kernel
theorem dX5_begin_138 : decode cX5_begin 138 = .ok (.goto 5, 3) := by decide +kernel
theorem dX5_begin_141 : decode cX5_begin 141 = .ok (.iload 5, 2) := by decide +kernel
theorem dX5_begin_143 : decode cX5_begin 143 = .ok (.istore 5, 2) := by decide +kernel
theorem dX5_begin_145 : decode cX5_begin 145 = .ok (.aload_n 0, 1) := by decide +kernel
theorem dX5_begin_146 : decode cX5_begin 146 = .ok (.iload_n 2, 1) := by decide +kernel
theorem dX5_begin_147 : decode cX5_begin 147 = .ok (.iload_n 3, 1) := by decide +kernel
theorem dX5_begin_148 : decode cX5_begin 148 = .ok (.iload_n 1, 1) := by decide +kernel
theorem dX5_begin_149 : decode cX5_begin 149 = .ok (.invokevirtual 94, 3) := by decide +kernel
theorem dX5_begin_152 : decode cX5_begin 152 = .ok (.istore 6, 2) := by decide +kernel
theorem dX5_begin_154 : decode cX5_begin 154 = .ok (.iload 6, 2) := by decide +kernel
theorem dX5_begin_156 : decode cX5_begin 156 = .ok (.iload 5, 2) := by decide +kernel
theorem dX5_begin_158 : decode cX5_begin 158 = .ok (.if_icmp .le 8, 3) := by decide +kernel
theorem dX5_begin_161 : decode cX5_begin 161 = .ok (.iload 6, 2) := by decide +kernel
theorem dX5_begin_163 : decode cX5_begin 163 = .ok (.goto 5, 3) := by decide +kernel
theorem dX5_begin_166 : decode cX5_begin 166 = .ok (.iload 5, 2) := by decide +kernel
theorem dX5_begin_168 : decode cX5_begin 168 = .ok (.istore 5, 2) := by decide +kernel
theorem dX5_begin_170 : decode cX5_begin 170 = .ok (.iload 5, 2) := by decide +kernel
theorem dX5_begin_172 : decode cX5_begin 172 = .ok (.aload_n 0, 1) := by decide +kernel
theorem dX5_begin_173 : decode cX5_begin 173 = .ok (.getfield 7, 3) := by decide +kernel
theorem dX5_begin_176 : decode cX5_begin 176 = .ok (.iload_n 2, 1) := by decide +kernel
theorem dX5_begin_177 : decode cX5_begin 177 = .ok (.iaload, 1) := by decide +kernel
theorem dX5_begin_178 : decode cX5_begin 178 = .ok (.iadd, 1) := by decide +kernel
theorem dX5_begin_179 : decode cX5_begin 179 = .ok (.aload_n 0, 1) := by decide +kernel
theorem dX5_begin_180 : decode cX5_begin 180 = .ok (.getfield 19, 3) := by decide +kernel
theorem dX5_begin_183 : decode cX5_begin 183 = .ok (.iload_n 2, 1) := by decide +kernel
theorem dX5_begin_184 : decode cX5_begin 184 = .ok (.iaload, 1) := by decide +kernel
theorem dX5_begin_185 : decode cX5_begin 185 = .ok (.iconst 1, 1) := by decide +kernel
theorem dX5_begin_186 : decode cX5_begin 186 = .ok (.if_icmp .ne 8, 3) := by decide +kernel
theorem dX5_begin_189 : decode cX5_begin 189 = .ok (.bipush 18, 2) := by decide +kernel
theorem dX5_begin_191 : decode cX5_begin 191 = .ok (.goto 5, 3) := by decide +kernel
theorem dX5_begin_194 : decode cX5_begin 194 = .ok (.bipush 24, 2) := by decide +kernel
theorem dX5_begin_196 : decode cX5_begin 196 = .ok (.if_icmp .gt 7, 3) := by decide +kernel
theorem dX5_begin_199 : decode cX5_begin 199 = .ok (.iconst 1, 1) := by decide +kernel
theorem dX5_begin_200 : decode cX5_begin 200 = .ok (.goto 4, 3) := by decide +kernel
theorem dX5_begin_203 : decode cX5_begin 203 = .ok (.iconst 0, 1) := by decide +kernel
theorem dX5_begin_204 : decode cX5_begin 204 = .ok (.istore 7, 2) := by decide +kernel
theorem dX5_begin_206 : decode cX5_begin 206 = .ok (.iload 7, 2) := by decide +kernel
theorem dX5_begin_208 : decode cX5_begin 208 = .ok (.ifCond .eq 23, 3) := by decide +kernel
theorem dX5_begin_211 : decode cX5_begin 211 = .ok (.aload_n 0, 1) := by decide +kernel
theorem dX5_begin_212 : decode cX5_begin 212 = .ok (.iload_n 2, 1) := by decide +kernel
theorem dX5_begin_213 : decode cX5_begin 213 = .ok (.iload_n 3, 1) := by decide +kernel
theorem dX5_begin_214 : decode cX5_begin 214 = .ok (.iload_n 1, 1) := by decide +kernel
theorem dX5_begin_215 : decode cX5_begin 215 = .ok (.invokevirtual 97, 3) := by decide +kernel
theorem dX5_begin_218 : decode cX5_begin 218 = .ok (.ifCond .ne 13, 3) := by decide +kernel
theorem dX5_begin_221 : decode cX5_begin 221 = .ok (.bipush 24, 2) := by decide +kernel
theorem dX5_begin_223 : decode cX5_begin 223 = .ok (.iload_n 3, 1) := by decide +kernel
theorem dX5_begin_224 : decode cX5_begin 224 = .ok (.imul, 1) := by decide +kernel
theorem dX5_begin_225 : decode cX5_begin 225 = .ok (.iload 5, 2) := by decide +kernel
theorem dX5_begin_227 : decode cX5_begin 227 = .ok (.iadd, 1) := by decide +kernel
theorem dX5_begin_228 : decode cX5_begin 228 = .ok (.goto 4, 3) := by decide +kernel
theorem dX5_begin_231 : decode cX5_begin 231 = .ok (.iconst (-1), 1) := by decide +kernel
theorem dX5_begin_232 : decode cX5_begin 232 = .ok (.istore 4, 2) := by decide +kernel
theorem dX5_begin_234 : decode cX5_begin 234 = .ok (.iinc 3 1, 3) := by decide +kernel
theorem dX5_begin_237 : decode cX5_begin 237 = .ok (.goto (-204), 3) := by decide +kernel
theorem dX5_begin_240 : decode cX5_begin 240 = .ok (.iload 4, 2) := by decide +kernel
theorem dX5_begin_242 : decode cX5_begin 242 = .ok (.ireturn, 1) := by decide +kernel
theorem dX5_may_0 : decode cX5_may 0 = .ok (.aload_n 0, 1) := by decide +kernel
theorem dX5_may_1 : decode cX5_may 1 = .ok (.getfield 41, 3) := by decide +kernel
theorem dX5_may_4 : decode cX5_may 4 = .ok (.iload_n 1, 1) := by decide +kernel
theorem dX5_may_5 : decode cX5_may 5 = .ok (.iaload, 1) := by decide +kernel
theorem dX5_may_6 : decode cX5_may 6 = .ok (.istore_n 2, 1) := by decide +kernel
theorem dX5_may_7 : decode cX5_may 7 = .ok (.aload_n 0, 1) := by decide +kernel
theorem dX5_may_8 : decode cX5_may 8 = .ok (.getfield 81, 3) := by decide +kernel
theorem dX5_may_11 : decode cX5_may 11 = .ok (.istore_n 3, 1) := by decide +kernel
theorem dX5_may_12 : decode cX5_may 12 = .ok (.iconst 0, 1) := by decide +kernel
theorem dX5_may_13 : decode cX5_may 13 = .ok (.istore 4, 2) := by decide +kernel
theorem dX5_may_15 : decode cX5_may 15 = .ok (.iload 4, 2) := by decide +kernel
theorem dX5_may_17 : decode cX5_may 17 = .ok (.iload_n 1, 1) := by decide +kernel
theorem dX5_may_18 : decode cX5_may 18 = .ok (.if_icmp .ge 21, 3) := by decide +kernel
theorem dX5_may_21 : decode cX5_may 21 = .ok (.iload_n 3, 1) := by decide +kernel
theorem dX5_may_22 : decode cX5_may 22 = .ok (.iconst 1, 1) := by decide +kernel
theorem dX5_may_23 : decode cX5_may 23 = .ok (.aload_n 0, 1) := by decide +kernel
theorem dX5_may_24 : decode cX5_may 24 = .ok (.getfield 41, 3) := by decide +kernel
theorem dX5_may_27 : decode cX5_may 27 = .ok (.iload 4, 2) := by decide +kernel
theorem dX5_may_29 : decode cX5_may 29 = .ok (.iaload, 1) := by decide +kernel
theorem dX5_may_30 : decode cX5_may 30 = .ok (.ishl, 1) := by decide +kernel
theorem dX5_may_31 : decode cX5_may 31 = .ok (.ior, 1) := by decide +kernel
theorem dX5_may_32 : decode cX5_may 32 = .ok (.istore_n 3, 1) := by decide +kernel
theorem dX5_may_33 : decode cX5_may 33 = .ok (.iinc 4 1, 3) := by decide +kernel
theorem dX5_may_36 : decode cX5_may 36 = .ok (.goto (-21), 3) := by decide +kernel
theorem dX5_may_39 : decode cX5_may 39 = .ok (.iload_n 3, 1) := by decide +kernel
theorem dX5_may_40 : decode cX5_may 40 = .ok (.iload_n 2, 1) := by decide +kernel
theorem dX5_may_41 : decode cX5_may 41 = .ok (.ishr, 1) := by decide +kernel
theorem dX5_may_42 : decode cX5_may 42 = .ok (.iconst 1, 1) := by decide +kernel
theorem dX5_may_43 : decode cX5_may 43 = .ok (.iand, 1) := by decide +kernel
theorem dX5_may_44 : decode cX5_may 44 = .ok (.ifCond .ne 20, 3) := by decide +kernel
theorem dX5_may_47 : decode cX5_may 47 = .ok (.aload_n 0, 1) := by decide +kernel
theorem dX5_may_48 : decode cX5_may 48 = .ok (.getfield 22, 3) := by decide +kernel
theorem dX5_may_51 : decode cX5_may 51 = .ok (.iload_n 2, 1) := by decide +kernel
theorem dX5_may_52 : decode cX5_may 52 = .ok (.iaload, 1) := by decide +kernel
theorem dX5_may_53 : decode cX5_may 53 = .ok (.iload_n 3, 1) := by decide +kernel
theorem dX5_may_54 : decode cX5_may 54 = .ok (.iconst (-1), 1) := by decide +kernel
theorem dX5_may_55 : decode cX5_may 55 = .ok (.ixor, 1) := by decide +kernel
theorem dX5_may_56 : decode cX5_may 56 = .ok (.iand, 1) := by decide +kernel
theorem dX5_may_57 : decode cX5_may 57 = .ok (.ifCond .ne 7, 3) := by decide +kernel
theorem dX5_may_60 : decode cX5_may 60 = .ok (.iconst 1, 1) := by decide +kernel
theorem dX5_may_61 : decode cX5_may 61 = .ok (.goto 4, 3) := by decide +kernel
theorem dX5_may_64 : decode cX5_may 64 = .ok (.iconst 0, 1) := by decide +kernel
theorem dX5_may_65 : decode cX5_may 65 = .ok (.ireturn, 1) := by decide +kernel
theorem dX5_finds_0 : decode cX5_finds 0 = .ok (.aload_n 0, 1) := by decide +kernel
theorem dX5_finds_1 : decode cX5_finds 1 = .ok (.iconst 0, 1) := by decide +kernel
theorem dX5_finds_2 : decode cX5_finds 2 = .ok (.putfield 100, 3) := by decide +kernel
theorem dX5_finds_5 : decode cX5_finds 5 = .ok (.iconst 0, 1) := by decide +kernel
theorem dX5_finds_6 : decode cX5_finds 6 = .ok (.istore_n 1, 1) := by decide +kernel
theorem dX5_finds_7 : decode cX5_finds 7 = .ok (.iload_n 1, 1) := by decide +kernel
theorem dX5_finds_8 : decode cX5_finds 8 = .ok (.aload_n 0, 1) := by decide +kernel
theorem dX5_finds_9 : decode cX5_finds 9 = .ok (.getfield 78, 3) := by decide +kernel
theorem dX5_finds_12 : decode cX5_finds 12 = .ok (.if_icmp .ge 34, 3) := by decide +kernel
theorem dX5_finds_15 : decode cX5_finds 15 = .ok (.aload_n 0, 1) := by decide +kernel
theorem dX5_finds_16 : decode cX5_finds 16 = .ok (.dup, 1) := by decide +kernel
theorem dX5_finds_17 : decode cX5_finds 17 = .ok (.getfield 100, 3) := by decide +kernel
theorem dX5_finds_20 : decode cX5_finds 20 = .ok (.aload_n 0, 1) := by decide +kernel
theorem dX5_finds_21 : decode cX5_finds 21 = .ok (.getfield 81, 3) := by decide +kernel
theorem dX5_finds_24 : decode cX5_finds 24 = .ok (.iload_n 1, 1) := by decide +kernel
theorem dX5_finds_25 : decode cX5_finds 25 = .ok (.ishr, 1) := by decide +kernel
theorem dX5_finds_26 : decode cX5_finds 26 = .ok (.iconst 1, 1) := by decide +kernel
theorem dX5_finds_27 : decode cX5_finds 27 = .ok (.iand, 1) := by decide +kernel
theorem dX5_finds_28 : decode cX5_finds 28 = .ok (.ifCond .ne 7, 3) := by decide +kernel
theorem dX5_finds_31 : decode cX5_finds 31 = .ok (.iconst 1, 1) := by decide +kernel
theorem dX5_finds_32 : decode cX5_finds 32 = .ok (.goto 4, 3) := by decide +kernel
theorem dX5_finds_35 : decode cX5_finds 35 = .ok (.iconst 0, 1) := by decide +kernel
theorem dX5_finds_36 : decode cX5_finds 36 = .ok (.iadd, 1) := by decide +kernel
theorem dX5_finds_37 : decode cX5_finds 37 = .ok (.putfield 100, 3) := by decide +kernel
theorem dX5_finds_40 : decode cX5_finds 40 = .ok (.iinc 1 1, 3) := by decide +kernel
theorem dX5_finds_43 : decode cX5_finds 43 = .ok (.goto (-36), 3) := by decide +kernel
theorem dX5_finds_46 : decode cX5_finds 46 = .ok (.aload_n 0, 1) := by decide +kernel
theorem dX5_finds_47 : decode cX5_finds 47 = .ok (.aload_n 0, 1) := by decide +kernel
theorem dX5_finds_48 : decode cX5_finds 48 = .ok (.getfield 100, 3) := by decide +kernel
theorem dX5_finds_51 : decode cX5_finds 51 = .ok (.ifCond .ne 7, 3) := by decide +kernel
theorem dX5_finds_54 : decode cX5_finds 54 = .ok (.iconst 0, 1) := by decide +kernel
theorem dX5_finds_55 : decode cX5_finds 55 = .ok (.goto 5, 3) := by decide +kernel
theorem dX5_finds_58 : decode cX5_finds 58 = .ok (.ldc 103, 2) := by decide +kernel
theorem dX5_finds_60 : decode cX5_finds 60 = .ok (.putfield 104, 3) := by decide +kernel
theorem dX5_finds_63 : decode cX5_finds 63 = .ok (.aload_n 0, 1) := by decide +kernel
theorem dX5_finds_64 : decode cX5_finds 64 = .ok (.getfield 100, 3) := by decide +kernel
theorem dX5_finds_67 : decode cX5_finds 67 = .ok (.ifCond .ne 7, 3) := by decide +kernel
theorem dX5_finds_70 : decode cX5_finds 70 = .ok (.iconst (-1), 1) := by decide +kernel
theorem dX5_finds_71 : decode cX5_finds 71 = .ok (.goto 4, 3) := by decide +kernel
theorem dX5_finds_74 : decode cX5_finds 74 = .ok (.iconst 0, 1) := by decide +kernel
theorem dX5_finds_75 : decode cX5_finds 75 = .ok (.istore_n 1, 1) := by decide +kernel
theorem dX5_finds_76 : decode cX5_finds 76 = .ok (.aload_n 0, 1) := by decide +kernel
theorem dX5_finds_77 : decode cX5_finds 77 = .ok (.getfield 41, 3) := by decide +kernel
theorem dX5_finds_80 : decode cX5_finds 80 = .ok (.iconst 0, 1) := by decide +kernel
theorem dX5_finds_81 : decode cX5_finds 81 = .ok (.iconst (-1), 1) := by decide +kernel
theorem dX5_finds_82 : decode cX5_finds 82 = .ok (.iastore, 1) := by decide +kernel
theorem dX5_finds_83 : decode cX5_finds 83 = .ok (.iload_n 1, 1) := by decide +kernel
theorem dX5_finds_84 : decode cX5_finds 84 = .ok (.ifCond .lt 119, 3) := by decide +kernel
theorem dX5_finds_87 : decode cX5_finds 87 = .ok (.aload_n 0, 1) := by decide +kernel
theorem dX5_finds_88 : decode cX5_finds 88 = .ok (.getfield 41, 3) := by decide +kernel
theorem dX5_finds_91 : decode cX5_finds 91 = .ok (.iload_n 1, 1) := by decide +kernel
theorem dX5_finds_92 : decode cX5_finds 92 = .ok (.dup2, 1) := by decide +kernel
theorem dX5_finds_93 : decode cX5_finds 93 = .ok (.iaload, 1) := by decide +kernel
theorem dX5_finds_94 : decode cX5_finds 94 = .ok (.iconst 1, 1) := by decide +kernel
theorem dX5_finds_95 : decode cX5_finds 95 = .ok (.iadd, 1) := by decide +kernel
theorem dX5_finds_96 : decode cX5_finds 96 = .ok (.iastore, 1) := by decide +kernel
theorem dX5_finds_97 : decode cX5_finds 97 = .ok (.aload_n 0, 1) := by decide +kernel
theorem dX5_finds_98 : decode cX5_finds 98 = .ok (.getfield 41, 3) := by decide +kernel
theorem dX5_finds_101 : decode cX5_finds 101 = .ok (.iload_n 1, 1) := by decide +kernel
theorem dX5_finds_102 : decode cX5_finds 102 = .ok (.iaload, 1) := by decide +kernel
theorem dX5_finds_103 : decode cX5_finds 103 = .ok (.aload_n 0, 1) := by decide +kernel
theorem dX5_finds_104 : decode cX5_finds 104 = .ok (.getfield 78, 3) := by decide +kernel
theorem dX5_finds_107 : decode cX5_finds 107 = .ok (.if_icmp .lt 9, 3) := by decide +kernel
theorem dX5_finds_110 : decode cX5_finds 110 = .ok (.iinc 1 (-1), 3) := by decide +kernel
theorem dX5_finds_113 : decode cX5_finds 113 = .ok (.goto (-30), 3) := by decide +kernel
theorem dX5_finds_116 : decode cX5_finds 116 = .ok (.aload_n 0, 1) := by decide +kernel
theorem dX5_finds_117 : decode cX5_finds 117 = .ok (.iload_n 1, 1) := by decide +kernel
theorem dX5_finds_118 : decode cX5_finds 118 = .ok (.invokevirtual 107, 3) := by decide +kernel
theorem dX5_finds_121 : decode cX5_finds 121 = .ok (.ifCond .eq (-38), 3) := by decide +kernel
theorem dX5_finds_124 : decode cX5_finds 124 = .ok (.aload_n 0, 1) := by decide +kernel
theorem dX5_finds_125 : decode cX5_finds 125 = .ok (.getfield 44, 3) := by decide +kernel
theorem dX5_finds_128 : decode cX5_finds 128 = .ok (.iload_n 1, 1) := by decide +kernel
theorem dX5_finds_129 : decode cX5_finds 129 = .ok (.aload_n 0, 1) := by decide +kernel
theorem dX5_finds_130 : decode cX5_finds 130 = .ok (.iload_n 1, 1) := by decide +kernel
theorem dX5_finds_131 : decode cX5_finds 131 = .ok (.invokevirtual 111, 3) := by decide +kernel
theorem dX5_finds_134 : decode cX5_finds 134 = .ok (.iastore, 1) := by decide +kernel
theorem dX5_finds_135 : decode cX5_finds 135 = .ok (.aload_n 0, 1) := by decide +kernel
theorem dX5_finds_136 : decode cX5_finds 136 = .ok (.getfield 44, 3) := by decide +kernel
theorem dX5_finds_139 : decode cX5_finds 139 = .ok (.iload_n 1, 1) := by decide +kernel
theorem dX5_finds_140 : decode cX5_finds 140 = .ok (.iaload, 1) := by decide +kernel
theorem dX5_finds_141 : decode cX5_finds 141 = .ok (.bipush 24, 2) := by decide +kernel
theorem dX5_finds_143 : decode cX5_finds 143 = .ok (.idiv, 1) := by decide +kernel
theorem dX5_finds_144 : decode cX5_finds 144 = .ok (.aload_n 0, 1) := by decide +kernel
theorem dX5_finds_145 : decode cX5_finds 145 = .ok (.getfield 91, 3) := by decide +kernel
theorem dX5_finds_148 : decode cX5_finds 148 = .ok (.isub, 1) := by decide +kernel
theorem dX5_finds_149 : decode cX5_finds 149 = .ok (.iconst 1, 1) := by decide +kernel
theorem dX5_finds_150 : decode cX5_finds 150 = .ok (.iadd, 1) := by decide +kernel
theorem dX5_finds_151 : decode cX5_finds 151 = .ok (.istore_n 2, 1) := by decide +kernel
theorem dX5_finds_152 : decode cX5_finds 152 = .ok (.iload_n 2, 1) := by decide +kernel
theorem dX5_finds_153 : decode cX5_finds 153 = .ok (.aload_n 0, 1) := by decide +kernel
theorem dX5_finds_154 : decode cX5_finds 154 = .ok (.getfield 104, 3) := by decide +kernel
theorem dX5_finds_157 : decode cX5_finds 157 = .ok (.if_icmp .ge 25, 3) := by decide +kernel
theorem dX5_finds_160 : decode cX5_finds 160 = .ok (.iload_n 1, 1) := by decide +kernel
theorem dX5_finds_161 : decode cX5_finds 161 = .ok (.iconst 1, 1) := by decide +kernel
theorem dX5_finds_162 : decode cX5_finds 162 = .ok (.iadd, 1) := by decide +kernel
theorem dX5_finds_163 : decode cX5_finds 163 = .ok (.aload_n 0, 1) := by decide +kernel
theorem dX5_finds_164 : decode cX5_finds 164 = .ok (.getfield 100, 3) := by decide +kernel
theorem dX5_finds_167 : decode cX5_finds 167 = .ok (.if_icmp .ne 15, 3) := by decide +kernel
theorem dX5_finds_170 : decode cX5_finds 170 = .ok (.aload_n 0, 1) := by decide +kernel
theorem dX5_finds_171 : decode cX5_finds 171 = .ok (.iload_n 2, 1) := by decide +kernel
theorem dX5_finds_172 : decode cX5_finds 172 = .ok (.putfield 104, 3) := by decide +kernel
theorem dX5_finds_175 : decode cX5_finds 175 = .ok (.aload_n 0, 1) := by decide +kernel
theorem dX5_finds_176 : decode cX5_finds 176 = .ok (.invokevirtual 115, 3) := by decide +kernel
theorem dX5_finds_179 : decode cX5_finds 179 = .ok (.goto 21, 3) := by decide +kernel
theorem dX5_finds_182 : decode cX5_finds 182 = .ok (.iload_n 2, 1) := by decide +kernel
theorem dX5_finds_183 : decode cX5_finds 183 = .ok (.aload_n 0, 1) := by decide +kernel
theorem dX5_finds_184 : decode cX5_finds 184 = .ok (.getfield 104, 3) := by decide +kernel
theorem dX5_finds_187 : decode cX5_finds 187 = .ok (.if_icmp .ge 13, 3) := by decide +kernel
theorem dX5_finds_190 : decode cX5_finds 190 = .ok (.iinc 1 1, 3) := by decide +kernel
theorem dX5_finds_193 : decode cX5_finds 193 = .ok (.aload_n 0, 1) := by decide +kernel
theorem dX5_finds_194 : decode cX5_finds 194 = .ok (.getfield 41, 3) := by decide +kernel
theorem dX5_finds_197 : decode cX5_finds 197 = .ok (.iload_n 1, 1) := by decide +kernel
theorem dX5_finds_198 : decode cX5_finds 198 = .ok (.iconst (-1), 1) := by decide +kernel
theorem dX5_finds_199 : decode cX5_finds 199 = .ok (.iastore, 1) := by decide +kernel
theorem dX5_finds_200 : decode cX5_finds 200 = .ok (.goto (-117), 3) := by decide +kernel
theorem dX5_finds_203 : decode cX5_finds 203 = .ok (.aload_n 0, 1) := by decide +kernel
theorem dX5_finds_204 : decode cX5_finds 204 = .ok (.iconst 0, 1) := by decide +kernel
theorem dX5_finds_205 : decode cX5_finds 205 = .ok (.putfield 118, 3) := by decide +kernel
theorem dX5_finds_208 : decode cX5_finds 208 = .ok (.return_, 1) := by decide +kernel
theorem dX5_keeps_0 : decode cX5_keeps 0 = .ok (.iconst 0, 1) := by decide +kernel
theorem dX5_keeps_1 : decode cX5_keeps 1 = .ok (.istore_n 1, 1) := by decide +kernel
theorem dX5_keeps_2 : decode cX5_keeps 2 = .ok (.iload_n 1, 1) := by decide +kernel
theorem dX5_keeps_3 : decode cX5_keeps 3 = .ok (.aload_n 0, 1) := by decide +kernel
theorem dX5_keeps_4 : decode cX5_keeps 4 = .ok (.getfield 100, 3) := by decide +kernel
theorem dX5_keeps_7 : decode cX5_keeps 7 = .ok (.if_icmp .ge 33, 3) := by decide +kernel
theorem dX5_keeps_10 : decode cX5_keeps 10 = .ok (.aload_n 0, 1) := by decide +kernel
theorem dX5_keeps_11 : decode cX5_keeps 11 = .ok (.getfield 35, 3) := by decide +kernel
theorem dX5_keeps_14 : decode cX5_keeps 14 = .ok (.iload_n 1, 1) := by decide +kernel
theorem dX5_keeps_15 : decode cX5_keeps 15 = .ok (.aload_n 0, 1) := by decide +kernel
theorem dX5_keeps_16 : decode cX5_keeps 16 = .ok (.getfield 41, 3) := by decide +kernel
theorem dX5_keeps_19 : decode cX5_keeps 19 = .ok (.iload_n 1, 1) := by decide +kernel
theorem dX5_keeps_20 : decode cX5_keeps 20 = .ok (.iaload, 1) := by decide +kernel
theorem dX5_keeps_21 : decode cX5_keeps 21 = .ok (.iastore, 1) := by decide +kernel
theorem dX5_keeps_22 : decode cX5_keeps 22 = .ok (.aload_n 0, 1) := by decide +kernel
theorem dX5_keeps_23 : decode cX5_keeps 23 = .ok (.getfield 38, 3) := by decide +kernel
theorem dX5_keeps_26 : decode cX5_keeps 26 = .ok (.iload_n 1, 1) := by decide +kernel
theorem dX5_keeps_27 : decode cX5_keeps 27 = .ok (.aload_n 0, 1) := by decide +kernel
theorem dX5_keeps_28 : decode cX5_keeps 28 = .ok (.getfield 44, 3) := by decide +kernel
theorem dX5_keeps_31 : decode cX5_keeps 31 = .ok (.iload_n 1, 1) := by decide +kernel
theorem dX5_keeps_32 : decode cX5_keeps 32 = .ok (.iaload, 1) := by decide +kernel
theorem dX5_keeps_33 : decode cX5_keeps 33 = .ok (.iastore, 1) := by decide +kernel
theorem dX5_keeps_34 : decode cX5_keeps 34 = .ok (.iinc 1 1, 3) := by decide +kernel
theorem dX5_keeps_37 : decode cX5_keeps 37 = .ok (.goto (-35), 3) := by decide +kernel
theorem dX5_keeps_40 : decode cX5_keeps 40 = .ok (.return_, 1) := by decide +kernel
theorem dX5_plans_0 : decode cX5_plans 0 = .ok (.aload_n 0, 1) := by decide +kernel
theorem dX5_plans_1 : decode cX5_plans 1 = .ok (.getfield 118, 3) := by decide +kernel
theorem dX5_plans_4 : decode cX5_plans 4 = .ok (.ifCond .eq 7, 3) := by decide +kernel
theorem dX5_plans_7 : decode cX5_plans 7 = .ok (.aload_n 0, 1) := by decide +kernel
theorem dX5_plans_8 : decode cX5_plans 8 = .ok (.invokevirtual 122, 3) := by decide +kernel
theorem dX5_plans_11 : decode cX5_plans 11 = .ok (.return_, 1) := by decide +kernel
theorem dX5_addScene_0 : decode cX5_addScene 0 = .ok (.iload_n 1, 1) := by decide +kernel
theorem dX5_addScene_1 : decode cX5_addScene 1 = .ok (.iconst 1, 1) := by decide +kernel
theorem dX5_addScene_2 : decode cX5_addScene 2 = .ok (.bipush 6, 2) := by decide +kernel
theorem dX5_addScene_4 : decode cX5_addScene 4 = .ok (.invokestatic 74, 3) := by decide +kernel
theorem dX5_addScene_7 : decode cX5_addScene 7 = .ok (.ifCond .eq 51, 3) := by decide +kernel
theorem dX5_addScene_10 : decode cX5_addScene 10 = .ok (.iload_n 2, 1) := by decide +kernel
theorem dX5_addScene_11 : decode cX5_addScene 11 = .ok (.invokestatic 125, 3) := by decide +kernel
theorem dX5_addScene_14 : decode cX5_addScene 14 = .ok (.ifCond .eq 44, 3) := by decide +kernel
theorem dX5_addScene_17 : decode cX5_addScene 17 = .ok (.iload_n 3, 1) := by decide +kernel
theorem dX5_addScene_18 : decode cX5_addScene 18 = .ok (.iconst 0, 1) := by decide +kernel
theorem dX5_addScene_19 : decode cX5_addScene 19 = .ok (.bipush 63, 2) := by decide +kernel
theorem dX5_addScene_21 : decode cX5_addScene 21 = .ok (.invokestatic 74, 3) := by decide +kernel
theorem dX5_addScene_24 : decode cX5_addScene 24 = .ok (.ifCond .eq 34, 3) := by decide +kernel
theorem dX5_addScene_27 : decode cX5_addScene 27 = .ok (.iload 4, 2) := by decide +kernel
theorem dX5_addScene_29 : decode cX5_addScene 29 = .ok (.iconst 0, 1) := by decide +kernel
theorem dX5_addScene_30 : decode cX5_addScene 30 = .ok (.iconst 2, 1) := by decide +kernel
theorem dX5_addScene_31 : decode cX5_addScene 31 = .ok (.invokestatic 74, 3) := by decide +kernel
theorem dX5_addScene_34 : decode cX5_addScene 34 = .ok (.ifCond .eq 24, 3) := by decide +kernel
theorem dX5_addScene_37 : decode cX5_addScene 37 = .ok (.iload 5, 2) := by decide +kernel
theorem dX5_addScene_39 : decode cX5_addScene 39 = .ok (.iconst 0, 1) := by decide +kernel
theorem dX5_addScene_40 : decode cX5_addScene 40 = .ok (.iconst 1, 1) := by decide +kernel
theorem dX5_addScene_41 : decode cX5_addScene 41 = .ok (.aload_n 0, 1) := by decide +kernel
theorem dX5_addScene_42 : decode cX5_addScene 42 = .ok (.getfield 78, 3) := by decide +kernel
theorem dX5_addScene_45 : decode cX5_addScene 45 = .ok (.ishl, 1) := by decide +kernel
theorem dX5_addScene_46 : decode cX5_addScene 46 = .ok (.iconst 1, 1) := by decide +kernel
theorem dX5_addScene_47 : decode cX5_addScene 47 = .ok (.isub, 1) := by decide +kernel
theorem dX5_addScene_48 : decode cX5_addScene 48 = .ok (.invokestatic 74, 3) := by decide +kernel
theorem dX5_addScene_51 : decode cX5_addScene 51 = .ok (.ifCond .eq 7, 3) := by decide +kernel
theorem dX5_addScene_54 : decode cX5_addScene 54 = .ok (.iconst 1, 1) := by decide +kernel
theorem dX5_addScene_55 : decode cX5_addScene 55 = .ok (.goto 4, 3) := by decide +kernel
theorem dX5_addScene_58 : decode cX5_addScene 58 = .ok (.iconst 0, 1) := by decide +kernel
theorem dX5_addScene_59 : decode cX5_addScene 59 = .ok (.istore 6, 2) := by decide +kernel
theorem dX5_addScene_61 : decode cX5_addScene 61 = .ok (.aload_n 0, 1) := by decide +kernel
theorem dX5_addScene_62 : decode cX5_addScene 62 = .ok (.iload 6, 2) := by decide +kernel
theorem dX5_addScene_64 : decode cX5_addScene 64 = .ok (.ifCond .ne 7, 3) := by decide +kernel
theorem dX5_addScene_67 : decode cX5_addScene 67 = .ok (.iconst 1, 1) := by decide +kernel
theorem dX5_addScene_68 : decode cX5_addScene 68 = .ok (.goto 17, 3) := by decide +kernel
theorem dX5_addScene_71 : decode cX5_addScene 71 = .ok (.aload_n 0, 1) := by decide +kernel
theorem dX5_addScene_72 : decode cX5_addScene 72 = .ok (.getfield 78, 3) := by decide +kernel
theorem dX5_addScene_75 : decode cX5_addScene 75 = .ok (.bipush 8, 2) := by decide +kernel
theorem dX5_addScene_77 : decode cX5_addScene 77 = .ok (.if_icmp .ne 7, 3) := by decide +kernel
theorem dX5_addScene_80 : decode cX5_addScene 80 = .ok (.iconst 2, 1) := by decide +kernel
theorem dX5_addScene_81 : decode cX5_addScene 81 = .ok (.goto 4, 3) := by decide +kernel
theorem dX5_addScene_84 : decode cX5_addScene 84 = .ok (.iconst 0, 1) := by decide +kernel
theorem dX5_addScene_85 : decode cX5_addScene 85 = .ok (.putfield 71, 3) := by decide +kernel
theorem dX5_addScene_88 : decode cX5_addScene 88 = .ok (.aload_n 0, 1) := by decide +kernel
theorem dX5_addScene_89 : decode cX5_addScene 89 = .ok (.getfield 71, 3) := by decide +kernel
theorem dX5_addScene_92 : decode cX5_addScene 92 = .ok (.ifCond .le 5, 3) := by decide +kernel
theorem dX5_addScene_95 : decode cX5_addScene 95 = .ok (.iconst 0, 1) := by decide +kernel
theorem dX5_addScene_96 : decode cX5_addScene 96 = .ok (.ireturn, 1) := by decide +kernel
theorem dX5_addScene_97 : decode cX5_addScene 97 = .ok (.aload_n 0, 1) := by decide +kernel
theorem dX5_addScene_98 : decode cX5_addScene 98 = .ok (.getfield 7, 3) := by decide +kernel
theorem dX5_addScene_101 : decode cX5_addScene 101 = .ok (.aload_n 0, 1) := by decide +kernel
theorem dX5_addScene_102 : decode cX5_addScene 102 = .ok (.getfield 78, 3) := by decide +kernel
theorem dX5_addScene_105 : decode cX5_addScene 105 = .ok (.iload_n 1, 1) := by decide +kernel
theorem dX5_addScene_106 : decode cX5_addScene 106 = .ok (.iastore, 1) := by decide +kernel
theorem dX5_addScene_107 : decode cX5_addScene 107 = .ok (.aload_n 0, 1) := by decide +kernel
theorem dX5_addScene_108 : decode cX5_addScene 108 = .ok (.getfield 13, 3) := by decide +kernel
theorem dX5_addScene_111 : decode cX5_addScene 111 = .ok (.aload_n 0, 1) := by decide +kernel
theorem dX5_addScene_112 : decode cX5_addScene 112 = .ok (.getfield 78, 3) := by decide +kernel
theorem dX5_addScene_115 : decode cX5_addScene 115 = .ok (.iload_n 2, 1) := by decide +kernel
theorem dX5_addScene_116 : decode cX5_addScene 116 = .ok (.iastore, 1) := by decide +kernel
theorem dX5_addScene_117 : decode cX5_addScene 117 = .ok (.aload_n 0, 1) := by decide +kernel
theorem dX5_addScene_118 : decode cX5_addScene 118 = .ok (.getfield 16, 3) := by decide +kernel
theorem dX5_addScene_121 : decode cX5_addScene 121 = .ok (.aload_n 0, 1) := by decide +kernel
theorem dX5_addScene_122 : decode cX5_addScene 122 = .ok (.getfield 78, 3) := by decide +kernel
theorem dX5_addScene_125 : decode cX5_addScene 125 = .ok (.iload_n 3, 1) := by decide +kernel
theorem dX5_addScene_126 : decode cX5_addScene 126 = .ok (.iastore, 1) := by decide +kernel
theorem dX5_addScene_127 : decode cX5_addScene 127 = .ok (.aload_n 0, 1) := by decide +kernel
theorem dX5_addScene_128 : decode cX5_addScene 128 = .ok (.getfield 19, 3) := by decide +kernel
theorem dX5_addScene_131 : decode cX5_addScene 131 = .ok (.aload_n 0, 1) := by decide +kernel
theorem dX5_addScene_132 : decode cX5_addScene 132 = .ok (.getfield 78, 3) := by decide +kernel
theorem dX5_addScene_135 : decode cX5_addScene 135 = .ok (.iload 4, 2) := by decide +kernel
theorem dX5_addScene_137 : decode cX5_addScene 137 = .ok (.iastore, 1) := by decide +kernel
theorem dX5_addScene_138 : decode cX5_addScene 138 = .ok (.aload_n 0, 1) := by decide +kernel
theorem dX5_addScene_139 : decode cX5_addScene 139 = .ok (.getfield 22, 3) := by decide +kernel
theorem dX5_addScene_142 : decode cX5_addScene 142 = .ok (.aload_n 0, 1) := by decide +kernel
theorem dX5_addScene_143 : decode cX5_addScene 143 = .ok (.getfield 78, 3) := by decide +kernel
theorem dX5_addScene_146 : decode cX5_addScene 146 = .ok (.iload 5, 2) := by decide +kernel
theorem dX5_addScene_148 : decode cX5_addScene 148 = .ok (.iastore, 1) := by decide +kernel
theorem dX5_addScene_149 : decode cX5_addScene 149 = .ok (.aload_n 0, 1) := by decide +kernel
theorem dX5_addScene_150 : decode cX5_addScene 150 = .ok (.dup, 1) := by decide +kernel
theorem dX5_addScene_151 : decode cX5_addScene 151 = .ok (.getfield 78, 3) := by decide +kernel
theorem dX5_addScene_154 : decode cX5_addScene 154 = .ok (.iconst 1, 1) := by decide +kernel
theorem dX5_addScene_155 : decode cX5_addScene 155 = .ok (.iadd, 1) := by decide +kernel
theorem dX5_addScene_156 : decode cX5_addScene 156 = .ok (.putfield 78, 3) := by decide +kernel
theorem dX5_addScene_159 : decode cX5_addScene 159 = .ok (.aload_n 0, 1) := by decide +kernel
theorem dX5_addScene_160 : decode cX5_addScene 160 = .ok (.iconst 1, 1) := by decide +kernel
theorem dX5_addScene_161 : decode cX5_addScene 161 = .ok (.putfield 118, 3) := by decide +kernel
theorem dX5_addScene_164 : decode cX5_addScene 164 = .ok (.aload_n 0, 1) := by decide +kernel
theorem dX5_addScene_165 : decode cX5_addScene 165 = .ok (.getfield 78, 3) := by decide +kernel
theorem dX5_addScene_168 : decode cX5_addScene 168 = .ok (.iconst 1, 1) := by decide +kernel
theorem dX5_addScene_169 : decode cX5_addScene 169 = .ok (.isub, 1) := by decide +kernel
theorem dX5_addScene_170 : decode cX5_addScene 170 = .ok (.ireturn, 1) := by decide +kernel
theorem dX5_setOut_0 : decode cX5_setOut 0 = .ok (.aload_n 0, 1) := by decide +kernel
theorem dX5_setOut_1 : decode cX5_setOut 1 = .ok (.iload_n 1, 1) := by decide +kernel
theorem dX5_setOut_2 : decode cX5_setOut 2 = .ok (.invokestatic 125, 3) := by decide +kernel
theorem dX5_setOut_5 : decode cX5_setOut 5 = .ok (.ifCond .eq 7, 3) := by decide +kernel
theorem dX5_setOut_8 : decode cX5_setOut 8 = .ok (.iconst 0, 1) := by decide +kernel
theorem dX5_setOut_9 : decode cX5_setOut 9 = .ok (.goto 4, 3) := by decide +kernel
theorem dX5_setOut_12 : decode cX5_setOut 12 = .ok (.iconst 1, 1) := by decide +kernel
theorem dX5_setOut_13 : decode cX5_setOut 13 = .ok (.putfield 71, 3) := by decide +kernel
theorem dX5_setOut_16 : decode cX5_setOut 16 = .ok (.aload_n 0, 1) := by decide +kernel
theorem dX5_setOut_17 : decode cX5_setOut 17 = .ok (.getfield 71, 3) := by decide +kernel
theorem dX5_setOut_20 : decode cX5_setOut 20 = .ok (.ifCond .le 5, 3) := by decide +kernel
theorem dX5_setOut_23 : decode cX5_setOut 23 = .ok (.iconst 0, 1) := by decide +kernel
theorem dX5_setOut_24 : decode cX5_setOut 24 = .ok (.ireturn, 1) := by decide +kernel
theorem dX5_setOut_25 : decode cX5_setOut 25 = .ok (.aload_n 0, 1) := by decide +kernel
theorem dX5_setOut_26 : decode cX5_setOut 26 = .ok (.getfield 128, 3) := by decide +kernel
theorem dX5_setOut_29 : decode cX5_setOut 29 = .ok (.iload_n 1, 1) := by decide +kernel
theorem dX5_setOut_30 : decode cX5_setOut 30 = .ok (.ishr, 1) := by decide +kernel
theorem dX5_setOut_31 : decode cX5_setOut 31 = .ok (.iconst 1, 1) := by decide +kernel
theorem dX5_setOut_32 : decode cX5_setOut 32 = .ok (.iand, 1) := by decide +kernel
theorem dX5_setOut_33 : decode cX5_setOut 33 = .ok (.iconst 1, 1) := by decide +kernel
theorem dX5_setOut_34 : decode cX5_setOut 34 = .ok (.if_icmp .ne 7, 3) := by decide +kernel
theorem dX5_setOut_37 : decode cX5_setOut 37 = .ok (.iconst 1, 1) := by decide +kernel
theorem dX5_setOut_38 : decode cX5_setOut 38 = .ok (.goto 4, 3) := by decide +kernel
theorem dX5_setOut_41 : decode cX5_setOut 41 = .ok (.iconst 0, 1) := by decide +kernel
theorem dX5_setOut_42 : decode cX5_setOut 42 = .ok (.istore_n 3, 1) := by decide +kernel
theorem dX5_setOut_43 : decode cX5_setOut 43 = .ok (.aload_n 0, 1) := by decide +kernel
theorem dX5_setOut_44 : decode cX5_setOut 44 = .ok (.iload_n 2, 1) := by decide +kernel
theorem dX5_setOut_45 : decode cX5_setOut 45 = .ok (.ifCond .eq 14, 3) := by decide +kernel
theorem dX5_setOut_48 : decode cX5_setOut 48 = .ok (.aload_n 0, 1) := by decide +kernel
theorem dX5_setOut_49 : decode cX5_setOut 49 = .ok (.getfield 128, 3) := by decide +kernel
theorem dX5_setOut_52 : decode cX5_setOut 52 = .ok (.iconst 1, 1) := by decide +kernel
theorem dX5_setOut_53 : decode cX5_setOut 53 = .ok (.iload_n 1, 1) := by decide +kernel
theorem dX5_setOut_54 : decode cX5_setOut 54 = .ok (.ishl, 1) := by decide +kernel
theorem dX5_setOut_55 : decode cX5_setOut 55 = .ok (.ior, 1) := by decide +kernel
theorem dX5_setOut_56 : decode cX5_setOut 56 = .ok (.goto 13, 3) := by decide +kernel
theorem dX5_setOut_59 : decode cX5_setOut 59 = .ok (.aload_n 0, 1) := by decide +kernel
theorem dX5_setOut_60 : decode cX5_setOut 60 = .ok (.getfield 128, 3) := by decide +kernel
theorem dX5_setOut_63 : decode cX5_setOut 63 = .ok (.iconst 1, 1) := by decide +kernel
theorem dX5_setOut_64 : decode cX5_setOut 64 = .ok (.iload_n 1, 1) := by decide +kernel
theorem dX5_setOut_65 : decode cX5_setOut 65 = .ok (.ishl, 1) := by decide +kernel
theorem dX5_setOut_66 : decode cX5_setOut 66 = .ok (.iconst (-1), 1) := by decide +kernel
theorem dX5_setOut_67 : decode cX5_setOut 67 = .ok (.ixor, 1) := by decide +kernel
theorem dX5_setOut_68 : decode cX5_setOut 68 = .ok (.iand, 1) := by decide +kernel
theorem dX5_setOut_69 : decode cX5_setOut 69 = .ok (.putfield 128, 3) := by decide +kernel
theorem dX5_setOut_72 : decode cX5_setOut 72 = .ok (.iload_n 3, 1) := by decide +kernel
theorem dX5_setOut_73 : decode cX5_setOut 73 = .ok (.ireturn, 1) := by decide +kernel
theorem dX5_setChild_0 : decode cX5_setChild 0 = .ok (.aload_n 0, 1) := by decide +kernel
theorem dX5_setChild_1 : decode cX5_setChild 1 = .ok (.iload_n 1, 1) := by decide +kernel
theorem dX5_setChild_2 : decode cX5_setChild 2 = .ok (.invokestatic 131, 3) := by decide +kernel
theorem dX5_setChild_5 : decode cX5_setChild 5 = .ok (.ifCond .eq 7, 3) := by decide +kernel
theorem dX5_setChild_8 : decode cX5_setChild 8 = .ok (.iconst 0, 1) := by decide +kernel
theorem dX5_setChild_9 : decode cX5_setChild 9 = .ok (.goto 4, 3) := by decide +kernel
theorem dX5_setChild_12 : decode cX5_setChild 12 = .ok (.iconst 1, 1) := by decide +kernel
theorem dX5_setChild_13 : decode cX5_setChild 13 = .ok (.putfield 71, 3) := by decide +kernel
theorem dX5_setChild_16 : decode cX5_setChild 16 = .ok (.aload_n 0, 1) := by decide +kernel
theorem dX5_setChild_17 : decode cX5_setChild 17 = .ok (.getfield 71, 3) := by decide +kernel
theorem dX5_setChild_20 : decode cX5_setChild 20 = .ok (.ifCond .le 5, 3) := by decide +kernel
theorem dX5_setChild_23 : decode cX5_setChild 23 = .ok (.iconst 0, 1) := by decide +kernel
theorem dX5_setChild_24 : decode cX5_setChild 24 = .ok (.ireturn, 1) := by decide +kernel
theorem dX5_setChild_25 : decode cX5_setChild 25 = .ok (.aload_n 0, 1) := by decide +kernel
theorem dX5_setChild_26 : decode cX5_setChild 26 = .ok (.getfield 84, 3) := by decide +kernel
theorem dX5_setChild_29 : decode cX5_setChild 29 = .ok (.iload_n 1, 1) := by decide +kernel
theorem dX5_setChild_30 : decode cX5_setChild 30 = .ok (.ishr, 1) := by decide +kernel
theorem dX5_setChild_31 : decode cX5_setChild 31 = .ok (.iconst 1, 1) := by decide +kernel
theorem dX5_setChild_32 : decode cX5_setChild 32 = .ok (.iand, 1) := by decide +kernel
theorem dX5_setChild_33 : decode cX5_setChild 33 = .ok (.iconst 1, 1) := by decide +kernel
theorem dX5_setChild_34 : decode cX5_setChild 34 = .ok (.if_icmp .ne 7, 3) := by decide +kernel
theorem dX5_setChild_37 : decode cX5_setChild 37 = .ok (.iconst 1, 1) := by decide +kernel
theorem dX5_setChild_38 : decode cX5_setChild 38 = .ok (.goto 4, 3) := by decide +kernel
theorem dX5_setChild_41 : decode cX5_setChild 41 = .ok (.iconst 0, 1) := by decide +kernel
theorem dX5_setChild_42 : decode cX5_setChild 42 = .ok (.istore_n 3, 1) := by decide +kernel
theorem dX5_setChild_43 : decode cX5_setChild 43 = .ok (.aload_n 0, 1) := by decide +kernel
theorem dX5_setChild_44 : decode cX5_setChild 44 = .ok (.iload_n 2, 1) := by decide +kernel
theorem dX5_setChild_45 : decode cX5_setChild 45 = .ok (.ifCond .eq 14, 3) := by decide +kernel
theorem dX5_setChild_48 : decode cX5_setChild 48 = .ok (.aload_n 0, 1) := by decide +kernel
theorem dX5_setChild_49 : decode cX5_setChild 49 = .ok (.getfield 84, 3) := by decide +kernel
theorem dX5_setChild_52 : decode cX5_setChild 52 = .ok (.iconst 1, 1) := by decide +kernel
theorem dX5_setChild_53 : decode cX5_setChild 53 = .ok (.iload_n 1, 1) := by decide +kernel
theorem dX5_setChild_54 : decode cX5_setChild 54 = .ok (.ishl, 1) := by decide +kernel
theorem dX5_setChild_55 : decode cX5_setChild 55 = .ok (.ior, 1) := by decide +kernel
theorem dX5_setChild_56 : decode cX5_setChild 56 = .ok (.goto 13, 3) := by decide +kernel
theorem dX5_setChild_59 : decode cX5_setChild 59 = .ok (.aload_n 0, 1) := by decide +kernel
theorem dX5_setChild_60 : decode cX5_setChild 60 = .ok (.getfield 84, 3) := by decide +kernel
theorem dX5_setChild_63 : decode cX5_setChild 63 = .ok (.iconst 1, 1) := by decide +kernel
theorem dX5_setChild_64 : decode cX5_setChild 64 = .ok (.iload_n 1, 1) := by decide +kernel
theorem dX5_setChild_65 : decode cX5_setChild 65 = .ok (.ishl, 1) := by decide +kernel
theorem dX5_setChild_66 : decode cX5_setChild 66 = .ok (.iconst (-1), 1) := by decide +kernel
theorem dX5_setChild_67 : decode cX5_setChild 67 = .ok (.ixor, 1) := by decide +kernel
theorem dX5_setChild_68 : decode cX5_setChild 68 = .ok (.iand, 1) := by decide +kernel
theorem dX5_setChild_69 : decode cX5_setChild 69 = .ok (.putfield 84, 3) := by decide +kernel
theorem dX5_setChild_72 : decode cX5_setChild 72 = .ok (.aload_n 0, 1) := by decide +kernel
theorem dX5_setChild_73 : decode cX5_setChild 73 = .ok (.iconst 1, 1) := by decide +kernel
theorem dX5_setChild_74 : decode cX5_setChild 74 = .ok (.putfield 118, 3) := by decide +kernel
theorem dX5_setChild_77 : decode cX5_setChild 77 = .ok (.iload_n 3, 1) := by decide +kernel
theorem dX5_setChild_78 : decode cX5_setChild 78 = .ok (.ireturn, 1) := by decide +kernel
theorem dX5_setRates_0 : decode cX5_setRates 0 = .ok (.aload_n 0, 1) := by decide +kernel
theorem dX5_setRates_1 : decode cX5_setRates 1 = .ok (.iload_n 1, 1) := by decide +kernel
theorem dX5_setRates_2 : decode cX5_setRates 2 = .ok (.iconst 0, 1) := by decide +kernel
theorem dX5_setRates_3 : decode cX5_setRates 3 = .ok (.sipush 1000, 3) := by decide +kernel
theorem dX5_setRates_6 : decode cX5_setRates 6 = .ok (.invokestatic 74, 3) := by decide +kernel
theorem dX5_setRates_9 : decode cX5_setRates 9 = .ok (.ifCond .eq 18, 3) := by decide +kernel
theorem dX5_setRates_12 : decode cX5_setRates 12 = .ok (.iload_n 2, 1) := by decide +kernel
theorem dX5_setRates_13 : decode cX5_setRates 13 = .ok (.iconst 0, 1) := by decide +kernel
theorem dX5_setRates_14 : decode cX5_setRates 14 = .ok (.sipush 1000, 3) := by decide +kernel
theorem dX5_setRates_17 : decode cX5_setRates 17 = .ok (.invokestatic 74, 3) := by decide +kernel
theorem dX5_setRates_20 : decode cX5_setRates 20 = .ok (.ifCond .eq 7, 3) := by decide +kernel
theorem dX5_setRates_23 : decode cX5_setRates 23 = .ok (.iconst 0, 1) := by decide +kernel
theorem dX5_setRates_24 : decode cX5_setRates 24 = .ok (.goto 4, 3) := by decide +kernel
theorem dX5_setRates_27 : decode cX5_setRates 27 = .ok (.iconst 1, 1) := by decide +kernel
theorem dX5_setRates_28 : decode cX5_setRates 28 = .ok (.putfield 71, 3) := by decide +kernel
theorem dX5_setRates_31 : decode cX5_setRates 31 = .ok (.aload_n 0, 1) := by decide +kernel
theorem dX5_setRates_32 : decode cX5_setRates 32 = .ok (.getfield 71, 3) := by decide +kernel
theorem dX5_setRates_35 : decode cX5_setRates 35 = .ok (.ifCond .le 5, 3) := by decide +kernel
theorem dX5_setRates_38 : decode cX5_setRates 38 = .ok (.iconst 0, 1) := by decide +kernel
theorem dX5_setRates_39 : decode cX5_setRates 39 = .ok (.ireturn, 1) := by decide +kernel
theorem dX5_setRates_40 : decode cX5_setRates 40 = .ok (.aload_n 0, 1) := by decide +kernel
theorem dX5_setRates_41 : decode cX5_setRates 41 = .ok (.getfield 28, 3) := by decide +kernel
theorem dX5_setRates_44 : decode cX5_setRates 44 = .ok (.istore_n 3, 1) := by decide +kernel
theorem dX5_setRates_45 : decode cX5_setRates 45 = .ok (.aload_n 0, 1) := by decide +kernel
theorem dX5_setRates_46 : decode cX5_setRates 46 = .ok (.iload_n 1, 1) := by decide +kernel
theorem dX5_setRates_47 : decode cX5_setRates 47 = .ok (.putfield 28, 3) := by decide +kernel
theorem dX5_setRates_50 : decode cX5_setRates 50 = .ok (.aload_n 0, 1) := by decide +kernel
theorem dX5_setRates_51 : decode cX5_setRates 51 = .ok (.iload_n 2, 1) := by decide +kernel
theorem dX5_setRates_52 : decode cX5_setRates 52 = .ok (.putfield 32, 3) := by decide +kernel
theorem dX5_setRates_55 : decode cX5_setRates 55 = .ok (.iload_n 3, 1) := by decide +kernel
theorem dX5_setRates_56 : decode cX5_setRates 56 = .ok (.ireturn, 1) := by decide +kernel
theorem dX5_hold_0 : decode cX5_hold 0 = .ok (.aload_n 0, 1) := by decide +kernel
theorem dX5_hold_1 : decode cX5_hold 1 = .ok (.iconst 0, 1) := by decide +kernel
theorem dX5_hold_2 : decode cX5_hold 2 = .ok (.putfield 71, 3) := by decide +kernel
theorem dX5_hold_5 : decode cX5_hold 5 = .ok (.aload_n 0, 1) := by decide +kernel
theorem dX5_hold_6 : decode cX5_hold 6 = .ok (.getfield 134, 3) := by decide +kernel
theorem dX5_hold_9 : decode cX5_hold 9 = .ok (.istore_n 2, 1) := by decide +kernel
theorem dX5_hold_10 : decode cX5_hold 10 = .ok (.aload_n 0, 1) := by decide +kernel
theorem dX5_hold_11 : decode cX5_hold 11 = .ok (.iload_n 1, 1) := by decide +kernel
theorem dX5_hold_12 : decode cX5_hold 12 = .ok (.putfield 134, 3) := by decide +kernel
theorem dX5_hold_15 : decode cX5_hold 15 = .ok (.iload_n 2, 1) := by decide +kernel
theorem dX5_hold_16 : decode cX5_hold 16 = .ok (.ireturn, 1) := by decide +kernel
theorem dX5_lacks_0 : decode cX5_lacks 0 = .ok (.iload_n 2, 1) := by decide +kernel
theorem dX5_lacks_1 : decode cX5_lacks 1 = .ok (.aload_n 0, 1) := by decide +kernel
theorem dX5_lacks_2 : decode cX5_lacks 2 = .ok (.getfield 47, 3) := by decide +kernel
theorem dX5_lacks_5 : decode cX5_lacks 5 = .ok (.iload_n 1, 1) := by decide +kernel
theorem dX5_lacks_6 : decode cX5_lacks 6 = .ok (.iaload, 1) := by decide +kernel
theorem dX5_lacks_7 : decode cX5_lacks 7 = .ok (.if_icmp .le 14, 3) := by decide +kernel
theorem dX5_lacks_10 : decode cX5_lacks 10 = .ok (.iload_n 2, 1) := by decide +kernel
theorem dX5_lacks_11 : decode cX5_lacks 11 = .ok (.aload_n 0, 1) := by decide +kernel
theorem dX5_lacks_12 : decode cX5_lacks 12 = .ok (.getfield 47, 3) := by decide +kernel
theorem dX5_lacks_15 : decode cX5_lacks 15 = .ok (.iload_n 1, 1) := by decide +kernel
theorem dX5_lacks_16 : decode cX5_lacks 16 = .ok (.iaload, 1) := by decide +kernel
theorem dX5_lacks_17 : decode cX5_lacks 17 = .ok (.isub, 1) := by decide +kernel
theorem dX5_lacks_18 : decode cX5_lacks 18 = .ok (.goto 4, 3) := by decide +kernel
theorem dX5_lacks_21 : decode cX5_lacks 21 = .ok (.iconst 0, 1) := by decide +kernel
theorem dX5_lacks_22 : decode cX5_lacks 22 = .ok (.ireturn, 1) := by decide +kernel
theorem dX5_pays_0 : decode cX5_pays 0 = .ok (.aload_n 0, 1) := by decide +kernel
theorem dX5_pays_1 : decode cX5_pays 1 = .ok (.iload_n 1, 1) := by decide +kernel
theorem dX5_pays_2 : decode cX5_pays 2 = .ok (.iload_n 2, 1) := by decide +kernel
theorem dX5_pays_3 : decode cX5_pays 3 = .ok (.invokevirtual 137, 3) := by decide +kernel
theorem dX5_pays_6 : decode cX5_pays 6 = .ok (.istore_n 3, 1) := by decide +kernel
theorem dX5_pays_7 : decode cX5_pays 7 = .ok (.aload_n 0, 1) := by decide +kernel
theorem dX5_pays_8 : decode cX5_pays 8 = .ok (.getfield 47, 3) := by decide +kernel
theorem dX5_pays_11 : decode cX5_pays 11 = .ok (.iload_n 1, 1) := by decide +kernel
theorem dX5_pays_12 : decode cX5_pays 12 = .ok (.dup2, 1) := by decide +kernel
theorem dX5_pays_13 : decode cX5_pays 13 = .ok (.iaload, 1) := by decide +kernel
theorem dX5_pays_14 : decode cX5_pays 14 = .ok (.iload_n 2, 1) := by decide +kernel
theorem dX5_pays_15 : decode cX5_pays 15 = .ok (.iload_n 3, 1) := by decide +kernel
theorem dX5_pays_16 : decode cX5_pays 16 = .ok (.isub, 1) := by decide +kernel
theorem dX5_pays_17 : decode cX5_pays 17 = .ok (.isub, 1) := by decide +kernel
theorem dX5_pays_18 : decode cX5_pays 18 = .ok (.iastore, 1) := by decide +kernel
theorem dX5_pays_19 : decode cX5_pays 19 = .ok (.aload_n 0, 1) := by decide +kernel
theorem dX5_pays_20 : decode cX5_pays 20 = .ok (.dup, 1) := by decide +kernel
theorem dX5_pays_21 : decode cX5_pays 21 = .ok (.getfield 141, 3) := by decide +kernel
theorem dX5_pays_24 : decode cX5_pays 24 = .ok (.iload_n 3, 1) := by decide +kernel
theorem dX5_pays_25 : decode cX5_pays 25 = .ok (.isub, 1) := by decide +kernel
theorem dX5_pays_26 : decode cX5_pays 26 = .ok (.putfield 141, 3) := by decide +kernel
theorem dX5_pays_29 : decode cX5_pays 29 = .ok (.aload_n 0, 1) := by decide +kernel
theorem dX5_pays_30 : decode cX5_pays 30 = .ok (.dup, 1) := by decide +kernel
theorem dX5_pays_31 : decode cX5_pays 31 = .ok (.getfield 144, 3) := by decide +kernel
theorem dX5_pays_34 : decode cX5_pays 34 = .ok (.iload_n 2, 1) := by decide +kernel
theorem dX5_pays_35 : decode cX5_pays 35 = .ok (.iadd, 1) := by decide +kernel
theorem dX5_pays_36 : decode cX5_pays 36 = .ok (.putfield 144, 3) := by decide +kernel
theorem dX5_pays_39 : decode cX5_pays 39 = .ok (.aload_n 0, 1) := by decide +kernel
theorem dX5_pays_40 : decode cX5_pays 40 = .ok (.dup, 1) := by decide +kernel
theorem dX5_pays_41 : decode cX5_pays 41 = .ok (.getfield 147, 3) := by decide +kernel
theorem dX5_pays_44 : decode cX5_pays 44 = .ok (.iload_n 2, 1) := by decide +kernel
theorem dX5_pays_45 : decode cX5_pays 45 = .ok (.iadd, 1) := by decide +kernel
theorem dX5_pays_46 : decode cX5_pays 46 = .ok (.putfield 147, 3) := by decide +kernel
theorem dX5_pays_49 : decode cX5_pays 49 = .ok (.return_, 1) := by decide +kernel
theorem dX5_shoot_0 : decode cX5_shoot 0 = .ok (.aload_n 0, 1) := by decide +kernel
theorem dX5_shoot_1 : decode cX5_shoot 1 = .ok (.invokevirtual 150, 3) := by decide +kernel
theorem dX5_shoot_4 : decode cX5_shoot 4 = .ok (.aload_n 0, 1) := by decide +kernel
theorem dX5_shoot_5 : decode cX5_shoot 5 = .ok (.getfield 81, 3) := by decide +kernel
theorem dX5_shoot_8 : decode cX5_shoot 8 = .ok (.istore_n 2, 1) := by decide +kernel
theorem dX5_shoot_9 : decode cX5_shoot 9 = .ok (.iconst 0, 1) := by decide +kernel
theorem dX5_shoot_10 : decode cX5_shoot 10 = .ok (.istore_n 3, 1) := by decide +kernel
theorem dX5_shoot_11 : decode cX5_shoot 11 = .ok (.iconst 0, 1) := by decide +kernel
theorem dX5_shoot_12 : decode cX5_shoot 12 = .ok (.istore 4, 2) := by decide +kernel
theorem dX5_shoot_14 : decode cX5_shoot 14 = .ok (.iload 4, 2) := by decide +kernel
theorem dX5_shoot_16 : decode cX5_shoot 16 = .ok (.aload_n 0, 1) := by decide +kernel
theorem dX5_shoot_17 : decode cX5_shoot 17 = .ok (.getfield 100, 3) := by decide +kernel
theorem dX5_shoot_20 : decode cX5_shoot 20 = .ok (.if_icmp .ge 112, 3) := by decide +kernel
theorem dX5_shoot_23 : decode cX5_shoot 23 = .ok (.aload_n 0, 1) := by decide +kernel
theorem dX5_shoot_24 : decode cX5_shoot 24 = .ok (.getfield 35, 3) := by decide +kernel
theorem dX5_shoot_27 : decode cX5_shoot 27 = .ok (.iload 4, 2) := by decide +kernel
theorem dX5_shoot_29 : decode cX5_shoot 29 = .ok (.iaload, 1) := by decide +kernel
theorem dX5_shoot_30 : decode cX5_shoot 30 = .ok (.istore 5, 2) := by decide +kernel
theorem dX5_shoot_32 : decode cX5_shoot 32 = .ok (.iload_n 1, 1) := by decide +kernel
theorem dX5_shoot_33 : decode cX5_shoot 33 = .ok (.ifCond .eq 32, 3) := by decide +kernel
theorem dX5_shoot_36 : decode cX5_shoot 36 = .ok (.aload_n 0, 1) := by decide +kernel
theorem dX5_shoot_37 : decode cX5_shoot 37 = .ok (.getfield 134, 3) := by decide +kernel
theorem dX5_shoot_40 : decode cX5_shoot 40 = .ok (.ifCond .ne 25, 3) := by decide +kernel
theorem dX5_shoot_43 : decode cX5_shoot 43 = .ok (.aload_n 0, 1) := by decide +kernel
theorem dX5_shoot_44 : decode cX5_shoot 44 = .ok (.getfield 128, 3) := by decide +kernel
theorem dX5_shoot_47 : decode cX5_shoot 47 = .ok (.aload_n 0, 1) := by decide +kernel
theorem dX5_shoot_48 : decode cX5_shoot 48 = .ok (.getfield 13, 3) := by decide +kernel
theorem dX5_shoot_51 : decode cX5_shoot 51 = .ok (.iload 5, 2) := by decide +kernel
theorem dX5_shoot_53 : decode cX5_shoot 53 = .ok (.iaload, 1) := by decide +kernel
theorem dX5_shoot_54 : decode cX5_shoot 54 = .ok (.ishr, 1) := by decide +kernel
theorem dX5_shoot_55 : decode cX5_shoot 55 = .ok (.iconst 1, 1) := by decide +kernel
theorem dX5_shoot_56 : decode cX5_shoot 56 = .ok (.iand, 1) := by decide +kernel
theorem dX5_shoot_57 : decode cX5_shoot 57 = .ok (.iconst 1, 1) := by decide +kernel
theorem dX5_shoot_58 : decode cX5_shoot 58 = .ok (.if_icmp .ne 7, 3) := by decide +kernel
theorem dX5_shoot_61 : decode cX5_shoot 61 = .ok (.iconst 1, 1) := by decide +kernel
theorem dX5_shoot_62 : decode cX5_shoot 62 = .ok (.goto 4, 3) := by decide +kernel
theorem dX5_shoot_65 : decode cX5_shoot 65 = .ok (.iconst 0, 1) := by decide +kernel
theorem dX5_shoot_66 : decode cX5_shoot 66 = .ok (.istore 6, 2) := by decide +kernel
theorem dX5_shoot_68 : decode cX5_shoot 68 = .ok (.aload_n 0, 1) := by decide +kernel
theorem dX5_shoot_69 : decode cX5_shoot 69 = .ok (.getfield 38, 3) := by decide +kernel
theorem dX5_shoot_72 : decode cX5_shoot 72 = .ok (.iload 4, 2) := by decide +kernel
theorem dX5_shoot_74 : decode cX5_shoot 74 = .ok (.iaload, 1) := by decide +kernel
theorem dX5_shoot_75 : decode cX5_shoot 75 = .ok (.bipush 24, 2) := by decide +kernel
theorem dX5_shoot_77 : decode cX5_shoot 77 = .ok (.idiv, 1) := by decide +kernel
theorem dX5_shoot_78 : decode cX5_shoot 78 = .ok (.aload_n 0, 1) := by decide +kernel
theorem dX5_shoot_79 : decode cX5_shoot 79 = .ok (.getfield 91, 3) := by decide +kernel
theorem dX5_shoot_82 : decode cX5_shoot 82 = .ok (.if_icmp .ne 44, 3) := by decide +kernel
theorem dX5_shoot_85 : decode cX5_shoot 85 = .ok (.iload 6, 2) := by decide +kernel
theorem dX5_shoot_87 : decode cX5_shoot 87 = .ok (.ifCond .ne 39, 3) := by decide +kernel
theorem dX5_shoot_90 : decode cX5_shoot 90 = .ok (.aload_n 0, 1) := by decide +kernel
theorem dX5_shoot_91 : decode cX5_shoot 91 = .ok (.getfield 22, 3) := by decide +kernel
theorem dX5_shoot_94 : decode cX5_shoot 94 = .ok (.iload 5, 2) := by decide +kernel
theorem dX5_shoot_96 : decode cX5_shoot 96 = .ok (.iaload, 1) := by decide +kernel
theorem dX5_shoot_97 : decode cX5_shoot 97 = .ok (.iload_n 2, 1) := by decide +kernel
theorem dX5_shoot_98 : decode cX5_shoot 98 = .ok (.iconst (-1), 1) := by decide +kernel
theorem dX5_shoot_99 : decode cX5_shoot 99 = .ok (.ixor, 1) := by decide +kernel
theorem dX5_shoot_100 : decode cX5_shoot 100 = .ok (.iand, 1) := by decide +kernel
theorem dX5_shoot_101 : decode cX5_shoot 101 = .ok (.ifCond .ne 25, 3) := by decide +kernel
theorem dX5_shoot_104 : decode cX5_shoot 104 = .ok (.iload_n 2, 1) := by decide +kernel
theorem dX5_shoot_105 : decode cX5_shoot 105 = .ok (.iconst 1, 1) := by decide +kernel
theorem dX5_shoot_106 : decode cX5_shoot 106 = .ok (.iload 5, 2) := by decide +kernel
theorem dX5_shoot_108 : decode cX5_shoot 108 = .ok (.ishl, 1) := by decide +kernel
theorem dX5_shoot_109 : decode cX5_shoot 109 = .ok (.ior, 1) := by decide +kernel
theorem dX5_shoot_110 : decode cX5_shoot 110 = .ok (.istore_n 2, 1) := by decide +kernel
theorem dX5_shoot_111 : decode cX5_shoot 111 = .ok (.iload_n 3, 1) := by decide +kernel
theorem dX5_shoot_112 : decode cX5_shoot 112 = .ok (.aload_n 0, 1) := by decide +kernel
theorem dX5_shoot_113 : decode cX5_shoot 113 = .ok (.getfield 7, 3) := by decide +kernel
theorem dX5_shoot_116 : decode cX5_shoot 116 = .ok (.iload 5, 2) := by decide +kernel
theorem dX5_shoot_118 : decode cX5_shoot 118 = .ok (.iaload, 1) := by decide +kernel
theorem dX5_shoot_119 : decode cX5_shoot 119 = .ok (.aload_n 0, 1) := by decide +kernel
theorem dX5_shoot_120 : decode cX5_shoot 120 = .ok (.getfield 28, 3) := by decide +kernel
theorem dX5_shoot_123 : decode cX5_shoot 123 = .ok (.imul, 1) := by decide +kernel
theorem dX5_shoot_124 : decode cX5_shoot 124 = .ok (.iadd, 1) := by decide +kernel
theorem dX5_shoot_125 : decode cX5_shoot 125 = .ok (.istore_n 3, 1) := by decide +kernel
theorem dX5_shoot_126 : decode cX5_shoot 126 = .ok (.iinc 4 1, 3) := by decide +kernel
theorem dX5_shoot_129 : decode cX5_shoot 129 = .ok (.goto (-115), 3) := by decide +kernel
theorem dX5_shoot_132 : decode cX5_shoot 132 = .ok (.aload_n 0, 1) := by decide +kernel
theorem dX5_shoot_133 : decode cX5_shoot 133 = .ok (.getfield 134, 3) := by decide +kernel
theorem dX5_shoot_136 : decode cX5_shoot 136 = .ok (.ifCond .eq 10, 3) := by decide +kernel
theorem dX5_shoot_139 : decode cX5_shoot 139 = .ok (.aload_n 0, 1) := by decide +kernel
theorem dX5_shoot_140 : decode cX5_shoot 140 = .ok (.getfield 32, 3) := by decide +kernel
theorem dX5_shoot_143 : decode cX5_shoot 143 = .ok (.goto 4, 3) := by decide +kernel
theorem dX5_shoot_146 : decode cX5_shoot 146 = .ok (.iconst 0, 1) := by decide +kernel
theorem dX5_shoot_147 : decode cX5_shoot 147 = .ok (.istore 4, 2) := by decide +kernel
theorem dX5_shoot_149 : decode cX5_shoot 149 = .ok (.aload_n 0, 1) := by decide +kernel
theorem dX5_shoot_150 : decode cX5_shoot 150 = .ok (.aload_n 0, 1) := by decide +kernel
theorem dX5_shoot_151 : decode cX5_shoot 151 = .ok (.iconst 0, 1) := by decide +kernel
theorem dX5_shoot_152 : decode cX5_shoot 152 = .ok (.iload_n 3, 1) := by decide +kernel
theorem dX5_shoot_153 : decode cX5_shoot 153 = .ok (.invokevirtual 137, 3) := by decide +kernel
theorem dX5_shoot_156 : decode cX5_shoot 156 = .ok (.aload_n 0, 1) := by decide +kernel
theorem dX5_shoot_157 : decode cX5_shoot 157 = .ok (.iconst 1, 1) := by decide +kernel
theorem dX5_shoot_158 : decode cX5_shoot 158 = .ok (.iload 4, 2) := by decide +kernel
theorem dX5_shoot_160 : decode cX5_shoot 160 = .ok (.invokevirtual 137, 3) := by decide +kernel
theorem dX5_shoot_163 : decode cX5_shoot 163 = .ok (.iadd, 1) := by decide +kernel
theorem dX5_shoot_164 : decode cX5_shoot 164 = .ok (.aload_n 0, 1) := by decide +kernel
theorem dX5_shoot_165 : decode cX5_shoot 165 = .ok (.getfield 141, 3) := by decide +kernel
theorem dX5_shoot_168 : decode cX5_shoot 168 = .ok (.if_icmp .gt 13, 3) := by decide +kernel
theorem dX5_shoot_171 : decode cX5_shoot 171 = .ok (.aload_n 0, 1) := by decide +kernel
theorem dX5_shoot_172 : decode cX5_shoot 172 = .ok (.getfield 91, 3) := by decide +kernel
theorem dX5_shoot_175 : decode cX5_shoot 175 = .ok (.sipush 1000, 3) := by decide +kernel
theorem dX5_shoot_178 : decode cX5_shoot 178 = .ok (.if_icmp .ne 7, 3) := by decide +kernel
theorem dX5_shoot_181 : decode cX5_shoot 181 = .ok (.iconst 1, 1) := by decide +kernel
theorem dX5_shoot_182 : decode cX5_shoot 182 = .ok (.goto 4, 3) := by decide +kernel
theorem dX5_shoot_185 : decode cX5_shoot 185 = .ok (.iconst 0, 1) := by decide +kernel
theorem dX5_shoot_186 : decode cX5_shoot 186 = .ok (.putfield 71, 3) := by decide +kernel
theorem dX5_shoot_189 : decode cX5_shoot 189 = .ok (.aload_n 0, 1) := by decide +kernel
theorem dX5_shoot_190 : decode cX5_shoot 190 = .ok (.getfield 71, 3) := by decide +kernel
theorem dX5_shoot_193 : decode cX5_shoot 193 = .ok (.ifCond .le 5, 3) := by decide +kernel
theorem dX5_shoot_196 : decode cX5_shoot 196 = .ok (.iconst 0, 1) := by decide +kernel
theorem dX5_shoot_197 : decode cX5_shoot 197 = .ok (.ireturn, 1) := by decide +kernel
theorem dX5_shoot_198 : decode cX5_shoot 198 = .ok (.aload_n 0, 1) := by decide +kernel
theorem dX5_shoot_199 : decode cX5_shoot 199 = .ok (.iconst 0, 1) := by decide +kernel
theorem dX5_shoot_200 : decode cX5_shoot 200 = .ok (.iload_n 3, 1) := by decide +kernel
theorem dX5_shoot_201 : decode cX5_shoot 201 = .ok (.invokevirtual 153, 3) := by decide +kernel
theorem dX5_shoot_204 : decode cX5_shoot 204 = .ok (.aload_n 0, 1) := by decide +kernel
theorem dX5_shoot_205 : decode cX5_shoot 205 = .ok (.iconst 1, 1) := by decide +kernel
theorem dX5_shoot_206 : decode cX5_shoot 206 = .ok (.iload 4, 2) := by decide +kernel
theorem dX5_shoot_208 : decode cX5_shoot 208 = .ok (.invokevirtual 153, 3) := by decide +kernel
theorem dX5_shoot_211 : decode cX5_shoot 211 = .ok (.iconst 0, 1) := by decide +kernel
theorem dX5_shoot_212 : decode cX5_shoot 212 = .ok (.istore 5, 2) := by decide +kernel
theorem dX5_shoot_214 : decode cX5_shoot 214 = .ok (.iconst 0, 1) := by decide +kernel
theorem dX5_shoot_215 : decode cX5_shoot 215 = .ok (.istore 6, 2) := by decide +kernel
theorem dX5_shoot_217 : decode cX5_shoot 217 = .ok (.iload 6, 2) := by decide +kernel
theorem dX5_shoot_219 : decode cX5_shoot 219 = .ok (.aload_n 0, 1) := by decide +kernel
theorem dX5_shoot_220 : decode cX5_shoot 220 = .ok (.getfield 100, 3) := by decide +kernel
theorem dX5_shoot_223 : decode cX5_shoot 223 = .ok (.if_icmp .ge 52, 3) := by decide +kernel
theorem dX5_shoot_226 : decode cX5_shoot 226 = .ok (.iload_n 2, 1) := by decide +kernel
theorem dX5_shoot_227 : decode cX5_shoot 227 = .ok (.aload_n 0, 1) := by decide +kernel
theorem dX5_shoot_228 : decode cX5_shoot 228 = .ok (.getfield 81, 3) := by decide +kernel
theorem dX5_shoot_231 : decode cX5_shoot 231 = .ok (.iconst (-1), 1) := by decide +kernel
theorem dX5_shoot_232 : decode cX5_shoot 232 = .ok (.ixor, 1) := by decide +kernel
theorem dX5_shoot_233 : decode cX5_shoot 233 = .ok (.iand, 1) := by decide +kernel
theorem dX5_shoot_234 : decode cX5_shoot 234 = .ok (.iconst 1, 1) := by decide +kernel
theorem dX5_shoot_235 : decode cX5_shoot 235 = .ok (.aload_n 0, 1) := by decide +kernel
theorem dX5_shoot_236 : decode cX5_shoot 236 = .ok (.getfield 35, 3) := by decide +kernel
theorem dX5_shoot_239 : decode cX5_shoot 239 = .ok (.iload 6, 2) := by decide +kernel
theorem dX5_shoot_241 : decode cX5_shoot 241 = .ok (.iaload, 1) := by decide +kernel
theorem dX5_shoot_242 : decode cX5_shoot 242 = .ok (.ishl, 1) := by decide +kernel
theorem dX5_shoot_243 : decode cX5_shoot 243 = .ok (.iand, 1) := by decide +kernel
theorem dX5_shoot_244 : decode cX5_shoot 244 = .ok (.ifCond .eq 25, 3) := by decide +kernel
theorem dX5_shoot_247 : decode cX5_shoot 247 = .ok (.aload_n 0, 1) := by decide +kernel
theorem dX5_shoot_248 : decode cX5_shoot 248 = .ok (.getfield 25, 3) := by decide +kernel
theorem dX5_shoot_251 : decode cX5_shoot 251 = .ok (.aload_n 0, 1) := by decide +kernel
theorem dX5_shoot_252 : decode cX5_shoot 252 = .ok (.getfield 35, 3) := by decide +kernel
theorem dX5_shoot_255 : decode cX5_shoot 255 = .ok (.iload 6, 2) := by decide +kernel
theorem dX5_shoot_257 : decode cX5_shoot 257 = .ok (.iaload, 1) := by decide +kernel
theorem dX5_shoot_258 : decode cX5_shoot 258 = .ok (.aload_n 0, 1) := by decide +kernel
theorem dX5_shoot_259 : decode cX5_shoot 259 = .ok (.getfield 38, 3) := by decide +kernel
theorem dX5_shoot_262 : decode cX5_shoot 262 = .ok (.iload 6, 2) := by decide +kernel
theorem dX5_shoot_264 : decode cX5_shoot 264 = .ok (.iaload, 1) := by decide +kernel
theorem dX5_shoot_265 : decode cX5_shoot 265 = .ok (.iastore, 1) := by decide +kernel
theorem dX5_shoot_266 : decode cX5_shoot 266 = .ok (.iinc 5 1, 3) := by decide +kernel
theorem dX5_shoot_269 : decode cX5_shoot 269 = .ok (.iinc 6 1, 3) := by decide +kernel
theorem dX5_shoot_272 : decode cX5_shoot 272 = .ok (.goto (-55), 3) := by decide +kernel
theorem dX5_shoot_275 : decode cX5_shoot 275 = .ok (.aload_n 0, 1) := by decide +kernel
theorem dX5_shoot_276 : decode cX5_shoot 276 = .ok (.iload_n 2, 1) := by decide +kernel
theorem dX5_shoot_277 : decode cX5_shoot 277 = .ok (.putfield 81, 3) := by decide +kernel
theorem dX5_shoot_280 : decode cX5_shoot 280 = .ok (.aload_n 0, 1) := by decide +kernel
theorem dX5_shoot_281 : decode cX5_shoot 281 = .ok (.dup, 1) := by decide +kernel
theorem dX5_shoot_282 : decode cX5_shoot 282 = .ok (.getfield 91, 3) := by decide +kernel
theorem dX5_shoot_285 : decode cX5_shoot 285 = .ok (.iconst 1, 1) := by decide +kernel
theorem dX5_shoot_286 : decode cX5_shoot 286 = .ok (.iadd, 1) := by decide +kernel
theorem dX5_shoot_287 : decode cX5_shoot 287 = .ok (.putfield 91, 3) := by decide +kernel
theorem dX5_shoot_290 : decode cX5_shoot 290 = .ok (.aload_n 0, 1) := by decide +kernel
theorem dX5_shoot_291 : decode cX5_shoot 291 = .ok (.iconst 1, 1) := by decide +kernel
theorem dX5_shoot_292 : decode cX5_shoot 292 = .ok (.putfield 118, 3) := by decide +kernel
theorem dX5_shoot_295 : decode cX5_shoot 295 = .ok (.iload 5, 2) := by decide +kernel
theorem dX5_shoot_297 : decode cX5_shoot 297 = .ok (.ireturn, 1) := by decide +kernel
theorem dX5_isLine_0 : decode cX5_isLine 0 = .ok (.aload_n 0, 1) := by decide +kernel
theorem dX5_isLine_1 : decode cX5_isLine 1 = .ok (.iload_n 1, 1) := by decide +kernel
theorem dX5_isLine_2 : decode cX5_isLine 2 = .ok (.invokestatic 125, 3) := by decide +kernel
theorem dX5_isLine_5 : decode cX5_isLine 5 = .ok (.ifCond .eq 7, 3) := by decide +kernel
theorem dX5_isLine_8 : decode cX5_isLine 8 = .ok (.iconst 0, 1) := by decide +kernel
theorem dX5_isLine_9 : decode cX5_isLine 9 = .ok (.goto 4, 3) := by decide +kernel
theorem dX5_isLine_12 : decode cX5_isLine 12 = .ok (.iconst 1, 1) := by decide +kernel
theorem dX5_isLine_13 : decode cX5_isLine 13 = .ok (.putfield 71, 3) := by decide +kernel
theorem dX5_isLine_16 : decode cX5_isLine 16 = .ok (.aload_n 0, 1) := by decide +kernel
theorem dX5_isLine_17 : decode cX5_isLine 17 = .ok (.getfield 71, 3) := by decide +kernel
theorem dX5_isLine_20 : decode cX5_isLine 20 = .ok (.ifCond .ne 7, 3) := by decide +kernel
theorem dX5_isLine_23 : decode cX5_isLine 23 = .ok (.iconst 1, 1) := by decide +kernel
theorem dX5_isLine_24 : decode cX5_isLine 24 = .ok (.goto 4, 3) := by decide +kernel
theorem dX5_isLine_27 : decode cX5_isLine 27 = .ok (.iconst 0, 1) := by decide +kernel
theorem dX5_isLine_28 : decode cX5_isLine 28 = .ok (.ireturn, 1) := by decide +kernel
theorem dX5_isMoney_0 : decode cX5_isMoney 0 = .ok (.iload_n 0, 1) := by decide +kernel
theorem dX5_isMoney_1 : decode cX5_isMoney 1 = .ok (.iconst 1, 1) := by decide +kernel
theorem dX5_isMoney_2 : decode cX5_isMoney 2 = .ok (.ldc 157, 2) := by decide +kernel
theorem dX5_isMoney_4 : decode cX5_isMoney 4 = .ok (.invokestatic 74, 3) := by decide +kernel
theorem dX5_isMoney_7 : decode cX5_isMoney 7 = .ok (.ireturn, 1) := by decide +kernel
theorem dX5_approve_0 : decode cX5_approve 0 = .ok (.aload_n 0, 1) := by decide +kernel
theorem dX5_approve_1 : decode cX5_approve 1 = .ok (.iload_n 1, 1) := by decide +kernel
theorem dX5_approve_2 : decode cX5_approve 2 = .ok (.invokestatic 125, 3) := by decide +kernel
theorem dX5_approve_5 : decode cX5_approve 5 = .ok (.ifCond .ne 7, 3) := by decide +kernel
theorem dX5_approve_8 : decode cX5_approve 8 = .ok (.iconst 1, 1) := by decide +kernel
theorem dX5_approve_9 : decode cX5_approve 9 = .ok (.goto 15, 3) := by decide +kernel
theorem dX5_approve_12 : decode cX5_approve 12 = .ok (.iload_n 2, 1) := by decide +kernel
theorem dX5_approve_13 : decode cX5_approve 13 = .ok (.invokestatic 158, 3) := by decide +kernel
theorem dX5_approve_16 : decode cX5_approve 16 = .ok (.ifCond .eq 7, 3) := by decide +kernel
theorem dX5_approve_19 : decode cX5_approve 19 = .ok (.iconst 0, 1) := by decide +kernel
theorem dX5_approve_20 : decode cX5_approve 20 = .ok (.goto 4, 3) := by decide +kernel
theorem dX5_approve_23 : decode cX5_approve 23 = .ok (.iconst 2, 1) := by decide +kernel
theorem dX5_approve_24 : decode cX5_approve 24 = .ok (.putfield 71, 3) := by decide +kernel
theorem dX5_approve_27 : decode cX5_approve 27 = .ok (.aload_n 0, 1) := by decide +kernel
theorem dX5_approve_28 : decode cX5_approve 28 = .ok (.getfield 71, 3) := by decide +kernel
theorem dX5_approve_31 : decode cX5_approve 31 = .ok (.ifCond .le 5, 3) := by decide +kernel
theorem dX5_approve_34 : decode cX5_approve 34 = .ok (.iconst 0, 1) := by decide +kernel
theorem dX5_approve_35 : decode cX5_approve 35 = .ok (.ireturn, 1) := by decide +kernel
theorem dX5_approve_36 : decode cX5_approve 36 = .ok (.aload_n 0, 1) := by decide +kernel
theorem dX5_approve_37 : decode cX5_approve 37 = .ok (.getfield 47, 3) := by decide +kernel
theorem dX5_approve_40 : decode cX5_approve 40 = .ok (.iload_n 1, 1) := by decide +kernel
theorem dX5_approve_41 : decode cX5_approve 41 = .ok (.dup2, 1) := by decide +kernel
theorem dX5_approve_42 : decode cX5_approve 42 = .ok (.iaload, 1) := by decide +kernel
theorem dX5_approve_43 : decode cX5_approve 43 = .ok (.iload_n 2, 1) := by decide +kernel
theorem dX5_approve_44 : decode cX5_approve 44 = .ok (.iadd, 1) := by decide +kernel
theorem dX5_approve_45 : decode cX5_approve 45 = .ok (.iastore, 1) := by decide +kernel
theorem dX5_approve_46 : decode cX5_approve 46 = .ok (.aload_n 0, 1) := by decide +kernel
theorem dX5_approve_47 : decode cX5_approve 47 = .ok (.getfield 47, 3) := by decide +kernel
theorem dX5_approve_50 : decode cX5_approve 50 = .ok (.iload_n 1, 1) := by decide +kernel
theorem dX5_approve_51 : decode cX5_approve 51 = .ok (.iaload, 1) := by decide +kernel
theorem dX5_approve_52 : decode cX5_approve 52 = .ok (.ireturn, 1) := by decide +kernel
theorem dX5_grant_0 : decode cX5_grant 0 = .ok (.aload_n 0, 1) := by decide +kernel
theorem dX5_grant_1 : decode cX5_grant 1 = .ok (.iload_n 1, 1) := by decide +kernel
theorem dX5_grant_2 : decode cX5_grant 2 = .ok (.invokestatic 158, 3) := by decide +kernel
theorem dX5_grant_5 : decode cX5_grant 5 = .ok (.ifCond .eq 7, 3) := by decide +kernel
theorem dX5_grant_8 : decode cX5_grant 8 = .ok (.iconst 0, 1) := by decide +kernel
theorem dX5_grant_9 : decode cX5_grant 9 = .ok (.goto 4, 3) := by decide +kernel
theorem dX5_grant_12 : decode cX5_grant 12 = .ok (.iconst 1, 1) := by decide +kernel
theorem dX5_grant_13 : decode cX5_grant 13 = .ok (.putfield 71, 3) := by decide +kernel
theorem dX5_grant_16 : decode cX5_grant 16 = .ok (.aload_n 0, 1) := by decide +kernel
theorem dX5_grant_17 : decode cX5_grant 17 = .ok (.getfield 71, 3) := by decide +kernel
theorem dX5_grant_20 : decode cX5_grant 20 = .ok (.ifCond .le 5, 3) := by decide +kernel
theorem dX5_grant_23 : decode cX5_grant 23 = .ok (.iconst 0, 1) := by decide +kernel
theorem dX5_grant_24 : decode cX5_grant 24 = .ok (.ireturn, 1) := by decide +kernel
theorem dX5_grant_25 : decode cX5_grant 25 = .ok (.aload_n 0, 1) := by decide +kernel
theorem dX5_grant_26 : decode cX5_grant 26 = .ok (.dup, 1) := by decide +kernel
theorem dX5_grant_27 : decode cX5_grant 27 = .ok (.getfield 141, 3) := by decide +kernel
theorem dX5_grant_30 : decode cX5_grant 30 = .ok (.iload_n 1, 1) := by decide +kernel
theorem dX5_grant_31 : decode cX5_grant 31 = .ok (.iadd, 1) := by decide +kernel
theorem dX5_grant_32 : decode cX5_grant 32 = .ok (.putfield 141, 3) := by decide +kernel
theorem dX5_grant_35 : decode cX5_grant 35 = .ok (.aload_n 0, 1) := by decide +kernel
theorem dX5_grant_36 : decode cX5_grant 36 = .ok (.getfield 141, 3) := by decide +kernel
theorem dX5_grant_39 : decode cX5_grant 39 = .ok (.ireturn, 1) := by decide +kernel
theorem dX5_bill_0 : decode cX5_bill 0 = .ok (.aload_n 0, 1) := by decide +kernel
theorem dX5_bill_1 : decode cX5_bill 1 = .ok (.iload_n 1, 1) := by decide +kernel
theorem dX5_bill_2 : decode cX5_bill 2 = .ok (.invokestatic 125, 3) := by decide +kernel
theorem dX5_bill_5 : decode cX5_bill 5 = .ok (.ifCond .ne 7, 3) := by decide +kernel
theorem dX5_bill_8 : decode cX5_bill 8 = .ok (.iconst 1, 1) := by decide +kernel
theorem dX5_bill_9 : decode cX5_bill 9 = .ok (.goto 15, 3) := by decide +kernel
theorem dX5_bill_12 : decode cX5_bill 12 = .ok (.iload_n 2, 1) := by decide +kernel
theorem dX5_bill_13 : decode cX5_bill 13 = .ok (.invokestatic 158, 3) := by decide +kernel
theorem dX5_bill_16 : decode cX5_bill 16 = .ok (.ifCond .eq 7, 3) := by decide +kernel
theorem dX5_bill_19 : decode cX5_bill 19 = .ok (.iconst 0, 1) := by decide +kernel
theorem dX5_bill_20 : decode cX5_bill 20 = .ok (.goto 4, 3) := by decide +kernel
theorem dX5_bill_23 : decode cX5_bill 23 = .ok (.iconst 2, 1) := by decide +kernel
theorem dX5_bill_24 : decode cX5_bill 24 = .ok (.putfield 71, 3) := by decide +kernel
theorem dX5_bill_27 : decode cX5_bill 27 = .ok (.aload_n 0, 1) := by decide +kernel
theorem dX5_bill_28 : decode cX5_bill 28 = .ok (.getfield 71, 3) := by decide +kernel
theorem dX5_bill_31 : decode cX5_bill 31 = .ok (.ifCond .le 5, 3) := by decide +kernel
theorem dX5_bill_34 : decode cX5_bill 34 = .ok (.iconst 0, 1) := by decide +kernel
theorem dX5_bill_35 : decode cX5_bill 35 = .ok (.ireturn, 1) := by decide +kernel
theorem dX5_bill_36 : decode cX5_bill 36 = .ok (.aload_n 0, 1) := by decide +kernel
theorem dX5_bill_37 : decode cX5_bill 37 = .ok (.iload_n 1, 1) := by decide +kernel
theorem dX5_bill_38 : decode cX5_bill 38 = .ok (.iload_n 2, 1) := by decide +kernel
theorem dX5_bill_39 : decode cX5_bill 39 = .ok (.invokevirtual 137, 3) := by decide +kernel
theorem dX5_bill_42 : decode cX5_bill 42 = .ok (.istore_n 3, 1) := by decide +kernel
theorem dX5_bill_43 : decode cX5_bill 43 = .ok (.aload_n 0, 1) := by decide +kernel
theorem dX5_bill_44 : decode cX5_bill 44 = .ok (.iload_n 3, 1) := by decide +kernel
theorem dX5_bill_45 : decode cX5_bill 45 = .ok (.aload_n 0, 1) := by decide +kernel
theorem dX5_bill_46 : decode cX5_bill 46 = .ok (.getfield 141, 3) := by decide +kernel
theorem dX5_bill_49 : decode cX5_bill 49 = .ok (.if_icmp .le 7, 3) := by decide +kernel
theorem dX5_bill_52 : decode cX5_bill 52 = .ok (.iconst 3, 1) := by decide +kernel
theorem dX5_bill_53 : decode cX5_bill 53 = .ok (.goto 4, 3) := by decide +kernel
theorem dX5_bill_56 : decode cX5_bill 56 = .ok (.iconst 0, 1) := by decide +kernel
theorem dX5_bill_57 : decode cX5_bill 57 = .ok (.putfield 71, 3) := by decide +kernel
theorem dX5_bill_60 : decode cX5_bill 60 = .ok (.aload_n 0, 1) := by decide +kernel
theorem dX5_bill_61 : decode cX5_bill 61 = .ok (.getfield 71, 3) := by decide +kernel
theorem dX5_bill_64 : decode cX5_bill 64 = .ok (.ifCond .le 5, 3) := by decide +kernel
theorem dX5_bill_67 : decode cX5_bill 67 = .ok (.iconst 0, 1) := by decide +kernel
theorem dX5_bill_68 : decode cX5_bill 68 = .ok (.ireturn, 1) := by decide +kernel
theorem dX5_bill_69 : decode cX5_bill 69 = .ok (.aload_n 0, 1) := by decide +kernel
theorem dX5_bill_70 : decode cX5_bill 70 = .ok (.iload_n 1, 1) := by decide +kernel
theorem dX5_bill_71 : decode cX5_bill 71 = .ok (.iload_n 2, 1) := by decide +kernel
theorem dX5_bill_72 : decode cX5_bill 72 = .ok (.invokevirtual 153, 3) := by decide +kernel
theorem dX5_bill_75 : decode cX5_bill 75 = .ok (.iload_n 3, 1) := by decide +kernel
theorem dX5_bill_76 : decode cX5_bill 76 = .ok (.ireturn, 1) := by decide +kernel
theorem dX5_loan_0 : decode cX5_loan 0 = .ok (.aload_n 0, 1) := by decide +kernel
theorem dX5_loan_1 : decode cX5_loan 1 = .ok (.iload_n 1, 1) := by decide +kernel
theorem dX5_loan_2 : decode cX5_loan 2 = .ok (.invokestatic 131, 3) := by decide +kernel
theorem dX5_loan_5 : decode cX5_loan 5 = .ok (.ifCond .ne 7, 3) := by decide +kernel
theorem dX5_loan_8 : decode cX5_loan 8 = .ok (.iconst 1, 1) := by decide +kernel
theorem dX5_loan_9 : decode cX5_loan 9 = .ok (.goto 28, 3) := by decide +kernel
theorem dX5_loan_12 : decode cX5_loan 12 = .ok (.iload_n 2, 1) := by decide +kernel
theorem dX5_loan_13 : decode cX5_loan 13 = .ok (.invokestatic 158, 3) := by decide +kernel
theorem dX5_loan_16 : decode cX5_loan 16 = .ok (.ifCond .ne 7, 3) := by decide +kernel
theorem dX5_loan_19 : decode cX5_loan 19 = .ok (.iconst 2, 1) := by decide +kernel
theorem dX5_loan_20 : decode cX5_loan 20 = .ok (.goto 17, 3) := by decide +kernel
theorem dX5_loan_23 : decode cX5_loan 23 = .ok (.aload_n 0, 1) := by decide +kernel
theorem dX5_loan_24 : decode cX5_loan 24 = .ok (.getfield 161, 3) := by decide +kernel
theorem dX5_loan_27 : decode cX5_loan 27 = .ok (.bipush 10, 2) := by decide +kernel
theorem dX5_loan_29 : decode cX5_loan 29 = .ok (.if_icmp .ne 7, 3) := by decide +kernel
theorem dX5_loan_32 : decode cX5_loan 32 = .ok (.iconst 3, 1) := by decide +kernel
theorem dX5_loan_33 : decode cX5_loan 33 = .ok (.goto 4, 3) := by decide +kernel
theorem dX5_loan_36 : decode cX5_loan 36 = .ok (.iconst 0, 1) := by decide +kernel
theorem dX5_loan_37 : decode cX5_loan 37 = .ok (.putfield 71, 3) := by decide +kernel
theorem dX5_loan_40 : decode cX5_loan 40 = .ok (.aload_n 0, 1) := by decide +kernel
theorem dX5_loan_41 : decode cX5_loan 41 = .ok (.getfield 71, 3) := by decide +kernel
theorem dX5_loan_44 : decode cX5_loan 44 = .ok (.ifCond .le 5, 3) := by decide +kernel
theorem dX5_loan_47 : decode cX5_loan 47 = .ok (.iconst 0, 1) := by decide +kernel
theorem dX5_loan_48 : decode cX5_loan 48 = .ok (.ireturn, 1) := by decide +kernel
theorem dX5_loan_49 : decode cX5_loan 49 = .ok (.aload_n 0, 1) := by decide +kernel
theorem dX5_loan_50 : decode cX5_loan 50 = .ok (.getfield 50, 3) := by decide +kernel
theorem dX5_loan_53 : decode cX5_loan 53 = .ok (.aload_n 0, 1) := by decide +kernel
theorem dX5_loan_54 : decode cX5_loan 54 = .ok (.getfield 161, 3) := by decide +kernel
theorem dX5_loan_57 : decode cX5_loan 57 = .ok (.iload_n 1, 1) := by decide +kernel
theorem dX5_loan_58 : decode cX5_loan 58 = .ok (.iastore, 1) := by decide +kernel
theorem dX5_loan_59 : decode cX5_loan 59 = .ok (.aload_n 0, 1) := by decide +kernel
theorem dX5_loan_60 : decode cX5_loan 60 = .ok (.getfield 53, 3) := by decide +kernel
theorem dX5_loan_63 : decode cX5_loan 63 = .ok (.aload_n 0, 1) := by decide +kernel
theorem dX5_loan_64 : decode cX5_loan 64 = .ok (.getfield 161, 3) := by decide +kernel
theorem dX5_loan_67 : decode cX5_loan 67 = .ok (.iload_n 2, 1) := by decide +kernel
theorem dX5_loan_68 : decode cX5_loan 68 = .ok (.iastore, 1) := by decide +kernel
theorem dX5_loan_69 : decode cX5_loan 69 = .ok (.aload_n 0, 1) := by decide +kernel
theorem dX5_loan_70 : decode cX5_loan 70 = .ok (.dup, 1) := by decide +kernel
theorem dX5_loan_71 : decode cX5_loan 71 = .ok (.getfield 161, 3) := by decide +kernel
theorem dX5_loan_74 : decode cX5_loan 74 = .ok (.iconst 1, 1) := by decide +kernel
theorem dX5_loan_75 : decode cX5_loan 75 = .ok (.iadd, 1) := by decide +kernel
theorem dX5_loan_76 : decode cX5_loan 76 = .ok (.putfield 161, 3) := by decide +kernel
theorem dX5_loan_79 : decode cX5_loan 79 = .ok (.aload_n 0, 1) := by decide +kernel
theorem dX5_loan_80 : decode cX5_loan 80 = .ok (.getfield 161, 3) := by decide +kernel
theorem dX5_loan_83 : decode cX5_loan 83 = .ok (.iconst 1, 1) := by decide +kernel
theorem dX5_loan_84 : decode cX5_loan 84 = .ok (.isub, 1) := by decide +kernel
theorem dX5_loan_85 : decode cX5_loan 85 = .ok (.ireturn, 1) := by decide +kernel
theorem dX5_part_0 : decode cX5_part 0 = .ok (.iload_n 1, 1) := by decide +kernel
theorem dX5_part_1 : decode cX5_part 1 = .ok (.iconst (-1), 1) := by decide +kernel
theorem dX5_part_2 : decode cX5_part 2 = .ok (.if_icmp .eq 17, 3) := by decide +kernel
theorem dX5_part_5 : decode cX5_part 5 = .ok (.iload_n 1, 1) := by decide +kernel
theorem dX5_part_6 : decode cX5_part 6 = .ok (.iconst 0, 1) := by decide +kernel
theorem dX5_part_7 : decode cX5_part 7 = .ok (.aload_n 0, 1) := by decide +kernel
theorem dX5_part_8 : decode cX5_part 8 = .ok (.getfield 164, 3) := by decide +kernel
theorem dX5_part_11 : decode cX5_part 11 = .ok (.iconst 1, 1) := by decide +kernel
theorem dX5_part_12 : decode cX5_part 12 = .ok (.isub, 1) := by decide +kernel
theorem dX5_part_13 : decode cX5_part 13 = .ok (.invokestatic 74, 3) := by decide +kernel
theorem dX5_part_16 : decode cX5_part 16 = .ok (.ifCond .eq 7, 3) := by decide +kernel
theorem dX5_part_19 : decode cX5_part 19 = .ok (.iconst 1, 1) := by decide +kernel
theorem dX5_part_20 : decode cX5_part 20 = .ok (.goto 4, 3) := by decide +kernel
theorem dX5_part_23 : decode cX5_part 23 = .ok (.iconst 0, 1) := by decide +kernel
theorem dX5_part_24 : decode cX5_part 24 = .ok (.istore 4, 2) := by decide +kernel
theorem dX5_part_26 : decode cX5_part 26 = .ok (.aload_n 0, 1) := by decide +kernel
theorem dX5_part_27 : decode cX5_part 27 = .ok (.iload 4, 2) := by decide +kernel
theorem dX5_part_29 : decode cX5_part 29 = .ok (.ifCond .eq 10, 3) := by decide +kernel
theorem dX5_part_32 : decode cX5_part 32 = .ok (.iload_n 2, 1) := by decide +kernel
theorem dX5_part_33 : decode cX5_part 33 = .ok (.invokestatic 131, 3) := by decide +kernel
theorem dX5_part_36 : decode cX5_part 36 = .ok (.ifCond .ne 7, 3) := by decide +kernel
theorem dX5_part_39 : decode cX5_part 39 = .ok (.iconst 1, 1) := by decide +kernel
theorem dX5_part_40 : decode cX5_part 40 = .ok (.goto 18, 3) := by decide +kernel
theorem dX5_part_43 : decode cX5_part 43 = .ok (.iload_n 3, 1) := by decide +kernel
theorem dX5_part_44 : decode cX5_part 44 = .ok (.iconst 1, 1) := by decide +kernel
theorem dX5_part_45 : decode cX5_part 45 = .ok (.bipush 100, 2) := by decide +kernel
theorem dX5_part_47 : decode cX5_part 47 = .ok (.invokestatic 74, 3) := by decide +kernel
theorem dX5_part_50 : decode cX5_part 50 = .ok (.ifCond .eq 7, 3) := by decide +kernel
theorem dX5_part_53 : decode cX5_part 53 = .ok (.iconst 0, 1) := by decide +kernel
theorem dX5_part_54 : decode cX5_part 54 = .ok (.goto 4, 3) := by decide +kernel
theorem dX5_part_57 : decode cX5_part 57 = .ok (.iconst 2, 1) := by decide +kernel
theorem dX5_part_58 : decode cX5_part 58 = .ok (.putfield 71, 3) := by decide +kernel
theorem dX5_part_61 : decode cX5_part 61 = .ok (.aload_n 0, 1) := by decide +kernel
theorem dX5_part_62 : decode cX5_part 62 = .ok (.getfield 71, 3) := by decide +kernel
theorem dX5_part_65 : decode cX5_part 65 = .ok (.ifCond .le 5, 3) := by decide +kernel
theorem dX5_part_68 : decode cX5_part 68 = .ok (.iconst 0, 1) := by decide +kernel
theorem dX5_part_69 : decode cX5_part 69 = .ok (.ireturn, 1) := by decide +kernel
theorem dX5_part_70 : decode cX5_part 70 = .ok (.iload_n 3, 1) := by decide +kernel
theorem dX5_part_71 : decode cX5_part 71 = .ok (.istore 5, 2) := by decide +kernel
theorem dX5_part_73 : decode cX5_part 73 = .ok (.iconst 0, 1) := by decide +kernel
theorem dX5_part_74 : decode cX5_part 74 = .ok (.istore 6, 2) := by decide +kernel
theorem dX5_part_76 : decode cX5_part 76 = .ok (.iload 6, 2) := by decide +kernel
theorem dX5_part_78 : decode cX5_part 78 = .ok (.aload_n 0, 1) := by decide +kernel
theorem dX5_part_79 : decode cX5_part 79 = .ok (.getfield 164, 3) := by decide +kernel
theorem dX5_part_82 : decode cX5_part 82 = .ok (.if_icmp .ge 36, 3) := by decide +kernel
theorem dX5_part_85 : decode cX5_part 85 = .ok (.iload 5, 2) := by decide +kernel
theorem dX5_part_87 : decode cX5_part 87 = .ok (.aload_n 0, 1) := by decide +kernel
theorem dX5_part_88 : decode cX5_part 88 = .ok (.getfield 56, 3) := by decide +kernel
theorem dX5_part_91 : decode cX5_part 91 = .ok (.iload 6, 2) := by decide +kernel
theorem dX5_part_93 : decode cX5_part 93 = .ok (.iaload, 1) := by decide +kernel
theorem dX5_part_94 : decode cX5_part 94 = .ok (.iload_n 1, 1) := by decide +kernel
theorem dX5_part_95 : decode cX5_part 95 = .ok (.if_icmp .ne 13, 3) := by decide +kernel
theorem dX5_part_98 : decode cX5_part 98 = .ok (.aload_n 0, 1) := by decide +kernel
theorem dX5_part_99 : decode cX5_part 99 = .ok (.getfield 62, 3) := by decide +kernel
theorem dX5_part_102 : decode cX5_part 102 = .ok (.iload 6, 2) := by decide +kernel
theorem dX5_part_104 : decode cX5_part 104 = .ok (.iaload, 1) := by decide +kernel
theorem dX5_part_105 : decode cX5_part 105 = .ok (.goto 4, 3) := by decide +kernel
theorem dX5_part_108 : decode cX5_part 108 = .ok (.iconst 0, 1) := by decide +kernel
theorem dX5_part_109 : decode cX5_part 109 = .ok (.iadd, 1) := by decide +kernel
theorem dX5_part_110 : decode cX5_part 110 = .ok (.istore 5, 2) := by decide +kernel
theorem dX5_part_112 : decode cX5_part 112 = .ok (.iinc 6 1, 3) := by decide +kernel
theorem dX5_part_115 : decode cX5_part 115 = .ok (.goto (-39), 3) := by decide +kernel
theorem dX5_part_118 : decode cX5_part 118 = .ok (.aload_n 0, 1) := by decide +kernel
theorem dX5_part_119 : decode cX5_part 119 = .ok (.aload_n 0, 1) := by decide +kernel
theorem dX5_part_120 : decode cX5_part 120 = .ok (.getfield 164, 3) := by decide +kernel
theorem dX5_part_123 : decode cX5_part 123 = .ok (.bipush 12, 2) := by decide +kernel
theorem dX5_part_125 : decode cX5_part 125 = .ok (.if_icmp .eq 10, 3) := by decide +kernel
theorem dX5_part_128 : decode cX5_part 128 = .ok (.iload 5, 2) := by decide +kernel
theorem dX5_part_130 : decode cX5_part 130 = .ok (.bipush 100, 2) := by decide +kernel
theorem dX5_part_132 : decode cX5_part 132 = .ok (.if_icmp .le 7, 3) := by decide +kernel
theorem dX5_part_135 : decode cX5_part 135 = .ok (.iconst 3, 1) := by decide +kernel
theorem dX5_part_136 : decode cX5_part 136 = .ok (.goto 4, 3) := by decide +kernel
theorem dX5_part_139 : decode cX5_part 139 = .ok (.iconst 0, 1) := by decide +kernel
theorem dX5_part_140 : decode cX5_part 140 = .ok (.putfield 71, 3) := by decide +kernel
theorem dX5_part_143 : decode cX5_part 143 = .ok (.aload_n 0, 1) := by decide +kernel
theorem dX5_part_144 : decode cX5_part 144 = .ok (.getfield 71, 3) := by decide +kernel
theorem dX5_part_147 : decode cX5_part 147 = .ok (.ifCond .le 5, 3) := by decide +kernel
theorem dX5_part_150 : decode cX5_part 150 = .ok (.iconst 0, 1) := by decide +kernel
theorem dX5_part_151 : decode cX5_part 151 = .ok (.ireturn, 1) := by decide +kernel
theorem dX5_part_152 : decode cX5_part 152 = .ok (.aload_n 0, 1) := by decide +kernel
theorem dX5_part_153 : decode cX5_part 153 = .ok (.getfield 56, 3) := by decide +kernel
theorem dX5_part_156 : decode cX5_part 156 = .ok (.aload_n 0, 1) := by decide +kernel
theorem dX5_part_157 : decode cX5_part 157 = .ok (.getfield 164, 3) := by decide +kernel
theorem dX5_part_160 : decode cX5_part 160 = .ok (.iload_n 1, 1) := by decide +kernel
theorem dX5_part_161 : decode cX5_part 161 = .ok (.iastore, 1) := by decide +kernel
theorem dX5_part_162 : decode cX5_part 162 = .ok (.aload_n 0, 1) := by decide +kernel
theorem dX5_part_163 : decode cX5_part 163 = .ok (.getfield 59, 3) := by decide +kernel
theorem dX5_part_166 : decode cX5_part 166 = .ok (.aload_n 0, 1) := by decide +kernel
theorem dX5_part_167 : decode cX5_part 167 = .ok (.getfield 164, 3) := by decide +kernel
theorem dX5_part_170 : decode cX5_part 170 = .ok (.iload_n 2, 1) := by decide +kernel
theorem dX5_part_171 : decode cX5_part 171 = .ok (.iastore, 1) := by decide +kernel
theorem dX5_part_172 : decode cX5_part 172 = .ok (.aload_n 0, 1) := by decide +kernel
theorem dX5_part_173 : decode cX5_part 173 = .ok (.getfield 62, 3) := by decide +kernel
theorem dX5_part_176 : decode cX5_part 176 = .ok (.aload_n 0, 1) := by decide +kernel
theorem dX5_part_177 : decode cX5_part 177 = .ok (.getfield 164, 3) := by decide +kernel
theorem dX5_part_180 : decode cX5_part 180 = .ok (.iload_n 3, 1) := by decide +kernel
theorem dX5_part_181 : decode cX5_part 181 = .ok (.iastore, 1) := by decide +kernel
theorem dX5_part_182 : decode cX5_part 182 = .ok (.aload_n 0, 1) := by decide +kernel
theorem dX5_part_183 : decode cX5_part 183 = .ok (.dup, 1) := by decide +kernel
theorem dX5_part_184 : decode cX5_part 184 = .ok (.getfield 164, 3) := by decide +kernel
theorem dX5_part_187 : decode cX5_part 187 = .ok (.iconst 1, 1) := by decide +kernel
theorem dX5_part_188 : decode cX5_part 188 = .ok (.iadd, 1) := by decide +kernel
theorem dX5_part_189 : decode cX5_part 189 = .ok (.putfield 164, 3) := by decide +kernel
theorem dX5_part_192 : decode cX5_part 192 = .ok (.aload_n 0, 1) := by decide +kernel
theorem dX5_part_193 : decode cX5_part 193 = .ok (.getfield 164, 3) := by decide +kernel
theorem dX5_part_196 : decode cX5_part 196 = .ok (.iconst 1, 1) := by decide +kernel
theorem dX5_part_197 : decode cX5_part 197 = .ok (.isub, 1) := by decide +kernel
theorem dX5_part_198 : decode cX5_part 198 = .ok (.ireturn, 1) := by decide +kernel
theorem dX5_income_0 : decode cX5_income 0 = .ok (.aload_n 0, 1) := by decide +kernel
theorem dX5_income_1 : decode cX5_income 1 = .ok (.iload_n 1, 1) := by decide +kernel
theorem dX5_income_2 : decode cX5_income 2 = .ok (.iconst 1, 1) := by decide +kernel
theorem dX5_income_3 : decode cX5_income 3 = .ok (.ldc 103, 2) := by decide +kernel
theorem dX5_income_5 : decode cX5_income 5 = .ok (.invokestatic 74, 3) := by decide +kernel
theorem dX5_income_8 : decode cX5_income 8 = .ok (.ifCond .eq 7, 3) := by decide +kernel
theorem dX5_income_11 : decode cX5_income 11 = .ok (.iconst 0, 1) := by decide +kernel
theorem dX5_income_12 : decode cX5_income 12 = .ok (.goto 4, 3) := by decide +kernel
theorem dX5_income_15 : decode cX5_income 15 = .ok (.iconst 1, 1) := by decide +kernel
theorem dX5_income_16 : decode cX5_income 16 = .ok (.putfield 71, 3) := by decide +kernel
theorem dX5_income_19 : decode cX5_income 19 = .ok (.aload_n 0, 1) := by decide +kernel
theorem dX5_income_20 : decode cX5_income 20 = .ok (.getfield 71, 3) := by decide +kernel
theorem dX5_income_23 : decode cX5_income 23 = .ok (.ifCond .le 5, 3) := by decide +kernel
theorem dX5_income_26 : decode cX5_income 26 = .ok (.iconst 0, 1) := by decide +kernel
theorem dX5_income_27 : decode cX5_income 27 = .ok (.ireturn, 1) := by decide +kernel
theorem dX5_income_28 : decode cX5_income 28 = .ok (.aload_n 0, 1) := by decide +kernel
theorem dX5_income_29 : decode cX5_income 29 = .ok (.getfield 147, 3) := by decide +kernel
theorem dX5_income_32 : decode cX5_income 32 = .ok (.iload_n 1, 1) := by decide +kernel
theorem dX5_income_33 : decode cX5_income 33 = .ok (.if_icmp .ge 10, 3) := by decide +kernel
theorem dX5_income_36 : decode cX5_income 36 = .ok (.aload_n 0, 1) := by decide +kernel
theorem dX5_income_37 : decode cX5_income 37 = .ok (.getfield 147, 3) := by decide +kernel
theorem dX5_income_40 : decode cX5_income 40 = .ok (.goto 4, 3) := by decide +kernel
theorem dX5_income_43 : decode cX5_income 43 = .ok (.iload_n 1, 1) := by decide +kernel
theorem dX5_income_44 : decode cX5_income 44 = .ok (.istore_n 2, 1) := by decide +kernel
theorem dX5_income_45 : decode cX5_income 45 = .ok (.aload_n 0, 1) := by decide +kernel
theorem dX5_income_46 : decode cX5_income 46 = .ok (.dup, 1) := by decide +kernel
theorem dX5_income_47 : decode cX5_income 47 = .ok (.getfield 147, 3) := by decide +kernel
theorem dX5_income_50 : decode cX5_income 50 = .ok (.iload_n 2, 1) := by decide +kernel
theorem dX5_income_51 : decode cX5_income 51 = .ok (.isub, 1) := by decide +kernel
theorem dX5_income_52 : decode cX5_income 52 = .ok (.putfield 147, 3) := by decide +kernel
theorem dX5_income_55 : decode cX5_income 55 = .ok (.iload_n 1, 1) := by decide +kernel
theorem dX5_income_56 : decode cX5_income 56 = .ok (.iload_n 2, 1) := by decide +kernel
theorem dX5_income_57 : decode cX5_income 57 = .ok (.isub, 1) := by decide +kernel
theorem dX5_income_58 : decode cX5_income 58 = .ok (.istore_n 3, 1) := by decide +kernel
theorem dX5_income_59 : decode cX5_income 59 = .ok (.iconst 0, 1) := by decide +kernel
theorem dX5_income_60 : decode cX5_income 60 = .ok (.istore 4, 2) := by decide +kernel
theorem dX5_income_62 : decode cX5_income 62 = .ok (.iload 4, 2) := by decide +kernel
theorem dX5_income_64 : decode cX5_income 64 = .ok (.aload_n 0, 1) := by decide +kernel
theorem dX5_income_65 : decode cX5_income 65 = .ok (.getfield 161, 3) := by decide +kernel
theorem dX5_income_68 : decode cX5_income 68 = .ok (.if_icmp .ge 67, 3) := by decide +kernel
theorem dX5_income_71 : decode cX5_income 71 = .ok (.aload_n 0, 1) := by decide +kernel
theorem dX5_income_72 : decode cX5_income 72 = .ok (.getfield 53, 3) := by decide +kernel
theorem dX5_income_75 : decode cX5_income 75 = .ok (.iload 4, 2) := by decide +kernel
theorem dX5_income_77 : decode cX5_income 77 = .ok (.iaload, 1) := by decide +kernel
theorem dX5_income_78 : decode cX5_income 78 = .ok (.iload_n 3, 1) := by decide +kernel
theorem dX5_income_79 : decode cX5_income 79 = .ok (.if_icmp .ge 13, 3) := by decide +kernel
theorem dX5_income_82 : decode cX5_income 82 = .ok (.aload_n 0, 1) := by decide +kernel
theorem dX5_income_83 : decode cX5_income 83 = .ok (.getfield 53, 3) := by decide +kernel
theorem dX5_income_86 : decode cX5_income 86 = .ok (.iload 4, 2) := by decide +kernel
theorem dX5_income_88 : decode cX5_income 88 = .ok (.iaload, 1) := by decide +kernel
theorem dX5_income_89 : decode cX5_income 89 = .ok (.goto 4, 3) := by decide +kernel
theorem dX5_income_92 : decode cX5_income 92 = .ok (.iload_n 3, 1) := by decide +kernel
theorem dX5_income_93 : decode cX5_income 93 = .ok (.istore 5, 2) := by decide +kernel
theorem dX5_income_95 : decode cX5_income 95 = .ok (.aload_n 0, 1) := by decide +kernel
theorem dX5_income_96 : decode cX5_income 96 = .ok (.getfield 53, 3) := by decide +kernel
theorem dX5_income_99 : decode cX5_income 99 = .ok (.iload 4, 2) := by decide +kernel
theorem dX5_income_101 : decode cX5_income 101 = .ok (.dup2, 1) := by decide +kernel
theorem dX5_income_102 : decode cX5_income 102 = .ok (.iaload, 1) := by decide +kernel
theorem dX5_income_103 : decode cX5_income 103 = .ok (.iload 5, 2) := by decide +kernel
theorem dX5_income_105 : decode cX5_income 105 = .ok (.isub, 1) := by decide +kernel
theorem dX5_income_106 : decode cX5_income 106 = .ok (.iastore, 1) := by decide +kernel
theorem dX5_income_107 : decode cX5_income 107 = .ok (.aload_n 0, 1) := by decide +kernel
theorem dX5_income_108 : decode cX5_income 108 = .ok (.getfield 68, 3) := by decide +kernel
theorem dX5_income_111 : decode cX5_income 111 = .ok (.aload_n 0, 1) := by decide +kernel
theorem dX5_income_112 : decode cX5_income 112 = .ok (.getfield 50, 3) := by decide +kernel
theorem dX5_income_115 : decode cX5_income 115 = .ok (.iload 4, 2) := by decide +kernel
theorem dX5_income_117 : decode cX5_income 117 = .ok (.iaload, 1) := by decide +kernel
theorem dX5_income_118 : decode cX5_income 118 = .ok (.dup2, 1) := by decide +kernel
theorem dX5_income_119 : decode cX5_income 119 = .ok (.iaload, 1) := by decide +kernel
theorem dX5_income_120 : decode cX5_income 120 = .ok (.iload 5, 2) := by decide +kernel
theorem dX5_income_122 : decode cX5_income 122 = .ok (.iadd, 1) := by decide +kernel
theorem dX5_income_123 : decode cX5_income 123 = .ok (.iastore, 1) := by decide +kernel
theorem dX5_income_124 : decode cX5_income 124 = .ok (.iload_n 3, 1) := by decide +kernel
theorem dX5_income_125 : decode cX5_income 125 = .ok (.iload 5, 2) := by decide +kernel
theorem dX5_income_127 : decode cX5_income 127 = .ok (.isub, 1) := by decide +kernel
theorem dX5_income_128 : decode cX5_income 128 = .ok (.istore_n 3, 1) := by decide +kernel
theorem dX5_income_129 : decode cX5_income 129 = .ok (.iinc 4 1, 3) := by decide +kernel
theorem dX5_income_132 : decode cX5_income 132 = .ok (.goto (-70), 3) := by decide +kernel
theorem dX5_income_135 : decode cX5_income 135 = .ok (.aload_n 0, 1) := by decide +kernel
theorem dX5_income_136 : decode cX5_income 136 = .ok (.dup, 1) := by decide +kernel
theorem dX5_income_137 : decode cX5_income 137 = .ok (.getfield 167, 3) := by decide +kernel
theorem dX5_income_140 : decode cX5_income 140 = .ok (.iload_n 3, 1) := by decide +kernel
theorem dX5_income_141 : decode cX5_income 141 = .ok (.iadd, 1) := by decide +kernel
theorem dX5_income_142 : decode cX5_income 142 = .ok (.putfield 167, 3) := by decide +kernel
theorem dX5_income_145 : decode cX5_income 145 = .ok (.iconst 0, 1) := by decide +kernel
theorem dX5_income_146 : decode cX5_income 146 = .ok (.istore 4, 2) := by decide +kernel
theorem dX5_income_148 : decode cX5_income 148 = .ok (.iload 4, 2) := by decide +kernel
theorem dX5_income_150 : decode cX5_income 150 = .ok (.aload_n 0, 1) := by decide +kernel
theorem dX5_income_151 : decode cX5_income 151 = .ok (.getfield 164, 3) := by decide +kernel
theorem dX5_income_154 : decode cX5_income 154 = .ok (.if_icmp .ge 131, 3) := by decide +kernel
theorem dX5_income_157 : decode cX5_income 157 = .ok (.aload_n 0, 1) := by decide +kernel
theorem dX5_income_158 : decode cX5_income 158 = .ok (.getfield 65, 3) := by decide +kernel
theorem dX5_income_161 : decode cX5_income 161 = .ok (.iload 4, 2) := by decide +kernel
theorem dX5_income_163 : decode cX5_income 163 = .ok (.aload_n 0, 1) := by decide +kernel
theorem dX5_income_164 : decode cX5_income 164 = .ok (.getfield 56, 3) := by decide +kernel
theorem dX5_income_167 : decode cX5_income 167 = .ok (.iload 4, 2) := by decide +kernel
theorem dX5_income_169 : decode cX5_income 169 = .ok (.iaload, 1) := by decide +kernel
theorem dX5_income_170 : decode cX5_income 170 = .ok (.ifCond .ge 7, 3) := by decide +kernel
theorem dX5_income_173 : decode cX5_income 173 = .ok (.iload_n 3, 1) := by decide +kernel
theorem dX5_income_174 : decode cX5_income 174 = .ok (.goto 15, 3) := by decide +kernel
theorem dX5_income_177 : decode cX5_income 177 = .ok (.aload_n 0, 1) := by decide +kernel
theorem dX5_income_178 : decode cX5_income 178 = .ok (.getfield 65, 3) := by decide +kernel
theorem dX5_income_181 : decode cX5_income 181 = .ok (.aload_n 0, 1) := by decide +kernel
theorem dX5_income_182 : decode cX5_income 182 = .ok (.getfield 56, 3) := by decide +kernel
theorem dX5_income_185 : decode cX5_income 185 = .ok (.iload 4, 2) := by decide +kernel
theorem dX5_income_187 : decode cX5_income 187 = .ok (.iaload, 1) := by decide +kernel
theorem dX5_income_188 : decode cX5_income 188 = .ok (.iaload, 1) := by decide +kernel
theorem dX5_income_189 : decode cX5_income 189 = .ok (.aload_n 0, 1) := by decide +kernel
theorem dX5_income_190 : decode cX5_income 190 = .ok (.getfield 62, 3) := by decide +kernel
theorem dX5_income_193 : decode cX5_income 193 = .ok (.iload 4, 2) := by decide +kernel
theorem dX5_income_195 : decode cX5_income 195 = .ok (.iaload, 1) := by decide +kernel
theorem dX5_income_196 : decode cX5_income 196 = .ok (.imul, 1) := by decide +kernel
theorem dX5_income_197 : decode cX5_income 197 = .ok (.bipush 100, 2) := by decide +kernel
theorem dX5_income_199 : decode cX5_income 199 = .ok (.idiv, 1) := by decide +kernel
theorem dX5_income_200 : decode cX5_income 200 = .ok (.iastore, 1) := by decide +kernel
theorem dX5_income_201 : decode cX5_income 201 = .ok (.aload_n 0, 1) := by decide +kernel
theorem dX5_income_202 : decode cX5_income 202 = .ok (.getfield 68, 3) := by decide +kernel
theorem dX5_income_205 : decode cX5_income 205 = .ok (.aload_n 0, 1) := by decide +kernel
theorem dX5_income_206 : decode cX5_income 206 = .ok (.getfield 59, 3) := by decide +kernel
theorem dX5_income_209 : decode cX5_income 209 = .ok (.iload 4, 2) := by decide +kernel
theorem dX5_income_211 : decode cX5_income 211 = .ok (.iaload, 1) := by decide +kernel
theorem dX5_income_212 : decode cX5_income 212 = .ok (.dup2, 1) := by decide +kernel
theorem dX5_income_213 : decode cX5_income 213 = .ok (.iaload, 1) := by decide +kernel
theorem dX5_income_214 : decode cX5_income 214 = .ok (.aload_n 0, 1) := by decide +kernel
theorem dX5_income_215 : decode cX5_income 215 = .ok (.getfield 65, 3) := by decide +kernel
theorem dX5_income_218 : decode cX5_income 218 = .ok (.iload 4, 2) := by decide +kernel
theorem dX5_income_220 : decode cX5_income 220 = .ok (.iaload, 1) := by decide +kernel
theorem dX5_income_221 : decode cX5_income 221 = .ok (.iadd, 1) := by decide +kernel
theorem dX5_income_222 : decode cX5_income 222 = .ok (.iastore, 1) := by decide +kernel
theorem dX5_income_223 : decode cX5_income 223 = .ok (.aload_n 0, 1) := by decide +kernel
theorem dX5_income_224 : decode cX5_income 224 = .ok (.getfield 56, 3) := by decide +kernel
theorem dX5_income_227 : decode cX5_income 227 = .ok (.iload 4, 2) := by decide +kernel
theorem dX5_income_229 : decode cX5_income 229 = .ok (.iaload, 1) := by decide +kernel
theorem dX5_income_230 : decode cX5_income 230 = .ok (.ifCond .ge 22, 3) := by decide +kernel
theorem dX5_income_233 : decode cX5_income 233 = .ok (.aload_n 0, 1) := by decide +kernel
theorem dX5_income_234 : decode cX5_income 234 = .ok (.dup, 1) := by decide +kernel
theorem dX5_income_235 : decode cX5_income 235 = .ok (.getfield 167, 3) := by decide +kernel
theorem dX5_income_238 : decode cX5_income 238 = .ok (.aload_n 0, 1) := by decide +kernel
theorem dX5_income_239 : decode cX5_income 239 = .ok (.getfield 65, 3) := by decide +kernel
theorem dX5_income_242 : decode cX5_income 242 = .ok (.iload 4, 2) := by decide +kernel
theorem dX5_income_244 : decode cX5_income 244 = .ok (.iaload, 1) := by decide +kernel
theorem dX5_income_245 : decode cX5_income 245 = .ok (.isub, 1) := by decide +kernel
theorem dX5_income_246 : decode cX5_income 246 = .ok (.putfield 167, 3) := by decide +kernel
theorem dX5_income_249 : decode cX5_income 249 = .ok (.goto 30, 3) := by decide +kernel
theorem dX5_income_252 : decode cX5_income 252 = .ok (.aload_n 0, 1) := by decide +kernel
theorem dX5_income_253 : decode cX5_income 253 = .ok (.getfield 68, 3) := by decide +kernel
theorem dX5_income_256 : decode cX5_income 256 = .ok (.aload_n 0, 1) := by decide +kernel
theorem dX5_income_257 : decode cX5_income 257 = .ok (.getfield 59, 3) := by decide +kernel
theorem dX5_income_260 : decode cX5_income 260 = .ok (.aload_n 0, 1) := by decide +kernel
theorem dX5_income_261 : decode cX5_income 261 = .ok (.getfield 56, 3) := by decide +kernel
theorem dX5_income_264 : decode cX5_income 264 = .ok (.iload 4, 2) := by decide +kernel
theorem dX5_income_266 : decode cX5_income 266 = .ok (.iaload, 1) := by decide +kernel
theorem dX5_income_267 : decode cX5_income 267 = .ok (.iaload, 1) := by decide +kernel
theorem dX5_income_268 : decode cX5_income 268 = .ok (.dup2, 1) := by decide +kernel
theorem dX5_income_269 : decode cX5_income 269 = .ok (.iaload, 1) := by decide +kernel
theorem dX5_income_270 : decode cX5_income 270 = .ok (.aload_n 0, 1) := by decide +kernel
theorem dX5_income_271 : decode cX5_income 271 = .ok (.getfield 65, 3) := by decide +kernel
theorem dX5_income_274 : decode cX5_income 274 = .ok (.iload 4, 2) := by decide +kernel
theorem dX5_income_276 : decode cX5_income 276 = .ok (.iaload, 1) := by decide +kernel
theorem dX5_income_277 : decode cX5_income 277 = .ok (.isub, 1) := by decide +kernel
theorem dX5_income_278 : decode cX5_income 278 = .ok (.iastore, 1) := by decide +kernel
theorem dX5_income_279 : decode cX5_income 279 = .ok (.iinc 4 1, 3) := by decide +kernel
theorem dX5_income_282 : decode cX5_income 282 = .ok (.goto (-134), 3) := by decide +kernel
theorem dX5_income_285 : decode cX5_income 285 = .ok (.iload_n 3, 1) := by decide +kernel
theorem dX5_income_286 : decode cX5_income 286 = .ok (.ireturn, 1) := by decide +kernel
theorem dX5_today_0 : decode cX5_today 0 = .ok (.aload_n 0, 1) := by decide +kernel
theorem dX5_today_1 : decode cX5_today 1 = .ok (.iconst 0, 1) := by decide +kernel
theorem dX5_today_2 : decode cX5_today 2 = .ok (.putfield 71, 3) := by decide +kernel
theorem dX5_today_5 : decode cX5_today 5 = .ok (.aload_n 0, 1) := by decide +kernel
theorem dX5_today_6 : decode cX5_today 6 = .ok (.getfield 91, 3) := by decide +kernel
theorem dX5_today_9 : decode cX5_today 9 = .ok (.ireturn, 1) := by decide +kernel
theorem dX5_shot_0 : decode cX5_shot 0 = .ok (.aload_n 0, 1) := by decide +kernel
theorem dX5_shot_1 : decode cX5_shot 1 = .ok (.iconst 0, 1) := by decide +kernel
theorem dX5_shot_2 : decode cX5_shot 2 = .ok (.putfield 71, 3) := by decide +kernel
theorem dX5_shot_5 : decode cX5_shot 5 = .ok (.aload_n 0, 1) := by decide +kernel
theorem dX5_shot_6 : decode cX5_shot 6 = .ok (.getfield 81, 3) := by decide +kernel
theorem dX5_shot_9 : decode cX5_shot 9 = .ok (.ireturn, 1) := by decide +kernel
theorem dX5_days_0 : decode cX5_days 0 = .ok (.aload_n 0, 1) := by decide +kernel
theorem dX5_days_1 : decode cX5_days 1 = .ok (.iconst 0, 1) := by decide +kernel
theorem dX5_days_2 : decode cX5_days 2 = .ok (.putfield 71, 3) := by decide +kernel
theorem dX5_days_5 : decode cX5_days 5 = .ok (.aload_n 0, 1) := by decide +kernel
theorem dX5_days_6 : decode cX5_days 6 = .ok (.invokevirtual 150, 3) := by decide +kernel
theorem dX5_days_9 : decode cX5_days 9 = .ok (.aload_n 0, 1) := by decide +kernel
theorem dX5_days_10 : decode cX5_days 10 = .ok (.getfield 104, 3) := by decide +kernel
theorem dX5_days_13 : decode cX5_days 13 = .ok (.ireturn, 1) := by decide +kernel
theorem dX5_daysByAll_0 : decode cX5_daysByAll 0 = .ok (.aload_n 0, 1) := by decide +kernel
theorem dX5_daysByAll_1 : decode cX5_daysByAll 1 = .ok (.invokevirtual 150, 3) := by decide +kernel
theorem dX5_daysByAll_4 : decode cX5_daysByAll 4 = .ok (.aload_n 0, 1) := by decide +kernel
theorem dX5_daysByAll_5 : decode cX5_daysByAll 5 = .ok (.aload_n 0, 1) := by decide +kernel
theorem dX5_daysByAll_6 : decode cX5_daysByAll 6 = .ok (.getfield 100, 3) := by decide +kernel
theorem dX5_daysByAll_9 : decode cX5_daysByAll 9 = .ok (.bipush 6, 2) := by decide +kernel
theorem dX5_daysByAll_11 : decode cX5_daysByAll 11 = .ok (.if_icmp .le 7, 3) := by decide +kernel
theorem dX5_daysByAll_14 : decode cX5_daysByAll 14 = .ok (.iconst 1, 1) := by decide +kernel
theorem dX5_daysByAll_15 : decode cX5_daysByAll 15 = .ok (.goto 4, 3) := by decide +kernel
theorem dX5_daysByAll_18 : decode cX5_daysByAll 18 = .ok (.iconst 0, 1) := by decide +kernel
theorem dX5_daysByAll_19 : decode cX5_daysByAll 19 = .ok (.putfield 71, 3) := by decide +kernel
theorem dX5_daysByAll_22 : decode cX5_daysByAll 22 = .ok (.aload_n 0, 1) := by decide +kernel
theorem dX5_daysByAll_23 : decode cX5_daysByAll 23 = .ok (.getfield 71, 3) := by decide +kernel
theorem dX5_daysByAll_26 : decode cX5_daysByAll 26 = .ok (.ifCond .le 7, 3) := by decide +kernel
theorem dX5_daysByAll_29 : decode cX5_daysByAll 29 = .ok (.iconst 0, 1) := by decide +kernel
theorem dX5_daysByAll_30 : decode cX5_daysByAll 30 = .ok (.goto 7, 3) := by decide +kernel
theorem dX5_daysByAll_33 : decode cX5_daysByAll 33 = .ok (.aload_n 0, 1) := by decide +kernel
theorem dX5_daysByAll_34 : decode cX5_daysByAll 34 = .ok (.getfield 104, 3) := by decide +kernel
theorem dX5_daysByAll_37 : decode cX5_daysByAll 37 = .ok (.ireturn, 1) := by decide +kernel
theorem dX5_planned_0 : decode cX5_planned 0 = .ok (.aload_n 0, 1) := by decide +kernel
theorem dX5_planned_1 : decode cX5_planned 1 = .ok (.invokevirtual 150, 3) := by decide +kernel
theorem dX5_planned_4 : decode cX5_planned 4 = .ok (.aload_n 0, 1) := by decide +kernel
theorem dX5_planned_5 : decode cX5_planned 5 = .ok (.iload_n 1, 1) := by decide +kernel
theorem dX5_planned_6 : decode cX5_planned 6 = .ok (.iconst 0, 1) := by decide +kernel
theorem dX5_planned_7 : decode cX5_planned 7 = .ok (.aload_n 0, 1) := by decide +kernel
theorem dX5_planned_8 : decode cX5_planned 8 = .ok (.getfield 100, 3) := by decide +kernel
theorem dX5_planned_11 : decode cX5_planned 11 = .ok (.iconst 1, 1) := by decide +kernel
theorem dX5_planned_12 : decode cX5_planned 12 = .ok (.isub, 1) := by decide +kernel
theorem dX5_planned_13 : decode cX5_planned 13 = .ok (.invokestatic 74, 3) := by decide +kernel
theorem dX5_planned_16 : decode cX5_planned 16 = .ok (.ifCond .eq 7, 3) := by decide +kernel
theorem dX5_planned_19 : decode cX5_planned 19 = .ok (.iconst 0, 1) := by decide +kernel
theorem dX5_planned_20 : decode cX5_planned 20 = .ok (.goto 4, 3) := by decide +kernel
theorem dX5_planned_23 : decode cX5_planned 23 = .ok (.iconst 1, 1) := by decide +kernel
theorem dX5_planned_24 : decode cX5_planned 24 = .ok (.putfield 71, 3) := by decide +kernel
theorem dX5_planned_27 : decode cX5_planned 27 = .ok (.aload_n 0, 1) := by decide +kernel
theorem dX5_planned_28 : decode cX5_planned 28 = .ok (.getfield 71, 3) := by decide +kernel
theorem dX5_planned_31 : decode cX5_planned 31 = .ok (.ifCond .le 7, 3) := by decide +kernel
theorem dX5_planned_34 : decode cX5_planned 34 = .ok (.iconst 0, 1) := by decide +kernel
theorem dX5_planned_35 : decode cX5_planned 35 = .ok (.goto 9, 3) := by decide +kernel
theorem dX5_planned_38 : decode cX5_planned 38 = .ok (.aload_n 0, 1) := by decide +kernel
theorem dX5_planned_39 : decode cX5_planned 39 = .ok (.getfield 35, 3) := by decide +kernel
theorem dX5_planned_42 : decode cX5_planned 42 = .ok (.iload_n 1, 1) := by decide +kernel
theorem dX5_planned_43 : decode cX5_planned 43 = .ok (.iaload, 1) := by decide +kernel
theorem dX5_planned_44 : decode cX5_planned 44 = .ok (.ireturn, 1) := by decide +kernel
theorem dX5_begins_0 : decode cX5_begins 0 = .ok (.aload_n 0, 1) := by decide +kernel
theorem dX5_begins_1 : decode cX5_begins 1 = .ok (.invokevirtual 150, 3) := by decide +kernel
theorem dX5_begins_4 : decode cX5_begins 4 = .ok (.aload_n 0, 1) := by decide +kernel
theorem dX5_begins_5 : decode cX5_begins 5 = .ok (.iload_n 1, 1) := by decide +kernel
theorem dX5_begins_6 : decode cX5_begins 6 = .ok (.iconst 0, 1) := by decide +kernel
theorem dX5_begins_7 : decode cX5_begins 7 = .ok (.aload_n 0, 1) := by decide +kernel
theorem dX5_begins_8 : decode cX5_begins 8 = .ok (.getfield 78, 3) := by decide +kernel
theorem dX5_begins_11 : decode cX5_begins 11 = .ok (.iconst 1, 1) := by decide +kernel
theorem dX5_begins_12 : decode cX5_begins 12 = .ok (.isub, 1) := by decide +kernel
theorem dX5_begins_13 : decode cX5_begins 13 = .ok (.invokestatic 74, 3) := by decide +kernel
theorem dX5_begins_16 : decode cX5_begins 16 = .ok (.ifCond .eq 7, 3) := by decide +kernel
theorem dX5_begins_19 : decode cX5_begins 19 = .ok (.iconst 0, 1) := by decide +kernel
theorem dX5_begins_20 : decode cX5_begins 20 = .ok (.goto 4, 3) := by decide +kernel
theorem dX5_begins_23 : decode cX5_begins 23 = .ok (.iconst 1, 1) := by decide +kernel
theorem dX5_begins_24 : decode cX5_begins 24 = .ok (.putfield 71, 3) := by decide +kernel
theorem dX5_begins_27 : decode cX5_begins 27 = .ok (.aload_n 0, 1) := by decide +kernel
theorem dX5_begins_28 : decode cX5_begins 28 = .ok (.getfield 71, 3) := by decide +kernel
theorem dX5_begins_31 : decode cX5_begins 31 = .ok (.ifCond .le 5, 3) := by decide +kernel
theorem dX5_begins_34 : decode cX5_begins 34 = .ok (.iconst 0, 1) := by decide +kernel
theorem dX5_begins_35 : decode cX5_begins 35 = .ok (.ireturn, 1) := by decide +kernel
theorem dX5_begins_36 : decode cX5_begins 36 = .ok (.aload_n 0, 1) := by decide +kernel
theorem dX5_begins_37 : decode cX5_begins 37 = .ok (.getfield 25, 3) := by decide +kernel
theorem dX5_begins_40 : decode cX5_begins 40 = .ok (.iload_n 1, 1) := by decide +kernel
theorem dX5_begins_41 : decode cX5_begins 41 = .ok (.iaload, 1) := by decide +kernel
theorem dX5_begins_42 : decode cX5_begins 42 = .ok (.istore_n 2, 1) := by decide +kernel
theorem dX5_begins_43 : decode cX5_begins 43 = .ok (.iconst 0, 1) := by decide +kernel
theorem dX5_begins_44 : decode cX5_begins 44 = .ok (.istore_n 3, 1) := by decide +kernel
theorem dX5_begins_45 : decode cX5_begins 45 = .ok (.iload_n 3, 1) := by decide +kernel
theorem dX5_begins_46 : decode cX5_begins 46 = .ok (.aload_n 0, 1) := by decide +kernel
theorem dX5_begins_47 : decode cX5_begins 47 = .ok (.getfield 100, 3) := by decide +kernel
theorem dX5_begins_50 : decode cX5_begins 50 = .ok (.if_icmp .ge 30, 3) := by decide +kernel
theorem dX5_begins_53 : decode cX5_begins 53 = .ok (.aload_n 0, 1) := by decide +kernel
theorem dX5_begins_54 : decode cX5_begins 54 = .ok (.getfield 35, 3) := by decide +kernel
theorem dX5_begins_57 : decode cX5_begins 57 = .ok (.iload_n 3, 1) := by decide +kernel
theorem dX5_begins_58 : decode cX5_begins 58 = .ok (.iaload, 1) := by decide +kernel
theorem dX5_begins_59 : decode cX5_begins 59 = .ok (.iload_n 1, 1) := by decide +kernel
theorem dX5_begins_60 : decode cX5_begins 60 = .ok (.if_icmp .ne 12, 3) := by decide +kernel
theorem dX5_begins_63 : decode cX5_begins 63 = .ok (.aload_n 0, 1) := by decide +kernel
theorem dX5_begins_64 : decode cX5_begins 64 = .ok (.getfield 38, 3) := by decide +kernel
theorem dX5_begins_67 : decode cX5_begins 67 = .ok (.iload_n 3, 1) := by decide +kernel
theorem dX5_begins_68 : decode cX5_begins 68 = .ok (.iaload, 1) := by decide +kernel
theorem dX5_begins_69 : decode cX5_begins 69 = .ok (.goto 4, 3) := by decide +kernel
theorem dX5_begins_72 : decode cX5_begins 72 = .ok (.iload_n 2, 1) := by decide +kernel
theorem dX5_begins_73 : decode cX5_begins 73 = .ok (.istore_n 2, 1) := by decide +kernel
theorem dX5_begins_74 : decode cX5_begins 74 = .ok (.iinc 3 1, 3) := by decide +kernel
theorem dX5_begins_77 : decode cX5_begins 77 = .ok (.goto (-32), 3) := by decide +kernel
theorem dX5_begins_80 : decode cX5_begins 80 = .ok (.iload_n 2, 1) := by decide +kernel
theorem dX5_begins_81 : decode cX5_begins 81 = .ok (.ireturn, 1) := by decide +kernel
theorem dX5_left_0 : decode cX5_left 0 = .ok (.aload_n 0, 1) := by decide +kernel
theorem dX5_left_1 : decode cX5_left 1 = .ok (.iload_n 1, 1) := by decide +kernel
theorem dX5_left_2 : decode cX5_left 2 = .ok (.invokevirtual 170, 3) := by decide +kernel
theorem dX5_left_5 : decode cX5_left 5 = .ok (.ifCond .eq 12, 3) := by decide +kernel
theorem dX5_left_8 : decode cX5_left 8 = .ok (.aload_n 0, 1) := by decide +kernel
theorem dX5_left_9 : decode cX5_left 9 = .ok (.getfield 47, 3) := by decide +kernel
theorem dX5_left_12 : decode cX5_left 12 = .ok (.iload_n 1, 1) := by decide +kernel
theorem dX5_left_13 : decode cX5_left 13 = .ok (.iaload, 1) := by decide +kernel
theorem dX5_left_14 : decode cX5_left 14 = .ok (.goto 4, 3) := by decide +kernel
theorem dX5_left_17 : decode cX5_left 17 = .ok (.iconst 0, 1) := by decide +kernel
theorem dX5_left_18 : decode cX5_left 18 = .ok (.ireturn, 1) := by decide +kernel
theorem dX5_fee_0 : decode cX5_fee 0 = .ok (.aload_n 0, 1) := by decide +kernel
theorem dX5_fee_1 : decode cX5_fee 1 = .ok (.iconst 0, 1) := by decide +kernel
theorem dX5_fee_2 : decode cX5_fee 2 = .ok (.putfield 71, 3) := by decide +kernel
theorem dX5_fee_5 : decode cX5_fee 5 = .ok (.aload_n 0, 1) := by decide +kernel
theorem dX5_fee_6 : decode cX5_fee 6 = .ok (.getfield 141, 3) := by decide +kernel
theorem dX5_fee_9 : decode cX5_fee 9 = .ok (.ireturn, 1) := by decide +kernel
theorem dX5_costs_0 : decode cX5_costs 0 = .ok (.aload_n 0, 1) := by decide +kernel
theorem dX5_costs_1 : decode cX5_costs 1 = .ok (.iconst 0, 1) := by decide +kernel
theorem dX5_costs_2 : decode cX5_costs 2 = .ok (.putfield 71, 3) := by decide +kernel
theorem dX5_costs_5 : decode cX5_costs 5 = .ok (.aload_n 0, 1) := by decide +kernel
theorem dX5_costs_6 : decode cX5_costs 6 = .ok (.getfield 144, 3) := by decide +kernel
theorem dX5_costs_9 : decode cX5_costs 9 = .ok (.ireturn, 1) := by decide +kernel
theorem dX5_open_0 : decode cX5_open 0 = .ok (.aload_n 0, 1) := by decide +kernel
theorem dX5_open_1 : decode cX5_open 1 = .ok (.iconst 0, 1) := by decide +kernel
theorem dX5_open_2 : decode cX5_open 2 = .ok (.putfield 71, 3) := by decide +kernel
theorem dX5_open_5 : decode cX5_open 5 = .ok (.aload_n 0, 1) := by decide +kernel
theorem dX5_open_6 : decode cX5_open 6 = .ok (.getfield 147, 3) := by decide +kernel
theorem dX5_open_9 : decode cX5_open 9 = .ok (.ireturn, 1) := by decide +kernel
theorem dX5_openOf_0 : decode cX5_openOf 0 = .ok (.aload_n 0, 1) := by decide +kernel
theorem dX5_openOf_1 : decode cX5_openOf 1 = .ok (.iload_n 1, 1) := by decide +kernel
theorem dX5_openOf_2 : decode cX5_openOf 2 = .ok (.iconst 0, 1) := by decide +kernel
theorem dX5_openOf_3 : decode cX5_openOf 3 = .ok (.aload_n 0, 1) := by decide +kernel
theorem dX5_openOf_4 : decode cX5_openOf 4 = .ok (.getfield 161, 3) := by decide +kernel
theorem dX5_openOf_7 : decode cX5_openOf 7 = .ok (.iconst 1, 1) := by decide +kernel
theorem dX5_openOf_8 : decode cX5_openOf 8 = .ok (.isub, 1) := by decide +kernel
theorem dX5_openOf_9 : decode cX5_openOf 9 = .ok (.invokestatic 74, 3) := by decide +kernel
theorem dX5_openOf_12 : decode cX5_openOf 12 = .ok (.ifCond .eq 7, 3) := by decide +kernel
theorem dX5_openOf_15 : decode cX5_openOf 15 = .ok (.iconst 0, 1) := by decide +kernel
theorem dX5_openOf_16 : decode cX5_openOf 16 = .ok (.goto 4, 3) := by decide +kernel
theorem dX5_openOf_19 : decode cX5_openOf 19 = .ok (.iconst 1, 1) := by decide +kernel
theorem dX5_openOf_20 : decode cX5_openOf 20 = .ok (.putfield 71, 3) := by decide +kernel
theorem dX5_openOf_23 : decode cX5_openOf 23 = .ok (.aload_n 0, 1) := by decide +kernel
theorem dX5_openOf_24 : decode cX5_openOf 24 = .ok (.getfield 71, 3) := by decide +kernel
theorem dX5_openOf_27 : decode cX5_openOf 27 = .ok (.ifCond .le 7, 3) := by decide +kernel
theorem dX5_openOf_30 : decode cX5_openOf 30 = .ok (.iconst 0, 1) := by decide +kernel
theorem dX5_openOf_31 : decode cX5_openOf 31 = .ok (.goto 9, 3) := by decide +kernel
theorem dX5_openOf_34 : decode cX5_openOf 34 = .ok (.aload_n 0, 1) := by decide +kernel
theorem dX5_openOf_35 : decode cX5_openOf 35 = .ok (.getfield 53, 3) := by decide +kernel
theorem dX5_openOf_38 : decode cX5_openOf 38 = .ok (.iload_n 1, 1) := by decide +kernel
theorem dX5_openOf_39 : decode cX5_openOf 39 = .ok (.iaload, 1) := by decide +kernel
theorem dX5_openOf_40 : decode cX5_openOf 40 = .ok (.ireturn, 1) := by decide +kernel
theorem dX5_got_0 : decode cX5_got 0 = .ok (.aload_n 0, 1) := by decide +kernel
theorem dX5_got_1 : decode cX5_got 1 = .ok (.iload_n 1, 1) := by decide +kernel
theorem dX5_got_2 : decode cX5_got 2 = .ok (.invokestatic 131, 3) := by decide +kernel
theorem dX5_got_5 : decode cX5_got 5 = .ok (.ifCond .eq 7, 3) := by decide +kernel
theorem dX5_got_8 : decode cX5_got 8 = .ok (.iconst 0, 1) := by decide +kernel
theorem dX5_got_9 : decode cX5_got 9 = .ok (.goto 4, 3) := by decide +kernel
theorem dX5_got_12 : decode cX5_got 12 = .ok (.iconst 1, 1) := by decide +kernel
theorem dX5_got_13 : decode cX5_got 13 = .ok (.putfield 71, 3) := by decide +kernel
theorem dX5_got_16 : decode cX5_got 16 = .ok (.aload_n 0, 1) := by decide +kernel
theorem dX5_got_17 : decode cX5_got 17 = .ok (.getfield 71, 3) := by decide +kernel
theorem dX5_got_20 : decode cX5_got 20 = .ok (.ifCond .le 7, 3) := by decide +kernel
theorem dX5_got_23 : decode cX5_got 23 = .ok (.iconst 0, 1) := by decide +kernel
theorem dX5_got_24 : decode cX5_got 24 = .ok (.goto 9, 3) := by decide +kernel
theorem dX5_got_27 : decode cX5_got 27 = .ok (.aload_n 0, 1) := by decide +kernel
theorem dX5_got_28 : decode cX5_got 28 = .ok (.getfield 68, 3) := by decide +kernel
theorem dX5_got_31 : decode cX5_got 31 = .ok (.iload_n 1, 1) := by decide +kernel
theorem dX5_got_32 : decode cX5_got 32 = .ok (.iaload, 1) := by decide +kernel
theorem dX5_got_33 : decode cX5_got 33 = .ok (.ireturn, 1) := by decide +kernel
theorem dX5_house_0 : decode cX5_house 0 = .ok (.aload_n 0, 1) := by decide +kernel
theorem dX5_house_1 : decode cX5_house 1 = .ok (.iconst 0, 1) := by decide +kernel
theorem dX5_house_2 : decode cX5_house 2 = .ok (.putfield 71, 3) := by decide +kernel
theorem dX5_house_5 : decode cX5_house 5 = .ok (.aload_n 0, 1) := by decide +kernel
theorem dX5_house_6 : decode cX5_house 6 = .ok (.getfield 167, 3) := by decide +kernel
theorem dX5_house_9 : decode cX5_house 9 = .ok (.ireturn, 1) := by decide +kernel
end
section
theorem dL_addScene_0 : decode cL_addScene 0 = .ok (.aload 6, 2) := by decide +kernel
theorem dL_addScene_2 : decode cL_addScene 2 = .ok (.iconst 0, 1) := by decide +kernel
theorem dL_addScene_3 : decode cL_addScene 3 = .ok (.aload_n 0, 1) := by decide +kernel
theorem dL_addScene_4 : decode cL_addScene 4 = .ok (.iload_n 1, 1) := by decide +kernel
theorem dL_addScene_5 : decode cL_addScene 5 = .ok (.iload_n 2, 1) := by decide +kernel
theorem dL_addScene_6 : decode cL_addScene 6 = .ok (.iload_n 3, 1) := by decide +kernel
theorem dL_addScene_7 : decode cL_addScene 7 = .ok (.iload 4, 2) := by decide +kernel
theorem dL_addScene_9 : decode cL_addScene 9 = .ok (.iload 5, 2) := by decide +kernel
theorem dL_addScene_11 : decode cL_addScene 11 = .ok (.invokevirtual 7, 3) := by decide +kernel
theorem dL_addScene_14 : decode cL_addScene 14 = .ok (.i2l, 1) := by decide +kernel
theorem dL_addScene_15 : decode cL_addScene 15 = .ok (.lastore, 1) := by decide +kernel
theorem dL_addScene_16 : decode cL_addScene 16 = .ok (.goto 11, 3) := by decide +kernel
theorem dL_addScene_19 : decode cL_addScene 19 = .ok (.astore 7, 2) := by decide +kernel
theorem dL_addScene_21 : decode cL_addScene 21 = .ok (.iconst 1, 1) := by decide +kernel
theorem dL_addScene_22 : decode cL_addScene 22 = .ok (.ireturn, 1) := by decide +kernel
theorem dL_addScene_23 : decode cL_addScene 23 = .ok (.astore 7, 2) := by decide +kernel
theorem dL_addScene_25 : decode cL_addScene 25 = .ok (.iconst 2, 1) := by decide +kernel
theorem dL_addScene_26 : decode cL_addScene 26 = .ok (.ireturn, 1) := by decide +kernel
theorem dL_addScene_27 : decode cL_addScene 27 = .ok (.iconst 0, 1) := by decide +kernel
theorem dL_addScene_28 : decode cL_addScene 28 = .ok (.ireturn, 1) := by decide +kernel
theorem dL_setOut_0 : decode cL_setOut 0 = .ok (.aload_n 3, 1) := by decide +kernel
theorem dL_setOut_1 : decode cL_setOut 1 = .ok (.iconst 0, 1) := by decide +kernel
theorem dL_setOut_2 : decode cL_setOut 2 = .ok (.aload_n 0, 1) := by decide +kernel
theorem dL_setOut_3 : decode cL_setOut 3 = .ok (.iload_n 1, 1) := by decide +kernel
theorem dL_setOut_4 : decode cL_setOut 4 = .ok (.iload_n 2, 1) := by decide +kernel
theorem dL_setOut_5 : decode cL_setOut 5 = .ok (.invokevirtual 17, 3) := by decide +kernel
theorem dL_setOut_8 : decode cL_setOut 8 = .ok (.ifCond .eq 7, 3) := by decide +kernel
theorem dL_setOut_11 : decode cL_setOut 11 = .ok (.lconst 1, 1) := by decide +kernel
theorem dL_setOut_12 : decode cL_setOut 12 = .ok (.goto 4, 3) := by decide +kernel
theorem dL_setOut_15 : decode cL_setOut 15 = .ok (.lconst 0, 1) := by decide +kernel
theorem dL_setOut_16 : decode cL_setOut 16 = .ok (.lastore, 1) := by decide +kernel
theorem dL_setOut_17 : decode cL_setOut 17 = .ok (.goto 7, 3) := by decide +kernel
theorem dL_setOut_20 : decode cL_setOut 20 = .ok (.astore 4, 2) := by decide +kernel
theorem dL_setOut_22 : decode cL_setOut 22 = .ok (.iconst 1, 1) := by decide +kernel
theorem dL_setOut_23 : decode cL_setOut 23 = .ok (.ireturn, 1) := by decide +kernel
theorem dL_setOut_24 : decode cL_setOut 24 = .ok (.iconst 0, 1) := by decide +kernel
theorem dL_setOut_25 : decode cL_setOut 25 = .ok (.ireturn, 1) := by decide +kernel
theorem dL_setChild_0 : decode cL_setChild 0 = .ok (.aload_n 3, 1) := by decide +kernel
theorem dL_setChild_1 : decode cL_setChild 1 = .ok (.iconst 0, 1) := by decide +kernel
theorem dL_setChild_2 : decode cL_setChild 2 = .ok (.aload_n 0, 1) := by decide +kernel
theorem dL_setChild_3 : decode cL_setChild 3 = .ok (.iload_n 1, 1) := by decide +kernel
theorem dL_setChild_4 : decode cL_setChild 4 = .ok (.iload_n 2, 1) := by decide +kernel
theorem dL_setChild_5 : decode cL_setChild 5 = .ok (.invokevirtual 23, 3) := by decide +kernel
theorem dL_setChild_8 : decode cL_setChild 8 = .ok (.ifCond .eq 7, 3) := by decide +kernel
theorem dL_setChild_11 : decode cL_setChild 11 = .ok (.lconst 1, 1) := by decide +kernel
theorem dL_setChild_12 : decode cL_setChild 12 = .ok (.goto 4, 3) := by decide +kernel
theorem dL_setChild_15 : decode cL_setChild 15 = .ok (.lconst 0, 1) := by decide +kernel
theorem dL_setChild_16 : decode cL_setChild 16 = .ok (.lastore, 1) := by decide +kernel
theorem dL_setChild_17 : decode cL_setChild 17 = .ok (.goto 7, 3) := by decide +kernel
theorem dL_setChild_20 : decode cL_setChild 20 = .ok (.astore 4, 2) := by decide +kernel
theorem dL_setChild_22 : decode cL_setChild 22 = .ok (.iconst 1, 1) := by decide +kernel
theorem dL_setChild_23 : decode cL_setChild 23 = .ok (.ireturn, 1) := by decide +kernel
theorem dL_setChild_24 : decode cL_setChild 24 = .ok (.iconst 0, 1) := by decide +kernel
theorem dL_setChild_25 : decode cL_setChild 25 = .ok (.ireturn, 1) := by decide +kernel
theorem dL_setRates_0 : decode cL_setRates 0 = .ok (.aload_n 3, 1) := by decide +kernel
theorem dL_setRates_1 : decode cL_setRates 1 = .ok (.iconst 0, 1) := by decide +kernel
theorem dL_setRates_2 : decode cL_setRates 2 = .ok (.aload_n 0, 1) := by decide +kernel
theorem dL_setRates_3 : decode cL_setRates 3 = .ok (.iload_n 1, 1) := by decide +kernel
theorem dL_setRates_4 : decode cL_setRates 4 = .ok (.iload_n 2, 1) := by decide +kernel
theorem dL_setRates_5 : decode cL_setRates 5 = .ok (.invokevirtual 26, 3) := by decide +kernel
theorem dL_setRates_8 : decode cL_setRates 8 = .ok (.i2l, 1) := by decide +kernel
theorem dL_setRates_9 : decode cL_setRates 9 = .ok (.lastore, 1) := by decide +kernel
theorem dL_setRates_10 : decode cL_setRates 10 = .ok (.goto 7, 3) := by decide +kernel
theorem dL_setRates_13 : decode cL_setRates 13 = .ok (.astore 4, 2) := by decide +kernel
theorem dL_setRates_15 : decode cL_setRates 15 = .ok (.iconst 1, 1) := by decide +kernel
theorem dL_setRates_16 : decode cL_setRates 16 = .ok (.ireturn, 1) := by decide +kernel
theorem dL_setRates_17 : decode cL_setRates 17 = .ok (.iconst 0, 1) := by decide +kernel
theorem dL_setRates_18 : decode cL_setRates 18 = .ok (.ireturn, 1) := by decide +kernel
theorem dL_shoot_0 : decode cL_shoot 0 = .ok (.aload_n 2, 1) := by decide +kernel
theorem dL_shoot_1 : decode cL_shoot 1 = .ok (.iconst 0, 1) := by decide +kernel
theorem dL_shoot_2 : decode cL_shoot 2 = .ok (.aload_n 0, 1) := by decide +kernel
theorem dL_shoot_3 : decode cL_shoot 3 = .ok (.iload_n 1, 1) := by decide +kernel
theorem dL_shoot_4 : decode cL_shoot 4 = .ok (.invokevirtual 30, 3) := by decide +kernel
theorem dL_shoot_7 : decode cL_shoot 7 = .ok (.i2l, 1) := by decide +kernel
theorem dL_shoot_8 : decode cL_shoot 8 = .ok (.lastore, 1) := by decide +kernel
theorem dL_shoot_9 : decode cL_shoot 9 = .ok (.goto 6, 3) := by decide +kernel
theorem dL_shoot_12 : decode cL_shoot 12 = .ok (.astore_n 3, 1) := by decide +kernel
theorem dL_shoot_13 : decode cL_shoot 13 = .ok (.iconst 1, 1) := by decide +kernel
theorem dL_shoot_14 : decode cL_shoot 14 = .ok (.ireturn, 1) := by decide +kernel
theorem dL_shoot_15 : decode cL_shoot 15 = .ok (.iconst 0, 1) := by decide +kernel
theorem dL_shoot_16 : decode cL_shoot 16 = .ok (.ireturn, 1) := by decide +kernel
theorem dL_approve_0 : decode cL_approve 0 = .ok (.aload_n 3, 1) := by decide +kernel
theorem dL_approve_1 : decode cL_approve 1 = .ok (.iconst 0, 1) := by decide +kernel
theorem dL_approve_2 : decode cL_approve 2 = .ok (.aload_n 0, 1) := by decide +kernel
theorem dL_approve_3 : decode cL_approve 3 = .ok (.iload_n 1, 1) := by decide +kernel
theorem dL_approve_4 : decode cL_approve 4 = .ok (.iload_n 2, 1) := by decide +kernel
theorem dL_approve_5 : decode cL_approve 5 = .ok (.invokevirtual 34, 3) := by decide +kernel
theorem dL_approve_8 : decode cL_approve 8 = .ok (.i2l, 1) := by decide +kernel
theorem dL_approve_9 : decode cL_approve 9 = .ok (.lastore, 1) := by decide +kernel
theorem dL_approve_10 : decode cL_approve 10 = .ok (.goto 11, 3) := by decide +kernel
theorem dL_approve_13 : decode cL_approve 13 = .ok (.astore 4, 2) := by decide +kernel
theorem dL_approve_15 : decode cL_approve 15 = .ok (.iconst 1, 1) := by decide +kernel
theorem dL_approve_16 : decode cL_approve 16 = .ok (.ireturn, 1) := by decide +kernel
theorem dL_approve_17 : decode cL_approve 17 = .ok (.astore 4, 2) := by decide +kernel
theorem dL_approve_19 : decode cL_approve 19 = .ok (.iconst 2, 1) := by decide +kernel
theorem dL_approve_20 : decode cL_approve 20 = .ok (.ireturn, 1) := by decide +kernel
theorem dL_approve_21 : decode cL_approve 21 = .ok (.iconst 0, 1) := by decide +kernel
theorem dL_approve_22 : decode cL_approve 22 = .ok (.ireturn, 1) := by decide +kernel
theorem dL_grant_0 : decode cL_grant 0 = .ok (.aload_n 2, 1) := by decide +kernel
theorem dL_grant_1 : decode cL_grant 1 = .ok (.iconst 0, 1) := by decide +kernel
theorem dL_grant_2 : decode cL_grant 2 = .ok (.aload_n 0, 1) := by decide +kernel
theorem dL_grant_3 : decode cL_grant 3 = .ok (.iload_n 1, 1) := by decide +kernel
theorem dL_grant_4 : decode cL_grant 4 = .ok (.invokevirtual 37, 3) := by decide +kernel
theorem dL_grant_7 : decode cL_grant 7 = .ok (.i2l, 1) := by decide +kernel
theorem dL_grant_8 : decode cL_grant 8 = .ok (.lastore, 1) := by decide +kernel
theorem dL_grant_9 : decode cL_grant 9 = .ok (.goto 6, 3) := by decide +kernel
theorem dL_grant_12 : decode cL_grant 12 = .ok (.astore_n 3, 1) := by decide +kernel
theorem dL_grant_13 : decode cL_grant 13 = .ok (.iconst 1, 1) := by decide +kernel
theorem dL_grant_14 : decode cL_grant 14 = .ok (.ireturn, 1) := by decide +kernel
theorem dL_grant_15 : decode cL_grant 15 = .ok (.iconst 0, 1) := by decide +kernel
theorem dL_grant_16 : decode cL_grant 16 = .ok (.ireturn, 1) := by decide +kernel
theorem dL_bill_0 : decode cL_bill 0 = .ok (.aload_n 3, 1) := by decide +kernel
theorem dL_bill_1 : decode cL_bill 1 = .ok (.iconst 0, 1) := by decide +kernel
theorem dL_bill_2 : decode cL_bill 2 = .ok (.aload_n 0, 1) := by decide +kernel
theorem dL_bill_3 : decode cL_bill 3 = .ok (.iload_n 1, 1) := by decide +kernel
theorem dL_bill_4 : decode cL_bill 4 = .ok (.iload_n 2, 1) := by decide +kernel
theorem dL_bill_5 : decode cL_bill 5 = .ok (.invokevirtual 41, 3) := by decide +kernel
theorem dL_bill_8 : decode cL_bill 8 = .ok (.i2l, 1) := by decide +kernel
theorem dL_bill_9 : decode cL_bill 9 = .ok (.lastore, 1) := by decide +kernel
theorem dL_bill_10 : decode cL_bill 10 = .ok (.goto 15, 3) := by decide +kernel
theorem dL_bill_13 : decode cL_bill 13 = .ok (.astore 4, 2) := by decide +kernel
theorem dL_bill_15 : decode cL_bill 15 = .ok (.iconst 1, 1) := by decide +kernel
theorem dL_bill_16 : decode cL_bill 16 = .ok (.ireturn, 1) := by decide +kernel
theorem dL_bill_17 : decode cL_bill 17 = .ok (.astore 4, 2) := by decide +kernel
theorem dL_bill_19 : decode cL_bill 19 = .ok (.iconst 2, 1) := by decide +kernel
theorem dL_bill_20 : decode cL_bill 20 = .ok (.ireturn, 1) := by decide +kernel
theorem dL_bill_21 : decode cL_bill 21 = .ok (.astore 4, 2) := by decide +kernel
theorem dL_bill_23 : decode cL_bill 23 = .ok (.iconst 3, 1) := by decide +kernel
theorem dL_bill_24 : decode cL_bill 24 = .ok (.ireturn, 1) := by decide +kernel
theorem dL_bill_25 : decode cL_bill 25 = .ok (.iconst 0, 1) := by decide +kernel
theorem dL_bill_26 : decode cL_bill 26 = .ok (.ireturn, 1) := by decide +kernel
theorem dL_loan_0 : decode cL_loan 0 = .ok (.aload_n 3, 1) := by decide +kernel
theorem dL_loan_1 : decode cL_loan 1 = .ok (.iconst 0, 1) := by decide +kernel
theorem dL_loan_2 : decode cL_loan 2 = .ok (.aload_n 0, 1) := by decide +kernel
theorem dL_loan_3 : decode cL_loan 3 = .ok (.iload_n 1, 1) := by decide +kernel
theorem dL_loan_4 : decode cL_loan 4 = .ok (.iload_n 2, 1) := by decide +kernel
theorem dL_loan_5 : decode cL_loan 5 = .ok (.invokevirtual 44, 3) := by decide +kernel
theorem dL_loan_8 : decode cL_loan 8 = .ok (.i2l, 1) := by decide +kernel
theorem dL_loan_9 : decode cL_loan 9 = .ok (.lastore, 1) := by decide +kernel
theorem dL_loan_10 : decode cL_loan 10 = .ok (.goto 15, 3) := by decide +kernel
theorem dL_loan_13 : decode cL_loan 13 = .ok (.astore 4, 2) := by decide +kernel
theorem dL_loan_15 : decode cL_loan 15 = .ok (.iconst 1, 1) := by decide +kernel
theorem dL_loan_16 : decode cL_loan 16 = .ok (.ireturn, 1) := by decide +kernel
theorem dL_loan_17 : decode cL_loan 17 = .ok (.astore 4, 2) := by decide +kernel
theorem dL_loan_19 : decode cL_loan 19 = .ok (.iconst 2, 1) := by decide +kernel
theorem dL_loan_20 : decode cL_loan 20 = .ok (.ireturn, 1) := by decide +kernel
theorem dL_loan_21 : decode cL_loan 21 = .ok (.astore 4, 2) := by decide +kernel
theorem dL_loan_23 : decode cL_loan 23 = .ok (.iconst 3, 1) := by decide +kernel
theorem dL_loan_24 : decode cL_loan 24 = .ok (.ireturn, 1) := by decide +kernel
theorem dL_loan_25 : decode cL_loan 25 = .ok (.iconst 0, 1) := by decide +kernel
theorem dL_loan_26 : decode cL_loan 26 = .ok (.ireturn, 1) := by decide +kernel
theorem dL_part_0 : decode cL_part 0 = .ok (.aload 4, 2) := by decide +kernel
theorem dL_part_2 : decode cL_part 2 = .ok (.iconst 0, 1) := by decide +kernel
theorem dL_part_3 : decode cL_part 3 = .ok (.aload_n 0, 1) := by decide +kernel
theorem dL_part_4 : decode cL_part 4 = .ok (.iload_n 1, 1) := by decide +kernel
theorem dL_part_5 : decode cL_part 5 = .ok (.iload_n 2, 1) := by decide +kernel
theorem dL_part_6 : decode cL_part 6 = .ok (.iload_n 3, 1) := by decide +kernel
theorem dL_part_7 : decode cL_part 7 = .ok (.invokevirtual 47, 3) := by decide +kernel
theorem dL_part_10 : decode cL_part 10 = .ok (.i2l, 1) := by decide +kernel
theorem dL_part_11 : decode cL_part 11 = .ok (.lastore, 1) := by decide +kernel
theorem dL_part_12 : decode cL_part 12 = .ok (.goto 15, 3) := by decide +kernel
theorem dL_part_15 : decode cL_part 15 = .ok (.astore 5, 2) := by decide +kernel
theorem dL_part_17 : decode cL_part 17 = .ok (.iconst 1, 1) := by decide +kernel
theorem dL_part_18 : decode cL_part 18 = .ok (.ireturn, 1) := by decide +kernel
theorem dL_part_19 : decode cL_part 19 = .ok (.astore 5, 2) := by decide +kernel
theorem dL_part_21 : decode cL_part 21 = .ok (.iconst 2, 1) := by decide +kernel
theorem dL_part_22 : decode cL_part 22 = .ok (.ireturn, 1) := by decide +kernel
theorem dL_part_23 : decode cL_part 23 = .ok (.astore 5, 2) := by decide +kernel
theorem dL_part_25 : decode cL_part 25 = .ok (.iconst 3, 1) := by decide +kernel
theorem dL_part_26 : decode cL_part 26 = .ok (.ireturn, 1) := by decide +kernel
theorem dL_part_27 : decode cL_part 27 = .ok (.iconst 0, 1) := by decide +kernel
theorem dL_part_28 : decode cL_part 28 = .ok (.ireturn, 1) := by decide +kernel
theorem dL_income_0 : decode cL_income 0 = .ok (.aload_n 2, 1) := by decide +kernel
theorem dL_income_1 : decode cL_income 1 = .ok (.iconst 0, 1) := by decide +kernel
theorem dL_income_2 : decode cL_income 2 = .ok (.aload_n 0, 1) := by decide +kernel
theorem dL_income_3 : decode cL_income 3 = .ok (.iload_n 1, 1) := by decide +kernel
theorem dL_income_4 : decode cL_income 4 = .ok (.invokevirtual 51, 3) := by decide +kernel
theorem dL_income_7 : decode cL_income 7 = .ok (.i2l, 1) := by decide +kernel
theorem dL_income_8 : decode cL_income 8 = .ok (.lastore, 1) := by decide +kernel
theorem dL_income_9 : decode cL_income 9 = .ok (.goto 6, 3) := by decide +kernel
theorem dL_income_12 : decode cL_income 12 = .ok (.astore_n 3, 1) := by decide +kernel
theorem dL_income_13 : decode cL_income 13 = .ok (.iconst 1, 1) := by decide +kernel
theorem dL_income_14 : decode cL_income 14 = .ok (.ireturn, 1) := by decide +kernel
theorem dL_income_15 : decode cL_income 15 = .ok (.iconst 0, 1) := by decide +kernel
theorem dL_income_16 : decode cL_income 16 = .ok (.ireturn, 1) := by decide +kernel
theorem dL_daysByAll_0 : decode cL_daysByAll 0 = .ok (.aload_n 1, 1) := by decide +kernel
theorem dL_daysByAll_1 : decode cL_daysByAll 1 = .ok (.iconst 0, 1) := by decide +kernel
theorem dL_daysByAll_2 : decode cL_daysByAll 2 = .ok (.aload_n 0, 1) := by decide +kernel
theorem dL_daysByAll_3 : decode cL_daysByAll 3 = .ok (.invokevirtual 54, 3) := by decide +kernel
theorem dL_daysByAll_6 : decode cL_daysByAll 6 = .ok (.i2l, 1) := by decide +kernel
theorem dL_daysByAll_7 : decode cL_daysByAll 7 = .ok (.lastore, 1) := by decide +kernel
theorem dL_daysByAll_8 : decode cL_daysByAll 8 = .ok (.goto 6, 3) := by decide +kernel
theorem dL_daysByAll_11 : decode cL_daysByAll 11 = .ok (.astore_n 2, 1) := by decide +kernel
theorem dL_daysByAll_12 : decode cL_daysByAll 12 = .ok (.iconst 1, 1) := by decide +kernel
theorem dL_daysByAll_13 : decode cL_daysByAll 13 = .ok (.ireturn, 1) := by decide +kernel
theorem dL_daysByAll_14 : decode cL_daysByAll 14 = .ok (.iconst 0, 1) := by decide +kernel
theorem dL_daysByAll_15 : decode cL_daysByAll 15 = .ok (.ireturn, 1) := by decide +kernel
theorem dL_planned_0 : decode cL_planned 0 = .ok (.aload_n 2, 1) := by decide +kernel
theorem dL_planned_1 : decode cL_planned 1 = .ok (.iconst 0, 1) := by decide +kernel
theorem dL_planned_2 : decode cL_planned 2 = .ok (.aload_n 0, 1) := by decide +kernel
theorem dL_planned_3 : decode cL_planned 3 = .ok (.iload_n 1, 1) := by decide +kernel
theorem dL_planned_4 : decode cL_planned 4 = .ok (.invokevirtual 58, 3) := by decide +kernel
theorem dL_planned_7 : decode cL_planned 7 = .ok (.i2l, 1) := by decide +kernel
theorem dL_planned_8 : decode cL_planned 8 = .ok (.lastore, 1) := by decide +kernel
theorem dL_planned_9 : decode cL_planned 9 = .ok (.goto 6, 3) := by decide +kernel
theorem dL_planned_12 : decode cL_planned 12 = .ok (.astore_n 3, 1) := by decide +kernel
theorem dL_planned_13 : decode cL_planned 13 = .ok (.iconst 1, 1) := by decide +kernel
theorem dL_planned_14 : decode cL_planned 14 = .ok (.ireturn, 1) := by decide +kernel
theorem dL_planned_15 : decode cL_planned 15 = .ok (.iconst 0, 1) := by decide +kernel
theorem dL_planned_16 : decode cL_planned 16 = .ok (.ireturn, 1) := by decide +kernel
theorem dL_begins_0 : decode cL_begins 0 = .ok (.aload_n 2, 1) := by decide +kernel
theorem dL_begins_1 : decode cL_begins 1 = .ok (.iconst 0, 1) := by decide +kernel
theorem dL_begins_2 : decode cL_begins 2 = .ok (.aload_n 0, 1) := by decide +kernel
theorem dL_begins_3 : decode cL_begins 3 = .ok (.iload_n 1, 1) := by decide +kernel
theorem dL_begins_4 : decode cL_begins 4 = .ok (.invokevirtual 61, 3) := by decide +kernel
theorem dL_begins_7 : decode cL_begins 7 = .ok (.i2l, 1) := by decide +kernel
theorem dL_begins_8 : decode cL_begins 8 = .ok (.lastore, 1) := by decide +kernel
theorem dL_begins_9 : decode cL_begins 9 = .ok (.goto 6, 3) := by decide +kernel
theorem dL_begins_12 : decode cL_begins 12 = .ok (.astore_n 3, 1) := by decide +kernel
theorem dL_begins_13 : decode cL_begins 13 = .ok (.iconst 1, 1) := by decide +kernel
theorem dL_begins_14 : decode cL_begins 14 = .ok (.ireturn, 1) := by decide +kernel
theorem dL_begins_15 : decode cL_begins 15 = .ok (.iconst 0, 1) := by decide +kernel
theorem dL_begins_16 : decode cL_begins 16 = .ok (.ireturn, 1) := by decide +kernel
theorem dL_left_0 : decode cL_left 0 = .ok (.aload_n 2, 1) := by decide +kernel
theorem dL_left_1 : decode cL_left 1 = .ok (.iconst 0, 1) := by decide +kernel
theorem dL_left_2 : decode cL_left 2 = .ok (.aload_n 0, 1) := by decide +kernel
theorem dL_left_3 : decode cL_left 3 = .ok (.iload_n 1, 1) := by decide +kernel
theorem dL_left_4 : decode cL_left 4 = .ok (.invokevirtual 64, 3) := by decide +kernel
theorem dL_left_7 : decode cL_left 7 = .ok (.i2l, 1) := by decide +kernel
theorem dL_left_8 : decode cL_left 8 = .ok (.lastore, 1) := by decide +kernel
theorem dL_left_9 : decode cL_left 9 = .ok (.goto 6, 3) := by decide +kernel
theorem dL_left_12 : decode cL_left 12 = .ok (.astore_n 3, 1) := by decide +kernel
theorem dL_left_13 : decode cL_left 13 = .ok (.iconst 1, 1) := by decide +kernel
theorem dL_left_14 : decode cL_left 14 = .ok (.ireturn, 1) := by decide +kernel
theorem dL_left_15 : decode cL_left 15 = .ok (.iconst 0, 1) := by decide +kernel
theorem dL_left_16 : decode cL_left 16 = .ok (.ireturn, 1) := by decide +kernel
theorem dL_openOf_0 : decode cL_openOf 0 = .ok (.aload_n 2, 1) := by decide +kernel
theorem dL_openOf_1 : decode cL_openOf 1 = .ok (.iconst 0, 1) := by decide +kernel
theorem dL_openOf_2 : decode cL_openOf 2 = .ok (.aload_n 0, 1) := by decide +kernel
theorem dL_openOf_3 : decode cL_openOf 3 = .ok (.iload_n 1, 1) := by decide +kernel
theorem dL_openOf_4 : decode cL_openOf 4 = .ok (.invokevirtual 67, 3) := by decide +kernel
theorem dL_openOf_7 : decode cL_openOf 7 = .ok (.i2l, 1) := by decide +kernel
theorem dL_openOf_8 : decode cL_openOf 8 = .ok (.lastore, 1) := by decide +kernel
theorem dL_openOf_9 : decode cL_openOf 9 = .ok (.goto 6, 3) := by decide +kernel
theorem dL_openOf_12 : decode cL_openOf 12 = .ok (.astore_n 3, 1) := by decide +kernel
theorem dL_openOf_13 : decode cL_openOf 13 = .ok (.iconst 1, 1) := by decide +kernel
theorem dL_openOf_14 : decode cL_openOf 14 = .ok (.ireturn, 1) := by decide +kernel
theorem dL_openOf_15 : decode cL_openOf 15 = .ok (.iconst 0, 1) := by decide +kernel
theorem dL_openOf_16 : decode cL_openOf 16 = .ok (.ireturn, 1) := by decide +kernel
theorem dL_got_0 : decode cL_got 0 = .ok (.aload_n 2, 1) := by decide +kernel
theorem dL_got_1 : decode cL_got 1 = .ok (.iconst 0, 1) := by decide +kernel
theorem dL_got_2 : decode cL_got 2 = .ok (.aload_n 0, 1) := by decide +kernel
theorem dL_got_3 : decode cL_got 3 = .ok (.iload_n 1, 1) := by decide +kernel
theorem dL_got_4 : decode cL_got 4 = .ok (.invokevirtual 70, 3) := by decide +kernel
theorem dL_got_7 : decode cL_got 7 = .ok (.i2l, 1) := by decide +kernel
theorem dL_got_8 : decode cL_got 8 = .ok (.lastore, 1) := by decide +kernel
theorem dL_got_9 : decode cL_got 9 = .ok (.goto 6, 3) := by decide +kernel
theorem dL_got_12 : decode cL_got 12 = .ok (.astore_n 3, 1) := by decide +kernel
theorem dL_got_13 : decode cL_got 13 = .ok (.iconst 1, 1) := by decide +kernel
theorem dL_got_14 : decode cL_got 14 = .ok (.ireturn, 1) := by decide +kernel
theorem dL_got_15 : decode cL_got 15 = .ok (.iconst 0, 1) := by decide +kernel
theorem dL_got_16 : decode cL_got 16 = .ok (.ireturn, 1) := by decide +kernel
theorem dL_law_0 : decode cL_law 0 = .ok (.new 8, 3) := by decide +kernel
theorem dL_law_3 : decode cL_law 3 = .ok (.dup, 1) := by decide +kernel
theorem dL_law_4 : decode cL_law 4 = .ok (.invokespecial 73, 3) := by decide +kernel
theorem dL_law_7 : decode cL_law 7 = .ok (.astore_n 1, 1) := by decide +kernel
theorem dL_law_8 : decode cL_law 8 = .ok (.new 74, 3) := by decide +kernel
theorem dL_law_11 : decode cL_law 11 = .ok (.dup, 1) := by decide +kernel
theorem dL_law_12 : decode cL_law 12 = .ok (.invokespecial 76, 3) := by decide +kernel
theorem dL_law_15 : decode cL_law 15 = .ok (.astore_n 2, 1) := by decide +kernel
theorem dL_law_16 : decode cL_law 16 = .ok (.iconst 1, 1) := by decide +kernel
theorem dL_law_17 : decode cL_law 17 = .ok (.newarray .long, 2) := by decide +kernel
theorem dL_law_19 : decode cL_law 19 = .ok (.astore_n 3, 1) := by decide +kernel
theorem dL_law_20 : decode cL_law 20 = .ok (.iconst 0, 1) := by decide +kernel
theorem dL_law_21 : decode cL_law 21 = .ok (.istore 4, 2) := by decide +kernel
theorem dL_law_23 : decode cL_law 23 = .ok (.iload 4, 2) := by decide +kernel
theorem dL_law_25 : decode cL_law 25 = .ok (.aload_n 0, 1) := by decide +kernel
theorem dL_law_26 : decode cL_law 26 = .ok (.arraylength, 1) := by decide +kernel
theorem dL_law_27 : decode cL_law 27 = .ok (.bipush 6, 2) := by decide +kernel
theorem dL_law_29 : decode cL_law 29 = .ok (.isub, 1) := by decide +kernel
theorem dL_law_30 : decode cL_law 30 = .ok (.if_icmp .gt 1410, 3) := by decide +kernel
theorem dL_law_33 : decode cL_law 33 = .ok (.aload_n 0, 1) := by decide +kernel
theorem dL_law_34 : decode cL_law 34 = .ok (.iload 4, 2) := by decide +kernel
theorem dL_law_36 : decode cL_law 36 = .ok (.iaload, 1) := by decide +kernel
theorem dL_law_37 : decode cL_law 37 = .ok (.bipush 31, 2) := by decide +kernel
theorem dL_law_39 : decode cL_law 39 = .ok (.iand, 1) := by decide +kernel
theorem dL_law_40 : decode cL_law 40 = .ok (.tableswitch 1394 0 24 #[116, 220, 311, 402, 470, 511, 583, 651, 707, 775, 843, 923, 979, 992, 1005, 1018, 1062, 1118, 1174, 1230, 1243, 1256, 1269, 1325, 1381], 116) := by decide +kernel
theorem dL_law_156 : decode cL_law 156 = .ok (.aload_n 1, 1) := by decide +kernel
theorem dL_law_157 : decode cL_law 157 = .ok (.aload_n 0, 1) := by decide +kernel
theorem dL_law_158 : decode cL_law 158 = .ok (.iload 4, 2) := by decide +kernel
theorem dL_law_160 : decode cL_law 160 = .ok (.iconst 1, 1) := by decide +kernel
theorem dL_law_161 : decode cL_law 161 = .ok (.iadd, 1) := by decide +kernel
theorem dL_law_162 : decode cL_law 162 = .ok (.iaload, 1) := by decide +kernel
theorem dL_law_163 : decode cL_law 163 = .ok (.aload_n 0, 1) := by decide +kernel
theorem dL_law_164 : decode cL_law 164 = .ok (.iload 4, 2) := by decide +kernel
theorem dL_law_166 : decode cL_law 166 = .ok (.iconst 2, 1) := by decide +kernel
theorem dL_law_167 : decode cL_law 167 = .ok (.iadd, 1) := by decide +kernel
theorem dL_law_168 : decode cL_law 168 = .ok (.iaload, 1) := by decide +kernel
theorem dL_law_169 : decode cL_law 169 = .ok (.aload_n 0, 1) := by decide +kernel
theorem dL_law_170 : decode cL_law 170 = .ok (.iload 4, 2) := by decide +kernel
theorem dL_law_172 : decode cL_law 172 = .ok (.iconst 3, 1) := by decide +kernel
theorem dL_law_173 : decode cL_law 173 = .ok (.iadd, 1) := by decide +kernel
theorem dL_law_174 : decode cL_law 174 = .ok (.iaload, 1) := by decide +kernel
theorem dL_law_175 : decode cL_law 175 = .ok (.aload_n 0, 1) := by decide +kernel
theorem dL_law_176 : decode cL_law 176 = .ok (.iload 4, 2) := by decide +kernel
theorem dL_law_178 : decode cL_law 178 = .ok (.iconst 4, 1) := by decide +kernel
theorem dL_law_179 : decode cL_law 179 = .ok (.iadd, 1) := by decide +kernel
theorem dL_law_180 : decode cL_law 180 = .ok (.iaload, 1) := by decide +kernel
theorem dL_law_181 : decode cL_law 181 = .ok (.aload_n 0, 1) := by decide +kernel
theorem dL_law_182 : decode cL_law 182 = .ok (.iload 4, 2) := by decide +kernel
theorem dL_law_184 : decode cL_law 184 = .ok (.iconst 5, 1) := by decide +kernel
theorem dL_law_185 : decode cL_law 185 = .ok (.iadd, 1) := by decide +kernel
theorem dL_law_186 : decode cL_law 186 = .ok (.iaload, 1) := by decide +kernel
theorem dL_law_187 : decode cL_law 187 = .ok (.aload_n 3, 1) := by decide +kernel
theorem dL_law_188 : decode cL_law 188 = .ok (.invokestatic 77, 3) := by decide +kernel
theorem dL_law_191 : decode cL_law 191 = .ok (.istore 5, 2) := by decide +kernel
theorem dL_law_193 : decode cL_law 193 = .ok (.aload_n 2, 1) := by decide +kernel
theorem dL_law_194 : decode cL_law 194 = .ok (.aload_n 0, 1) := by decide +kernel
theorem dL_law_195 : decode cL_law 195 = .ok (.iload 4, 2) := by decide +kernel
theorem dL_law_197 : decode cL_law 197 = .ok (.iconst 1, 1) := by decide +kernel
theorem dL_law_198 : decode cL_law 198 = .ok (.iadd, 1) := by decide +kernel
theorem dL_law_199 : decode cL_law 199 = .ok (.iaload, 1) := by decide +kernel
theorem dL_law_200 : decode cL_law 200 = .ok (.aload_n 0, 1) := by decide +kernel
theorem dL_law_201 : decode cL_law 201 = .ok (.iload 4, 2) := by decide +kernel
theorem dL_law_203 : decode cL_law 203 = .ok (.iconst 2, 1) := by decide +kernel
theorem dL_law_204 : decode cL_law 204 = .ok (.iadd, 1) := by decide +kernel
theorem dL_law_205 : decode cL_law 205 = .ok (.iaload, 1) := by decide +kernel
theorem dL_law_206 : decode cL_law 206 = .ok (.aload_n 0, 1) := by decide +kernel
theorem dL_law_207 : decode cL_law 207 = .ok (.iload 4, 2) := by decide +kernel
theorem dL_law_209 : decode cL_law 209 = .ok (.iconst 3, 1) := by decide +kernel
theorem dL_law_210 : decode cL_law 210 = .ok (.iadd, 1) := by decide +kernel
theorem dL_law_211 : decode cL_law 211 = .ok (.iaload, 1) := by decide +kernel
theorem dL_law_212 : decode cL_law 212 = .ok (.aload_n 0, 1) := by decide +kernel
theorem dL_law_213 : decode cL_law 213 = .ok (.iload 4, 2) := by decide +kernel
theorem dL_law_215 : decode cL_law 215 = .ok (.iconst 4, 1) := by decide +kernel
theorem dL_law_216 : decode cL_law 216 = .ok (.iadd, 1) := by decide +kernel
theorem dL_law_217 : decode cL_law 217 = .ok (.iaload, 1) := by decide +kernel
theorem dL_law_218 : decode cL_law 218 = .ok (.aload_n 0, 1) := by decide +kernel
theorem dL_law_219 : decode cL_law 219 = .ok (.iload 4, 2) := by decide +kernel
theorem dL_law_221 : decode cL_law 221 = .ok (.iconst 5, 1) := by decide +kernel
theorem dL_law_222 : decode cL_law 222 = .ok (.iadd, 1) := by decide +kernel
theorem dL_law_223 : decode cL_law 223 = .ok (.iaload, 1) := by decide +kernel
theorem dL_law_224 : decode cL_law 224 = .ok (.invokevirtual 82, 3) := by decide +kernel
theorem dL_law_227 : decode cL_law 227 = .ok (.istore 6, 2) := by decide +kernel
theorem dL_law_229 : decode cL_law 229 = .ok (.aload_n 2, 1) := by decide +kernel
theorem dL_law_230 : decode cL_law 230 = .ok (.invokevirtual 83, 3) := by decide +kernel
theorem dL_law_233 : decode cL_law 233 = .ok (.iload 5, 2) := by decide +kernel
theorem dL_law_235 : decode cL_law 235 = .ok (.if_icmp .eq 5, 3) := by decide +kernel
theorem dL_law_238 : decode cL_law 238 = .ok (.iconst 0, 1) := by decide +kernel
theorem dL_law_239 : decode cL_law 239 = .ok (.ireturn, 1) := by decide +kernel
theorem dL_law_240 : decode cL_law 240 = .ok (.iload 5, 2) := by decide +kernel
theorem dL_law_242 : decode cL_law 242 = .ok (.ifCond .ne 15, 3) := by decide +kernel
theorem dL_law_245 : decode cL_law 245 = .ok (.aload_n 3, 1) := by decide +kernel
theorem dL_law_246 : decode cL_law 246 = .ok (.iconst 0, 1) := by decide +kernel
theorem dL_law_247 : decode cL_law 247 = .ok (.laload, 1) := by decide +kernel
theorem dL_law_248 : decode cL_law 248 = .ok (.iload 6, 2) := by decide +kernel
theorem dL_law_250 : decode cL_law 250 = .ok (.i2l, 1) := by decide +kernel
theorem dL_law_251 : decode cL_law 251 = .ok (.lcmp, 1) := by decide +kernel
theorem dL_law_252 : decode cL_law 252 = .ok (.ifCond .eq 5, 3) := by decide +kernel
theorem dL_law_255 : decode cL_law 255 = .ok (.iconst 0, 1) := by decide +kernel
theorem dL_law_256 : decode cL_law 256 = .ok (.ireturn, 1) := by decide +kernel
theorem dL_law_257 : decode cL_law 257 = .ok (.goto 1177, 3) := by decide +kernel
theorem dL_law_260 : decode cL_law 260 = .ok (.aload_n 1, 1) := by decide +kernel
theorem dL_law_261 : decode cL_law 261 = .ok (.aload_n 0, 1) := by decide +kernel
theorem dL_law_262 : decode cL_law 262 = .ok (.iload 4, 2) := by decide +kernel
theorem dL_law_264 : decode cL_law 264 = .ok (.iconst 1, 1) := by decide +kernel
theorem dL_law_265 : decode cL_law 265 = .ok (.iadd, 1) := by decide +kernel
theorem dL_law_266 : decode cL_law 266 = .ok (.iaload, 1) := by decide +kernel
theorem dL_law_267 : decode cL_law 267 = .ok (.aload_n 0, 1) := by decide +kernel
theorem dL_law_268 : decode cL_law 268 = .ok (.iload 4, 2) := by decide +kernel
theorem dL_law_270 : decode cL_law 270 = .ok (.iconst 2, 1) := by decide +kernel
theorem dL_law_271 : decode cL_law 271 = .ok (.iadd, 1) := by decide +kernel
theorem dL_law_272 : decode cL_law 272 = .ok (.iaload, 1) := by decide +kernel
theorem dL_law_273 : decode cL_law 273 = .ok (.ifCond .eq 7, 3) := by decide +kernel
theorem dL_law_276 : decode cL_law 276 = .ok (.iconst 1, 1) := by decide +kernel
theorem dL_law_277 : decode cL_law 277 = .ok (.goto 4, 3) := by decide +kernel
theorem dL_law_280 : decode cL_law 280 = .ok (.iconst 0, 1) := by decide +kernel
theorem dL_law_281 : decode cL_law 281 = .ok (.aload_n 3, 1) := by decide +kernel
theorem dL_law_282 : decode cL_law 282 = .ok (.invokestatic 86, 3) := by decide +kernel
theorem dL_law_285 : decode cL_law 285 = .ok (.istore 5, 2) := by decide +kernel
theorem dL_law_287 : decode cL_law 287 = .ok (.aload_n 2, 1) := by decide +kernel
theorem dL_law_288 : decode cL_law 288 = .ok (.aload_n 0, 1) := by decide +kernel
theorem dL_law_289 : decode cL_law 289 = .ok (.iload 4, 2) := by decide +kernel
theorem dL_law_291 : decode cL_law 291 = .ok (.iconst 1, 1) := by decide +kernel
theorem dL_law_292 : decode cL_law 292 = .ok (.iadd, 1) := by decide +kernel
theorem dL_law_293 : decode cL_law 293 = .ok (.iaload, 1) := by decide +kernel
theorem dL_law_294 : decode cL_law 294 = .ok (.aload_n 0, 1) := by decide +kernel
theorem dL_law_295 : decode cL_law 295 = .ok (.iload 4, 2) := by decide +kernel
theorem dL_law_297 : decode cL_law 297 = .ok (.iconst 2, 1) := by decide +kernel
theorem dL_law_298 : decode cL_law 298 = .ok (.iadd, 1) := by decide +kernel
theorem dL_law_299 : decode cL_law 299 = .ok (.iaload, 1) := by decide +kernel
theorem dL_law_300 : decode cL_law 300 = .ok (.ifCond .eq 7, 3) := by decide +kernel
theorem dL_law_303 : decode cL_law 303 = .ok (.iconst 1, 1) := by decide +kernel
theorem dL_law_304 : decode cL_law 304 = .ok (.goto 4, 3) := by decide +kernel
theorem dL_law_307 : decode cL_law 307 = .ok (.iconst 0, 1) := by decide +kernel
theorem dL_law_308 : decode cL_law 308 = .ok (.invokevirtual 89, 3) := by decide +kernel
theorem dL_law_311 : decode cL_law 311 = .ok (.istore 6, 2) := by decide +kernel
theorem dL_law_313 : decode cL_law 313 = .ok (.aload_n 2, 1) := by decide +kernel
theorem dL_law_314 : decode cL_law 314 = .ok (.invokevirtual 83, 3) := by decide +kernel
theorem dL_law_317 : decode cL_law 317 = .ok (.iload 5, 2) := by decide +kernel
theorem dL_law_319 : decode cL_law 319 = .ok (.if_icmp .eq 5, 3) := by decide +kernel
theorem dL_law_322 : decode cL_law 322 = .ok (.iconst 0, 1) := by decide +kernel
theorem dL_law_323 : decode cL_law 323 = .ok (.ireturn, 1) := by decide +kernel
theorem dL_law_324 : decode cL_law 324 = .ok (.iload 5, 2) := by decide +kernel
theorem dL_law_326 : decode cL_law 326 = .ok (.ifCond .ne 22, 3) := by decide +kernel
theorem dL_law_329 : decode cL_law 329 = .ok (.aload_n 3, 1) := by decide +kernel
theorem dL_law_330 : decode cL_law 330 = .ok (.iconst 0, 1) := by decide +kernel
theorem dL_law_331 : decode cL_law 331 = .ok (.laload, 1) := by decide +kernel
theorem dL_law_332 : decode cL_law 332 = .ok (.iload 6, 2) := by decide +kernel
theorem dL_law_334 : decode cL_law 334 = .ok (.ifCond .eq 7, 3) := by decide +kernel
theorem dL_law_337 : decode cL_law 337 = .ok (.lconst 1, 1) := by decide +kernel
theorem dL_law_338 : decode cL_law 338 = .ok (.goto 4, 3) := by decide +kernel
theorem dL_law_341 : decode cL_law 341 = .ok (.lconst 0, 1) := by decide +kernel
theorem dL_law_342 : decode cL_law 342 = .ok (.lcmp, 1) := by decide +kernel
theorem dL_law_343 : decode cL_law 343 = .ok (.ifCond .eq 5, 3) := by decide +kernel
theorem dL_law_346 : decode cL_law 346 = .ok (.iconst 0, 1) := by decide +kernel
theorem dL_law_347 : decode cL_law 347 = .ok (.ireturn, 1) := by decide +kernel
theorem dL_law_348 : decode cL_law 348 = .ok (.goto 1086, 3) := by decide +kernel
theorem dL_law_351 : decode cL_law 351 = .ok (.aload_n 1, 1) := by decide +kernel
theorem dL_law_352 : decode cL_law 352 = .ok (.aload_n 0, 1) := by decide +kernel
theorem dL_law_353 : decode cL_law 353 = .ok (.iload 4, 2) := by decide +kernel
theorem dL_law_355 : decode cL_law 355 = .ok (.iconst 1, 1) := by decide +kernel
theorem dL_law_356 : decode cL_law 356 = .ok (.iadd, 1) := by decide +kernel
theorem dL_law_357 : decode cL_law 357 = .ok (.iaload, 1) := by decide +kernel
theorem dL_law_358 : decode cL_law 358 = .ok (.aload_n 0, 1) := by decide +kernel
theorem dL_law_359 : decode cL_law 359 = .ok (.iload 4, 2) := by decide +kernel
theorem dL_law_361 : decode cL_law 361 = .ok (.iconst 2, 1) := by decide +kernel
theorem dL_law_362 : decode cL_law 362 = .ok (.iadd, 1) := by decide +kernel
theorem dL_law_363 : decode cL_law 363 = .ok (.iaload, 1) := by decide +kernel
theorem dL_law_364 : decode cL_law 364 = .ok (.ifCond .eq 7, 3) := by decide +kernel
theorem dL_law_367 : decode cL_law 367 = .ok (.iconst 1, 1) := by decide +kernel
theorem dL_law_368 : decode cL_law 368 = .ok (.goto 4, 3) := by decide +kernel
theorem dL_law_371 : decode cL_law 371 = .ok (.iconst 0, 1) := by decide +kernel
theorem dL_law_372 : decode cL_law 372 = .ok (.aload_n 3, 1) := by decide +kernel
theorem dL_law_373 : decode cL_law 373 = .ok (.invokestatic 90, 3) := by decide +kernel
theorem dL_law_376 : decode cL_law 376 = .ok (.istore 5, 2) := by decide +kernel
theorem dL_law_378 : decode cL_law 378 = .ok (.aload_n 2, 1) := by decide +kernel
theorem dL_law_379 : decode cL_law 379 = .ok (.aload_n 0, 1) := by decide +kernel
theorem dL_law_380 : decode cL_law 380 = .ok (.iload 4, 2) := by decide +kernel
theorem dL_law_382 : decode cL_law 382 = .ok (.iconst 1, 1) := by decide +kernel
theorem dL_law_383 : decode cL_law 383 = .ok (.iadd, 1) := by decide +kernel
theorem dL_law_384 : decode cL_law 384 = .ok (.iaload, 1) := by decide +kernel
theorem dL_law_385 : decode cL_law 385 = .ok (.aload_n 0, 1) := by decide +kernel
theorem dL_law_386 : decode cL_law 386 = .ok (.iload 4, 2) := by decide +kernel
theorem dL_law_388 : decode cL_law 388 = .ok (.iconst 2, 1) := by decide +kernel
theorem dL_law_389 : decode cL_law 389 = .ok (.iadd, 1) := by decide +kernel
theorem dL_law_390 : decode cL_law 390 = .ok (.iaload, 1) := by decide +kernel
theorem dL_law_391 : decode cL_law 391 = .ok (.ifCond .eq 7, 3) := by decide +kernel
theorem dL_law_394 : decode cL_law 394 = .ok (.iconst 1, 1) := by decide +kernel
theorem dL_law_395 : decode cL_law 395 = .ok (.goto 4, 3) := by decide +kernel
theorem dL_law_398 : decode cL_law 398 = .ok (.iconst 0, 1) := by decide +kernel
theorem dL_law_399 : decode cL_law 399 = .ok (.invokevirtual 92, 3) := by decide +kernel
theorem dL_law_402 : decode cL_law 402 = .ok (.istore 6, 2) := by decide +kernel
theorem dL_law_404 : decode cL_law 404 = .ok (.aload_n 2, 1) := by decide +kernel
theorem dL_law_405 : decode cL_law 405 = .ok (.invokevirtual 83, 3) := by decide +kernel
theorem dL_law_408 : decode cL_law 408 = .ok (.iload 5, 2) := by decide +kernel
theorem dL_law_410 : decode cL_law 410 = .ok (.if_icmp .eq 5, 3) := by decide +kernel
theorem dL_law_413 : decode cL_law 413 = .ok (.iconst 0, 1) := by decide +kernel
theorem dL_law_414 : decode cL_law 414 = .ok (.ireturn, 1) := by decide +kernel
theorem dL_law_415 : decode cL_law 415 = .ok (.iload 5, 2) := by decide +kernel
theorem dL_law_417 : decode cL_law 417 = .ok (.ifCond .ne 22, 3) := by decide +kernel
theorem dL_law_420 : decode cL_law 420 = .ok (.aload_n 3, 1) := by decide +kernel
theorem dL_law_421 : decode cL_law 421 = .ok (.iconst 0, 1) := by decide +kernel
theorem dL_law_422 : decode cL_law 422 = .ok (.laload, 1) := by decide +kernel
theorem dL_law_423 : decode cL_law 423 = .ok (.iload 6, 2) := by decide +kernel
theorem dL_law_425 : decode cL_law 425 = .ok (.ifCond .eq 7, 3) := by decide +kernel
theorem dL_law_428 : decode cL_law 428 = .ok (.lconst 1, 1) := by decide +kernel
theorem dL_law_429 : decode cL_law 429 = .ok (.goto 4, 3) := by decide +kernel
theorem dL_law_432 : decode cL_law 432 = .ok (.lconst 0, 1) := by decide +kernel
theorem dL_law_433 : decode cL_law 433 = .ok (.lcmp, 1) := by decide +kernel
theorem dL_law_434 : decode cL_law 434 = .ok (.ifCond .eq 5, 3) := by decide +kernel
theorem dL_law_437 : decode cL_law 437 = .ok (.iconst 0, 1) := by decide +kernel
theorem dL_law_438 : decode cL_law 438 = .ok (.ireturn, 1) := by decide +kernel
theorem dL_law_439 : decode cL_law 439 = .ok (.goto 995, 3) := by decide +kernel
theorem dL_law_442 : decode cL_law 442 = .ok (.aload_n 1, 1) := by decide +kernel
theorem dL_law_443 : decode cL_law 443 = .ok (.aload_n 0, 1) := by decide +kernel
theorem dL_law_444 : decode cL_law 444 = .ok (.iload 4, 2) := by decide +kernel
theorem dL_law_446 : decode cL_law 446 = .ok (.iconst 1, 1) := by decide +kernel
theorem dL_law_447 : decode cL_law 447 = .ok (.iadd, 1) := by decide +kernel
theorem dL_law_448 : decode cL_law 448 = .ok (.iaload, 1) := by decide +kernel
theorem dL_law_449 : decode cL_law 449 = .ok (.aload_n 0, 1) := by decide +kernel
theorem dL_law_450 : decode cL_law 450 = .ok (.iload 4, 2) := by decide +kernel
theorem dL_law_452 : decode cL_law 452 = .ok (.iconst 2, 1) := by decide +kernel
theorem dL_law_453 : decode cL_law 453 = .ok (.iadd, 1) := by decide +kernel
theorem dL_law_454 : decode cL_law 454 = .ok (.iaload, 1) := by decide +kernel
theorem dL_law_455 : decode cL_law 455 = .ok (.aload_n 3, 1) := by decide +kernel
theorem dL_law_456 : decode cL_law 456 = .ok (.invokestatic 93, 3) := by decide +kernel
theorem dL_law_459 : decode cL_law 459 = .ok (.istore 5, 2) := by decide +kernel
theorem dL_law_461 : decode cL_law 461 = .ok (.aload_n 2, 1) := by decide +kernel
theorem dL_law_462 : decode cL_law 462 = .ok (.aload_n 0, 1) := by decide +kernel
theorem dL_law_463 : decode cL_law 463 = .ok (.iload 4, 2) := by decide +kernel
theorem dL_law_465 : decode cL_law 465 = .ok (.iconst 1, 1) := by decide +kernel
theorem dL_law_466 : decode cL_law 466 = .ok (.iadd, 1) := by decide +kernel
theorem dL_law_467 : decode cL_law 467 = .ok (.iaload, 1) := by decide +kernel
theorem dL_law_468 : decode cL_law 468 = .ok (.aload_n 0, 1) := by decide +kernel
theorem dL_law_469 : decode cL_law 469 = .ok (.iload 4, 2) := by decide +kernel
theorem dL_law_471 : decode cL_law 471 = .ok (.iconst 2, 1) := by decide +kernel
theorem dL_law_472 : decode cL_law 472 = .ok (.iadd, 1) := by decide +kernel
theorem dL_law_473 : decode cL_law 473 = .ok (.iaload, 1) := by decide +kernel
theorem dL_law_474 : decode cL_law 474 = .ok (.invokevirtual 96, 3) := by decide +kernel
theorem dL_law_477 : decode cL_law 477 = .ok (.istore 6, 2) := by decide +kernel
theorem dL_law_479 : decode cL_law 479 = .ok (.aload_n 2, 1) := by decide +kernel
theorem dL_law_480 : decode cL_law 480 = .ok (.invokevirtual 83, 3) := by decide +kernel
theorem dL_law_483 : decode cL_law 483 = .ok (.iload 5, 2) := by decide +kernel
theorem dL_law_485 : decode cL_law 485 = .ok (.if_icmp .eq 5, 3) := by decide +kernel
theorem dL_law_488 : decode cL_law 488 = .ok (.iconst 0, 1) := by decide +kernel
theorem dL_law_489 : decode cL_law 489 = .ok (.ireturn, 1) := by decide +kernel
theorem dL_law_490 : decode cL_law 490 = .ok (.iload 5, 2) := by decide +kernel
theorem dL_law_492 : decode cL_law 492 = .ok (.ifCond .ne 15, 3) := by decide +kernel
theorem dL_law_495 : decode cL_law 495 = .ok (.aload_n 3, 1) := by decide +kernel
theorem dL_law_496 : decode cL_law 496 = .ok (.iconst 0, 1) := by decide +kernel
theorem dL_law_497 : decode cL_law 497 = .ok (.laload, 1) := by decide +kernel
theorem dL_law_498 : decode cL_law 498 = .ok (.iload 6, 2) := by decide +kernel
theorem dL_law_500 : decode cL_law 500 = .ok (.i2l, 1) := by decide +kernel
theorem dL_law_501 : decode cL_law 501 = .ok (.lcmp, 1) := by decide +kernel
theorem dL_law_502 : decode cL_law 502 = .ok (.ifCond .eq 5, 3) := by decide +kernel
theorem dL_law_505 : decode cL_law 505 = .ok (.iconst 0, 1) := by decide +kernel
theorem dL_law_506 : decode cL_law 506 = .ok (.ireturn, 1) := by decide +kernel
theorem dL_law_507 : decode cL_law 507 = .ok (.goto 927, 3) := by decide +kernel
theorem dL_law_510 : decode cL_law 510 = .ok (.aload_n 1, 1) := by decide +kernel
theorem dL_law_511 : decode cL_law 511 = .ok (.aload_n 0, 1) := by decide +kernel
theorem dL_law_512 : decode cL_law 512 = .ok (.iload 4, 2) := by decide +kernel
theorem dL_law_514 : decode cL_law 514 = .ok (.iconst 1, 1) := by decide +kernel
theorem dL_law_515 : decode cL_law 515 = .ok (.iadd, 1) := by decide +kernel
theorem dL_law_516 : decode cL_law 516 = .ok (.iaload, 1) := by decide +kernel
theorem dL_law_517 : decode cL_law 517 = .ok (.ifCond .eq 7, 3) := by decide +kernel
theorem dL_law_520 : decode cL_law 520 = .ok (.iconst 1, 1) := by decide +kernel
theorem dL_law_521 : decode cL_law 521 = .ok (.goto 4, 3) := by decide +kernel
theorem dL_law_524 : decode cL_law 524 = .ok (.iconst 0, 1) := by decide +kernel
theorem dL_law_525 : decode cL_law 525 = .ok (.invokevirtual 97, 3) := by decide +kernel
theorem dL_law_528 : decode cL_law 528 = .ok (.aload_n 2, 1) := by decide +kernel
theorem dL_law_529 : decode cL_law 529 = .ok (.aload_n 0, 1) := by decide +kernel
theorem dL_law_530 : decode cL_law 530 = .ok (.iload 4, 2) := by decide +kernel
theorem dL_law_532 : decode cL_law 532 = .ok (.iconst 1, 1) := by decide +kernel
theorem dL_law_533 : decode cL_law 533 = .ok (.iadd, 1) := by decide +kernel
theorem dL_law_534 : decode cL_law 534 = .ok (.iaload, 1) := by decide +kernel
theorem dL_law_535 : decode cL_law 535 = .ok (.ifCond .eq 7, 3) := by decide +kernel
theorem dL_law_538 : decode cL_law 538 = .ok (.iconst 1, 1) := by decide +kernel
theorem dL_law_539 : decode cL_law 539 = .ok (.goto 4, 3) := by decide +kernel
theorem dL_law_542 : decode cL_law 542 = .ok (.iconst 0, 1) := by decide +kernel
theorem dL_law_543 : decode cL_law 543 = .ok (.invokevirtual 101, 3) := by decide +kernel
theorem dL_law_546 : decode cL_law 546 = .ok (.if_icmp .eq 888, 3) := by decide +kernel
theorem dL_law_549 : decode cL_law 549 = .ok (.iconst 0, 1) := by decide +kernel
theorem dL_law_550 : decode cL_law 550 = .ok (.ireturn, 1) := by decide +kernel
theorem dL_law_551 : decode cL_law 551 = .ok (.aload_n 1, 1) := by decide +kernel
theorem dL_law_552 : decode cL_law 552 = .ok (.aload_n 0, 1) := by decide +kernel
theorem dL_law_553 : decode cL_law 553 = .ok (.iload 4, 2) := by decide +kernel
theorem dL_law_555 : decode cL_law 555 = .ok (.iconst 1, 1) := by decide +kernel
theorem dL_law_556 : decode cL_law 556 = .ok (.iadd, 1) := by decide +kernel
theorem dL_law_557 : decode cL_law 557 = .ok (.iaload, 1) := by decide +kernel
theorem dL_law_558 : decode cL_law 558 = .ok (.ifCond .eq 7, 3) := by decide +kernel
theorem dL_law_561 : decode cL_law 561 = .ok (.iconst 1, 1) := by decide +kernel
theorem dL_law_562 : decode cL_law 562 = .ok (.goto 4, 3) := by decide +kernel
theorem dL_law_565 : decode cL_law 565 = .ok (.iconst 0, 1) := by decide +kernel
theorem dL_law_566 : decode cL_law 566 = .ok (.aload_n 3, 1) := by decide +kernel
theorem dL_law_567 : decode cL_law 567 = .ok (.invokestatic 102, 3) := by decide +kernel
theorem dL_law_570 : decode cL_law 570 = .ok (.istore 5, 2) := by decide +kernel
theorem dL_law_572 : decode cL_law 572 = .ok (.aload_n 2, 1) := by decide +kernel
theorem dL_law_573 : decode cL_law 573 = .ok (.aload_n 0, 1) := by decide +kernel
theorem dL_law_574 : decode cL_law 574 = .ok (.iload 4, 2) := by decide +kernel
theorem dL_law_576 : decode cL_law 576 = .ok (.iconst 1, 1) := by decide +kernel
theorem dL_law_577 : decode cL_law 577 = .ok (.iadd, 1) := by decide +kernel
theorem dL_law_578 : decode cL_law 578 = .ok (.iaload, 1) := by decide +kernel
theorem dL_law_579 : decode cL_law 579 = .ok (.ifCond .eq 7, 3) := by decide +kernel
theorem dL_law_582 : decode cL_law 582 = .ok (.iconst 1, 1) := by decide +kernel
theorem dL_law_583 : decode cL_law 583 = .ok (.goto 4, 3) := by decide +kernel
theorem dL_law_586 : decode cL_law 586 = .ok (.iconst 0, 1) := by decide +kernel
theorem dL_law_587 : decode cL_law 587 = .ok (.invokevirtual 105, 3) := by decide +kernel
theorem dL_law_590 : decode cL_law 590 = .ok (.istore 6, 2) := by decide +kernel
theorem dL_law_592 : decode cL_law 592 = .ok (.aload_n 2, 1) := by decide +kernel
theorem dL_law_593 : decode cL_law 593 = .ok (.invokevirtual 83, 3) := by decide +kernel
theorem dL_law_596 : decode cL_law 596 = .ok (.iload 5, 2) := by decide +kernel
theorem dL_law_598 : decode cL_law 598 = .ok (.if_icmp .eq 5, 3) := by decide +kernel
theorem dL_law_601 : decode cL_law 601 = .ok (.iconst 0, 1) := by decide +kernel
theorem dL_law_602 : decode cL_law 602 = .ok (.ireturn, 1) := by decide +kernel
theorem dL_law_603 : decode cL_law 603 = .ok (.iload 5, 2) := by decide +kernel
theorem dL_law_605 : decode cL_law 605 = .ok (.ifCond .ne 15, 3) := by decide +kernel
theorem dL_law_608 : decode cL_law 608 = .ok (.aload_n 3, 1) := by decide +kernel
theorem dL_law_609 : decode cL_law 609 = .ok (.iconst 0, 1) := by decide +kernel
theorem dL_law_610 : decode cL_law 610 = .ok (.laload, 1) := by decide +kernel
theorem dL_law_611 : decode cL_law 611 = .ok (.iload 6, 2) := by decide +kernel
theorem dL_law_613 : decode cL_law 613 = .ok (.i2l, 1) := by decide +kernel
theorem dL_law_614 : decode cL_law 614 = .ok (.lcmp, 1) := by decide +kernel
theorem dL_law_615 : decode cL_law 615 = .ok (.ifCond .eq 5, 3) := by decide +kernel
theorem dL_law_618 : decode cL_law 618 = .ok (.iconst 0, 1) := by decide +kernel
theorem dL_law_619 : decode cL_law 619 = .ok (.ireturn, 1) := by decide +kernel
theorem dL_law_620 : decode cL_law 620 = .ok (.goto 814, 3) := by decide +kernel
theorem dL_law_623 : decode cL_law 623 = .ok (.aload_n 1, 1) := by decide +kernel
theorem dL_law_624 : decode cL_law 624 = .ok (.aload_n 0, 1) := by decide +kernel
theorem dL_law_625 : decode cL_law 625 = .ok (.iload 4, 2) := by decide +kernel
theorem dL_law_627 : decode cL_law 627 = .ok (.iconst 1, 1) := by decide +kernel
theorem dL_law_628 : decode cL_law 628 = .ok (.iadd, 1) := by decide +kernel
theorem dL_law_629 : decode cL_law 629 = .ok (.iaload, 1) := by decide +kernel
theorem dL_law_630 : decode cL_law 630 = .ok (.aload_n 0, 1) := by decide +kernel
theorem dL_law_631 : decode cL_law 631 = .ok (.iload 4, 2) := by decide +kernel
theorem dL_law_633 : decode cL_law 633 = .ok (.iconst 2, 1) := by decide +kernel
theorem dL_law_634 : decode cL_law 634 = .ok (.iadd, 1) := by decide +kernel
theorem dL_law_635 : decode cL_law 635 = .ok (.iaload, 1) := by decide +kernel
theorem dL_law_636 : decode cL_law 636 = .ok (.aload_n 3, 1) := by decide +kernel
theorem dL_law_637 : decode cL_law 637 = .ok (.invokestatic 106, 3) := by decide +kernel
theorem dL_law_640 : decode cL_law 640 = .ok (.istore 5, 2) := by decide +kernel
theorem dL_law_642 : decode cL_law 642 = .ok (.aload_n 2, 1) := by decide +kernel
theorem dL_law_643 : decode cL_law 643 = .ok (.aload_n 0, 1) := by decide +kernel
theorem dL_law_644 : decode cL_law 644 = .ok (.iload 4, 2) := by decide +kernel
theorem dL_law_646 : decode cL_law 646 = .ok (.iconst 1, 1) := by decide +kernel
theorem dL_law_647 : decode cL_law 647 = .ok (.iadd, 1) := by decide +kernel
theorem dL_law_648 : decode cL_law 648 = .ok (.iaload, 1) := by decide +kernel
theorem dL_law_649 : decode cL_law 649 = .ok (.aload_n 0, 1) := by decide +kernel
theorem dL_law_650 : decode cL_law 650 = .ok (.iload 4, 2) := by decide +kernel
theorem dL_law_652 : decode cL_law 652 = .ok (.iconst 2, 1) := by decide +kernel
theorem dL_law_653 : decode cL_law 653 = .ok (.iadd, 1) := by decide +kernel
theorem dL_law_654 : decode cL_law 654 = .ok (.iaload, 1) := by decide +kernel
theorem dL_law_655 : decode cL_law 655 = .ok (.invokevirtual 108, 3) := by decide +kernel
theorem dL_law_658 : decode cL_law 658 = .ok (.istore 6, 2) := by decide +kernel
theorem dL_law_660 : decode cL_law 660 = .ok (.aload_n 2, 1) := by decide +kernel
theorem dL_law_661 : decode cL_law 661 = .ok (.invokevirtual 83, 3) := by decide +kernel
theorem dL_law_664 : decode cL_law 664 = .ok (.iload 5, 2) := by decide +kernel
theorem dL_law_666 : decode cL_law 666 = .ok (.if_icmp .eq 5, 3) := by decide +kernel
theorem dL_law_669 : decode cL_law 669 = .ok (.iconst 0, 1) := by decide +kernel
theorem dL_law_670 : decode cL_law 670 = .ok (.ireturn, 1) := by decide +kernel
theorem dL_law_671 : decode cL_law 671 = .ok (.iload 5, 2) := by decide +kernel
theorem dL_law_673 : decode cL_law 673 = .ok (.ifCond .ne 15, 3) := by decide +kernel
theorem dL_law_676 : decode cL_law 676 = .ok (.aload_n 3, 1) := by decide +kernel
theorem dL_law_677 : decode cL_law 677 = .ok (.iconst 0, 1) := by decide +kernel
theorem dL_law_678 : decode cL_law 678 = .ok (.laload, 1) := by decide +kernel
theorem dL_law_679 : decode cL_law 679 = .ok (.iload 6, 2) := by decide +kernel
theorem dL_law_681 : decode cL_law 681 = .ok (.i2l, 1) := by decide +kernel
theorem dL_law_682 : decode cL_law 682 = .ok (.lcmp, 1) := by decide +kernel
theorem dL_law_683 : decode cL_law 683 = .ok (.ifCond .eq 5, 3) := by decide +kernel
theorem dL_law_686 : decode cL_law 686 = .ok (.iconst 0, 1) := by decide +kernel
theorem dL_law_687 : decode cL_law 687 = .ok (.ireturn, 1) := by decide +kernel
theorem dL_law_688 : decode cL_law 688 = .ok (.goto 746, 3) := by decide +kernel
theorem dL_law_691 : decode cL_law 691 = .ok (.aload_n 1, 1) := by decide +kernel
theorem dL_law_692 : decode cL_law 692 = .ok (.aload_n 0, 1) := by decide +kernel
theorem dL_law_693 : decode cL_law 693 = .ok (.iload 4, 2) := by decide +kernel
theorem dL_law_695 : decode cL_law 695 = .ok (.iconst 1, 1) := by decide +kernel
theorem dL_law_696 : decode cL_law 696 = .ok (.iadd, 1) := by decide +kernel
theorem dL_law_697 : decode cL_law 697 = .ok (.iaload, 1) := by decide +kernel
theorem dL_law_698 : decode cL_law 698 = .ok (.aload_n 3, 1) := by decide +kernel
theorem dL_law_699 : decode cL_law 699 = .ok (.invokestatic 109, 3) := by decide +kernel
theorem dL_law_702 : decode cL_law 702 = .ok (.istore 5, 2) := by decide +kernel
theorem dL_law_704 : decode cL_law 704 = .ok (.aload_n 2, 1) := by decide +kernel
theorem dL_law_705 : decode cL_law 705 = .ok (.aload_n 0, 1) := by decide +kernel
theorem dL_law_706 : decode cL_law 706 = .ok (.iload 4, 2) := by decide +kernel
theorem dL_law_708 : decode cL_law 708 = .ok (.iconst 1, 1) := by decide +kernel
theorem dL_law_709 : decode cL_law 709 = .ok (.iadd, 1) := by decide +kernel
theorem dL_law_710 : decode cL_law 710 = .ok (.iaload, 1) := by decide +kernel
theorem dL_law_711 : decode cL_law 711 = .ok (.invokevirtual 112, 3) := by decide +kernel
theorem dL_law_714 : decode cL_law 714 = .ok (.istore 6, 2) := by decide +kernel
theorem dL_law_716 : decode cL_law 716 = .ok (.aload_n 2, 1) := by decide +kernel
theorem dL_law_717 : decode cL_law 717 = .ok (.invokevirtual 83, 3) := by decide +kernel
theorem dL_law_720 : decode cL_law 720 = .ok (.iload 5, 2) := by decide +kernel
theorem dL_law_722 : decode cL_law 722 = .ok (.if_icmp .eq 5, 3) := by decide +kernel
theorem dL_law_725 : decode cL_law 725 = .ok (.iconst 0, 1) := by decide +kernel
theorem dL_law_726 : decode cL_law 726 = .ok (.ireturn, 1) := by decide +kernel
theorem dL_law_727 : decode cL_law 727 = .ok (.iload 5, 2) := by decide +kernel
theorem dL_law_729 : decode cL_law 729 = .ok (.ifCond .ne 15, 3) := by decide +kernel
theorem dL_law_732 : decode cL_law 732 = .ok (.aload_n 3, 1) := by decide +kernel
theorem dL_law_733 : decode cL_law 733 = .ok (.iconst 0, 1) := by decide +kernel
theorem dL_law_734 : decode cL_law 734 = .ok (.laload, 1) := by decide +kernel
theorem dL_law_735 : decode cL_law 735 = .ok (.iload 6, 2) := by decide +kernel
theorem dL_law_737 : decode cL_law 737 = .ok (.i2l, 1) := by decide +kernel
theorem dL_law_738 : decode cL_law 738 = .ok (.lcmp, 1) := by decide +kernel
theorem dL_law_739 : decode cL_law 739 = .ok (.ifCond .eq 5, 3) := by decide +kernel
theorem dL_law_742 : decode cL_law 742 = .ok (.iconst 0, 1) := by decide +kernel
theorem dL_law_743 : decode cL_law 743 = .ok (.ireturn, 1) := by decide +kernel
theorem dL_law_744 : decode cL_law 744 = .ok (.goto 690, 3) := by decide +kernel
theorem dL_law_747 : decode cL_law 747 = .ok (.aload_n 1, 1) := by decide +kernel
theorem dL_law_748 : decode cL_law 748 = .ok (.aload_n 0, 1) := by decide +kernel
theorem dL_law_749 : decode cL_law 749 = .ok (.iload 4, 2) := by decide +kernel
theorem dL_law_751 : decode cL_law 751 = .ok (.iconst 1, 1) := by decide +kernel
theorem dL_law_752 : decode cL_law 752 = .ok (.iadd, 1) := by decide +kernel
theorem dL_law_753 : decode cL_law 753 = .ok (.iaload, 1) := by decide +kernel
theorem dL_law_754 : decode cL_law 754 = .ok (.aload_n 0, 1) := by decide +kernel
theorem dL_law_755 : decode cL_law 755 = .ok (.iload 4, 2) := by decide +kernel
theorem dL_law_757 : decode cL_law 757 = .ok (.iconst 2, 1) := by decide +kernel
theorem dL_law_758 : decode cL_law 758 = .ok (.iadd, 1) := by decide +kernel
theorem dL_law_759 : decode cL_law 759 = .ok (.iaload, 1) := by decide +kernel
theorem dL_law_760 : decode cL_law 760 = .ok (.aload_n 3, 1) := by decide +kernel
theorem dL_law_761 : decode cL_law 761 = .ok (.invokestatic 113, 3) := by decide +kernel
theorem dL_law_764 : decode cL_law 764 = .ok (.istore 5, 2) := by decide +kernel
theorem dL_law_766 : decode cL_law 766 = .ok (.aload_n 2, 1) := by decide +kernel
theorem dL_law_767 : decode cL_law 767 = .ok (.aload_n 0, 1) := by decide +kernel
theorem dL_law_768 : decode cL_law 768 = .ok (.iload 4, 2) := by decide +kernel
theorem dL_law_770 : decode cL_law 770 = .ok (.iconst 1, 1) := by decide +kernel
theorem dL_law_771 : decode cL_law 771 = .ok (.iadd, 1) := by decide +kernel
theorem dL_law_772 : decode cL_law 772 = .ok (.iaload, 1) := by decide +kernel
theorem dL_law_773 : decode cL_law 773 = .ok (.aload_n 0, 1) := by decide +kernel
theorem dL_law_774 : decode cL_law 774 = .ok (.iload 4, 2) := by decide +kernel
theorem dL_law_776 : decode cL_law 776 = .ok (.iconst 2, 1) := by decide +kernel
theorem dL_law_777 : decode cL_law 777 = .ok (.iadd, 1) := by decide +kernel
theorem dL_law_778 : decode cL_law 778 = .ok (.iaload, 1) := by decide +kernel
theorem dL_law_779 : decode cL_law 779 = .ok (.invokevirtual 115, 3) := by decide +kernel
theorem dL_law_782 : decode cL_law 782 = .ok (.istore 6, 2) := by decide +kernel
theorem dL_law_784 : decode cL_law 784 = .ok (.aload_n 2, 1) := by decide +kernel
theorem dL_law_785 : decode cL_law 785 = .ok (.invokevirtual 83, 3) := by decide +kernel
theorem dL_law_788 : decode cL_law 788 = .ok (.iload 5, 2) := by decide +kernel
theorem dL_law_790 : decode cL_law 790 = .ok (.if_icmp .eq 5, 3) := by decide +kernel
theorem dL_law_793 : decode cL_law 793 = .ok (.iconst 0, 1) := by decide +kernel
theorem dL_law_794 : decode cL_law 794 = .ok (.ireturn, 1) := by decide +kernel
theorem dL_law_795 : decode cL_law 795 = .ok (.iload 5, 2) := by decide +kernel
theorem dL_law_797 : decode cL_law 797 = .ok (.ifCond .ne 15, 3) := by decide +kernel
theorem dL_law_800 : decode cL_law 800 = .ok (.aload_n 3, 1) := by decide +kernel
theorem dL_law_801 : decode cL_law 801 = .ok (.iconst 0, 1) := by decide +kernel
theorem dL_law_802 : decode cL_law 802 = .ok (.laload, 1) := by decide +kernel
theorem dL_law_803 : decode cL_law 803 = .ok (.iload 6, 2) := by decide +kernel
theorem dL_law_805 : decode cL_law 805 = .ok (.i2l, 1) := by decide +kernel
theorem dL_law_806 : decode cL_law 806 = .ok (.lcmp, 1) := by decide +kernel
theorem dL_law_807 : decode cL_law 807 = .ok (.ifCond .eq 5, 3) := by decide +kernel
theorem dL_law_810 : decode cL_law 810 = .ok (.iconst 0, 1) := by decide +kernel
theorem dL_law_811 : decode cL_law 811 = .ok (.ireturn, 1) := by decide +kernel
theorem dL_law_812 : decode cL_law 812 = .ok (.goto 622, 3) := by decide +kernel
theorem dL_law_815 : decode cL_law 815 = .ok (.aload_n 1, 1) := by decide +kernel
theorem dL_law_816 : decode cL_law 816 = .ok (.aload_n 0, 1) := by decide +kernel
theorem dL_law_817 : decode cL_law 817 = .ok (.iload 4, 2) := by decide +kernel
theorem dL_law_819 : decode cL_law 819 = .ok (.iconst 1, 1) := by decide +kernel
theorem dL_law_820 : decode cL_law 820 = .ok (.iadd, 1) := by decide +kernel
theorem dL_law_821 : decode cL_law 821 = .ok (.iaload, 1) := by decide +kernel
theorem dL_law_822 : decode cL_law 822 = .ok (.aload_n 0, 1) := by decide +kernel
theorem dL_law_823 : decode cL_law 823 = .ok (.iload 4, 2) := by decide +kernel
theorem dL_law_825 : decode cL_law 825 = .ok (.iconst 2, 1) := by decide +kernel
theorem dL_law_826 : decode cL_law 826 = .ok (.iadd, 1) := by decide +kernel
theorem dL_law_827 : decode cL_law 827 = .ok (.iaload, 1) := by decide +kernel
theorem dL_law_828 : decode cL_law 828 = .ok (.aload_n 3, 1) := by decide +kernel
theorem dL_law_829 : decode cL_law 829 = .ok (.invokestatic 116, 3) := by decide +kernel
theorem dL_law_832 : decode cL_law 832 = .ok (.istore 5, 2) := by decide +kernel
theorem dL_law_834 : decode cL_law 834 = .ok (.aload_n 2, 1) := by decide +kernel
theorem dL_law_835 : decode cL_law 835 = .ok (.aload_n 0, 1) := by decide +kernel
theorem dL_law_836 : decode cL_law 836 = .ok (.iload 4, 2) := by decide +kernel
theorem dL_law_838 : decode cL_law 838 = .ok (.iconst 1, 1) := by decide +kernel
theorem dL_law_839 : decode cL_law 839 = .ok (.iadd, 1) := by decide +kernel
theorem dL_law_840 : decode cL_law 840 = .ok (.iaload, 1) := by decide +kernel
theorem dL_law_841 : decode cL_law 841 = .ok (.aload_n 0, 1) := by decide +kernel
theorem dL_law_842 : decode cL_law 842 = .ok (.iload 4, 2) := by decide +kernel
theorem dL_law_844 : decode cL_law 844 = .ok (.iconst 2, 1) := by decide +kernel
theorem dL_law_845 : decode cL_law 845 = .ok (.iadd, 1) := by decide +kernel
theorem dL_law_846 : decode cL_law 846 = .ok (.iaload, 1) := by decide +kernel
theorem dL_law_847 : decode cL_law 847 = .ok (.invokevirtual 118, 3) := by decide +kernel
theorem dL_law_850 : decode cL_law 850 = .ok (.istore 6, 2) := by decide +kernel
theorem dL_law_852 : decode cL_law 852 = .ok (.aload_n 2, 1) := by decide +kernel
theorem dL_law_853 : decode cL_law 853 = .ok (.invokevirtual 83, 3) := by decide +kernel
theorem dL_law_856 : decode cL_law 856 = .ok (.iload 5, 2) := by decide +kernel
theorem dL_law_858 : decode cL_law 858 = .ok (.if_icmp .eq 5, 3) := by decide +kernel
theorem dL_law_861 : decode cL_law 861 = .ok (.iconst 0, 1) := by decide +kernel
theorem dL_law_862 : decode cL_law 862 = .ok (.ireturn, 1) := by decide +kernel
theorem dL_law_863 : decode cL_law 863 = .ok (.iload 5, 2) := by decide +kernel
theorem dL_law_865 : decode cL_law 865 = .ok (.ifCond .ne 15, 3) := by decide +kernel
theorem dL_law_868 : decode cL_law 868 = .ok (.aload_n 3, 1) := by decide +kernel
theorem dL_law_869 : decode cL_law 869 = .ok (.iconst 0, 1) := by decide +kernel
theorem dL_law_870 : decode cL_law 870 = .ok (.laload, 1) := by decide +kernel
theorem dL_law_871 : decode cL_law 871 = .ok (.iload 6, 2) := by decide +kernel
theorem dL_law_873 : decode cL_law 873 = .ok (.i2l, 1) := by decide +kernel
theorem dL_law_874 : decode cL_law 874 = .ok (.lcmp, 1) := by decide +kernel
theorem dL_law_875 : decode cL_law 875 = .ok (.ifCond .eq 5, 3) := by decide +kernel
theorem dL_law_878 : decode cL_law 878 = .ok (.iconst 0, 1) := by decide +kernel
theorem dL_law_879 : decode cL_law 879 = .ok (.ireturn, 1) := by decide +kernel
theorem dL_law_880 : decode cL_law 880 = .ok (.goto 554, 3) := by decide +kernel
theorem dL_law_883 : decode cL_law 883 = .ok (.aload_n 1, 1) := by decide +kernel
theorem dL_law_884 : decode cL_law 884 = .ok (.aload_n 0, 1) := by decide +kernel
theorem dL_law_885 : decode cL_law 885 = .ok (.iload 4, 2) := by decide +kernel
theorem dL_law_887 : decode cL_law 887 = .ok (.iconst 1, 1) := by decide +kernel
theorem dL_law_888 : decode cL_law 888 = .ok (.iadd, 1) := by decide +kernel
theorem dL_law_889 : decode cL_law 889 = .ok (.iaload, 1) := by decide +kernel
theorem dL_law_890 : decode cL_law 890 = .ok (.aload_n 0, 1) := by decide +kernel
theorem dL_law_891 : decode cL_law 891 = .ok (.iload 4, 2) := by decide +kernel
theorem dL_law_893 : decode cL_law 893 = .ok (.iconst 2, 1) := by decide +kernel
theorem dL_law_894 : decode cL_law 894 = .ok (.iadd, 1) := by decide +kernel
theorem dL_law_895 : decode cL_law 895 = .ok (.iaload, 1) := by decide +kernel
theorem dL_law_896 : decode cL_law 896 = .ok (.aload_n 0, 1) := by decide +kernel
theorem dL_law_897 : decode cL_law 897 = .ok (.iload 4, 2) := by decide +kernel
theorem dL_law_899 : decode cL_law 899 = .ok (.iconst 3, 1) := by decide +kernel
theorem dL_law_900 : decode cL_law 900 = .ok (.iadd, 1) := by decide +kernel
theorem dL_law_901 : decode cL_law 901 = .ok (.iaload, 1) := by decide +kernel
theorem dL_law_902 : decode cL_law 902 = .ok (.aload_n 3, 1) := by decide +kernel
theorem dL_law_903 : decode cL_law 903 = .ok (.invokestatic 119, 3) := by decide +kernel
theorem dL_law_906 : decode cL_law 906 = .ok (.istore 5, 2) := by decide +kernel
theorem dL_law_908 : decode cL_law 908 = .ok (.aload_n 2, 1) := by decide +kernel
theorem dL_law_909 : decode cL_law 909 = .ok (.aload_n 0, 1) := by decide +kernel
theorem dL_law_910 : decode cL_law 910 = .ok (.iload 4, 2) := by decide +kernel
theorem dL_law_912 : decode cL_law 912 = .ok (.iconst 1, 1) := by decide +kernel
theorem dL_law_913 : decode cL_law 913 = .ok (.iadd, 1) := by decide +kernel
theorem dL_law_914 : decode cL_law 914 = .ok (.iaload, 1) := by decide +kernel
theorem dL_law_915 : decode cL_law 915 = .ok (.aload_n 0, 1) := by decide +kernel
theorem dL_law_916 : decode cL_law 916 = .ok (.iload 4, 2) := by decide +kernel
theorem dL_law_918 : decode cL_law 918 = .ok (.iconst 2, 1) := by decide +kernel
theorem dL_law_919 : decode cL_law 919 = .ok (.iadd, 1) := by decide +kernel
theorem dL_law_920 : decode cL_law 920 = .ok (.iaload, 1) := by decide +kernel
theorem dL_law_921 : decode cL_law 921 = .ok (.aload_n 0, 1) := by decide +kernel
theorem dL_law_922 : decode cL_law 922 = .ok (.iload 4, 2) := by decide +kernel
theorem dL_law_924 : decode cL_law 924 = .ok (.iconst 3, 1) := by decide +kernel
theorem dL_law_925 : decode cL_law 925 = .ok (.iadd, 1) := by decide +kernel
theorem dL_law_926 : decode cL_law 926 = .ok (.iaload, 1) := by decide +kernel
theorem dL_law_927 : decode cL_law 927 = .ok (.invokevirtual 122, 3) := by decide +kernel
theorem dL_law_930 : decode cL_law 930 = .ok (.istore 6, 2) := by decide +kernel
theorem dL_law_932 : decode cL_law 932 = .ok (.aload_n 2, 1) := by decide +kernel
theorem dL_law_933 : decode cL_law 933 = .ok (.invokevirtual 83, 3) := by decide +kernel
theorem dL_law_936 : decode cL_law 936 = .ok (.iload 5, 2) := by decide +kernel
theorem dL_law_938 : decode cL_law 938 = .ok (.if_icmp .eq 5, 3) := by decide +kernel
theorem dL_law_941 : decode cL_law 941 = .ok (.iconst 0, 1) := by decide +kernel
theorem dL_law_942 : decode cL_law 942 = .ok (.ireturn, 1) := by decide +kernel
theorem dL_law_943 : decode cL_law 943 = .ok (.iload 5, 2) := by decide +kernel
theorem dL_law_945 : decode cL_law 945 = .ok (.ifCond .ne 15, 3) := by decide +kernel
theorem dL_law_948 : decode cL_law 948 = .ok (.aload_n 3, 1) := by decide +kernel
theorem dL_law_949 : decode cL_law 949 = .ok (.iconst 0, 1) := by decide +kernel
theorem dL_law_950 : decode cL_law 950 = .ok (.laload, 1) := by decide +kernel
theorem dL_law_951 : decode cL_law 951 = .ok (.iload 6, 2) := by decide +kernel
theorem dL_law_953 : decode cL_law 953 = .ok (.i2l, 1) := by decide +kernel
theorem dL_law_954 : decode cL_law 954 = .ok (.lcmp, 1) := by decide +kernel
theorem dL_law_955 : decode cL_law 955 = .ok (.ifCond .eq 5, 3) := by decide +kernel
theorem dL_law_958 : decode cL_law 958 = .ok (.iconst 0, 1) := by decide +kernel
theorem dL_law_959 : decode cL_law 959 = .ok (.ireturn, 1) := by decide +kernel
theorem dL_law_960 : decode cL_law 960 = .ok (.goto 474, 3) := by decide +kernel
theorem dL_law_963 : decode cL_law 963 = .ok (.aload_n 1, 1) := by decide +kernel
theorem dL_law_964 : decode cL_law 964 = .ok (.aload_n 0, 1) := by decide +kernel
theorem dL_law_965 : decode cL_law 965 = .ok (.iload 4, 2) := by decide +kernel
theorem dL_law_967 : decode cL_law 967 = .ok (.iconst 1, 1) := by decide +kernel
theorem dL_law_968 : decode cL_law 968 = .ok (.iadd, 1) := by decide +kernel
theorem dL_law_969 : decode cL_law 969 = .ok (.iaload, 1) := by decide +kernel
theorem dL_law_970 : decode cL_law 970 = .ok (.aload_n 3, 1) := by decide +kernel
theorem dL_law_971 : decode cL_law 971 = .ok (.invokestatic 123, 3) := by decide +kernel
theorem dL_law_974 : decode cL_law 974 = .ok (.istore 5, 2) := by decide +kernel
theorem dL_law_976 : decode cL_law 976 = .ok (.aload_n 2, 1) := by decide +kernel
theorem dL_law_977 : decode cL_law 977 = .ok (.aload_n 0, 1) := by decide +kernel
theorem dL_law_978 : decode cL_law 978 = .ok (.iload 4, 2) := by decide +kernel
theorem dL_law_980 : decode cL_law 980 = .ok (.iconst 1, 1) := by decide +kernel
theorem dL_law_981 : decode cL_law 981 = .ok (.iadd, 1) := by decide +kernel
theorem dL_law_982 : decode cL_law 982 = .ok (.iaload, 1) := by decide +kernel
theorem dL_law_983 : decode cL_law 983 = .ok (.invokevirtual 125, 3) := by decide +kernel
theorem dL_law_986 : decode cL_law 986 = .ok (.istore 6, 2) := by decide +kernel
theorem dL_law_988 : decode cL_law 988 = .ok (.aload_n 2, 1) := by decide +kernel
theorem dL_law_989 : decode cL_law 989 = .ok (.invokevirtual 83, 3) := by decide +kernel
theorem dL_law_992 : decode cL_law 992 = .ok (.iload 5, 2) := by decide +kernel
theorem dL_law_994 : decode cL_law 994 = .ok (.if_icmp .eq 5, 3) := by decide +kernel
theorem dL_law_997 : decode cL_law 997 = .ok (.iconst 0, 1) := by decide +kernel
theorem dL_law_998 : decode cL_law 998 = .ok (.ireturn, 1) := by decide +kernel
theorem dL_law_999 : decode cL_law 999 = .ok (.iload 5, 2) := by decide +kernel
theorem dL_law_1001 : decode cL_law 1001 = .ok (.ifCond .ne 15, 3) := by decide +kernel
theorem dL_law_1004 : decode cL_law 1004 = .ok (.aload_n 3, 1) := by decide +kernel
theorem dL_law_1005 : decode cL_law 1005 = .ok (.iconst 0, 1) := by decide +kernel
theorem dL_law_1006 : decode cL_law 1006 = .ok (.laload, 1) := by decide +kernel
theorem dL_law_1007 : decode cL_law 1007 = .ok (.iload 6, 2) := by decide +kernel
theorem dL_law_1009 : decode cL_law 1009 = .ok (.i2l, 1) := by decide +kernel
theorem dL_law_1010 : decode cL_law 1010 = .ok (.lcmp, 1) := by decide +kernel
theorem dL_law_1011 : decode cL_law 1011 = .ok (.ifCond .eq 5, 3) := by decide +kernel
theorem dL_law_1014 : decode cL_law 1014 = .ok (.iconst 0, 1) := by decide +kernel
theorem dL_law_1015 : decode cL_law 1015 = .ok (.ireturn, 1) := by decide +kernel
theorem dL_law_1016 : decode cL_law 1016 = .ok (.goto 418, 3) := by decide +kernel
theorem dL_law_1019 : decode cL_law 1019 = .ok (.aload_n 1, 1) := by decide +kernel
theorem dL_law_1020 : decode cL_law 1020 = .ok (.invokevirtual 126, 3) := by decide +kernel
theorem dL_law_1023 : decode cL_law 1023 = .ok (.aload_n 2, 1) := by decide +kernel
theorem dL_law_1024 : decode cL_law 1024 = .ok (.invokevirtual 129, 3) := by decide +kernel
theorem dL_law_1027 : decode cL_law 1027 = .ok (.if_icmp .eq 407, 3) := by decide +kernel
theorem dL_law_1030 : decode cL_law 1030 = .ok (.iconst 0, 1) := by decide +kernel
theorem dL_law_1031 : decode cL_law 1031 = .ok (.ireturn, 1) := by decide +kernel
theorem dL_law_1032 : decode cL_law 1032 = .ok (.aload_n 1, 1) := by decide +kernel
theorem dL_law_1033 : decode cL_law 1033 = .ok (.invokevirtual 130, 3) := by decide +kernel
theorem dL_law_1036 : decode cL_law 1036 = .ok (.aload_n 2, 1) := by decide +kernel
theorem dL_law_1037 : decode cL_law 1037 = .ok (.invokevirtual 133, 3) := by decide +kernel
theorem dL_law_1040 : decode cL_law 1040 = .ok (.if_icmp .eq 394, 3) := by decide +kernel
theorem dL_law_1043 : decode cL_law 1043 = .ok (.iconst 0, 1) := by decide +kernel
theorem dL_law_1044 : decode cL_law 1044 = .ok (.ireturn, 1) := by decide +kernel
theorem dL_law_1045 : decode cL_law 1045 = .ok (.aload_n 1, 1) := by decide +kernel
theorem dL_law_1046 : decode cL_law 1046 = .ok (.invokevirtual 134, 3) := by decide +kernel
theorem dL_law_1049 : decode cL_law 1049 = .ok (.aload_n 2, 1) := by decide +kernel
theorem dL_law_1050 : decode cL_law 1050 = .ok (.invokevirtual 137, 3) := by decide +kernel
theorem dL_law_1053 : decode cL_law 1053 = .ok (.if_icmp .eq 381, 3) := by decide +kernel
theorem dL_law_1056 : decode cL_law 1056 = .ok (.iconst 0, 1) := by decide +kernel
theorem dL_law_1057 : decode cL_law 1057 = .ok (.ireturn, 1) := by decide +kernel
theorem dL_law_1058 : decode cL_law 1058 = .ok (.aload_n 1, 1) := by decide +kernel
theorem dL_law_1059 : decode cL_law 1059 = .ok (.aload_n 3, 1) := by decide +kernel
theorem dL_law_1060 : decode cL_law 1060 = .ok (.invokestatic 138, 3) := by decide +kernel
theorem dL_law_1063 : decode cL_law 1063 = .ok (.istore 5, 2) := by decide +kernel
theorem dL_law_1065 : decode cL_law 1065 = .ok (.aload_n 2, 1) := by decide +kernel
theorem dL_law_1066 : decode cL_law 1066 = .ok (.invokevirtual 141, 3) := by decide +kernel
theorem dL_law_1069 : decode cL_law 1069 = .ok (.istore 6, 2) := by decide +kernel
theorem dL_law_1071 : decode cL_law 1071 = .ok (.aload_n 2, 1) := by decide +kernel
theorem dL_law_1072 : decode cL_law 1072 = .ok (.invokevirtual 83, 3) := by decide +kernel
theorem dL_law_1075 : decode cL_law 1075 = .ok (.iload 5, 2) := by decide +kernel
theorem dL_law_1077 : decode cL_law 1077 = .ok (.if_icmp .eq 5, 3) := by decide +kernel
theorem dL_law_1080 : decode cL_law 1080 = .ok (.iconst 0, 1) := by decide +kernel
theorem dL_law_1081 : decode cL_law 1081 = .ok (.ireturn, 1) := by decide +kernel
theorem dL_law_1082 : decode cL_law 1082 = .ok (.iload 5, 2) := by decide +kernel
theorem dL_law_1084 : decode cL_law 1084 = .ok (.ifCond .ne 15, 3) := by decide +kernel
theorem dL_law_1087 : decode cL_law 1087 = .ok (.aload_n 3, 1) := by decide +kernel
theorem dL_law_1088 : decode cL_law 1088 = .ok (.iconst 0, 1) := by decide +kernel
theorem dL_law_1089 : decode cL_law 1089 = .ok (.laload, 1) := by decide +kernel
theorem dL_law_1090 : decode cL_law 1090 = .ok (.iload 6, 2) := by decide +kernel
theorem dL_law_1092 : decode cL_law 1092 = .ok (.i2l, 1) := by decide +kernel
theorem dL_law_1093 : decode cL_law 1093 = .ok (.lcmp, 1) := by decide +kernel
theorem dL_law_1094 : decode cL_law 1094 = .ok (.ifCond .eq 5, 3) := by decide +kernel
theorem dL_law_1097 : decode cL_law 1097 = .ok (.iconst 0, 1) := by decide +kernel
theorem dL_law_1098 : decode cL_law 1098 = .ok (.ireturn, 1) := by decide +kernel
theorem dL_law_1099 : decode cL_law 1099 = .ok (.goto 335, 3) := by decide +kernel
theorem dL_law_1102 : decode cL_law 1102 = .ok (.aload_n 1, 1) := by decide +kernel
theorem dL_law_1103 : decode cL_law 1103 = .ok (.aload_n 0, 1) := by decide +kernel
theorem dL_law_1104 : decode cL_law 1104 = .ok (.iload 4, 2) := by decide +kernel
theorem dL_law_1106 : decode cL_law 1106 = .ok (.iconst 1, 1) := by decide +kernel
theorem dL_law_1107 : decode cL_law 1107 = .ok (.iadd, 1) := by decide +kernel
theorem dL_law_1108 : decode cL_law 1108 = .ok (.iaload, 1) := by decide +kernel
theorem dL_law_1109 : decode cL_law 1109 = .ok (.aload_n 3, 1) := by decide +kernel
theorem dL_law_1110 : decode cL_law 1110 = .ok (.invokestatic 142, 3) := by decide +kernel
theorem dL_law_1113 : decode cL_law 1113 = .ok (.istore 5, 2) := by decide +kernel
theorem dL_law_1115 : decode cL_law 1115 = .ok (.aload_n 2, 1) := by decide +kernel
theorem dL_law_1116 : decode cL_law 1116 = .ok (.aload_n 0, 1) := by decide +kernel
theorem dL_law_1117 : decode cL_law 1117 = .ok (.iload 4, 2) := by decide +kernel
theorem dL_law_1119 : decode cL_law 1119 = .ok (.iconst 1, 1) := by decide +kernel
theorem dL_law_1120 : decode cL_law 1120 = .ok (.iadd, 1) := by decide +kernel
theorem dL_law_1121 : decode cL_law 1121 = .ok (.iaload, 1) := by decide +kernel
theorem dL_law_1122 : decode cL_law 1122 = .ok (.invokevirtual 144, 3) := by decide +kernel
theorem dL_law_1125 : decode cL_law 1125 = .ok (.istore 6, 2) := by decide +kernel
theorem dL_law_1127 : decode cL_law 1127 = .ok (.aload_n 2, 1) := by decide +kernel
theorem dL_law_1128 : decode cL_law 1128 = .ok (.invokevirtual 83, 3) := by decide +kernel
theorem dL_law_1131 : decode cL_law 1131 = .ok (.iload 5, 2) := by decide +kernel
theorem dL_law_1133 : decode cL_law 1133 = .ok (.if_icmp .eq 5, 3) := by decide +kernel
theorem dL_law_1136 : decode cL_law 1136 = .ok (.iconst 0, 1) := by decide +kernel
theorem dL_law_1137 : decode cL_law 1137 = .ok (.ireturn, 1) := by decide +kernel
theorem dL_law_1138 : decode cL_law 1138 = .ok (.iload 5, 2) := by decide +kernel
theorem dL_law_1140 : decode cL_law 1140 = .ok (.ifCond .ne 15, 3) := by decide +kernel
theorem dL_law_1143 : decode cL_law 1143 = .ok (.aload_n 3, 1) := by decide +kernel
theorem dL_law_1144 : decode cL_law 1144 = .ok (.iconst 0, 1) := by decide +kernel
theorem dL_law_1145 : decode cL_law 1145 = .ok (.laload, 1) := by decide +kernel
theorem dL_law_1146 : decode cL_law 1146 = .ok (.iload 6, 2) := by decide +kernel
theorem dL_law_1148 : decode cL_law 1148 = .ok (.i2l, 1) := by decide +kernel
theorem dL_law_1149 : decode cL_law 1149 = .ok (.lcmp, 1) := by decide +kernel
theorem dL_law_1150 : decode cL_law 1150 = .ok (.ifCond .eq 5, 3) := by decide +kernel
theorem dL_law_1153 : decode cL_law 1153 = .ok (.iconst 0, 1) := by decide +kernel
theorem dL_law_1154 : decode cL_law 1154 = .ok (.ireturn, 1) := by decide +kernel
theorem dL_law_1155 : decode cL_law 1155 = .ok (.goto 279, 3) := by decide +kernel
theorem dL_law_1158 : decode cL_law 1158 = .ok (.aload_n 1, 1) := by decide +kernel
theorem dL_law_1159 : decode cL_law 1159 = .ok (.aload_n 0, 1) := by decide +kernel
theorem dL_law_1160 : decode cL_law 1160 = .ok (.iload 4, 2) := by decide +kernel
theorem dL_law_1162 : decode cL_law 1162 = .ok (.iconst 1, 1) := by decide +kernel
theorem dL_law_1163 : decode cL_law 1163 = .ok (.iadd, 1) := by decide +kernel
theorem dL_law_1164 : decode cL_law 1164 = .ok (.iaload, 1) := by decide +kernel
theorem dL_law_1165 : decode cL_law 1165 = .ok (.aload_n 3, 1) := by decide +kernel
theorem dL_law_1166 : decode cL_law 1166 = .ok (.invokestatic 145, 3) := by decide +kernel
theorem dL_law_1169 : decode cL_law 1169 = .ok (.istore 5, 2) := by decide +kernel
theorem dL_law_1171 : decode cL_law 1171 = .ok (.aload_n 2, 1) := by decide +kernel
theorem dL_law_1172 : decode cL_law 1172 = .ok (.aload_n 0, 1) := by decide +kernel
theorem dL_law_1173 : decode cL_law 1173 = .ok (.iload 4, 2) := by decide +kernel
theorem dL_law_1175 : decode cL_law 1175 = .ok (.iconst 1, 1) := by decide +kernel
theorem dL_law_1176 : decode cL_law 1176 = .ok (.iadd, 1) := by decide +kernel
theorem dL_law_1177 : decode cL_law 1177 = .ok (.iaload, 1) := by decide +kernel
theorem dL_law_1178 : decode cL_law 1178 = .ok (.invokevirtual 147, 3) := by decide +kernel
theorem dL_law_1181 : decode cL_law 1181 = .ok (.istore 6, 2) := by decide +kernel
theorem dL_law_1183 : decode cL_law 1183 = .ok (.aload_n 2, 1) := by decide +kernel
theorem dL_law_1184 : decode cL_law 1184 = .ok (.invokevirtual 83, 3) := by decide +kernel
theorem dL_law_1187 : decode cL_law 1187 = .ok (.iload 5, 2) := by decide +kernel
theorem dL_law_1189 : decode cL_law 1189 = .ok (.if_icmp .eq 5, 3) := by decide +kernel
theorem dL_law_1192 : decode cL_law 1192 = .ok (.iconst 0, 1) := by decide +kernel
theorem dL_law_1193 : decode cL_law 1193 = .ok (.ireturn, 1) := by decide +kernel
theorem dL_law_1194 : decode cL_law 1194 = .ok (.iload 5, 2) := by decide +kernel
theorem dL_law_1196 : decode cL_law 1196 = .ok (.ifCond .ne 15, 3) := by decide +kernel
theorem dL_law_1199 : decode cL_law 1199 = .ok (.aload_n 3, 1) := by decide +kernel
theorem dL_law_1200 : decode cL_law 1200 = .ok (.iconst 0, 1) := by decide +kernel
theorem dL_law_1201 : decode cL_law 1201 = .ok (.laload, 1) := by decide +kernel
theorem dL_law_1202 : decode cL_law 1202 = .ok (.iload 6, 2) := by decide +kernel
theorem dL_law_1204 : decode cL_law 1204 = .ok (.i2l, 1) := by decide +kernel
theorem dL_law_1205 : decode cL_law 1205 = .ok (.lcmp, 1) := by decide +kernel
theorem dL_law_1206 : decode cL_law 1206 = .ok (.ifCond .eq 5, 3) := by decide +kernel
theorem dL_law_1209 : decode cL_law 1209 = .ok (.iconst 0, 1) := by decide +kernel
theorem dL_law_1210 : decode cL_law 1210 = .ok (.ireturn, 1) := by decide +kernel
theorem dL_law_1211 : decode cL_law 1211 = .ok (.goto 223, 3) := by decide +kernel
theorem dL_law_1214 : decode cL_law 1214 = .ok (.aload_n 1, 1) := by decide +kernel
theorem dL_law_1215 : decode cL_law 1215 = .ok (.aload_n 0, 1) := by decide +kernel
theorem dL_law_1216 : decode cL_law 1216 = .ok (.iload 4, 2) := by decide +kernel
theorem dL_law_1218 : decode cL_law 1218 = .ok (.iconst 1, 1) := by decide +kernel
theorem dL_law_1219 : decode cL_law 1219 = .ok (.iadd, 1) := by decide +kernel
theorem dL_law_1220 : decode cL_law 1220 = .ok (.iaload, 1) := by decide +kernel
theorem dL_law_1221 : decode cL_law 1221 = .ok (.aload_n 3, 1) := by decide +kernel
theorem dL_law_1222 : decode cL_law 1222 = .ok (.invokestatic 148, 3) := by decide +kernel
theorem dL_law_1225 : decode cL_law 1225 = .ok (.istore 5, 2) := by decide +kernel
theorem dL_law_1227 : decode cL_law 1227 = .ok (.aload_n 2, 1) := by decide +kernel
theorem dL_law_1228 : decode cL_law 1228 = .ok (.aload_n 0, 1) := by decide +kernel
theorem dL_law_1229 : decode cL_law 1229 = .ok (.iload 4, 2) := by decide +kernel
theorem dL_law_1231 : decode cL_law 1231 = .ok (.iconst 1, 1) := by decide +kernel
theorem dL_law_1232 : decode cL_law 1232 = .ok (.iadd, 1) := by decide +kernel
theorem dL_law_1233 : decode cL_law 1233 = .ok (.iaload, 1) := by decide +kernel
theorem dL_law_1234 : decode cL_law 1234 = .ok (.invokevirtual 150, 3) := by decide +kernel
theorem dL_law_1237 : decode cL_law 1237 = .ok (.istore 6, 2) := by decide +kernel
theorem dL_law_1239 : decode cL_law 1239 = .ok (.aload_n 2, 1) := by decide +kernel
theorem dL_law_1240 : decode cL_law 1240 = .ok (.invokevirtual 83, 3) := by decide +kernel
theorem dL_law_1243 : decode cL_law 1243 = .ok (.iload 5, 2) := by decide +kernel
theorem dL_law_1245 : decode cL_law 1245 = .ok (.if_icmp .eq 5, 3) := by decide +kernel
theorem dL_law_1248 : decode cL_law 1248 = .ok (.iconst 0, 1) := by decide +kernel
theorem dL_law_1249 : decode cL_law 1249 = .ok (.ireturn, 1) := by decide +kernel
theorem dL_law_1250 : decode cL_law 1250 = .ok (.iload 5, 2) := by decide +kernel
theorem dL_law_1252 : decode cL_law 1252 = .ok (.ifCond .ne 15, 3) := by decide +kernel
theorem dL_law_1255 : decode cL_law 1255 = .ok (.aload_n 3, 1) := by decide +kernel
theorem dL_law_1256 : decode cL_law 1256 = .ok (.iconst 0, 1) := by decide +kernel
theorem dL_law_1257 : decode cL_law 1257 = .ok (.laload, 1) := by decide +kernel
theorem dL_law_1258 : decode cL_law 1258 = .ok (.iload 6, 2) := by decide +kernel
theorem dL_law_1260 : decode cL_law 1260 = .ok (.i2l, 1) := by decide +kernel
theorem dL_law_1261 : decode cL_law 1261 = .ok (.lcmp, 1) := by decide +kernel
theorem dL_law_1262 : decode cL_law 1262 = .ok (.ifCond .eq 5, 3) := by decide +kernel
theorem dL_law_1265 : decode cL_law 1265 = .ok (.iconst 0, 1) := by decide +kernel
theorem dL_law_1266 : decode cL_law 1266 = .ok (.ireturn, 1) := by decide +kernel
theorem dL_law_1267 : decode cL_law 1267 = .ok (.goto 167, 3) := by decide +kernel
theorem dL_law_1270 : decode cL_law 1270 = .ok (.aload_n 1, 1) := by decide +kernel
theorem dL_law_1271 : decode cL_law 1271 = .ok (.invokevirtual 151, 3) := by decide +kernel
theorem dL_law_1274 : decode cL_law 1274 = .ok (.aload_n 2, 1) := by decide +kernel
theorem dL_law_1275 : decode cL_law 1275 = .ok (.invokevirtual 154, 3) := by decide +kernel
theorem dL_law_1278 : decode cL_law 1278 = .ok (.if_icmp .eq 156, 3) := by decide +kernel
theorem dL_law_1281 : decode cL_law 1281 = .ok (.iconst 0, 1) := by decide +kernel
theorem dL_law_1282 : decode cL_law 1282 = .ok (.ireturn, 1) := by decide +kernel
theorem dL_law_1283 : decode cL_law 1283 = .ok (.aload_n 1, 1) := by decide +kernel
theorem dL_law_1284 : decode cL_law 1284 = .ok (.invokevirtual 155, 3) := by decide +kernel
theorem dL_law_1287 : decode cL_law 1287 = .ok (.aload_n 2, 1) := by decide +kernel
theorem dL_law_1288 : decode cL_law 1288 = .ok (.invokevirtual 158, 3) := by decide +kernel
theorem dL_law_1291 : decode cL_law 1291 = .ok (.if_icmp .eq 143, 3) := by decide +kernel
theorem dL_law_1294 : decode cL_law 1294 = .ok (.iconst 0, 1) := by decide +kernel
theorem dL_law_1295 : decode cL_law 1295 = .ok (.ireturn, 1) := by decide +kernel
theorem dL_law_1296 : decode cL_law 1296 = .ok (.aload_n 1, 1) := by decide +kernel
theorem dL_law_1297 : decode cL_law 1297 = .ok (.invokevirtual 159, 3) := by decide +kernel
theorem dL_law_1300 : decode cL_law 1300 = .ok (.aload_n 2, 1) := by decide +kernel
theorem dL_law_1301 : decode cL_law 1301 = .ok (.invokevirtual 162, 3) := by decide +kernel
theorem dL_law_1304 : decode cL_law 1304 = .ok (.if_icmp .eq 130, 3) := by decide +kernel
theorem dL_law_1307 : decode cL_law 1307 = .ok (.iconst 0, 1) := by decide +kernel
theorem dL_law_1308 : decode cL_law 1308 = .ok (.ireturn, 1) := by decide +kernel
theorem dL_law_1309 : decode cL_law 1309 = .ok (.aload_n 1, 1) := by decide +kernel
theorem dL_law_1310 : decode cL_law 1310 = .ok (.aload_n 0, 1) := by decide +kernel
theorem dL_law_1311 : decode cL_law 1311 = .ok (.iload 4, 2) := by decide +kernel
theorem dL_law_1313 : decode cL_law 1313 = .ok (.iconst 1, 1) := by decide +kernel
theorem dL_law_1314 : decode cL_law 1314 = .ok (.iadd, 1) := by decide +kernel
theorem dL_law_1315 : decode cL_law 1315 = .ok (.iaload, 1) := by decide +kernel
theorem dL_law_1316 : decode cL_law 1316 = .ok (.aload_n 3, 1) := by decide +kernel
theorem dL_law_1317 : decode cL_law 1317 = .ok (.invokestatic 163, 3) := by decide +kernel
theorem dL_law_1320 : decode cL_law 1320 = .ok (.istore 5, 2) := by decide +kernel
theorem dL_law_1322 : decode cL_law 1322 = .ok (.aload_n 2, 1) := by decide +kernel
theorem dL_law_1323 : decode cL_law 1323 = .ok (.aload_n 0, 1) := by decide +kernel
theorem dL_law_1324 : decode cL_law 1324 = .ok (.iload 4, 2) := by decide +kernel
theorem dL_law_1326 : decode cL_law 1326 = .ok (.iconst 1, 1) := by decide +kernel
theorem dL_law_1327 : decode cL_law 1327 = .ok (.iadd, 1) := by decide +kernel
theorem dL_law_1328 : decode cL_law 1328 = .ok (.iaload, 1) := by decide +kernel
theorem dL_law_1329 : decode cL_law 1329 = .ok (.invokevirtual 165, 3) := by decide +kernel
theorem dL_law_1332 : decode cL_law 1332 = .ok (.istore 6, 2) := by decide +kernel
theorem dL_law_1334 : decode cL_law 1334 = .ok (.aload_n 2, 1) := by decide +kernel
theorem dL_law_1335 : decode cL_law 1335 = .ok (.invokevirtual 83, 3) := by decide +kernel
theorem dL_law_1338 : decode cL_law 1338 = .ok (.iload 5, 2) := by decide +kernel
theorem dL_law_1340 : decode cL_law 1340 = .ok (.if_icmp .eq 5, 3) := by decide +kernel
theorem dL_law_1343 : decode cL_law 1343 = .ok (.iconst 0, 1) := by decide +kernel
theorem dL_law_1344 : decode cL_law 1344 = .ok (.ireturn, 1) := by decide +kernel
theorem dL_law_1345 : decode cL_law 1345 = .ok (.iload 5, 2) := by decide +kernel
theorem dL_law_1347 : decode cL_law 1347 = .ok (.ifCond .ne 15, 3) := by decide +kernel
theorem dL_law_1350 : decode cL_law 1350 = .ok (.aload_n 3, 1) := by decide +kernel
theorem dL_law_1351 : decode cL_law 1351 = .ok (.iconst 0, 1) := by decide +kernel
theorem dL_law_1352 : decode cL_law 1352 = .ok (.laload, 1) := by decide +kernel
theorem dL_law_1353 : decode cL_law 1353 = .ok (.iload 6, 2) := by decide +kernel
theorem dL_law_1355 : decode cL_law 1355 = .ok (.i2l, 1) := by decide +kernel
theorem dL_law_1356 : decode cL_law 1356 = .ok (.lcmp, 1) := by decide +kernel
theorem dL_law_1357 : decode cL_law 1357 = .ok (.ifCond .eq 5, 3) := by decide +kernel
theorem dL_law_1360 : decode cL_law 1360 = .ok (.iconst 0, 1) := by decide +kernel
theorem dL_law_1361 : decode cL_law 1361 = .ok (.ireturn, 1) := by decide +kernel
theorem dL_law_1362 : decode cL_law 1362 = .ok (.goto 72, 3) := by decide +kernel
theorem dL_law_1365 : decode cL_law 1365 = .ok (.aload_n 1, 1) := by decide +kernel
theorem dL_law_1366 : decode cL_law 1366 = .ok (.aload_n 0, 1) := by decide +kernel
theorem dL_law_1367 : decode cL_law 1367 = .ok (.iload 4, 2) := by decide +kernel
theorem dL_law_1369 : decode cL_law 1369 = .ok (.iconst 1, 1) := by decide +kernel
theorem dL_law_1370 : decode cL_law 1370 = .ok (.iadd, 1) := by decide +kernel
theorem dL_law_1371 : decode cL_law 1371 = .ok (.iaload, 1) := by decide +kernel
theorem dL_law_1372 : decode cL_law 1372 = .ok (.aload_n 3, 1) := by decide +kernel
theorem dL_law_1373 : decode cL_law 1373 = .ok (.invokestatic 166, 3) := by decide +kernel
theorem dL_law_1376 : decode cL_law 1376 = .ok (.istore 5, 2) := by decide +kernel
theorem dL_law_1378 : decode cL_law 1378 = .ok (.aload_n 2, 1) := by decide +kernel
theorem dL_law_1379 : decode cL_law 1379 = .ok (.aload_n 0, 1) := by decide +kernel
theorem dL_law_1380 : decode cL_law 1380 = .ok (.iload 4, 2) := by decide +kernel
theorem dL_law_1382 : decode cL_law 1382 = .ok (.iconst 1, 1) := by decide +kernel
theorem dL_law_1383 : decode cL_law 1383 = .ok (.iadd, 1) := by decide +kernel
theorem dL_law_1384 : decode cL_law 1384 = .ok (.iaload, 1) := by decide +kernel
theorem dL_law_1385 : decode cL_law 1385 = .ok (.invokevirtual 168, 3) := by decide +kernel
theorem dL_law_1388 : decode cL_law 1388 = .ok (.istore 6, 2) := by decide +kernel
theorem dL_law_1390 : decode cL_law 1390 = .ok (.aload_n 2, 1) := by decide +kernel
theorem dL_law_1391 : decode cL_law 1391 = .ok (.invokevirtual 83, 3) := by decide +kernel
theorem dL_law_1394 : decode cL_law 1394 = .ok (.iload 5, 2) := by decide +kernel
theorem dL_law_1396 : decode cL_law 1396 = .ok (.if_icmp .eq 5, 3) := by decide +kernel
theorem dL_law_1399 : decode cL_law 1399 = .ok (.iconst 0, 1) := by decide +kernel
theorem dL_law_1400 : decode cL_law 1400 = .ok (.ireturn, 1) := by decide +kernel
theorem dL_law_1401 : decode cL_law 1401 = .ok (.iload 5, 2) := by decide +kernel
theorem dL_law_1403 : decode cL_law 1403 = .ok (.ifCond .ne 15, 3) := by decide +kernel
theorem dL_law_1406 : decode cL_law 1406 = .ok (.aload_n 3, 1) := by decide +kernel
theorem dL_law_1407 : decode cL_law 1407 = .ok (.iconst 0, 1) := by decide +kernel
theorem dL_law_1408 : decode cL_law 1408 = .ok (.laload, 1) := by decide +kernel
theorem dL_law_1409 : decode cL_law 1409 = .ok (.iload 6, 2) := by decide +kernel
theorem dL_law_1411 : decode cL_law 1411 = .ok (.i2l, 1) := by decide +kernel
theorem dL_law_1412 : decode cL_law 1412 = .ok (.lcmp, 1) := by decide +kernel
theorem dL_law_1413 : decode cL_law 1413 = .ok (.ifCond .eq 5, 3) := by decide +kernel
theorem dL_law_1416 : decode cL_law 1416 = .ok (.iconst 0, 1) := by decide +kernel
theorem dL_law_1417 : decode cL_law 1417 = .ok (.ireturn, 1) := by decide +kernel
theorem dL_law_1418 : decode cL_law 1418 = .ok (.goto 16, 3) := by decide +kernel
theorem dL_law_1421 : decode cL_law 1421 = .ok (.aload_n 1, 1) := by decide +kernel
theorem dL_law_1422 : decode cL_law 1422 = .ok (.invokevirtual 169, 3) := by decide +kernel
theorem dL_law_1425 : decode cL_law 1425 = .ok (.aload_n 2, 1) := by decide +kernel
theorem dL_law_1426 : decode cL_law 1426 = .ok (.invokevirtual 172, 3) := by decide +kernel
theorem dL_law_1429 : decode cL_law 1429 = .ok (.if_icmp .eq 5, 3) := by decide +kernel
theorem dL_law_1432 : decode cL_law 1432 = .ok (.iconst 0, 1) := by decide +kernel
theorem dL_law_1433 : decode cL_law 1433 = .ok (.ireturn, 1) := by decide +kernel
theorem dL_law_1434 : decode cL_law 1434 = .ok (.iinc 4 6, 3) := by decide +kernel
theorem dL_law_1437 : decode cL_law 1437 = .ok (.goto (-1414), 3) := by decide +kernel
theorem dL_law_1440 : decode cL_law 1440 = .ok (.iconst 1, 1) := by decide +kernel
theorem dL_law_1441 : decode cL_law 1441 = .ok (.ireturn, 1) := by decide +kernel
end
section
/-! Rows over worlds that are told by lists: WW holds a place of a walk for every heap that shows the world. -/
abbrev SS : Type := Nat → Nat → Int32
def sst (σ : SS) (k : Nat) (f : Nat → Int32) : SS := fun j => if j = k then f else σ j
def wr (σ : SS) (k i : Nat) (x : Int32) : SS := sst σ k (upd (σ k) i x)
/-- the links of private members of nest mates, and the casts that the tables decide but that are no good words -/
def nestL : List (String × Nat × MethodName × String) := [(RX4, 9, yX2_init, RX4), (RX2, 11, yX3_init, RX4), (RX4, 23, yX0_init, RX4), (RX4, 30, yX1_init, RX4), (RX2, 54, yX4_at, RX4), (RX2, 83, yX4_put, RX4), (RX3, 44, yX4_isIn, RX4), (RX3, 48, yX4_at, RX4), (RX2, 80, yX4_isIn, RX4), (RX2, 73, yX4_with, RX4), (RX3, 31, yX4_put, RX4), (RX0, 15, yX4_at, RX4), (RX0, 28, yX4_add, RX4), (RX1, 37, yX4_put, RX4), (RX1, 44, yX4_at, RX4), (RX1, 54, yX4_add, RX4)]
def castL : List String := ["java/lang/IllegalArgumentException", "java/lang/IllegalStateException", "java/lang/IndexOutOfBoundsException"]
def NWs (U : State) : Prop := (∀ q ∈ nestL, va_Nw (.methodLinkNest q.1 q.2.1 q.2.2.1 q.2.2.2) U) ∧ (∀ C ∈ castL, va_Nw (.castable C C) U) ∧ ∀ C ∈ castL, ∀ T ∈ castL, C ≠ T → va_Nc C T U
theorem NWs.warm {s U : State} (hW : s.WarmedH U.vm) (h : NWs s) : NWs U := ⟨fun q hq => va_Nw.warmM hW (h.1 q hq), fun C hC => va_Nw.warmC hW (h.2.1 C hC), fun C hC T hT hne => va_Nc.moved hW.alike (h.2.2 C hC T hT hne)⟩
theorem NWs.call {U : State} {g : JFrame} {mk : MethodId} {a : Array Value} (h : NWs U) : NWs (U.calling g mk a) := ⟨fun q hq => va_Nw.same rfl rfl (h.1 q hq), fun C hC => va_Nw.same rfl rfl (h.2.1 C hC), fun C hC T hT hne => va_Nc.moved (Vm.Alike.refl U.vm) (h.2.2 C hC T hT hne)⟩
theorem all_in {x y : Cond} (h : y ∈ wALL) : GoodIn (x :: wALL) (y :: wALL) := fun w hw => by
  rcases List.mem_cons.mp hw with e | e
  · rw [e]; exact ⟨List.mem_cons_of_mem _ h, good_of_word (all_good y h)⟩
  · exact ⟨List.mem_cons_of_mem _ e, good_of_word (all_good w e)⟩
theorem all_in0 {y : Cond} (h : y ∈ wALL) : GoodIn wALL (y :: wALL) := fun w hw => by
  rcases List.mem_cons.mp hw with e | e
  · rw [e]; exact ⟨h, good_of_word (all_good y h)⟩
  · exact ⟨e, good_of_word (all_good w e)⟩
theorem ob {α β : Type} {o : Option α} {f : α → Option β} {b : β} (h : o.bind f = some b) : ∃ a, o = some a ∧ f a = some b := by
  cases o with
  | none => cases h
  | some a => exact ⟨a, rfl, h⟩
theorem og {c : Prop} [Decidable c] {α : Type} {x : Option α} {b : α} (h : (if c then x else none) = some b) : c ∧ x = some b := by
  by_cases hc : c
  · rw [if_pos hc] at h; exact ⟨hc, h⟩
  · rw [if_neg hc] at h; cases h
theorem it_p {c : Prop} [Decidable c] {α : Type} {a b r : α} (hc : c) (h : (if c then a else b) = r) : a = r := by rw [if_pos hc] at h; exact h
theorem it_n {c : Prop} [Decidable c] {α : Type} {a b r : α} (hc : ¬ c) (h : (if c then a else b) = r) : b = r := by rw [if_neg hc] at h; exact h
def bd2 {α β γ : Type} (o : Option (α × β)) (f : α → β → Option γ) : Option γ := match o with
  | none => none
  | some (a, b) => f a b
theorem ob2 {α β γ : Type} {o : Option (α × β)} {f : α → β → Option γ} {c : γ} (h : bd2 o f = some c) : ∃ a b, o = some (a, b) ∧ f a b = some c := by
  rcases o with _ | ⟨a, b⟩
  · cases h
  · exact ⟨a, b, rfl, h⟩
def lt {α β : Type} (v : α) (f : α → β) : β := f v
theorem lt_e {α β : Type} {v : α} {f : α → β} {c : β} (h : lt v f = c) : ∃ a, v = a ∧ f a = c := ⟨v, rfl, h⟩
theorem va_D.adr {A : Nat → Prop} {ws ws1 : va_W} (h : va_D A ws) (he : ws1.map Prod.fst = ws.map Prod.fst) : va_D A ws1 := by
  have key : ∀ (k : Nat) (q : Nat × va_E), ws1[k]? = some q → ∃ q0, ws[k]? = some q0 ∧ q0.1 = q.1 := by
    intro k q hk
    have h1 : (ws1.map Prod.fst)[k]? = some q.1 := by rw [List.getElem?_map, hk]; rfl
    rw [he, List.getElem?_map] at h1
    cases hq : ws[k]? with
    | none => rw [hq] at h1; cases h1
    | some q0 => rw [hq] at h1; exact ⟨q0, rfl, Option.some.inj h1⟩
  refine ⟨fun i j x y hi hj hxy => ?_, fun k q hk => ?_⟩
  · obtain ⟨x0, h1, h2⟩ := key i x hi
    obtain ⟨y0, h3, h4⟩ := key j y hj
    exact h.1 i j x0 y0 h1 h3 (h2.trans (hxy.trans h4.symm))
  · obtain ⟨q0, h1, h2⟩ := key k q hk
    rw [← h2]
    exact h.2 k q0 h1
section WWS
variable {p : Program} {l : Launch} {e : Env} {R : Room} {s : State} {m : MethodId} {args : Array Value} {below : List Frame} {meth : Method} {c : Code} {cells slots : Nat} {Q : State → Prop}
variable {D : va_G} {cl : List vw_C} {tys : List (ClassId × FieldType)} {A0 : Nat → Prop} {nL : Nat} {ws ws1 : va_W} {cc : ByteArray} {pc : Nat} {lv lv1 : List (Nat × Value)} {st : List Value}
def WW (p : Program) (l : Launch) (e : Env) (R : Room) (s : State) (m : MethodId) (args : Array Value) (below : List Frame) (meth : Method) (c : Code) (D : va_G) (cl : List vw_C) (A0 : Nat → Prop) (nL cells slots : Nat) (Q : State → Prop) (ws : va_W) (pc : Nat) (lv : List (Nat × Value)) (st : List Value) : Prop :=
  ∀ (H : Heap) (locs : List Loc) (ls : Array Slot), va_P D cl ws H → va_S A0 s.heap H locs → lv_has ls nL lv → W p l e R s m args below meth c H locs cells slots Q (F0 m pc ls st)
theorem ww_of {pc1 : Nat} {st1 : List Value} (h : ∀ (H : Heap) (locs : List Loc) (ls : Array Slot), lv_has ls nL lv → W p l e R s m args below meth c H locs cells slots Q (F0 m pc1 ls st1) → W p l e R s m args below meth c H locs cells slots Q (F0 m pc ls st))
    (kk : WW p l e R s m args below meth c D cl A0 nL cells slots Q ws pc1 lv st1) : WW p l e R s m args below meth c D cl A0 nL cells slots Q ws pc lv st := fun H locs ls hP hS hl => h H locs ls hl (kk H locs ls hP hS hl)
/-- fewer locals are enough -/
theorem ww_sub (ks : List Nat) (hk : lv_pick lv ks = lv1) (kk : WW p l e R s m args below meth c D cl A0 nL cells slots Q ws pc lv1 st) : WW p l e R s m args below meth c D cl A0 nL cells slots Q ws pc lv st := fun H locs ls hP hS hl => kk H locs ls hP hS (lv_sub hl ks hk)
theorem ww_eq {ws1 : va_W} (h : ws = ws1) (kk : WW p l e R s m args below meth c D cl A0 nL cells slots Q ws1 pc lv st) : WW p l e R s m args below meth c D cl A0 nL cells slots Q ws pc lv st := h ▸ kk
theorem ww_iconst (hx : p.tables.exec = Jvm.exec) (hb : c.code = cc) {n : Int} {v : Int32} (hd : decode cc pc = .ok (.iconst n, 1)) (hv : Int32.ofInt n = v) (kk : WW p l e R s m args below meth c D cl A0 nL cells slots Q ws (pc + 1) lv (.int v :: st)) : WW p l e R s m args below meth c D cl A0 nL cells slots Q ws pc lv st := ww_of (fun _ _ _ _ k => lv_iconst hx hb hd hv k) kk
theorem ww_bipush (hx : p.tables.exec = Jvm.exec) (hb : c.code = cc) {n : Int} {v : Int32} (hd : decode cc pc = .ok (.bipush n, 2)) (hv : (Int8.ofInt n).toInt32 = v) (kk : WW p l e R s m args below meth c D cl A0 nL cells slots Q ws (pc + 2) lv (.int v :: st)) : WW p l e R s m args below meth c D cl A0 nL cells slots Q ws pc lv st := ww_of (fun _ _ _ _ k => lv_bipush hx hb hd hv k) kk
theorem ww_sipush (hx : p.tables.exec = Jvm.exec) (hb : c.code = cc) {n : Int} {v : Int32} (hd : decode cc pc = .ok (.sipush n, 3)) (hv : (Int16.ofInt n).toInt32 = v) (kk : WW p l e R s m args below meth c D cl A0 nL cells slots Q ws (pc + 3) lv (.int v :: st)) : WW p l e R s m args below meth c D cl A0 nL cells slots Q ws pc lv st := ww_of (fun _ _ _ _ k => lv_sipush hx hb hd hv k) kk
theorem ww_lconst (hx : p.tables.exec = Jvm.exec) (hb : c.code = cc) {n : Fin 2} {v : Int64} (hd : decode cc pc = .ok (.lconst n, 1)) (hv : Int64.ofNat (n : Nat) = v) (kk : WW p l e R s m args below meth c D cl A0 nL cells slots Q ws (pc + 1) lv (.long v :: st)) : WW p l e R s m args below meth c D cl A0 nL cells slots Q ws pc lv st := ww_of (fun _ _ _ _ k => lv_lconst hx hb hd hv k) kk
theorem ww_iload_n (hx : p.tables.exec = Jvm.exec) (hb : c.code = cc) {k : Fin 4} {i : Nat} {x : Int32} (hd : decode cc pc = .ok (.iload_n k, 1)) (hi : (k : Nat) = i) (n : Nat) (hl : lv[n]? = some (i, .int x)) (kk : WW p l e R s m args below meth c D cl A0 nL cells slots Q ws (pc + 1) lv (.int x :: st)) : WW p l e R s m args below meth c D cl A0 nL cells slots Q ws pc lv st := ww_of (fun _ _ _ h k => lv_iload_n hx hb hd hi (lv_at h n hl) k) kk
theorem ww_iload (hx : p.tables.exec = Jvm.exec) (hb : c.code = cc) {i : Nat} {x : Int32} (hd : decode cc pc = .ok (.iload i, 2)) (n : Nat) (hl : lv[n]? = some (i, .int x)) (kk : WW p l e R s m args below meth c D cl A0 nL cells slots Q ws (pc + 2) lv (.int x :: st)) : WW p l e R s m args below meth c D cl A0 nL cells slots Q ws pc lv st := ww_of (fun _ _ _ h k => lv_iload hx hb hd (lv_at h n hl) k) kk
theorem ww_aload_n (hx : p.tables.exec = Jvm.exec) (hb : c.code = cc) {k : Fin 4} {i : Nat} {x : Nat} (hd : decode cc pc = .ok (.aload_n k, 1)) (hi : (k : Nat) = i) (n : Nat) (hl : lv[n]? = some (i, .ref x)) (kk : WW p l e R s m args below meth c D cl A0 nL cells slots Q ws (pc + 1) lv (.ref x :: st)) : WW p l e R s m args below meth c D cl A0 nL cells slots Q ws pc lv st := ww_of (fun _ _ _ h k => lv_aload_n hx hb hd hi (lv_at h n hl) k) kk
theorem ww_aload (hx : p.tables.exec = Jvm.exec) (hb : c.code = cc) {i : Nat} {x : Nat} (hd : decode cc pc = .ok (.aload i, 2)) (n : Nat) (hl : lv[n]? = some (i, .ref x)) (kk : WW p l e R s m args below meth c D cl A0 nL cells slots Q ws (pc + 2) lv (.ref x :: st)) : WW p l e R s m args below meth c D cl A0 nL cells slots Q ws pc lv st := ww_of (fun _ _ _ h k => lv_aload hx hb hd (lv_at h n hl) k) kk
theorem ww_istore_n (hx : p.tables.exec = Jvm.exec) (hb : c.code = cc) {k : Fin 4} {i : Nat} {x : Int32} (hd : decode cc pc = .ok (.istore_n k, 1)) (hi : (k : Nat) = i) (hn : i < nL) (ks : List Nat) (hl : lv_pick ((i, Value.int x) :: lv.filter (fun q => !(q.1 == i) && !(q.1 + 1 == i && q.2.category == 2))) ks = lv1) (kk : WW p l e R s m args below meth c D cl A0 nL cells slots Q ws (pc + 1) lv1 st) : WW p l e R s m args below meth c D cl A0 nL cells slots Q ws pc lv (.int x :: st) :=
  fun H locs _ hP hS h => lv_istore_n hx hb hd hi h hn rfl (fun ls' h' => kk H locs ls' hP hS (lv_sub h' ks hl))
theorem ww_istore (hx : p.tables.exec = Jvm.exec) (hb : c.code = cc) {i : Nat} {x : Int32} (hd : decode cc pc = .ok (.istore i, 2)) (hn : i < nL) (ks : List Nat) (hl : lv_pick ((i, Value.int x) :: lv.filter (fun q => !(q.1 == i) && !(q.1 + 1 == i && q.2.category == 2))) ks = lv1) (kk : WW p l e R s m args below meth c D cl A0 nL cells slots Q ws (pc + 2) lv1 st) : WW p l e R s m args below meth c D cl A0 nL cells slots Q ws pc lv (.int x :: st) :=
  fun H locs _ hP hS h => lv_istore hx hb hd h hn rfl (fun ls' h' => kk H locs ls' hP hS (lv_sub h' ks hl))
theorem ww_astore_n (hx : p.tables.exec = Jvm.exec) (hb : c.code = cc) {k : Fin 4} {i : Nat} {x : Nat} (hd : decode cc pc = .ok (.astore_n k, 1)) (hi : (k : Nat) = i) (hn : i < nL) (ks : List Nat) (hl : lv_pick ((i, Value.ref x) :: lv.filter (fun q => !(q.1 == i) && !(q.1 + 1 == i && q.2.category == 2))) ks = lv1) (kk : WW p l e R s m args below meth c D cl A0 nL cells slots Q ws (pc + 1) lv1 st) : WW p l e R s m args below meth c D cl A0 nL cells slots Q ws pc lv (.ref x :: st) :=
  fun H locs _ hP hS h => lv_astore_n hx hb hd hi h hn rfl (fun ls' h' => kk H locs ls' hP hS (lv_sub h' ks hl))
theorem ww_astore (hx : p.tables.exec = Jvm.exec) (hb : c.code = cc) {i : Nat} {x : Nat} (hd : decode cc pc = .ok (.astore i, 2)) (hn : i < nL) (ks : List Nat) (hl : lv_pick ((i, Value.ref x) :: lv.filter (fun q => !(q.1 == i) && !(q.1 + 1 == i && q.2.category == 2))) ks = lv1) (kk : WW p l e R s m args below meth c D cl A0 nL cells slots Q ws (pc + 2) lv1 st) : WW p l e R s m args below meth c D cl A0 nL cells slots Q ws pc lv (.ref x :: st) :=
  fun H locs _ hP hS h => lv_astore hx hb hd h hn rfl (fun ls' h' => kk H locs ls' hP hS (lv_sub h' ks hl))
theorem ww_iinc (hx : p.tables.exec = Jvm.exec) (hb : c.code = cc) {i k : Nat} {n : Int} {x v : Int32} (hd : decode cc pc = .ok (.iinc i n, 3)) (hk : lv[k]? = some (i, .int x)) (hv : Int32.ofInt n = v) (hn : i < nL) (ks : List Nat) (hl : lv_pick ((i, Value.int (x + v)) :: lv.filter (fun q => !(q.1 == i) && !(q.1 + 1 == i && q.2.category == 2))) ks = lv1) (kk : WW p l e R s m args below meth c D cl A0 nL cells slots Q ws (pc + 3) lv1 st) : WW p l e R s m args below meth c D cl A0 nL cells slots Q ws pc lv st :=
  fun H locs _ hP hS h => lv_iinc hx hb hd h hk (by rw [hv]) hn rfl (fun ls' h' => kk H locs ls' hP hS (lv_sub h' ks hl))
theorem ww_iadd (hx : p.tables.exec = Jvm.exec) (hb : c.code = cc) {x y : Int32} (hd : decode cc pc = .ok (.iadd, 1)) (kk : WW p l e R s m args below meth c D cl A0 nL cells slots Q ws (pc + 1) lv (.int (x + y) :: st)) : WW p l e R s m args below meth c D cl A0 nL cells slots Q ws pc lv (.int y :: .int x :: st) := ww_of (fun _ _ _ _ k => lv_iadd hx hb hd k) kk
theorem ww_isub (hx : p.tables.exec = Jvm.exec) (hb : c.code = cc) {x y : Int32} (hd : decode cc pc = .ok (.isub, 1)) (kk : WW p l e R s m args below meth c D cl A0 nL cells slots Q ws (pc + 1) lv (.int (x - y) :: st)) : WW p l e R s m args below meth c D cl A0 nL cells slots Q ws pc lv (.int y :: .int x :: st) := ww_of (fun _ _ _ _ k => lv_isub hx hb hd k) kk
theorem ww_imul (hx : p.tables.exec = Jvm.exec) (hb : c.code = cc) {x y : Int32} (hd : decode cc pc = .ok (.imul, 1)) (kk : WW p l e R s m args below meth c D cl A0 nL cells slots Q ws (pc + 1) lv (.int (x * y) :: st)) : WW p l e R s m args below meth c D cl A0 nL cells slots Q ws pc lv (.int y :: .int x :: st) := ww_of (fun _ _ _ _ k => lv_imul hx hb hd k) kk
theorem ww_iand (hx : p.tables.exec = Jvm.exec) (hb : c.code = cc) {x y : Int32} (hd : decode cc pc = .ok (.iand, 1)) (kk : WW p l e R s m args below meth c D cl A0 nL cells slots Q ws (pc + 1) lv (.int (x &&& y) :: st)) : WW p l e R s m args below meth c D cl A0 nL cells slots Q ws pc lv (.int y :: .int x :: st) := ww_of (fun _ _ _ _ k => lv_iand hx hb hd k) kk
theorem ww_ior (hx : p.tables.exec = Jvm.exec) (hb : c.code = cc) {x y : Int32} (hd : decode cc pc = .ok (.ior, 1)) (kk : WW p l e R s m args below meth c D cl A0 nL cells slots Q ws (pc + 1) lv (.int (x ||| y) :: st)) : WW p l e R s m args below meth c D cl A0 nL cells slots Q ws pc lv (.int y :: .int x :: st) := ww_of (fun _ _ _ _ k => lv_ior hx hb hd k) kk
theorem ww_ixor (hx : p.tables.exec = Jvm.exec) (hb : c.code = cc) {x y : Int32} (hd : decode cc pc = .ok (.ixor, 1)) (kk : WW p l e R s m args below meth c D cl A0 nL cells slots Q ws (pc + 1) lv (.int (x ^^^ y) :: st)) : WW p l e R s m args below meth c D cl A0 nL cells slots Q ws pc lv (.int y :: .int x :: st) := ww_of (fun _ _ _ _ k => lv_ixor hx hb hd k) kk
theorem ww_idiv (hx : p.tables.exec = Jvm.exec) (hb : c.code = cc) {x y : Int32} (hd : decode cc pc = .ok (.idiv, 1)) (hne : ¬ y = 0) (kk : WW p l e R s m args below meth c D cl A0 nL cells slots Q ws (pc + 1) lv (.int (x / y) :: st)) : WW p l e R s m args below meth c D cl A0 nL cells slots Q ws pc lv (.int y :: .int x :: st) := ww_of (fun _ _ _ _ k => lv_idiv hx hb hd hne k) kk
theorem ww_irem (hx : p.tables.exec = Jvm.exec) (hb : c.code = cc) {x y : Int32} (hd : decode cc pc = .ok (.irem, 1)) (hne : ¬ y = 0) (kk : WW p l e R s m args below meth c D cl A0 nL cells slots Q ws (pc + 1) lv (.int (x - x / y * y) :: st)) : WW p l e R s m args below meth c D cl A0 nL cells slots Q ws pc lv (.int y :: .int x :: st) := ww_of (fun _ _ _ _ k => lv_irem hx hb hd hne k) kk
theorem ww_ineg (hx : p.tables.exec = Jvm.exec) (hb : c.code = cc) {x : Int32} (hd : decode cc pc = .ok (.ineg, 1)) (kk : WW p l e R s m args below meth c D cl A0 nL cells slots Q ws (pc + 1) lv (.int (-x) :: st)) : WW p l e R s m args below meth c D cl A0 nL cells slots Q ws pc lv (.int x :: st) := ww_of (fun _ _ _ _ k => lv_ineg hx hb hd k) kk
theorem ww_ishl (hx : p.tables.exec = Jvm.exec) (hb : c.code = cc) {x y : Int32} (hd : decode cc pc = .ok (.ishl, 1)) (kk : WW p l e R s m args below meth c D cl A0 nL cells slots Q ws (pc + 1) lv (.int (x <<< (y &&& 31)) :: st)) : WW p l e R s m args below meth c D cl A0 nL cells slots Q ws pc lv (.int y :: .int x :: st) := ww_of (fun _ _ _ _ k => lv_ishl hx hb hd k) kk
theorem ww_ishr (hx : p.tables.exec = Jvm.exec) (hb : c.code = cc) {x y : Int32} (hd : decode cc pc = .ok (.ishr, 1)) (kk : WW p l e R s m args below meth c D cl A0 nL cells slots Q ws (pc + 1) lv (.int (x >>> (y &&& 31)) :: st)) : WW p l e R s m args below meth c D cl A0 nL cells slots Q ws pc lv (.int y :: .int x :: st) := ww_of (fun _ _ _ _ k => lv_ishr hx hb hd k) kk
def ius (x y : Int32) : Int32 := (x.toUInt32 >>> (y.toUInt32 &&& Int32.toUInt32 31)).toInt32
theorem ww_iushr (hx : p.tables.exec = Jvm.exec) (hb : c.code = cc) {x y : Int32} (hd : decode cc pc = .ok (.iushr, 1)) (kk : WW p l e R s m args below meth c D cl A0 nL cells slots Q ws (pc + 1) lv (.int (ius x y) :: st)) : WW p l e R s m args below meth c D cl A0 nL cells slots Q ws pc lv (.int y :: .int x :: st) := ww_of (fun _ _ _ _ k => lv_iushr hx hb hd rfl k) kk
theorem ww_i2l (hx : p.tables.exec = Jvm.exec) (hb : c.code = cc) {x : Int32} (hd : decode cc pc = .ok (.i2l, 1)) (kk : WW p l e R s m args below meth c D cl A0 nL cells slots Q ws (pc + 1) lv (.long x.toInt64 :: st)) : WW p l e R s m args below meth c D cl A0 nL cells slots Q ws pc lv (.int x :: st) := ww_of (fun _ _ _ _ k => lv_i2l hx hb hd rfl k) kk
theorem ww_lcmp (hx : p.tables.exec = Jvm.exec) (hb : c.code = cc) {x y : Int64} (hd : decode cc pc = .ok (.lcmp, 1)) (kk : WW p l e R s m args below meth c D cl A0 nL cells slots Q ws (pc + 1) lv (.int (lg_cmp x y) :: st)) : WW p l e R s m args below meth c D cl A0 nL cells slots Q ws pc lv (.long y :: .long x :: st) := ww_of (fun _ _ _ _ k => W.lcmp hx hb hd k) kk
theorem ww_dup (hx : p.tables.exec = Jvm.exec) (hb : c.code = cc) {va : Value} (hd : decode cc pc = .ok (.dup, 1)) (hva : va.category = 1) (kk : WW p l e R s m args below meth c D cl A0 nL cells slots Q ws (pc + 1) lv (va :: va :: st)) : WW p l e R s m args below meth c D cl A0 nL cells slots Q ws pc lv (va :: st) := ww_of (fun _ _ _ _ k => lv_dup hx hb hd hva k) kk
theorem ww_pop (hx : p.tables.exec = Jvm.exec) (hb : c.code = cc) {va : Value} (hd : decode cc pc = .ok (.pop, 1)) (hva : va.category = 1) (kk : WW p l e R s m args below meth c D cl A0 nL cells slots Q ws (pc + 1) lv st) : WW p l e R s m args below meth c D cl A0 nL cells slots Q ws pc lv (va :: st) := ww_of (fun _ _ _ _ k => lv_pop hx hb hd hva k) kk
theorem ww_dup2 (hx : p.tables.exec = Jvm.exec) (hb : c.code = cc) {va vb : Value} (hd : decode cc pc = .ok (.dup2, 1)) (hva : va.category = 1) (hvb : vb.category = 1) (kk : WW p l e R s m args below meth c D cl A0 nL cells slots Q ws (pc + 1) lv (va :: vb :: va :: vb :: st)) : WW p l e R s m args below meth c D cl A0 nL cells slots Q ws pc lv (va :: vb :: st) := ww_of (fun _ _ _ _ k => lv_dup2_11 hx hb hd hva hvb k) kk
theorem ww_goto (hx : p.tables.exec = Jvm.exec) (hb : c.code = cc) {off : Int} {tgt : Nat} (hd : decode cc pc = .ok (.goto off, 3)) (ht : (pc : Int) + off = (tgt : Int)) (kk : WW p l e R s m args below meth c D cl A0 nL cells slots Q ws tgt lv st) : WW p l e R s m args below meth c D cl A0 nL cells slots Q ws pc lv st := ww_of (fun _ _ _ _ k => lv_goto hx hb hd ht k) kk
theorem ww_eq0 (hx : p.tables.exec = Jvm.exec) (hb : c.code = cc) {x : Int32} {off : Int} {tgt : Nat} (hd : decode cc pc = .ok (.ifCond .eq off, 3)) (ht : (pc : Int) + off = (tgt : Int)) (kt : x = 0 → WW p l e R s m args below meth c D cl A0 nL cells slots Q ws tgt lv st) (kf : ¬ x = 0 → WW p l e R s m args below meth c D cl A0 nL cells slots Q ws (pc + 3) lv st) : WW p l e R s m args below meth c D cl A0 nL cells slots Q ws pc lv (.int x :: st) := fun H locs ls hP hS hl => lv_if_eq hx hb hd ht (fun h => kt h H locs ls hP hS hl) (fun h => kf h H locs ls hP hS hl)
theorem ww_ne0 (hx : p.tables.exec = Jvm.exec) (hb : c.code = cc) {x : Int32} {off : Int} {tgt : Nat} (hd : decode cc pc = .ok (.ifCond .ne off, 3)) (ht : (pc : Int) + off = (tgt : Int)) (kt : ¬ x = 0 → WW p l e R s m args below meth c D cl A0 nL cells slots Q ws tgt lv st) (kf : x = 0 → WW p l e R s m args below meth c D cl A0 nL cells slots Q ws (pc + 3) lv st) : WW p l e R s m args below meth c D cl A0 nL cells slots Q ws pc lv (.int x :: st) := fun H locs ls hP hS hl => lv_if_ne hx hb hd ht (fun h => kt h H locs ls hP hS hl) (fun h => kf h H locs ls hP hS hl)
theorem ww_lt0 (hx : p.tables.exec = Jvm.exec) (hb : c.code = cc) {x : Int32} {off : Int} {tgt : Nat} (hd : decode cc pc = .ok (.ifCond .lt off, 3)) (ht : (pc : Int) + off = (tgt : Int)) (kt : x < 0 → WW p l e R s m args below meth c D cl A0 nL cells slots Q ws tgt lv st) (kf : ¬ x < 0 → WW p l e R s m args below meth c D cl A0 nL cells slots Q ws (pc + 3) lv st) : WW p l e R s m args below meth c D cl A0 nL cells slots Q ws pc lv (.int x :: st) := fun H locs ls hP hS hl => lv_if_lt hx hb hd ht (fun h => kt h H locs ls hP hS hl) (fun h => kf h H locs ls hP hS hl)
theorem ww_ge0 (hx : p.tables.exec = Jvm.exec) (hb : c.code = cc) {x : Int32} {off : Int} {tgt : Nat} (hd : decode cc pc = .ok (.ifCond .ge off, 3)) (ht : (pc : Int) + off = (tgt : Int)) (kt : 0 ≤ x → WW p l e R s m args below meth c D cl A0 nL cells slots Q ws tgt lv st) (kf : ¬ 0 ≤ x → WW p l e R s m args below meth c D cl A0 nL cells slots Q ws (pc + 3) lv st) : WW p l e R s m args below meth c D cl A0 nL cells slots Q ws pc lv (.int x :: st) := fun H locs ls hP hS hl => lv_if_ge hx hb hd ht (fun h => kt h H locs ls hP hS hl) (fun h => kf h H locs ls hP hS hl)
theorem ww_le0 (hx : p.tables.exec = Jvm.exec) (hb : c.code = cc) {x : Int32} {off : Int} {tgt : Nat} (hd : decode cc pc = .ok (.ifCond .le off, 3)) (ht : (pc : Int) + off = (tgt : Int)) (kt : x ≤ 0 → WW p l e R s m args below meth c D cl A0 nL cells slots Q ws tgt lv st) (kf : ¬ x ≤ 0 → WW p l e R s m args below meth c D cl A0 nL cells slots Q ws (pc + 3) lv st) : WW p l e R s m args below meth c D cl A0 nL cells slots Q ws pc lv (.int x :: st) := fun H locs ls hP hS hl => lv_if_le hx hb hd ht (fun h => kt h H locs ls hP hS hl) (fun h => kf h H locs ls hP hS hl)
theorem ww_eq2 (hx : p.tables.exec = Jvm.exec) (hb : c.code = cc) {x y : Int32} {off : Int} {tgt : Nat} (hd : decode cc pc = .ok (.if_icmp .eq off, 3)) (ht : (pc : Int) + off = (tgt : Int)) (kt : x = y → WW p l e R s m args below meth c D cl A0 nL cells slots Q ws tgt lv st) (kf : ¬ x = y → WW p l e R s m args below meth c D cl A0 nL cells slots Q ws (pc + 3) lv st) : WW p l e R s m args below meth c D cl A0 nL cells slots Q ws pc lv (.int y :: .int x :: st) := fun H locs ls hP hS hl => lv_icmp_eq hx hb hd ht (fun h => kt h H locs ls hP hS hl) (fun h => kf h H locs ls hP hS hl)
theorem ww_ne2 (hx : p.tables.exec = Jvm.exec) (hb : c.code = cc) {x y : Int32} {off : Int} {tgt : Nat} (hd : decode cc pc = .ok (.if_icmp .ne off, 3)) (ht : (pc : Int) + off = (tgt : Int)) (kt : ¬ x = y → WW p l e R s m args below meth c D cl A0 nL cells slots Q ws tgt lv st) (kf : x = y → WW p l e R s m args below meth c D cl A0 nL cells slots Q ws (pc + 3) lv st) : WW p l e R s m args below meth c D cl A0 nL cells slots Q ws pc lv (.int y :: .int x :: st) := fun H locs ls hP hS hl => lv_icmp_ne hx hb hd ht (fun h => kt h H locs ls hP hS hl) (fun h => kf h H locs ls hP hS hl)
theorem ww_lt2 (hx : p.tables.exec = Jvm.exec) (hb : c.code = cc) {x y : Int32} {off : Int} {tgt : Nat} (hd : decode cc pc = .ok (.if_icmp .lt off, 3)) (ht : (pc : Int) + off = (tgt : Int)) (kt : x < y → WW p l e R s m args below meth c D cl A0 nL cells slots Q ws tgt lv st) (kf : ¬ x < y → WW p l e R s m args below meth c D cl A0 nL cells slots Q ws (pc + 3) lv st) : WW p l e R s m args below meth c D cl A0 nL cells slots Q ws pc lv (.int y :: .int x :: st) := fun H locs ls hP hS hl => lv_icmp_lt hx hb hd ht (fun h => kt h H locs ls hP hS hl) (fun h => kf h H locs ls hP hS hl)
theorem ww_ge2 (hx : p.tables.exec = Jvm.exec) (hb : c.code = cc) {x y : Int32} {off : Int} {tgt : Nat} (hd : decode cc pc = .ok (.if_icmp .ge off, 3)) (ht : (pc : Int) + off = (tgt : Int)) (kt : y ≤ x → WW p l e R s m args below meth c D cl A0 nL cells slots Q ws tgt lv st) (kf : ¬ y ≤ x → WW p l e R s m args below meth c D cl A0 nL cells slots Q ws (pc + 3) lv st) : WW p l e R s m args below meth c D cl A0 nL cells slots Q ws pc lv (.int y :: .int x :: st) := fun H locs ls hP hS hl => lv_icmp_ge hx hb hd ht (fun h => kt h H locs ls hP hS hl) (fun h => kf h H locs ls hP hS hl)
theorem ww_gt2 (hx : p.tables.exec = Jvm.exec) (hb : c.code = cc) {x y : Int32} {off : Int} {tgt : Nat} (hd : decode cc pc = .ok (.if_icmp .gt off, 3)) (ht : (pc : Int) + off = (tgt : Int)) (kt : y < x → WW p l e R s m args below meth c D cl A0 nL cells slots Q ws tgt lv st) (kf : ¬ y < x → WW p l e R s m args below meth c D cl A0 nL cells slots Q ws (pc + 3) lv st) : WW p l e R s m args below meth c D cl A0 nL cells slots Q ws pc lv (.int y :: .int x :: st) := fun H locs ls hP hS hl => lv_icmp_gt hx hb hd ht (fun h => kt h H locs ls hP hS hl) (fun h => kf h H locs ls hP hS hl)
theorem ww_le2 (hx : p.tables.exec = Jvm.exec) (hb : c.code = cc) {x y : Int32} {off : Int} {tgt : Nat} (hd : decode cc pc = .ok (.if_icmp .le off, 3)) (ht : (pc : Int) + off = (tgt : Int)) (kt : x ≤ y → WW p l e R s m args below meth c D cl A0 nL cells slots Q ws tgt lv st) (kf : ¬ x ≤ y → WW p l e R s m args below meth c D cl A0 nL cells slots Q ws (pc + 3) lv st) : WW p l e R s m args below meth c D cl A0 nL cells slots Q ws pc lv (.int y :: .int x :: st) := fun H locs ls hP hS hl => lv_icmp_le hx hb hd ht (fun h => kt h H locs ls hP hS hl) (fun h => kf h H locs ls hP hS hl)
theorem ww_lookr (hx : p.tables.exec = Jvm.exec) (hb : c.code = cc) (n : Nat) {v : Value} {i : Nat} (_ : lv[n]? = some (i, v)) (kk : WW p l e R s m args below meth c D cl A0 nL cells slots Q ws pc lv st) : WW p l e R s m args below meth c D cl A0 nL cells slots Q ws pc lv st := kk
theorem ww_ldcw (hx : p.tables.exec = Jvm.exec) (hb : c.code = cc) {own : String} (hown : s.vm.findClass own = some m.cls) (hts : ∀ w ∈ wALL, w.before args s = true) {index : Nat} {v : Int32} (hw : Jvm.Cond.constant own index v ∈ wALL) (hd : decode cc pc = .ok (.ldc_w index, 3)) (kk : WW p l e R s m args below meth c D cl A0 nL cells slots Q ws (pc + 3) lv (.int v :: st)) : WW p l e R s m args below meth c D cl A0 nL cells slots Q ws pc lv st := ww_of (fun _ _ _ _ k => lv_ldcw hx hb hown (hts _ hw) hd k) kk
theorem ww_ldc (hx : p.tables.exec = Jvm.exec) (hb : c.code = cc) {own : String} (hown : s.vm.findClass own = some m.cls) (hts : ∀ w ∈ wALL, w.before args s = true) {index : Nat} {v : Int32} (hw : Jvm.Cond.constant own index v ∈ wALL) (hd : decode cc pc = .ok (.ldc index, 2)) (kk : WW p l e R s m args below meth c D cl A0 nL cells slots Q ws (pc + 2) lv (.int v :: st)) : WW p l e R s m args below meth c D cl A0 nL cells slots Q ws pc lv st := ww_of (fun _ _ _ _ k => lv_ldc hx hb hown (hts _ hw) hd k) kk
theorem ww_get (hx : p.tables.exec = Jvm.exec) (hb : c.code = cc) {own : String} (hown : s.vm.findClass own = some m.cls) (hts : ∀ w ∈ wALL, w.before args s = true) (hK : va_K D cl tys s) {a : Nat} {C ref : String} {T : u_T} {N ci index : Nat} (hin : ∀ w ∈ u_ws C T N, w ∈ wALL) (q0 : Nat) {fs : List Value} (he : ws[q0]? = some (a, .inr (ci, fs))) (hc : cl[ci]? = some (C, T, N)) (k : Nat) (hk : k < N) (hw : Cond.fieldLink own index ref (T k).2.1 (T k).2.2.1 ∈ wALL) (hs : (T k).1 = ref) {v : Value} (hv : fs[k]? = some v) (hd : decode cc pc = .ok (.getfield index, 3))
    (kk : WW p l e R s m args below meth c D cl A0 nL cells slots Q ws (pc + 3) lv (v :: st)) : WW p l e R s m args below meth c D cl A0 nL cells slots Q ws pc lv (.ref a :: st) :=
  fun H locs ls hP hS hl => va_get hx hb hts hin hown hK hP q0 he hc k hk (hts _ hw) (fun _ h => by rw [← hs]; exact h) hv hd (kk H locs ls hP hS hl)
theorem ww_put (hx : p.tables.exec = Jvm.exec) (hb : c.code = cc) {own : String} (hown : s.vm.findClass own = some m.cls) (hts : ∀ w ∈ wALL, w.before args s = true) (hK : va_K D cl tys s) {a : Nat} {C ref : String} {T : u_T} {N ci index : Nat} (hin : ∀ w ∈ u_ws C T N, w ∈ wALL) (ty0 : Nat → FieldType) (hty : ∀ k, k < N → parseFieldDescriptor (T k).2.2.1 = some (ty0 k)) (hnm : ∀ a, a < N → ∀ b, b < N → a ≠ b → (T a).2.1 ≠ (T b).2.1) (hD : va_D A0 ws) (q0 : Nat) {fs : List Value} (he : ws[q0]? = some (a, .inr (ci, fs))) (hc : cl[ci]? = some (C, T, N)) (k : Nat) (hk : k < N) (hw : Cond.fieldLink own index ref (T k).2.1 (T k).2.2.1 ∈ wALL) (hs : (T k).1 = ref) (hfin : (T k).2.2.2 = false) {ty : FieldType} {v : Value} (hdd : parseFieldDescriptor (T k).2.2.1 = some ty) (hn : narrow ty v = v) (hfit : fits ty v = true) (hl : k < fs.length) (hd : decode cc pc = .ok (.putfield index, 3)) (hw1 : ws.set q0 (a, .inr (ci, fs.set k v)) = ws1)
    (kk : WW p l e R s m args below meth c D cl A0 nL cells slots Q ws1 (pc + 3) lv st) : WW p l e R s m args below meth c D cl A0 nL cells slots Q ws pc lv (v :: .ref a :: st) :=
  fun _ _ ls hP hS hlv => va_put hx hb hts hin ty0 hty hnm hown hK hP hD hS q0 he hc k hk (hts _ hw) (fun _ h => by rw [← hs]; exact h) hfin hdd hn hfit hl hd (fun H1 locs1 hP1 _ hS1 => kk H1 locs1 ls (hw1 ▸ hP1) hS1 hlv)
theorem ww_iald (hx : p.tables.exec = Jvm.exec) (hb : c.code = cc) {own : String} (hown : s.vm.findClass own = some m.cls) (hts : ∀ w ∈ wALL, w.before args s = true) (hK : va_K D cl tys s) {a : Nat} (q0 t0 : Nat) {cA : ClassId} {n : Nat} {f : Nat → Int32} (ha : ws[q0]? = some (a, .inl (cA, n, .inl f))) (ht : tys[t0]? = some (cA, .int)) {i : Int32} (hin : vp_in i n) (hd : decode cc pc = .ok (.iaload, 1))
    (kk : WW p l e R s m args below meth c D cl A0 nL cells slots Q ws (pc + 1) lv (.int (f i.toNatClampNeg) :: st)) : WW p l e R s m args below meth c D cl A0 nL cells slots Q ws pc lv (.int i :: .ref a :: st) :=
  fun H locs ls hP hS hl => va_iald hx hb hK hP q0 t0 ha ht hin hd (kk H locs ls hP hS hl)
theorem ww_iast (hx : p.tables.exec = Jvm.exec) (hb : c.code = cc) {own : String} (hown : s.vm.findClass own = some m.cls) (hts : ∀ w ∈ wALL, w.before args s = true) (hK : va_K D cl tys s) {a : Nat} (hD : va_D A0 ws) (q0 t0 : Nat) {cA : ClassId} {n : Nat} {f : Nat → Int32} (ha : ws[q0]? = some (a, .inl (cA, n, .inl f))) (ht : tys[t0]? = some (cA, .int)) {i x : Int32} (hin : vp_in i n) (hd : decode cc pc = .ok (.iastore, 1)) (hw1 : ws.set q0 (a, .inl (cA, n, .inl (upd f i.toNatClampNeg x))) = ws1)
    (kk : WW p l e R s m args below meth c D cl A0 nL cells slots Q ws1 (pc + 1) lv st) : WW p l e R s m args below meth c D cl A0 nL cells slots Q ws pc lv (.int x :: .int i :: .ref a :: st) :=
  fun _ _ ls hP hS hl => va_iast hx hb hK hP hD hS q0 t0 ha ht hin hd (fun H1 locs1 hP1 _ hS1 => kk H1 locs1 ls (hw1 ▸ hP1) hS1 hl)
theorem ww_lald (hx : p.tables.exec = Jvm.exec) (hb : c.code = cc) {own : String} (hown : s.vm.findClass own = some m.cls) (hts : ∀ w ∈ wALL, w.before args s = true) (hK : va_K D cl tys s) {a : Nat} (q0 t0 : Nat) {cA : ClassId} {n : Nat} {f : Nat → Int64} (ha : ws[q0]? = some (a, .inl (cA, n, .inr (.inl f)))) (ht : tys[t0]? = some (cA, .long)) {i : Int32} (hin : vp_in i n) (hd : decode cc pc = .ok (.laload, 1))
    (kk : WW p l e R s m args below meth c D cl A0 nL cells slots Q ws (pc + 1) lv (.long (f i.toNatClampNeg) :: st)) : WW p l e R s m args below meth c D cl A0 nL cells slots Q ws pc lv (.int i :: .ref a :: st) :=
  fun H locs ls hP hS hl => va_lald hx hb hK hP q0 t0 ha ht hin hd (kk H locs ls hP hS hl)
theorem ww_last (hx : p.tables.exec = Jvm.exec) (hb : c.code = cc) {own : String} (hown : s.vm.findClass own = some m.cls) (hts : ∀ w ∈ wALL, w.before args s = true) (hK : va_K D cl tys s) {a : Nat} (hD : va_D A0 ws) (q0 t0 : Nat) {cA : ClassId} {n : Nat} {f : Nat → Int64} (ha : ws[q0]? = some (a, .inl (cA, n, .inr (.inl f)))) (ht : tys[t0]? = some (cA, .long)) {i : Int32} {x : Int64} (hin : vp_in i n) (hd : decode cc pc = .ok (.lastore, 1)) (hw1 : ws.set q0 (a, .inl (cA, n, .inr (.inl (vp_updL f i.toNatClampNeg x)))) = ws1)
    (kk : WW p l e R s m args below meth c D cl A0 nL cells slots Q ws1 (pc + 1) lv st) : WW p l e R s m args below meth c D cl A0 nL cells slots Q ws pc lv (.long x :: .int i :: .ref a :: st) :=
  fun _ _ ls hP hS hl => va_last hx hb hK hP hD hS q0 t0 ha ht hin hd (fun H1 locs1 hP1 _ hS1 => kk H1 locs1 ls (hw1 ▸ hP1) hS1 hl)
theorem ww_alen (hx : p.tables.exec = Jvm.exec) (hb : c.code = cc) {own : String} (hown : s.vm.findClass own = some m.cls) (hts : ∀ w ∈ wALL, w.before args s = true) (hK : va_K D cl tys s) {a : Nat} (q0 t0 : Nat) {cA : ClassId} {x : vp_A} (ha : ws[q0]? = some (a, .inl (cA, x))) {ty : FieldType} (ht : tys[t0]? = some (cA, ty)) {v : Int32} (hv : Int32.ofNat x.1 = v) (hd : decode cc pc = .ok (.arraylength, 1))
    (kk : WW p l e R s m args below meth c D cl A0 nL cells slots Q ws (pc + 1) lv (.int v :: st)) : WW p l e R s m args below meth c D cl A0 nL cells slots Q ws pc lv (.ref a :: st) :=
  fun H locs ls hP hS hl => va_alen hx hb hK hP q0 t0 ha ht hv hd (kk H locs ls hP hS hl)
end WWS
end
section
/-! Contracts over worlds told by lists, and calls by them. -/
def rmc (fr lo mc ms : Nat) : Room := { frames := fr, cells := mc, slots := ms, locals := lo }
def pcW (D : va_G) (cl : List vw_C) (tys : List (ClassId × FieldType)) (ws : va_W) (As : List Value) (sz : Nat) : Array Value → State → Prop := va_Pc As (fun U => U.heap.size = sz ∧ va_P D cl ws U.heap ∧ va_K D cl tys U ∧ va_D (fun _ => True) ws ∧ NWs U)
def qcW (D : va_G) (cl : List vw_C) (ws ws1 : va_W) (r : Option Value) (sz : Nat) : Array Value → State → Outcome → State → Prop := fun _ st oc t => (oc = .returned r ∧ va_P D cl ws1 t.heap) ∧ va_F (va_A ws sz) st t
/-- the method y, in a world ws with the arguments As: it returns r, the world is ws1 -/
def Ct (l : Launch) (y : MethodName) (cc : ByteArray) (maxL : Nat) (ret : Option FieldType) (fr lo : Nat) (D : va_G) (cl : List vw_C) (tys : List (ClassId × FieldType)) (ws ws1 : va_W) (As : List Value) (r : Option Value) : Prop :=
  ∀ sz : Nat, Met l y (.code y cc maxL ret :: wALL) (rmc fr lo 0 0) (pcW D cl tys ws As sz) (qcW D cl ws ws1 r sz) 0 0 (va_A ws sz)
theorem pcW_blind {D : va_G} {cl : List vw_C} {tys : List (ClassId × FieldType)} {ws : va_W} {As : List Value} {sz : Nat} : FrameBlind (pcW D cl tys ws As sz) := fun a U g mk h => by
  obtain ⟨ha, h1, h2, h3, h4, h5⟩ := h
  exact ⟨ha, h1, h2, va_K.moved (u := U) (U := U.calling g mk a) (Vm.Alike.refl U.vm) h3, h4, h5.call⟩
theorem pcW_pre {D : va_G} {cl : List vw_C} {tys : List (ClassId × FieldType)} {ws : va_W} {As : List Value} {s : State} {H : Heap} {A0 : Nat → Prop} (hP : va_P D cl ws H) (hK : va_K D cl tys s) (hD : va_D A0 ws) (hN : NWs s) : PreS s H (pcW D cl tys ws As H.size) As :=
  ⟨pcW_blind, fun U hU hW => ⟨rfl, by rw [hU], by rw [hU]; exact hP, va_K.moved hW.alike hK, hD.weaken (fun _ _ _ _ => trivial), hN.warm hW⟩⟩
theorem va_A_in {A0 : Nat → Prop} {ws : va_W} {H0 H : Heap} {locs : List Loc} (hD : va_D A0 ws) (hS : va_S A0 H0 H locs) (hA : ∀ q, H0.size ≤ q → A0 q) : ∀ q, va_A ws H.size q → A0 q := by
  intro q h
  rcases h with ⟨k, e, h⟩ | h
  · exact hD.2 k (q, e) h
  · exact hA q (Nat.le_trans hS.1 h)
theorem isZ_narrow {v : Int32} (h : v &&& 1 = v) : narrow .boolean (.int v) = .int v := by
  show Value.int (v &&& 1) = .int v
  rw [h]
theorem isZ_or {v : Int32} (h : v &&& 1 = v) : v = 0 ∨ v = 1 := by
  have h1 : (v.toBitVec &&& 1#32) = v.toBitVec := congrArg Int32.toBitVec h
  have h2 : v.toBitVec.toNat % 2 = v.toBitVec.toNat := by
    have h3 := congrArg BitVec.toNat h1
    rw [BitVec.toNat_and] at h3
    have h4 : (1#32).toNat = 1 := rfl
    rw [h4, Nat.and_one_is_mod] at h3
    exact h3
  have h5 : v.toBitVec.toNat = 0 ∨ v.toBitVec.toNat = 1 := by omega
  rcases h5 with h5 | h5
  · exact Or.inl (Int32.toBitVec_inj.mp (BitVec.eq_of_toNat_eq (by rw [h5]; rfl)))
  · exact Or.inr (Int32.toBitVec_inj.mp (BitVec.eq_of_toNat_eq (by rw [h5]; rfl)))
theorem isZ_fits {v : Int32} (h : v &&& 1 = v) : fits .boolean (.int v) = true := by
  rcases isZ_or h with rfl | rfl <;> rfl
theorem os2 {α β : Type} {a c : α} {b d : β} (h : some (a, b) = some (c, d)) : a = c ∧ b = d := by cases h; exact ⟨rfl, rfl⟩
theorem os1 {α : Type} {a c : α} (h : some a = some c) : a = c := Option.some.inj h
theorem ct_of {l : Launch} {y : MethodName} {cc : ByteArray} {maxL : Nat} {ret : Option FieldType} {fr lo : Nat} {D : va_G} {cl : List vw_C} {tys : List (ClassId × FieldType)} {ws ws1 : va_W} {As : List Value} {r : Option Value} (hy : plainName y.cls = true) (hlen : (lg_sl As).length ≤ maxL)
    (body : ∀ (p : Program) (e : Env) (s : State) (m : MethodId) (args : Array Value) (below : List Frame) (meth : Method) (c : Code), p.tables.exec = Jvm.exec → c.code = cc → meth.sig.returnType = ret → meth.locks = false → c.maxLocals = maxL → s.vm.findClass y.cls = some m.cls → (∀ w ∈ wALL, w.before args s = true) → va_K D cl tys s → va_D (va_A ws s.heap.size) ws → NWs s → (∀ q, s.heap.size ≤ q → va_A ws s.heap.size q) →
      WW p l e (rmc fr lo 0 0) s m args below meth c D cl (va_A ws s.heap.size) maxL 0 0 (MQ below (qcW D cl ws ws1 r s.heap.size) args s 0 0 (va_A ws s.heap.size)) ws 0 (lv_args 0 As) []) : Ct l y cc maxL ret fr lo D cl tys ws ws1 As r := by
  intro sz
  refine Met.ofW (cc := cc) (maxL := maxL) (ret := ret) hy rfl ?_
  intro p e s m args below meth c s₁ B hml hv
  obtain ⟨rfl, hsz, hP, hK, hD0, hN⟩ := hv
  have hts := atoms_spec (ws := .code y cc maxL ret :: wALL) B.pre
  subst hsz
  have hl := lv_entry As (n := maxL) hlen
  rw [lg_entry_eq]
  exact body p e s m As.toArray below meth c B.exec B.bytes B.returns B.notSynchronized hml (findClass_of_methodNamed B.named) (fun w hw => hts w (List.mem_cons_of_mem _ hw)) hK hD0.self hN (fun q h => Or.inr h) s.heap [] _ hP va_S.rf hl
/-- what a call's site and its target owe to the tables -/
def csV (own C : String) (index : Nat) (y : MethodName) (cc : ByteArray) (maxL : Nat) (ret : Option FieldType) (n : Nat) : Prop :=
  Cond.methodLink own index y ∈ wALL ∧ Cond.instanceMethod y ∈ wALL ∧ Cond.selects C y y ∈ wALL ∧ Cond.initialized C ∈ wALL ∧ Cond.code y cc maxL ret ∈ wALL ∧ (y.cls = C ∧ y.cls ≠ "java/lang/invoke/MethodHandle" ∧ y.cls ≠ "java/lang/invoke/VarHandle" ∧ (parseMethodDescriptor y.desc).map (fun d => d.parameters.length) = some n)
def csS (own : String) (index : Nat) (y : MethodName) (cc : ByteArray) (maxL : Nat) (ret : Option FieldType) (n : Nat) : Prop :=
  Cond.methodLink own index y ∈ wALL ∧ Cond.static y ∈ wALL ∧ Cond.initialized y.cls ∈ wALL ∧ Cond.code y cc maxL ret ∈ wALL ∧ (y.cls ≠ "java/lang/invoke/MethodHandle" ∧ y.cls ≠ "java/lang/invoke/VarHandle" ∧ (parseMethodDescriptor y.desc).map (fun d => d.parameters.length) = some n)
def csN (own : String) (index : Nat) (y : MethodName) (host : String) (cc : ByteArray) (maxL : Nat) (ret : Option FieldType) (n : Nat) : Prop :=
  (own, index, y, host) ∈ nestL ∧ Cond.static y ∈ wALL ∧ Cond.initialized y.cls ∈ wALL ∧ Cond.code y cc maxL ret ∈ wALL ∧ (y.cls ≠ "java/lang/invoke/MethodHandle" ∧ y.cls ≠ "java/lang/invoke/VarHandle" ∧ (parseMethodDescriptor y.desc).map (fun d => d.parameters.length) = some n)
section CLS
variable {p : Program} {l : Launch} {e : Env} {R : Room} {s : State} {m : MethodId} {args : Array Value} {below : List Frame} {meth : Method} {c : Code} {cells slots : Nat} {Q : State → Prop}
variable {D : va_G} {cl : List vw_C} {tys : List (ClassId × FieldType)} {A0 : Nat → Prop} {nL : Nat} {ws ws1 : va_W} {cc : ByteArray} {pc : Nat} {lv lv1 : List (Nat × Value)} {st : List Value}
/-- behind a call by Ct -/
theorem ww_run {H : Heap} {locs : List Loc} {ls : Array Slot} {g : JFrame} {rest : List Value} {a : Array Value} {r : Option Value} (hr : va_Run p l e R s m args below meth c H locs cells slots 0 0 g rest (qcW D cl ws ws1 r H.size a) (va_A ws H.size)) (hg : g = F0 m pc ls st) (hD : va_D A0 ws) (hA : ∀ q, s.heap.size ≤ q → A0 q) (hS : va_S A0 s.heap H locs) (hl : lv_has ls nL lv)
    (kk : WW p l e R s m args below meth c D cl A0 nL cells slots Q ws1 (pc + 3) lv (r.toList ++ rest)) : W p l e R s m args below meth c H locs cells slots Q (F0 m pc ls st) := by
  subst hg
  intro T hT X
  obtain ⟨v, st₀, t, T', L, h0, X', hL, e1, e2, ⟨⟨hv, hP1⟩, hF⟩, stp⟩ := hr T hT X
  cases hv
  have hfree := va_A_in hD hS hA
  obtain ⟨-, -, k3⟩ := vx_keep h0 e1 hS (fun q _ h => hfree q h) hfree hL hF
  obtain ⟨t2, a1, b1⟩ := kk T'.heap (locs ++ L) ls (by rw [e1]; exact hP1) k3 hl T' rfl X'
  exact ⟨t2, stp t2 a1, b1⟩
theorem ww_callV (hx : p.tables.exec = Jvm.exec) (hb : c.code = cc) (hml : c.maxLocals = nL) {own : String} (hown : s.vm.findClass own = some m.cls) (hts : ∀ w ∈ wALL, w.before args s = true) (hK : va_K D cl tys s) (hN : NWs s) (hA : ∀ q, s.heap.size ≤ q → A0 q) (hD : va_D A0 ws) (hc : cells ≤ R.cells) (hs : slots ≤ R.slots) {y : MethodName} {bytes : ByteArray} {maxL index n fr lo b ci : Nat} {ret : Option FieldType} {C : String} {r : Option Value} {T : u_T} {N : Nat} {fs : List Value} (As rest : List Value) (hC : Ct l y bytes maxL ret fr lo D cl tys ws ws1 (.ref b :: As) r) (hk : csV own C index y bytes maxL ret n) (hn : As.length = n) (hR : fr + 1 ≤ R.frames ∧ 8 + (maxL + 11) + lo ≤ R.locals) (q0 : Nat) (he : ws[q0]? = some (b, .inr (ci, fs))) (hcl : cl[ci]? = some (C, T, N)) (hst : st = As.reverse ++ .ref b :: rest) (hW : (rest.map fun v => v.category).sum ≤ 8) (hd : decode cc pc = .ok (.invokevirtual index, 3)) {st1 : List Value} (hr1 : r.toList ++ rest = st1)
    (kk : WW p l e R s m args below meth c D cl A0 nL cells slots Q ws1 (pc + 3) lv st1) : WW p l e R s m args below meth c D cl A0 nL cells slots Q ws pc lv st := by
  intro H locs ls hP hS hl
  obtain ⟨k1, k2, k3, k4, k5, hd5⟩ := hk
  obtain ⟨hC5, hd5⟩ := hd5
  have cw : CallW R s args own C index y bytes maxL ret (.code y bytes maxL ret :: wALL) (rmc fr lo 0 0) 0 0 n := ⟨callB_of n hts (all_in0 k5) rfl rfl rfl (hts _ (by rw [hC5]; exact k4)) (hts _ k1) hd5 hR, hts _ k2, hts _ k3⟩
  have hp : PreV s H C b (pcW D cl tys ws (.ref b :: As) H.size) As := ⟨pcW_blind, va_recv hK hP hcl he, (pcW_pre hP hK hD hN).2⟩
  exact ww_run (va_runV (g := F0 m pc ls st) (rest := rest) ⟨hx, hb, hml, hown, hts⟩ (hC H.size) cw hp rfl hn hl.1 hst (lv_room hW) hd ⟨hc, hs⟩) rfl hD hA hS hl (hr1 ▸ kk)
theorem ww_callS (hx : p.tables.exec = Jvm.exec) (hb : c.code = cc) (hml : c.maxLocals = nL) {own : String} (hown : s.vm.findClass own = some m.cls) (hts : ∀ w ∈ wALL, w.before args s = true) (hK : va_K D cl tys s) (hN : NWs s) (hA : ∀ q, s.heap.size ≤ q → A0 q) (hD : va_D A0 ws) (hc : cells ≤ R.cells) (hs : slots ≤ R.slots) {y : MethodName} {bytes : ByteArray} {maxL index n fr lo : Nat} {ret : Option FieldType} {r : Option Value} (As rest : List Value) (hC : Ct l y bytes maxL ret fr lo D cl tys ws ws1 As r) (hk : csS own index y bytes maxL ret n) (hn : As.length = n) (hR : fr + 1 ≤ R.frames ∧ 8 + (maxL + 11) + lo ≤ R.locals) (hst : st = As.reverse ++ rest) (hW : (rest.map fun v => v.category).sum ≤ 8) (hd : decode cc pc = .ok (.invokestatic index, 3)) {st1 : List Value} (hr1 : r.toList ++ rest = st1)
    (kk : WW p l e R s m args below meth c D cl A0 nL cells slots Q ws1 (pc + 3) lv st1) : WW p l e R s m args below meth c D cl A0 nL cells slots Q ws pc lv st := by
  intro H locs ls hP hS hl
  obtain ⟨k1, k2, k3, k5, hd5⟩ := hk
  have cw : CallB R s args own index y bytes maxL ret (.code y bytes maxL ret :: wALL) (rmc fr lo 0 0) 0 0 n ∧ (Cond.static y).before args s = true := ⟨callB_of n hts (all_in0 k5) rfl rfl rfl (hts _ k3) (hts _ k1) hd5 hR, hts _ k2⟩
  exact ww_run (va_runS (g := F0 m pc ls st) (rest := rest) ⟨hx, hb, hml, hown, hts⟩ (hC H.size) cw (pcW_pre hP hK hD hN) rfl hn hl.1 hst (lv_room hW) hd ⟨hc, hs⟩) rfl hD hA hS hl (hr1 ▸ kk)
theorem ww_callN (hx : p.tables.exec = Jvm.exec) (hb : c.code = cc) (hml : c.maxLocals = nL) {own : String} (hown : s.vm.findClass own = some m.cls) (hts : ∀ w ∈ wALL, w.before args s = true) (hK : va_K D cl tys s) (hN : NWs s) (hA : ∀ q, s.heap.size ≤ q → A0 q) (hD : va_D A0 ws) (hc : cells ≤ R.cells) (hs : slots ≤ R.slots) {y : MethodName} {bytes : ByteArray} {maxL index n fr lo : Nat} {host : String} {ret : Option FieldType} {r : Option Value} (As rest : List Value) (hC : Ct l y bytes maxL ret fr lo D cl tys ws ws1 As r) (hk : csN own index y host bytes maxL ret n) (hn : As.length = n) (hR : fr + 1 ≤ R.frames ∧ 8 + (maxL + 11) + lo ≤ R.locals) (hst : st = As.reverse ++ rest) (hW : (rest.map fun v => v.category).sum ≤ 8) (hd : decode cc pc = .ok (.invokestatic index, 3)) {st1 : List Value} (hr1 : r.toList ++ rest = st1)
    (kk : WW p l e R s m args below meth c D cl A0 nL cells slots Q ws1 (pc + 3) lv st1) : WW p l e R s m args below meth c D cl A0 nL cells slots Q ws pc lv st := by
  intro H locs ls hP hS hl
  obtain ⟨k1, k2, k3, k5, hd5⟩ := hk
  have cw : va_CN R s args own index y host bytes maxL ret (.code y bytes maxL ret :: wALL) (rmc fr lo 0 0) 0 0 n ∧ (Cond.static y).before args s = true ∧ True := ⟨va_cnB n hts (all_in0 k5) rfl rfl rfl (hN.1 _ k1) (hts _ k3) hd5 hR, hts _ k2, trivial⟩
  exact ww_run (va_runSN (g := F0 m pc ls st) (rest := rest) ⟨hx, hb, hml, hown, hts⟩ (hC H.size) cw (pcW_pre hP hK hD hN) rfl hn hl.1 hst (lv_room hW) hd ⟨hc, hs⟩) rfl hD hA hS hl (hr1 ▸ kk)
def imax (x y : Int32) : Int32 := if x < y then y else x
def imin (x y : Int32) : Int32 := if y < x then y else x
theorem ww_iret (hx : p.tables.exec = Jvm.exec) (hb : c.code = cc) {ws0 : va_W} {v : Int32} {r : Option Value} (hr : meth.sig.returnType = some .int) (hlk : meth.locks = false) (hv : some (.int v) = r) (hd : decode cc pc = .ok (.ireturn, 1)) : WW p l e R s m args below meth c D cl (va_A ws0 s.heap.size) nL cells slots (MQ below (qcW D cl ws0 ws r s.heap.size) args s cells slots (va_A ws0 s.heap.size)) ws pc lv [.int v] :=
  fun _ _ _ hP hS _ => W.iret hx hb hr (fun t ht _ => ⟨⟨by rw [hv], by rw [ht]; exact hP⟩, hS.F ht⟩) hS.2.2 hd hlk
theorem ww_zret (hx : p.tables.exec = Jvm.exec) (hb : c.code = cc) {ws0 : va_W} {v : Int32} {r : Option Value} (hr : meth.sig.returnType = some .boolean) (hlk : meth.locks = false) (hz : v &&& 1 = v) (hv : some (.int v) = r) (hd : decode cc pc = .ok (.ireturn, 1)) : WW p l e R s m args below meth c D cl (va_A ws0 s.heap.size) nL cells slots (MQ below (qcW D cl ws0 ws r s.heap.size) args s cells slots (va_A ws0 s.heap.size)) ws pc lv [.int v] :=
  fun _ _ _ hP hS _ => W.zret hx hb hr (isZ_narrow hz) (fun t ht _ => ⟨⟨by rw [hv], by rw [ht]; exact hP⟩, hS.F ht⟩) hS.2.2 hd hlk
theorem ww_vret (hx : p.tables.exec = Jvm.exec) (hb : c.code = cc) {ws0 : va_W} (hr : meth.sig.returnType = none) (hlk : meth.locks = false) (hd : decode cc pc = .ok (.return_, 1)) : WW p l e R s m args below meth c D cl (va_A ws0 s.heap.size) nL cells slots (MQ below (qcW D cl ws0 ws none s.heap.size) args s cells slots (va_A ws0 s.heap.size)) ws pc lv [] :=
  fun _ _ _ hP hS _ => W.vret hx hb hr (fun t ht _ => ⟨⟨rfl, by rw [ht]; exact hP⟩, hS.F ht⟩) hS.2.2 hd hlk
theorem ww_max (hx : p.tables.exec = Jvm.exec) (hb : c.code = cc) (hml : c.maxLocals = nL) {own : String} (hown : s.vm.findClass own = some m.cls) (hts : ∀ w ∈ wALL, w.before args s = true) (hc : cells ≤ R.cells) (hs : slots ≤ R.slots) {x y : Int32} {index : Nat} {rest : List Value} (k1 : Cond.methodLink own index Lib.Math.max.name ∈ wALL) (k2 : Cond.static Lib.Math.max.name ∈ wALL) (k3 : Cond.initialized "java/lang/Math" ∈ wALL) (k4 : Cond.code Lib.Math.max.name Lib.Math.max.code 2 (some .int) ∈ wALL) (hR : 1 ≤ R.frames ∧ (rest.map fun v => v.category).sum + 13 ≤ R.locals) (hd : decode cc pc = .ok (.invokestatic index, 3))
    (kk : WW p l e R s m args below meth c D cl A0 nL cells slots Q ws (pc + 3) lv (.int (imax x y) :: rest)) : WW p l e R s m args below meth c D cl A0 nL cells slots Q ws pc lv (.int y :: .int x :: rest) :=
  fun H locs ls hP hS hl => va_mmax hx hb (hml.trans hl.1.symm) hown (hts _ k1) (hts _ k2) (hts _ k3) (hts _ k4) hR.1 hR.2 hc hs hd (kk H locs ls hP hS hl)
theorem ww_min (hx : p.tables.exec = Jvm.exec) (hb : c.code = cc) (hml : c.maxLocals = nL) {own : String} (hown : s.vm.findClass own = some m.cls) (hts : ∀ w ∈ wALL, w.before args s = true) (hc : cells ≤ R.cells) (hs : slots ≤ R.slots) {x y : Int32} {index : Nat} {rest : List Value} (k1 : Cond.methodLink own index Lib.Math.min.name ∈ wALL) (k2 : Cond.static Lib.Math.min.name ∈ wALL) (k3 : Cond.initialized "java/lang/Math" ∈ wALL) (k4 : Cond.code Lib.Math.min.name Lib.Math.min.code 2 (some .int) ∈ wALL) (hR : 1 ≤ R.frames ∧ (rest.map fun v => v.category).sum + 13 ≤ R.locals) (hd : decode cc pc = .ok (.invokestatic index, 3))
    (kk : WW p l e R s m args below meth c D cl A0 nL cells slots Q ws (pc + 3) lv (.int (imin x y) :: rest)) : WW p l e R s m args below meth c D cl A0 nL cells slots Q ws pc lv (.int y :: .int x :: rest) :=
  fun H locs ls hP hS hl => va_mmin hx hb (hml.trans hl.1.symm) hown (hts _ k1) (hts _ k2) (hts _ k3) (hts _ k4) hR.1 hR.2 hc hs hd (kk H locs ls hP hS hl)
end CLS
end
section
/-- the class's world: its five objects and seventeen rows -/
abbrev WC (q : Nat → Nat) (cA : ClassId) (σ : SS) : va_W := [(q 0, .inr (4, [.ref (q 2), .ref (q 1), .ref (q 3), .ref (q 4), .int (σ 0 4), .int (σ 0 5), .int (σ 0 6)])), (q 1, .inr (2, [.ref (q 2), .ref (q 10), .ref (q 11), .ref (q 12), .ref (q 13), .int (σ 1 5), .int (σ 1 6), .int (σ 1 7)])), (q 2, .inr (3, [.ref (q 5), .ref (q 6), .ref (q 7), .ref (q 8), .ref (q 9), .int (σ 2 5), .int (σ 2 6), .int (σ 2 7), .int (σ 2 8)])), (q 3, .inr (0, [.ref (q 14), .int (σ 3 1), .int (σ 3 2), .int (σ 3 3)])), (q 4, .inr (1, [.ref (q 15), .ref (q 16), .ref (q 17), .ref (q 18), .ref (q 19), .ref (q 20), .ref (q 21), .int (σ 4 7), .int (σ 4 8), .int (σ 4 9)])), (q 5, .inl (cA, 8, .inl (σ 5))), (q 6, .inl (cA, 8, .inl (σ 6))), (q 7, .inl (cA, 8, .inl (σ 7))), (q 8, .inl (cA, 8, .inl (σ 8))), (q 9, .inl (cA, 8, .inl (σ 9))), (q 10, .inl (cA, 8, .inl (σ 10))), (q 11, .inl (cA, 8, .inl (σ 11))), (q 12, .inl (cA, 8, .inl (σ 12))), (q 13, .inl (cA, 8, .inl (σ 13))), (q 14, .inl (cA, 4, .inl (σ 14))), (q 15, .inl (cA, 10, .inl (σ 15))), (q 16, .inl (cA, 10, .inl (σ 16))), (q 17, .inl (cA, 12, .inl (σ 17))), (q 18, .inl (cA, 12, .inl (σ 18))), (q 19, .inl (cA, 12, .inl (σ 19))), (q 20, .inl (cA, 12, .inl (σ 20))), (q 21, .inl (cA, 6, .inl (σ 21)))]
/-- the reference's world: its object and eighteen rows -/
abbrev WR (q : Nat → Nat) (cA : ClassId) (σ : SS) : va_W := [(q 0, .inr (5, [.int (σ 0 0), .ref (q 1), .ref (q 2), .ref (q 3), .ref (q 4), .ref (q 5), .int (σ 0 6), .ref (q 6), .int (σ 0 8), .int (σ 0 9), .int (σ 0 10), .int (σ 0 11), .int (σ 0 12), .int (σ 0 13), .ref (q 7), .ref (q 8), .int (σ 0 16), .int (σ 0 17), .int (σ 0 18), .ref (q 9), .ref (q 10), .ref (q 11), .int (σ 0 22), .int (σ 0 23), .int (σ 0 24), .int (σ 0 25), .ref (q 12), .ref (q 13), .int (σ 0 28), .ref (q 14), .ref (q 15), .ref (q 16), .ref (q 17), .ref (q 18), .int (σ 0 34), .int (σ 0 35)])), (q 1, .inl (cA, 8, .inl (σ 1))), (q 2, .inl (cA, 8, .inl (σ 2))), (q 3, .inl (cA, 8, .inl (σ 3))), (q 4, .inl (cA, 8, .inl (σ 4))), (q 5, .inl (cA, 8, .inl (σ 5))), (q 6, .inl (cA, 8, .inl (σ 6))), (q 7, .inl (cA, 8, .inl (σ 7))), (q 8, .inl (cA, 8, .inl (σ 8))), (q 9, .inl (cA, 9, .inl (σ 9))), (q 10, .inl (cA, 9, .inl (σ 10))), (q 11, .inl (cA, 4, .inl (σ 11))), (q 12, .inl (cA, 10, .inl (σ 12))), (q 13, .inl (cA, 10, .inl (σ 13))), (q 14, .inl (cA, 12, .inl (σ 14))), (q 15, .inl (cA, 12, .inl (σ 15))), (q 16, .inl (cA, 12, .inl (σ 16))), (q 17, .inl (cA, 12, .inl (σ 17))), (q 18, .inl (cA, 6, .inl (σ 18)))]
theorem inA0 : ∀ w ∈ u_ws RX0 TX0 4, w ∈ wALL := List.forall_mem_cons.mpr ⟨tk1 (i := 118) rfl rfl, List.forall_mem_cons.mpr ⟨tk1 (i := 120) rfl rfl, List.forall_mem_cons.mpr ⟨tk1 (i := 122) rfl rfl, List.forall_mem_cons.mpr ⟨tk1 (i := 124) rfl rfl, fun _ h => absurd h List.not_mem_nil⟩⟩⟩⟩
theorem inA1 : ∀ w ∈ u_ws RX1 TX1 10, w ∈ wALL := List.forall_mem_cons.mpr ⟨tk1 (i := 148) rfl rfl, List.forall_mem_cons.mpr ⟨tk1 (i := 150) rfl rfl, List.forall_mem_cons.mpr ⟨tk1 (i := 152) rfl rfl, List.forall_mem_cons.mpr ⟨tk1 (i := 154) rfl rfl, List.forall_mem_cons.mpr ⟨tk1 (i := 156) rfl rfl, List.forall_mem_cons.mpr ⟨tk1 (i := 158) rfl rfl, List.forall_mem_cons.mpr ⟨tk1 (i := 160) rfl rfl, List.forall_mem_cons.mpr ⟨tk1 (i := 162) rfl rfl, List.forall_mem_cons.mpr ⟨tk1 (i := 164) rfl rfl, List.forall_mem_cons.mpr ⟨tk1 (i := 166) rfl rfl, fun _ h => absurd h List.not_mem_nil⟩⟩⟩⟩⟩⟩⟩⟩⟩⟩
theorem inA2 : ∀ w ∈ u_ws RX2 TX2 8, w ∈ wALL := List.forall_mem_cons.mpr ⟨tk1 (i := 87) rfl rfl, List.forall_mem_cons.mpr ⟨tk1 (i := 89) rfl rfl, List.forall_mem_cons.mpr ⟨tk1 (i := 91) rfl rfl, List.forall_mem_cons.mpr ⟨tk1 (i := 93) rfl rfl, List.forall_mem_cons.mpr ⟨tk1 (i := 95) rfl rfl, List.forall_mem_cons.mpr ⟨tk1 (i := 97) rfl rfl, List.forall_mem_cons.mpr ⟨tk1 (i := 99) rfl rfl, List.forall_mem_cons.mpr ⟨tk1 (i := 101) rfl rfl, fun _ h => absurd h List.not_mem_nil⟩⟩⟩⟩⟩⟩⟩⟩
theorem inA3 : ∀ w ∈ u_ws RX3 TX3 9, w ∈ wALL := List.forall_mem_cons.mpr ⟨tk1 (i := 54) rfl rfl, List.forall_mem_cons.mpr ⟨tk1 (i := 56) rfl rfl, List.forall_mem_cons.mpr ⟨tk1 (i := 58) rfl rfl, List.forall_mem_cons.mpr ⟨tk1 (i := 60) rfl rfl, List.forall_mem_cons.mpr ⟨tk1 (i := 62) rfl rfl, List.forall_mem_cons.mpr ⟨tk1 (i := 64) rfl rfl, List.forall_mem_cons.mpr ⟨tk1 (i := 66) rfl rfl, List.forall_mem_cons.mpr ⟨tk1 (i := 68) rfl rfl, List.forall_mem_cons.mpr ⟨tk1 (i := 70) rfl rfl, fun _ h => absurd h List.not_mem_nil⟩⟩⟩⟩⟩⟩⟩⟩⟩
theorem inA4 : ∀ w ∈ u_ws RX4 TX4 7, w ∈ wALL := List.forall_mem_cons.mpr ⟨tk1 (i := 176) rfl rfl, List.forall_mem_cons.mpr ⟨tk1 (i := 178) rfl rfl, List.forall_mem_cons.mpr ⟨tk1 (i := 180) rfl rfl, List.forall_mem_cons.mpr ⟨tk1 (i := 182) rfl rfl, List.forall_mem_cons.mpr ⟨tk1 (i := 184) rfl rfl, List.forall_mem_cons.mpr ⟨tk1 (i := 186) rfl rfl, List.forall_mem_cons.mpr ⟨tk1 (i := 188) rfl rfl, fun _ h => absurd h List.not_mem_nil⟩⟩⟩⟩⟩⟩⟩
theorem inA5 : ∀ w ∈ u_ws RX5 TX5 36, w ∈ wALL := List.forall_mem_cons.mpr ⟨tk3 (i := 198) rfl rfl, List.forall_mem_cons.mpr ⟨tk3 (i := 200) rfl rfl, List.forall_mem_cons.mpr ⟨tk3 (i := 202) rfl rfl, List.forall_mem_cons.mpr ⟨tk3 (i := 204) rfl rfl, List.forall_mem_cons.mpr ⟨tk3 (i := 206) rfl rfl, List.forall_mem_cons.mpr ⟨tk3 (i := 208) rfl rfl, List.forall_mem_cons.mpr ⟨tk3 (i := 210) rfl rfl, List.forall_mem_cons.mpr ⟨tk3 (i := 212) rfl rfl, List.forall_mem_cons.mpr ⟨tk3 (i := 214) rfl rfl, List.forall_mem_cons.mpr ⟨tk3 (i := 216) rfl rfl, List.forall_mem_cons.mpr ⟨tk3 (i := 218) rfl rfl, List.forall_mem_cons.mpr ⟨tk3 (i := 220) rfl rfl, List.forall_mem_cons.mpr ⟨tk3 (i := 222) rfl rfl, List.forall_mem_cons.mpr ⟨tk3 (i := 224) rfl rfl, List.forall_mem_cons.mpr ⟨tk3 (i := 226) rfl rfl, List.forall_mem_cons.mpr ⟨tk3 (i := 228) rfl rfl, List.forall_mem_cons.mpr ⟨tk3 (i := 230) rfl rfl, List.forall_mem_cons.mpr ⟨tk3 (i := 232) rfl rfl, List.forall_mem_cons.mpr ⟨tk3 (i := 234) rfl rfl, List.forall_mem_cons.mpr ⟨tk3 (i := 236) rfl rfl, List.forall_mem_cons.mpr ⟨tk3 (i := 238) rfl rfl, List.forall_mem_cons.mpr ⟨tk4 (i := 0) rfl rfl, List.forall_mem_cons.mpr ⟨tk4 (i := 2) rfl rfl, List.forall_mem_cons.mpr ⟨tk4 (i := 4) rfl rfl, List.forall_mem_cons.mpr ⟨tk4 (i := 6) rfl rfl, List.forall_mem_cons.mpr ⟨tk4 (i := 8) rfl rfl, List.forall_mem_cons.mpr ⟨tk4 (i := 10) rfl rfl, List.forall_mem_cons.mpr ⟨tk4 (i := 12) rfl rfl, List.forall_mem_cons.mpr ⟨tk4 (i := 14) rfl rfl, List.forall_mem_cons.mpr ⟨tk4 (i := 16) rfl rfl, List.forall_mem_cons.mpr ⟨tk4 (i := 18) rfl rfl, List.forall_mem_cons.mpr ⟨tk4 (i := 20) rfl rfl, List.forall_mem_cons.mpr ⟨tk4 (i := 22) rfl rfl, List.forall_mem_cons.mpr ⟨tk4 (i := 24) rfl rfl, List.forall_mem_cons.mpr ⟨tk4 (i := 26) rfl rfl, List.forall_mem_cons.mpr ⟨tk4 (i := 28) rfl rfl, fun _ h => absurd h List.not_mem_nil⟩⟩⟩⟩⟩⟩⟩⟩⟩⟩⟩⟩⟩⟩⟩⟩⟩⟩⟩⟩⟩⟩⟩⟩⟩⟩⟩⟩⟩⟩⟩⟩⟩⟩⟩⟩
theorem kw_0 : Cond.fieldLink RX3 27 "Scripthouse$Scenes" "count" "I" ∈ wALL := tk1 (i := 44) rfl rfl
theorem kw_1 : Cond.fieldLink RX2 31 "Scripthouse$Planner" "isMade" "Z" ∈ wALL := tk1 (i := 86) rfl rfl
theorem kw_2 : Cond.fieldLink RX3 9 "Scripthouse$Scenes" "hours" "[I" ∈ wALL := tk1 (i := 35) rfl rfl
theorem kw_3 : Cond.static yX4_put ∈ wALL := tk1 (i := 233) rfl rfl
theorem kw_4 : Cond.initialized RX4 ∈ wALL := tk1 (i := 1) rfl rfl
theorem kw_5 : Cond.code yX4_put cX4_put 3 none ∈ wALL := tk1 (i := 234) rfl rfl
theorem kw_6 : Cond.fieldLink RX3 15 "Scripthouse$Scenes" "places" "[I" ∈ wALL := tk1 (i := 37) rfl rfl
theorem kw_7 : Cond.fieldLink RX3 18 "Scripthouse$Scenes" "players" "[I" ∈ wALL := tk1 (i := 39) rfl rfl
theorem kw_8 : Cond.fieldLink RX3 21 "Scripthouse$Scenes" "lights" "[I" ∈ wALL := tk1 (i := 41) rfl rfl
theorem kw_9 : Cond.fieldLink RX3 24 "Scripthouse$Scenes" "aheads" "[I" ∈ wALL := tk1 (i := 43) rfl rfl
theorem kw_10 : Cond.methodLink RX4 42 yX4_isWithin ∈ wALL := tk2 (i := 90) rfl rfl
theorem kw_11 : Cond.static yX4_isWithin ∈ wALL := tk2 (i := 91) rfl rfl
theorem kw_12 : Cond.code yX4_isWithin cX4_isWithin 3 (some .boolean) ∈ wALL := tk2 (i := 92) rfl rfl
theorem kw_13 : Cond.fieldLink RX4 20 "Scripthouse" "scenes" "LScripthouse$Scenes;" ∈ wALL := tk1 (i := 169) rfl rfl
theorem kw_14 : Cond.methodLink RX4 46 yX3_everyScene ∈ wALL := tk2 (i := 93) rfl rfl
theorem kw_15 : Cond.instanceMethod yX3_everyScene ∈ wALL := tk1 (i := 215) rfl rfl
theorem kw_16 : Cond.selects RX3 yX3_everyScene yX3_everyScene ∈ wALL := tk1 (i := 216) rfl rfl
theorem kw_17 : Cond.initialized RX3 ∈ wALL := tk1 (i := 3) rfl rfl
theorem kw_18 : Cond.code yX3_everyScene cX3_everyScene 1 (some .int) ∈ wALL := tk1 (i := 217) rfl rfl
theorem kw_19 : Cond.fieldLink RX4 55 "Scripthouse$Scenes" "count" "I" ∈ wALL := tk1 (i := 45) rfl rfl
theorem kw_20 : Cond.fieldLink RX4 10 "Scripthouse" "planner" "LScripthouse$Planner;" ∈ wALL := tk1 (i := 170) rfl rfl
theorem kw_21 : Cond.methodLink RX4 61 yX2_forget ∈ wALL := tk2 (i := 172) rfl rfl
theorem kw_22 : Cond.instanceMethod yX2_forget ∈ wALL := tk2 (i := 173) rfl rfl
theorem kw_23 : Cond.selects RX2 yX2_forget yX2_forget ∈ wALL := tk2 (i := 174) rfl rfl
theorem kw_24 : Cond.initialized RX2 ∈ wALL := tk1 (i := 2) rfl rfl
theorem kw_25 : Cond.code yX2_forget cX2_forget 1 none ∈ wALL := tk2 (i := 175) rfl rfl
theorem kw_26 : Cond.methodLink RX4 64 yX3_append ∈ wALL := tk2 (i := 176) rfl rfl
theorem kw_27 : Cond.instanceMethod yX3_append ∈ wALL := tk2 (i := 177) rfl rfl
theorem kw_28 : Cond.selects RX3 yX3_append yX3_append ∈ wALL := tk2 (i := 178) rfl rfl
theorem kw_29 : Cond.code yX3_append cX3_append 6 (some .int) ∈ wALL := tk2 (i := 179) rfl rfl
theorem kw_30 : Cond.classLink RX4 58 "java/lang/IllegalStateException" ∈ wALL := tk2 (i := 157) rfl rfl
theorem kw_31 : Cond.initialized "java/lang/IllegalStateException" ∈ wALL := tk1 (i := 11) rfl rfl
theorem kw_32 : Cond.classLink RX4 52 "java/lang/IllegalArgumentException" ∈ wALL := tk2 (i := 94) rfl rfl
theorem kw_33 : Cond.initialized "java/lang/IllegalArgumentException" ∈ wALL := tk1 (i := 10) rfl rfl
theorem kw_34 : Cond.fieldLink RX4 71 "Scripthouse$Scenes" "outdoors" "I" ∈ wALL := tk1 (i := 50) rfl rfl
theorem kw_35 : Cond.methodLink RX4 74 yX4_isIn ∈ wALL := tk2 (i := 204) rfl rfl
theorem kw_36 : Cond.static yX4_isIn ∈ wALL := tk2 (i := 0) rfl rfl
theorem kw_37 : Cond.code yX4_isIn cX4_isIn 2 (some .boolean) ∈ wALL := tk2 (i := 1) rfl rfl
theorem kw_38 : Cond.methodLink RX4 78 yX4_with ∈ wALL := tk2 (i := 205) rfl rfl
theorem kw_39 : Cond.static yX4_with ∈ wALL := tk2 (i := 39) rfl rfl
theorem kw_40 : Cond.code yX4_with cX4_with 3 (some .int) ∈ wALL := tk2 (i := 40) rfl rfl
theorem kw_41 : Cond.classLink RX4 68 "java/lang/IndexOutOfBoundsException" ∈ wALL := tk2 (i := 189) rfl rfl
theorem kw_42 : Cond.initialized "java/lang/IndexOutOfBoundsException" ∈ wALL := tk1 (i := 12) rfl rfl
theorem kw_43 : Cond.fieldLink RX4 82 "Scripthouse$Scenes" "children" "I" ∈ wALL := tk1 (i := 52) rfl rfl
theorem kw_44 : Cond.fieldLink RX4 35 "Scripthouse" "rate" "I" ∈ wALL := tk1 (i := 173) rfl rfl
theorem kw_45 : Cond.fieldLink RX4 39 "Scripthouse" "cover" "I" ∈ wALL := tk1 (i := 174) rfl rfl
theorem kw_46 : Cond.fieldLink RX4 85 "Scripthouse" "isCovered" "Z" ∈ wALL := tk1 (i := 175) rfl rfl
theorem kw_47 : Cond.fieldLink RX2 22 "Scripthouse$Planner" "begin" "[I" ∈ wALL := tk1 (i := 77) rfl rfl
theorem kw_48 : Cond.fieldLink RX2 18 "Scripthouse$Planner" "order" "[I" ∈ wALL := tk1 (i := 76) rfl rfl
theorem kw_49 : Cond.static yX4_at ∈ wALL := tk1 (i := 227) rfl rfl
theorem kw_50 : Cond.code yX4_at cX4_at 2 (some .int) ∈ wALL := tk1 (i := 228) rfl rfl
theorem kw_51 : Cond.methodLink RX2 58 yX2_dayOf ∈ wALL := tk1 (i := 229) rfl rfl
theorem kw_52 : Cond.static yX2_dayOf ∈ wALL := tk1 (i := 230) rfl rfl
theorem kw_53 : Cond.code yX2_dayOf cX2_dayOf 1 (some .int) ∈ wALL := tk1 (i := 231) rfl rfl
theorem kw_54 : Cond.fieldLink RX2 62 "Scripthouse$Planner" "today" "I" ∈ wALL := tk1 (i := 84) rfl rfl
theorem kw_55 : Cond.methodLink RX2 107 yX2_daysUpTo ∈ wALL := tk1 (i := 222) rfl rfl
theorem kw_56 : Cond.instanceMethod yX2_daysUpTo ∈ wALL := tk1 (i := 223) rfl rfl
theorem kw_57 : Cond.selects RX2 yX2_daysUpTo yX2_daysUpTo ∈ wALL := tk1 (i := 224) rfl rfl
theorem kw_58 : Cond.code yX2_daysUpTo cX2_daysUpTo 2 (some .int) ∈ wALL := tk1 (i := 225) rfl rfl
theorem kw_59 : Cond.fieldLink RX2 35 "Scripthouse$Planner" "bestDays" "I" ∈ wALL := tk1 (i := 82) rfl rfl
theorem kw_60 : Cond.fieldLink RX2 25 "Scripthouse$Planner" "bestOrder" "[I" ∈ wALL := tk1 (i := 78) rfl rfl
theorem kw_61 : Cond.fieldLink RX2 28 "Scripthouse$Planner" "bestBegin" "[I" ∈ wALL := tk1 (i := 80) rfl rfl
theorem kw_62 : Cond.methodLink RX3 52 yX3_isFree ∈ wALL := tk2 (i := 2) rfl rfl
theorem kw_63 : Cond.instanceMethod yX3_isFree ∈ wALL := tk2 (i := 3) rfl rfl
theorem kw_64 : Cond.selects RX3 yX3_isFree yX3_isFree ∈ wALL := tk2 (i := 4) rfl rfl
theorem kw_65 : Cond.code yX3_isFree cX3_isFree 3 (some .boolean) ∈ wALL := tk2 (i := 5) rfl rfl
theorem kw_66 : Cond.fieldLink RX2 12 "Scripthouse$Planner" "scenes" "LScripthouse$Scenes;" ∈ wALL := tk1 (i := 74) rfl rfl
theorem kw_67 : Cond.fieldLink RX2 148 "Scripthouse$Scenes" "hours" "[I" ∈ wALL := tk1 (i := 36) rfl rfl
theorem kw_68 : Cond.fieldLink RX2 145 "Scripthouse$Scenes" "lights" "[I" ∈ wALL := tk1 (i := 42) rfl rfl
theorem kw_69 : Cond.methodLink RX2 133 Lib.Math.max.name ∈ wALL := tk2 (i := 22) rfl rfl
theorem kw_70 : Cond.static Lib.Math.max.name ∈ wALL := tk2 (i := 23) rfl rfl
theorem kw_71 : Cond.initialized RJ9 ∈ wALL := tk1 (i := 13) rfl rfl
theorem kw_72 : Cond.code Lib.Math.max.name Lib.Math.max.code 2 (some .int) ∈ wALL := tk2 (i := 24) rfl rfl
theorem kw_73 : Cond.fieldLink RX2 77 "Scripthouse$Scenes" "count" "I" ∈ wALL := tk1 (i := 46) rfl rfl
theorem kw_74 : Cond.fieldLink RX2 167 "Scripthouse$Scenes" "players" "[I" ∈ wALL := tk1 (i := 40) rfl rfl
theorem kw_75 : Cond.methodLink RX2 124 yX2_endOf ∈ wALL := tk2 (i := 14) rfl rfl
theorem kw_76 : Cond.instanceMethod yX2_endOf ∈ wALL := tk2 (i := 15) rfl rfl
theorem kw_77 : Cond.selects RX2 yX2_endOf yX2_endOf ∈ wALL := tk2 (i := 16) rfl rfl
theorem kw_78 : Cond.code yX2_endOf cX2_endOf 2 (some .int) ∈ wALL := tk2 (i := 17) rfl rfl
theorem kw_79 : Cond.fieldLink RX2 136 "Scripthouse$Scenes" "children" "I" ∈ wALL := tk1 (i := 53) rfl rfl
theorem kw_80 : Cond.methodLink RX2 142 yX2_placedOn ∈ wALL := tk2 (i := 34) rfl rfl
theorem kw_81 : Cond.instanceMethod yX2_placedOn ∈ wALL := tk2 (i := 35) rfl rfl
theorem kw_82 : Cond.selects RX2 yX2_placedOn yX2_placedOn ∈ wALL := tk2 (i := 36) rfl rfl
theorem kw_83 : Cond.code yX2_placedOn cX2_placedOn 5 (some .int) ∈ wALL := tk2 (i := 37) rfl rfl
theorem kw_84 : Cond.methodLink RX2 139 yX2_hoursFor ∈ wALL := tk2 (i := 41) rfl rfl
theorem kw_85 : Cond.instanceMethod yX2_hoursFor ∈ wALL := tk2 (i := 42) rfl rfl
theorem kw_86 : Cond.selects RX2 yX2_hoursFor yX2_hoursFor ∈ wALL := tk2 (i := 43) rfl rfl
theorem kw_87 : Cond.code yX2_hoursFor cX2_hoursFor 5 (some .int) ∈ wALL := tk2 (i := 44) rfl rfl
theorem kw_88 : Cond.methodLink RX2 151 yX2_startOf ∈ wALL := tk2 (i := 11) rfl rfl
theorem kw_89 : Cond.static yX2_startOf ∈ wALL := tk2 (i := 12) rfl rfl
theorem kw_90 : Cond.code yX2_startOf cX2_startOf 1 (some .int) ∈ wALL := tk2 (i := 13) rfl rfl
theorem kw_91 : Cond.fieldLink RX2 154 "Scripthouse$Scenes" "places" "[I" ∈ wALL := tk1 (i := 38) rfl rfl
theorem kw_92 : Cond.methodLink RX2 157 yX2_beginFrom ∈ wALL := tk2 (i := 18) rfl rfl
theorem kw_93 : Cond.instanceMethod yX2_beginFrom ∈ wALL := tk2 (i := 19) rfl rfl
theorem kw_94 : Cond.selects RX2 yX2_beginFrom yX2_beginFrom ∈ wALL := tk2 (i := 20) rfl rfl
theorem kw_95 : Cond.code yX2_beginFrom cX2_beginFrom 8 (some .int) ∈ wALL := tk2 (i := 21) rfl rfl
theorem kw_96 : Cond.methodLink RX2 161 yX2_endsInTime ∈ wALL := tk2 (i := 26) rfl rfl
theorem kw_97 : Cond.instanceMethod yX2_endsInTime ∈ wALL := tk2 (i := 27) rfl rfl
theorem kw_98 : Cond.selects RX2 yX2_endsInTime yX2_endsInTime ∈ wALL := tk2 (i := 28) rfl rfl
theorem kw_99 : Cond.code yX2_endsInTime cX2_endsInTime 5 (some .boolean) ∈ wALL := tk2 (i := 29) rfl rfl
theorem kw_100 : Cond.methodLink RX2 164 yX2_isFitForChildren ∈ wALL := tk2 (i := 30) rfl rfl
theorem kw_101 : Cond.instanceMethod yX2_isFitForChildren ∈ wALL := tk2 (i := 31) rfl rfl
theorem kw_102 : Cond.selects RX2 yX2_isFitForChildren yX2_isFitForChildren ∈ wALL := tk2 (i := 32) rfl rfl
theorem kw_103 : Cond.code yX2_isFitForChildren cX2_isFitForChildren 6 (some .boolean) ∈ wALL := tk2 (i := 33) rfl rfl
theorem kw_104 : Cond.methodLink RX2 127 yX3_hoursOf ∈ wALL := tk2 (i := 53) rfl rfl
theorem kw_105 : Cond.instanceMethod yX3_hoursOf ∈ wALL := tk2 (i := 54) rfl rfl
theorem kw_106 : Cond.selects RX3 yX3_hoursOf yX3_hoursOf ∈ wALL := tk2 (i := 55) rfl rfl
theorem kw_107 : Cond.code yX3_hoursOf cX3_hoursOf 4 (some .int) ∈ wALL := tk2 (i := 56) rfl rfl
theorem kw_108 : Cond.methodLink RX2 130 yX2_hoursIn ∈ wALL := tk2 (i := 57) rfl rfl
theorem kw_109 : Cond.instanceMethod yX2_hoursIn ∈ wALL := tk2 (i := 58) rfl rfl
theorem kw_110 : Cond.selects RX2 yX2_hoursIn yX2_hoursIn ∈ wALL := tk2 (i := 59) rfl rfl
theorem kw_111 : Cond.code yX2_hoursIn cX2_hoursIn 5 (some .int) ∈ wALL := tk2 (i := 60) rfl rfl
theorem kw_112 : Cond.methodLink RX2 90 yX3_everyScene ∈ wALL := tk1 (i := 214) rfl rfl
theorem kw_113 : Cond.methodLink RX2 116 yX2_hasRoom ∈ wALL := tk2 (i := 49) rfl rfl
theorem kw_114 : Cond.instanceMethod yX2_hasRoom ∈ wALL := tk2 (i := 50) rfl rfl
theorem kw_115 : Cond.selects RX2 yX2_hasRoom yX2_hasRoom ∈ wALL := tk2 (i := 51) rfl rfl
theorem kw_116 : Cond.code yX2_hasRoom cX2_hasRoom 5 (some .boolean) ∈ wALL := tk2 (i := 52) rfl rfl
theorem kw_117 : Cond.methodLink RX2 120 yX2_hasRoomForChildren ∈ wALL := tk2 (i := 61) rfl rfl
theorem kw_118 : Cond.instanceMethod yX2_hasRoomForChildren ∈ wALL := tk2 (i := 62) rfl rfl
theorem kw_119 : Cond.selects RX2 yX2_hasRoomForChildren yX2_hasRoomForChildren ∈ wALL := tk2 (i := 63) rfl rfl
theorem kw_120 : Cond.code yX2_hasRoomForChildren cX2_hasRoomForChildren 7 (some .boolean) ∈ wALL := tk2 (i := 64) rfl rfl
theorem kw_121 : Cond.methodLink RX2 97 yX3_canFollow ∈ wALL := tk1 (i := 235) rfl rfl
theorem kw_122 : Cond.instanceMethod yX3_canFollow ∈ wALL := tk1 (i := 236) rfl rfl
theorem kw_123 : Cond.selects RX3 yX3_canFollow yX3_canFollow ∈ wALL := tk1 (i := 237) rfl rfl
theorem kw_124 : Cond.code yX3_canFollow cX3_canFollow 3 (some .boolean) ∈ wALL := tk1 (i := 238) rfl rfl
theorem kw_125 : Cond.methodLink RX2 100 yX2_place ∈ wALL := tk2 (i := 7) rfl rfl
theorem kw_126 : Cond.instanceMethod yX2_place ∈ wALL := tk2 (i := 8) rfl rfl
theorem kw_127 : Cond.selects RX2 yX2_place yX2_place ∈ wALL := tk2 (i := 9) rfl rfl
theorem kw_128 : Cond.code yX2_place cX2_place 7 none ∈ wALL := tk2 (i := 10) rfl rfl
theorem kw_129 : Cond.methodLink RX2 104 yX2_canBeBetter ∈ wALL := tk2 (i := 45) rfl rfl
theorem kw_130 : Cond.instanceMethod yX2_canBeBetter ∈ wALL := tk2 (i := 46) rfl rfl
theorem kw_131 : Cond.selects RX2 yX2_canBeBetter yX2_canBeBetter ∈ wALL := tk2 (i := 47) rfl rfl
theorem kw_132 : Cond.code yX2_canBeBetter cX2_canBeBetter 6 (some .boolean) ∈ wALL := tk2 (i := 48) rfl rfl
theorem kw_133 : Cond.methodLink RX2 42 yX2_tryOrders ∈ wALL := tk1 (i := 211) rfl rfl
theorem kw_134 : Cond.static yX2_tryOrders ∈ wALL := tk1 (i := 212) rfl rfl
theorem kw_135 : Cond.code yX2_tryOrders cX2_tryOrders 5 none ∈ wALL := tk1 (i := 213) rfl rfl
theorem kw_136 : Cond.methodLink RX2 93 yX2_keep ∈ wALL := tk1 (i := 218) rfl rfl
theorem kw_137 : Cond.instanceMethod yX2_keep ∈ wALL := tk1 (i := 219) rfl rfl
theorem kw_138 : Cond.selects RX2 yX2_keep yX2_keep ∈ wALL := tk1 (i := 220) rfl rfl
theorem kw_139 : Cond.code yX2_keep cX2_keep 3 none ∈ wALL := tk1 (i := 221) rfl rfl
theorem kw_140 : Cond.fieldLink RX2 39 "Scripthouse$Scenes" "done" "I" ∈ wALL := tk1 (i := 47) rfl rfl
theorem kw_141 : Cond.constant RJ6 265 (1431655765) ∈ wALL := tk2 (i := 238) rfl rfl
theorem kw_142 : Cond.constant RJ6 266 (858993459) ∈ wALL := tk2 (i := 239) rfl rfl
theorem kw_143 : Cond.constant RJ6 267 (252645135) ∈ wALL := tk3 (i := 0) rfl rfl
theorem kw_144 : Cond.fieldLink RX3 35 "Scripthouse$Scenes" "done" "I" ∈ wALL := tk1 (i := 48) rfl rfl
theorem kw_145 : Cond.methodLink RX3 38 yJ6_bitCount_0f7a4 ∈ wALL := tk2 (i := 235) rfl rfl
theorem kw_146 : Cond.static yJ6_bitCount_0f7a4 ∈ wALL := tk2 (i := 236) rfl rfl
theorem kw_147 : Cond.initialized RJ6 ∈ wALL := tk1 (i := 14) rfl rfl
theorem kw_148 : Cond.code yJ6_bitCount_0f7a4 cJ6_bitCount_0f7a4 1 (some .int) ∈ wALL := tk2 (i := 237) rfl rfl
theorem kw_149 : Cond.fieldLink RX3 55 "Scripthouse$Scenes" "outdoors" "I" ∈ wALL := tk1 (i := 51) rfl rfl
theorem kw_150 : Cond.methodLink RX2 50 yX3_countOpen ∈ wALL := tk2 (i := 231) rfl rfl
theorem kw_151 : Cond.instanceMethod yX3_countOpen ∈ wALL := tk2 (i := 232) rfl rfl
theorem kw_152 : Cond.selects RX3 yX3_countOpen yX3_countOpen ∈ wALL := tk2 (i := 233) rfl rfl
theorem kw_153 : Cond.code yX3_countOpen cX3_countOpen 1 (some .int) ∈ wALL := tk2 (i := 234) rfl rfl
theorem kw_154 : Cond.methodLink RX2 65 yX3_isOutdoors ∈ wALL := tk3 (i := 1) rfl rfl
theorem kw_155 : Cond.instanceMethod yX3_isOutdoors ∈ wALL := tk3 (i := 2) rfl rfl
theorem kw_156 : Cond.selects RX3 yX3_isOutdoors yX3_isOutdoors ∈ wALL := tk3 (i := 3) rfl rfl
theorem kw_157 : Cond.code yX3_isOutdoors cX3_isOutdoors 2 (some .boolean) ∈ wALL := tk3 (i := 4) rfl rfl
theorem kw_158 : Cond.methodLink RX2 69 yX3_isFree ∈ wALL := tk3 (i := 5) rfl rfl
theorem kw_159 : Cond.fieldLink RX0 9 "Scripthouse$Budget" "lines" "[I" ∈ wALL := tk1 (i := 110) rfl rfl
theorem kw_160 : Cond.methodLink RX0 19 Lib.Math.max.name ∈ wALL := tk3 (i := 12) rfl rfl
theorem kw_161 : Cond.methodLink RX0 25 yX0_lackOf ∈ wALL := tk3 (i := 17) rfl rfl
theorem kw_162 : Cond.instanceMethod yX0_lackOf ∈ wALL := tk3 (i := 8) rfl rfl
theorem kw_163 : Cond.selects RX0 yX0_lackOf yX0_lackOf ∈ wALL := tk3 (i := 9) rfl rfl
theorem kw_164 : Cond.initialized RX0 ∈ wALL := tk1 (i := 4) rfl rfl
theorem kw_165 : Cond.code yX0_lackOf cX0_lackOf 3 (some .int) ∈ wALL := tk3 (i := 10) rfl rfl
theorem kw_166 : Cond.static yX4_add ∈ wALL := tk3 (i := 19) rfl rfl
theorem kw_167 : Cond.code yX4_add cX4_add 3 none ∈ wALL := tk3 (i := 20) rfl rfl
theorem kw_168 : Cond.fieldLink RX0 32 "Scripthouse$Budget" "fee" "I" ∈ wALL := tk1 (i := 112) rfl rfl
theorem kw_169 : Cond.fieldLink RX0 36 "Scripthouse$Budget" "costs" "I" ∈ wALL := tk1 (i := 114) rfl rfl
theorem kw_170 : Cond.fieldLink RX0 39 "Scripthouse$Budget" "unreturned" "I" ∈ wALL := tk1 (i := 116) rfl rfl
theorem kw_171 : Cond.methodLink RX2 87 yX2_forget ∈ wALL := tk3 (i := 27) rfl rfl
theorem kw_172 : Cond.methodLink RX4 89 yX2_makePlan ∈ wALL := tk1 (i := 207) rfl rfl
theorem kw_173 : Cond.instanceMethod yX2_makePlan ∈ wALL := tk1 (i := 208) rfl rfl
theorem kw_174 : Cond.selects RX2 yX2_makePlan yX2_makePlan ∈ wALL := tk1 (i := 209) rfl rfl
theorem kw_175 : Cond.code yX2_makePlan cX2_makePlan 1 none ∈ wALL := tk1 (i := 210) rfl rfl
theorem kw_176 : Cond.methodLink RX4 92 yX2_shootable ∈ wALL := tk2 (i := 227) rfl rfl
theorem kw_177 : Cond.instanceMethod yX2_shootable ∈ wALL := tk2 (i := 228) rfl rfl
theorem kw_178 : Cond.selects RX2 yX2_shootable yX2_shootable ∈ wALL := tk2 (i := 229) rfl rfl
theorem kw_179 : Cond.code yX2_shootable cX2_shootable 5 (some .int) ∈ wALL := tk2 (i := 230) rfl rfl
theorem kw_180 : Cond.methodLink RX4 96 yX3_hoursOf ∈ wALL := tk3 (i := 6) rfl rfl
theorem kw_181 : Cond.fieldLink RX4 24 "Scripthouse" "budget" "LScripthouse$Budget;" ∈ wALL := tk1 (i := 171) rfl rfl
theorem kw_182 : Cond.methodLink RX4 100 yX0_lackOf ∈ wALL := tk3 (i := 7) rfl rfl
theorem kw_183 : Cond.fieldLink RX4 104 "Scripthouse$Budget" "fee" "I" ∈ wALL := tk1 (i := 113) rfl rfl
theorem kw_184 : Cond.fieldLink RX4 107 "Scripthouse$Planner" "today" "I" ∈ wALL := tk1 (i := 85) rfl rfl
theorem kw_185 : Cond.methodLink RX4 110 yX0_pay ∈ wALL := tk3 (i := 13) rfl rfl
theorem kw_186 : Cond.instanceMethod yX0_pay ∈ wALL := tk3 (i := 14) rfl rfl
theorem kw_187 : Cond.selects RX0 yX0_pay yX0_pay ∈ wALL := tk3 (i := 15) rfl rfl
theorem kw_188 : Cond.code yX0_pay cX0_pay 4 (some .int) ∈ wALL := tk3 (i := 16) rfl rfl
theorem kw_189 : Cond.methodLink RX4 113 yX2_endDay ∈ wALL := tk3 (i := 23) rfl rfl
theorem kw_190 : Cond.instanceMethod yX2_endDay ∈ wALL := tk3 (i := 24) rfl rfl
theorem kw_191 : Cond.selects RX2 yX2_endDay yX2_endDay ∈ wALL := tk3 (i := 25) rfl rfl
theorem kw_192 : Cond.code yX2_endDay cX2_endDay 3 none ∈ wALL := tk3 (i := 26) rfl rfl
theorem kw_193 : Cond.methodLink RX4 117 yJ6_bitCount_0f7a4 ∈ wALL := tk3 (i := 28) rfl rfl
theorem kw_194 : Cond.constant RX4 122 (100000) ∈ wALL := tk3 (i := 36) rfl rfl
theorem kw_195 : Cond.fieldLink RX4 123 "Scripthouse$Budget" "lines" "[I" ∈ wALL := tk1 (i := 111) rfl rfl
theorem kw_196 : Cond.methodLink RX4 127 yX4_add ∈ wALL := tk3 (i := 37) rfl rfl
theorem kw_197 : Cond.methodLink RX4 131 yX4_at ∈ wALL := tk3 (i := 21) rfl rfl
theorem kw_198 : Cond.fieldLink RX1 9 "Scripthouse$Layers" "lenders" "[I" ∈ wALL := tk1 (i := 133) rfl rfl
theorem kw_199 : Cond.fieldLink RX1 33 "Scripthouse$Layers" "loans" "I" ∈ wALL := tk1 (i := 142) rfl rfl
theorem kw_200 : Cond.fieldLink RX1 15 "Scripthouse$Layers" "loanOpen" "[I" ∈ wALL := tk1 (i := 134) rfl rfl
theorem kw_201 : Cond.fieldLink RX4 31 "Scripthouse" "layers" "LScripthouse$Layers;" ∈ wALL := tk1 (i := 172) rfl rfl
theorem kw_202 : Cond.fieldLink RX4 135 "Scripthouse$Layers" "loans" "I" ∈ wALL := tk1 (i := 143) rfl rfl
theorem kw_203 : Cond.methodLink RX4 138 yX1_appendLoan ∈ wALL := tk3 (i := 59) rfl rfl
theorem kw_204 : Cond.instanceMethod yX1_appendLoan ∈ wALL := tk3 (i := 60) rfl rfl
theorem kw_205 : Cond.selects RX1 yX1_appendLoan yX1_appendLoan ∈ wALL := tk3 (i := 61) rfl rfl
theorem kw_206 : Cond.initialized RX1 ∈ wALL := tk1 (i := 5) rfl rfl
theorem kw_207 : Cond.code yX1_appendLoan cX1_appendLoan 3 (some .int) ∈ wALL := tk3 (i := 62) rfl rfl
theorem kw_208 : Cond.fieldLink RX1 41 "Scripthouse$Layers" "parts" "I" ∈ wALL := tk1 (i := 144) rfl rfl
theorem kw_209 : Cond.fieldLink RX1 18 "Scripthouse$Layers" "wholes" "[I" ∈ wALL := tk1 (i := 136) rfl rfl
theorem kw_210 : Cond.fieldLink RX1 24 "Scripthouse$Layers" "percents" "[I" ∈ wALL := tk1 (i := 138) rfl rfl
theorem kw_211 : Cond.fieldLink RX1 21 "Scripthouse$Layers" "holders" "[I" ∈ wALL := tk1 (i := 137) rfl rfl
theorem kw_212 : Cond.fieldLink RX4 141 "Scripthouse$Layers" "parts" "I" ∈ wALL := tk1 (i := 145) rfl rfl
theorem kw_213 : Cond.methodLink RX4 144 yX1_percentOf ∈ wALL := tk3 (i := 71) rfl rfl
theorem kw_214 : Cond.instanceMethod yX1_percentOf ∈ wALL := tk3 (i := 72) rfl rfl
theorem kw_215 : Cond.selects RX1 yX1_percentOf yX1_percentOf ∈ wALL := tk3 (i := 73) rfl rfl
theorem kw_216 : Cond.code yX1_percentOf cX1_percentOf 4 (some .int) ∈ wALL := tk3 (i := 74) rfl rfl
theorem kw_217 : Cond.methodLink RX4 147 yX1_appendPart ∈ wALL := tk3 (i := 76) rfl rfl
theorem kw_218 : Cond.instanceMethod yX1_appendPart ∈ wALL := tk3 (i := 77) rfl rfl
theorem kw_219 : Cond.selects RX1 yX1_appendPart yX1_appendPart ∈ wALL := tk3 (i := 78) rfl rfl
theorem kw_220 : Cond.code yX1_appendPart cX1_appendPart 4 (some .int) ∈ wALL := tk3 (i := 79) rfl rfl
theorem kw_221 : Cond.methodLink RX0 42 Lib.Math.min.name ∈ wALL := tk3 (i := 92) rfl rfl
theorem kw_222 : Cond.static Lib.Math.min.name ∈ wALL := tk3 (i := 93) rfl rfl
theorem kw_223 : Cond.code Lib.Math.min.name Lib.Math.min.code 2 (some .int) ∈ wALL := tk3 (i := 94) rfl rfl
theorem kw_224 : Cond.methodLink RX1 48 Lib.Math.min.name ∈ wALL := tk3 (i := 99) rfl rfl
theorem kw_225 : Cond.fieldLink RX1 30 "Scripthouse$Layers" "gains" "[I" ∈ wALL := tk1 (i := 140) rfl rfl
theorem kw_226 : Cond.fieldLink RX1 57 "Scripthouse$Layers" "houseGain" "I" ∈ wALL := tk1 (i := 146) rfl rfl
theorem kw_227 : Cond.fieldLink RX1 27 "Scripthouse$Layers" "shares" "[I" ∈ wALL := tk1 (i := 139) rfl rfl
theorem kw_228 : Cond.constant RX4 151 (1000000) ∈ wALL := tk3 (i := 87) rfl rfl
theorem kw_229 : Cond.methodLink RX4 152 yX0_payBack ∈ wALL := tk3 (i := 88) rfl rfl
theorem kw_230 : Cond.instanceMethod yX0_payBack ∈ wALL := tk3 (i := 89) rfl rfl
theorem kw_231 : Cond.selects RX0 yX0_payBack yX0_payBack ∈ wALL := tk3 (i := 90) rfl rfl
theorem kw_232 : Cond.code yX0_payBack cX0_payBack 3 (some .int) ∈ wALL := tk3 (i := 91) rfl rfl
theorem kw_233 : Cond.methodLink RX4 155 yX1_payBackLoans ∈ wALL := tk3 (i := 95) rfl rfl
theorem kw_234 : Cond.instanceMethod yX1_payBackLoans ∈ wALL := tk3 (i := 96) rfl rfl
theorem kw_235 : Cond.selects RX1 yX1_payBackLoans yX1_payBackLoans ∈ wALL := tk3 (i := 97) rfl rfl
theorem kw_236 : Cond.code yX1_payBackLoans cX1_payBackLoans 5 (some .int) ∈ wALL := tk3 (i := 98) rfl rfl
theorem kw_237 : Cond.methodLink RX4 158 yX1_share ∈ wALL := tk3 (i := 101) rfl rfl
theorem kw_238 : Cond.instanceMethod yX1_share ∈ wALL := tk3 (i := 102) rfl rfl
theorem kw_239 : Cond.selects RX1 yX1_share yX1_share ∈ wALL := tk3 (i := 103) rfl rfl
theorem kw_240 : Cond.code yX1_share cX1_share 6 none ∈ wALL := tk3 (i := 104) rfl rfl
theorem kw_241 : Cond.fieldLink RX4 161 "Scripthouse$Scenes" "done" "I" ∈ wALL := tk1 (i := 49) rfl rfl
theorem kw_242 : Cond.fieldLink RX4 164 "Scripthouse$Planner" "bestDays" "I" ∈ wALL := tk1 (i := 83) rfl rfl
theorem kw_243 : Cond.methodLink RX2 46 yX2_fewestOfAll ∈ wALL := tk3 (i := 117) rfl rfl
theorem kw_244 : Cond.static yX2_fewestOfAll ∈ wALL := tk3 (i := 118) rfl rfl
theorem kw_245 : Cond.code yX2_fewestOfAll cX2_fewestOfAll 5 (some .int) ∈ wALL := tk3 (i := 119) rfl rfl
theorem kw_246 : Cond.methodLink RX2 110 Lib.Math.min.name ∈ wALL := tk3 (i := 120) rfl rfl
theorem kw_247 : Cond.methodLink RX4 167 yX3_countOpen ∈ wALL := tk3 (i := 112) rfl rfl
theorem kw_248 : Cond.methodLink RX4 170 yX2_fewestDays ∈ wALL := tk3 (i := 113) rfl rfl
theorem kw_249 : Cond.instanceMethod yX2_fewestDays ∈ wALL := tk3 (i := 114) rfl rfl
theorem kw_250 : Cond.selects RX2 yX2_fewestDays yX2_fewestDays ∈ wALL := tk3 (i := 115) rfl rfl
theorem kw_251 : Cond.code yX2_fewestDays cX2_fewestDays 1 (some .int) ∈ wALL := tk3 (i := 116) rfl rfl
theorem kw_252 : Cond.fieldLink RX4 173 "Scripthouse$Planner" "bestOrder" "[I" ∈ wALL := tk1 (i := 79) rfl rfl
theorem kw_253 : Cond.fieldLink RX4 176 "Scripthouse$Planner" "bestBegin" "[I" ∈ wALL := tk1 (i := 81) rfl rfl
theorem kw_254 : Cond.fieldLink RX4 179 "Scripthouse$Budget" "costs" "I" ∈ wALL := tk1 (i := 115) rfl rfl
theorem kw_255 : Cond.fieldLink RX4 182 "Scripthouse$Budget" "unreturned" "I" ∈ wALL := tk1 (i := 117) rfl rfl
theorem kw_256 : Cond.fieldLink RX4 185 "Scripthouse$Layers" "loanOpen" "[I" ∈ wALL := tk1 (i := 135) rfl rfl
theorem kw_257 : Cond.fieldLink RX4 188 "Scripthouse$Layers" "gains" "[I" ∈ wALL := tk1 (i := 141) rfl rfl
theorem kw_258 : Cond.fieldLink RX4 191 "Scripthouse$Layers" "houseGain" "I" ∈ wALL := tk1 (i := 147) rfl rfl
theorem kw_259 : Cond.fieldLink RX5 71 "ScripthouseModel" "thrown" "I" ∈ wALL := tk3 (i := 197) rfl rfl
theorem kw_260 : Cond.methodLink RX5 74 yX5_isIn ∈ wALL := tk4 (i := 39) rfl rfl
theorem kw_261 : Cond.static yX5_isIn ∈ wALL := tk4 (i := 40) rfl rfl
theorem kw_262 : Cond.initialized RX5 ∈ wALL := tk1 (i := 6) rfl rfl
theorem kw_263 : Cond.code yX5_isIn cX5_isIn 3 (some .boolean) ∈ wALL := tk4 (i := 41) rfl rfl
theorem kw_264 : Cond.fieldLink RX5 78 "ScripthouseModel" "scenes" "I" ∈ wALL := tk3 (i := 162) rfl rfl
theorem kw_265 : Cond.fieldLink RX5 41 "ScripthouseModel" "row" "[I" ∈ wALL := tk3 (i := 181) rfl rfl
theorem kw_266 : Cond.fieldLink RX5 44 "ScripthouseModel" "start" "[I" ∈ wALL := tk3 (i := 182) rfl rfl
theorem kw_267 : Cond.fieldLink RX5 81 "ScripthouseModel" "done" "I" ∈ wALL := tk3 (i := 168) rfl rfl
theorem kw_268 : Cond.fieldLink RX5 25 "ScripthouseModel" "when" "[I" ∈ wALL := tk3 (i := 169) rfl rfl
theorem kw_269 : Cond.fieldLink RX5 7 "ScripthouseModel" "hours" "[I" ∈ wALL := tk3 (i := 163) rfl rfl
theorem kw_270 : Cond.fieldLink RX5 16 "ScripthouseModel" "players" "[I" ∈ wALL := tk3 (i := 165) rfl rfl
theorem kw_271 : Cond.fieldLink RX5 84 "ScripthouseModel" "children" "I" ∈ wALL := tk3 (i := 170) rfl rfl
theorem kw_272 : Cond.methodLink RX5 87 yX5_plays ∈ wALL := tk4 (i := 93) rfl rfl
theorem kw_273 : Cond.instanceMethod yX5_plays ∈ wALL := tk4 (i := 95) rfl rfl
theorem kw_274 : Cond.selects RX5 yX5_plays yX5_plays ∈ wALL := tk0 (i := 7) rfl rfl
theorem kw_275 : Cond.code yX5_plays cX5_plays 6 (some .int) ∈ wALL := tk4 (i := 96) rfl rfl
theorem kw_276 : Cond.fieldLink RX5 91 "ScripthouseModel" "today" "I" ∈ wALL := tk3 (i := 172) rfl rfl
theorem kw_277 : Cond.fieldLink RX5 19 "ScripthouseModel" "light" "[I" ∈ wALL := tk3 (i := 166) rfl rfl
theorem kw_278 : Cond.fieldLink RX5 13 "ScripthouseModel" "place" "[I" ∈ wALL := tk3 (i := 164) rfl rfl
theorem kw_279 : Cond.methodLink RX5 94 yX5_rested ∈ wALL := tk4 (i := 85) rfl rfl
theorem kw_280 : Cond.instanceMethod yX5_rested ∈ wALL := tk4 (i := 87) rfl rfl
theorem kw_281 : Cond.selects RX5 yX5_rested yX5_rested ∈ wALL := tk0 (i := 5) rfl rfl
theorem kw_282 : Cond.code yX5_rested cX5_rested 9 (some .int) ∈ wALL := tk4 (i := 88) rfl rfl
theorem kw_283 : Cond.methodLink RX5 97 yX5_isTooLong ∈ wALL := tk4 (i := 89) rfl rfl
theorem kw_284 : Cond.instanceMethod yX5_isTooLong ∈ wALL := tk4 (i := 91) rfl rfl
theorem kw_285 : Cond.selects RX5 yX5_isTooLong yX5_isTooLong ∈ wALL := tk0 (i := 6) rfl rfl
theorem kw_286 : Cond.code yX5_isTooLong cX5_isTooLong 7 (some .boolean) ∈ wALL := tk4 (i := 92) rfl rfl
theorem kw_287 : Cond.fieldLink RX5 22 "ScripthouseModel" "ahead" "[I" ∈ wALL := tk3 (i := 167) rfl rfl
theorem kw_288 : Cond.fieldLink RX5 100 "ScripthouseModel" "many" "I" ∈ wALL := tk3 (i := 178) rfl rfl
theorem kw_289 : Cond.fieldLink RX5 35 "ScripthouseModel" "plan" "[I" ∈ wALL := tk3 (i := 176) rfl rfl
theorem kw_290 : Cond.fieldLink RX5 38 "ScripthouseModel" "planned" "[I" ∈ wALL := tk3 (i := 177) rfl rfl
theorem kw_291 : Cond.constant RX5 103 (1000000) ∈ wALL := tk4 (i := 76) rfl rfl
theorem kw_292 : Cond.fieldLink RX5 104 "ScripthouseModel" "days" "I" ∈ wALL := tk3 (i := 179) rfl rfl
theorem kw_293 : Cond.fieldLink RX5 118 "ScripthouseModel" "stale" "Z" ∈ wALL := tk3 (i := 180) rfl rfl
theorem kw_294 : Cond.methodLink RX5 107 yX5_may ∈ wALL := tk4 (i := 77) rfl rfl
theorem kw_295 : Cond.instanceMethod yX5_may ∈ wALL := tk4 (i := 79) rfl rfl
theorem kw_296 : Cond.selects RX5 yX5_may yX5_may ∈ wALL := tk0 (i := 3) rfl rfl
theorem kw_297 : Cond.code yX5_may cX5_may 5 (some .boolean) ∈ wALL := tk4 (i := 80) rfl rfl
theorem kw_298 : Cond.methodLink RX5 111 yX5_begin ∈ wALL := tk4 (i := 81) rfl rfl
theorem kw_299 : Cond.instanceMethod yX5_begin ∈ wALL := tk4 (i := 83) rfl rfl
theorem kw_300 : Cond.selects RX5 yX5_begin yX5_begin ∈ wALL := tk0 (i := 4) rfl rfl
theorem kw_301 : Cond.code yX5_begin cX5_begin 8 (some .int) ∈ wALL := tk4 (i := 84) rfl rfl
theorem kw_302 : Cond.methodLink RX5 115 yX5_keeps ∈ wALL := tk4 (i := 97) rfl rfl
theorem kw_303 : Cond.instanceMethod yX5_keeps ∈ wALL := tk4 (i := 99) rfl rfl
theorem kw_304 : Cond.selects RX5 yX5_keeps yX5_keeps ∈ wALL := tk0 (i := 8) rfl rfl
theorem kw_305 : Cond.code yX5_keeps cX5_keeps 2 none ∈ wALL := tk4 (i := 100) rfl rfl
theorem kw_306 : Cond.methodLink RX5 122 yX5_finds ∈ wALL := tk4 (i := 72) rfl rfl
theorem kw_307 : Cond.instanceMethod yX5_finds ∈ wALL := tk4 (i := 74) rfl rfl
theorem kw_308 : Cond.selects RX5 yX5_finds yX5_finds ∈ wALL := tk0 (i := 2) rfl rfl
theorem kw_309 : Cond.code yX5_finds cX5_finds 3 none ∈ wALL := tk4 (i := 75) rfl rfl
theorem kw_310 : Cond.methodLink RX5 125 yX5_isIn4 ∈ wALL := tk4 (i := 42) rfl rfl
theorem kw_311 : Cond.static yX5_isIn4 ∈ wALL := tk4 (i := 43) rfl rfl
theorem kw_312 : Cond.code yX5_isIn4 cX5_isIn4 1 (some .boolean) ∈ wALL := tk4 (i := 44) rfl rfl
theorem kw_313 : Cond.fieldLink RX5 128 "ScripthouseModel" "out" "I" ∈ wALL := tk3 (i := 171) rfl rfl
theorem kw_314 : Cond.methodLink RX5 131 yX5_isPerson ∈ wALL := tk4 (i := 53) rfl rfl
theorem kw_315 : Cond.static yX5_isPerson ∈ wALL := tk4 (i := 54) rfl rfl
theorem kw_316 : Cond.code yX5_isPerson cX5_isPerson 1 (some .boolean) ∈ wALL := tk4 (i := 55) rfl rfl
theorem kw_317 : Cond.fieldLink RX5 28 "ScripthouseModel" "rate" "I" ∈ wALL := tk3 (i := 173) rfl rfl
theorem kw_318 : Cond.fieldLink RX5 32 "ScripthouseModel" "cover" "I" ∈ wALL := tk3 (i := 174) rfl rfl
theorem kw_319 : Cond.fieldLink RX5 134 "ScripthouseModel" "held" "Z" ∈ wALL := tk3 (i := 175) rfl rfl
theorem kw_320 : Cond.fieldLink RX5 47 "ScripthouseModel" "left" "[I" ∈ wALL := tk3 (i := 183) rfl rfl
theorem kw_321 : Cond.methodLink RX5 137 yX5_lacks ∈ wALL := tk4 (i := 101) rfl rfl
theorem kw_322 : Cond.instanceMethod yX5_lacks ∈ wALL := tk4 (i := 103) rfl rfl
theorem kw_323 : Cond.selects RX5 yX5_lacks yX5_lacks ∈ wALL := tk0 (i := 9) rfl rfl
theorem kw_324 : Cond.code yX5_lacks cX5_lacks 3 (some .int) ∈ wALL := tk4 (i := 104) rfl rfl
theorem kw_325 : Cond.fieldLink RX5 141 "ScripthouseModel" "fee" "I" ∈ wALL := tk3 (i := 184) rfl rfl
theorem kw_326 : Cond.fieldLink RX5 144 "ScripthouseModel" "costs" "I" ∈ wALL := tk3 (i := 185) rfl rfl
theorem kw_327 : Cond.fieldLink RX5 147 "ScripthouseModel" "open" "I" ∈ wALL := tk3 (i := 186) rfl rfl
theorem kw_328 : Cond.methodLink RX5 150 yX5_plans ∈ wALL := tk4 (i := 68) rfl rfl
theorem kw_329 : Cond.instanceMethod yX5_plans ∈ wALL := tk4 (i := 70) rfl rfl
theorem kw_330 : Cond.selects RX5 yX5_plans yX5_plans ∈ wALL := tk0 (i := 1) rfl rfl
theorem kw_331 : Cond.code yX5_plans cX5_plans 1 none ∈ wALL := tk4 (i := 71) rfl rfl
theorem kw_332 : Cond.methodLink RX5 153 yX5_pays ∈ wALL := tk4 (i := 105) rfl rfl
theorem kw_333 : Cond.instanceMethod yX5_pays ∈ wALL := tk4 (i := 107) rfl rfl
theorem kw_334 : Cond.selects RX5 yX5_pays yX5_pays ∈ wALL := tk0 (i := 10) rfl rfl
theorem kw_335 : Cond.code yX5_pays cX5_pays 4 none ∈ wALL := tk4 (i := 108) rfl rfl
theorem kw_336 : Cond.constant RX5 157 (100000) ∈ wALL := tk4 (i := 116) rfl rfl
theorem kw_337 : Cond.methodLink RX5 158 yX5_isMoney ∈ wALL := tk4 (i := 113) rfl rfl
theorem kw_338 : Cond.static yX5_isMoney ∈ wALL := tk4 (i := 114) rfl rfl
theorem kw_339 : Cond.code yX5_isMoney cX5_isMoney 1 (some .boolean) ∈ wALL := tk4 (i := 115) rfl rfl
theorem kw_340 : Cond.fieldLink RX5 161 "ScripthouseModel" "loans" "I" ∈ wALL := tk3 (i := 187) rfl rfl
theorem kw_341 : Cond.fieldLink RX5 50 "ScripthouseModel" "lender" "[I" ∈ wALL := tk3 (i := 188) rfl rfl
theorem kw_342 : Cond.fieldLink RX5 53 "ScripthouseModel" "owed" "[I" ∈ wALL := tk3 (i := 189) rfl rfl
theorem kw_343 : Cond.fieldLink RX5 164 "ScripthouseModel" "parts" "I" ∈ wALL := tk3 (i := 190) rfl rfl
theorem kw_344 : Cond.fieldLink RX5 56 "ScripthouseModel" "of" "[I" ∈ wALL := tk3 (i := 191) rfl rfl
theorem kw_345 : Cond.fieldLink RX5 62 "ScripthouseModel" "percent" "[I" ∈ wALL := tk3 (i := 193) rfl rfl
theorem kw_346 : Cond.fieldLink RX5 59 "ScripthouseModel" "holder" "[I" ∈ wALL := tk3 (i := 192) rfl rfl
theorem kw_347 : Cond.fieldLink RX5 167 "ScripthouseModel" "house" "I" ∈ wALL := tk3 (i := 196) rfl rfl
theorem kw_348 : Cond.fieldLink RX5 65 "ScripthouseModel" "has" "[I" ∈ wALL := tk3 (i := 194) rfl rfl
theorem kw_349 : Cond.fieldLink RX5 68 "ScripthouseModel" "got" "[I" ∈ wALL := tk3 (i := 195) rfl rfl
theorem kw_350 : Cond.methodLink RX5 170 yX5_isLine ∈ wALL := tk4 (i := 165) rfl rfl
theorem kw_351 : Cond.instanceMethod yX5_isLine ∈ wALL := tk4 (i := 167) rfl rfl
theorem kw_352 : Cond.selects RX5 yX5_isLine yX5_isLine ∈ wALL := tk0 (i := 11) rfl rfl
theorem kw_353 : Cond.code yX5_isLine cX5_isLine 2 (some .boolean) ∈ wALL := tk4 (i := 168) rfl rfl
theorem kw_354 : Cond.methodLink RX4 194 yX4_put ∈ wALL := tk3 (i := 22) rfl rfl
theorem cs_X3_31 : csN RX3 31 yX4_put RX4 cX4_put 3 none 3 := ⟨List.mem_of_getElem? (i := 10) rfl, kw_3, kw_4, kw_5, by decide +kernel⟩
theorem cs_X4_42 : csS RX4 42 yX4_isWithin cX4_isWithin 3 (some .boolean) 3 := ⟨kw_10, kw_11, kw_4, kw_12, by decide +kernel⟩
theorem cs_X4_46 : csV RX4 RX3 46 yX3_everyScene cX3_everyScene 1 (some .int) 0 := ⟨kw_14, kw_15, kw_16, kw_17, kw_18, by decide +kernel⟩
theorem cs_X4_61 : csV RX4 RX2 61 yX2_forget cX2_forget 1 none 0 := ⟨kw_21, kw_22, kw_23, kw_24, kw_25, by decide +kernel⟩
theorem cs_X4_64 : csV RX4 RX3 64 yX3_append cX3_append 6 (some .int) 5 := ⟨kw_26, kw_27, kw_28, kw_17, kw_29, by decide +kernel⟩
theorem cs_X4_74 : csS RX4 74 yX4_isIn cX4_isIn 2 (some .boolean) 2 := ⟨kw_35, kw_36, kw_4, kw_37, by decide +kernel⟩
theorem cs_X4_78 : csS RX4 78 yX4_with cX4_with 3 (some .int) 3 := ⟨kw_38, kw_39, kw_4, kw_40, by decide +kernel⟩
theorem cs_X2_54 : csN RX2 54 yX4_at RX4 cX4_at 2 (some .int) 2 := ⟨List.mem_of_getElem? (i := 4) rfl, kw_49, kw_4, kw_50, by decide +kernel⟩
theorem cs_X2_58 : csS RX2 58 yX2_dayOf cX2_dayOf 1 (some .int) 1 := ⟨kw_51, kw_52, kw_24, kw_53, by decide +kernel⟩
theorem cs_X2_107 : csV RX2 RX2 107 yX2_daysUpTo cX2_daysUpTo 2 (some .int) 1 := ⟨kw_55, kw_56, kw_57, kw_24, kw_58, by decide +kernel⟩
theorem cs_X2_83 : csN RX2 83 yX4_put RX4 cX4_put 3 none 3 := ⟨List.mem_of_getElem? (i := 5) rfl, kw_3, kw_4, kw_5, by decide +kernel⟩
theorem cs_X3_48 : csN RX3 48 yX4_at RX4 cX4_at 2 (some .int) 2 := ⟨List.mem_of_getElem? (i := 7) rfl, kw_49, kw_4, kw_50, by decide +kernel⟩
theorem cs_X3_44 : csN RX3 44 yX4_isIn RX4 cX4_isIn 2 (some .boolean) 2 := ⟨List.mem_of_getElem? (i := 6) rfl, kw_36, kw_4, kw_37, by decide +kernel⟩
theorem cs_X3_52 : csV RX3 RX3 52 yX3_isFree cX3_isFree 3 (some .boolean) 2 := ⟨kw_62, kw_63, kw_64, kw_17, kw_65, by decide +kernel⟩
theorem cs_X2_80 : csN RX2 80 yX4_isIn RX4 cX4_isIn 2 (some .boolean) 2 := ⟨List.mem_of_getElem? (i := 8) rfl, kw_36, kw_4, kw_37, by decide +kernel⟩
theorem cs_X2_124 : csV RX2 RX2 124 yX2_endOf cX2_endOf 2 (some .int) 1 := ⟨kw_75, kw_76, kw_77, kw_24, kw_78, by decide +kernel⟩
theorem cs_X2_73 : csN RX2 73 yX4_with RX4 cX4_with 3 (some .int) 3 := ⟨List.mem_of_getElem? (i := 9) rfl, kw_39, kw_4, kw_40, by decide +kernel⟩
theorem cs_X2_142 : csV RX2 RX2 142 yX2_placedOn cX2_placedOn 5 (some .int) 2 := ⟨kw_80, kw_81, kw_82, kw_24, kw_83, by decide +kernel⟩
theorem cs_X2_139 : csV RX2 RX2 139 yX2_hoursFor cX2_hoursFor 5 (some .int) 2 := ⟨kw_84, kw_85, kw_86, kw_24, kw_87, by decide +kernel⟩
theorem cs_X2_151 : csS RX2 151 yX2_startOf cX2_startOf 1 (some .int) 1 := ⟨kw_88, kw_89, kw_24, kw_90, by decide +kernel⟩
theorem cs_X2_157 : csV RX2 RX2 157 yX2_beginFrom cX2_beginFrom 8 (some .int) 4 := ⟨kw_92, kw_93, kw_94, kw_24, kw_95, by decide +kernel⟩
theorem cs_X2_161 : csV RX2 RX2 161 yX2_endsInTime cX2_endsInTime 5 (some .boolean) 3 := ⟨kw_96, kw_97, kw_98, kw_24, kw_99, by decide +kernel⟩
theorem cs_X2_164 : csV RX2 RX2 164 yX2_isFitForChildren cX2_isFitForChildren 6 (some .boolean) 3 := ⟨kw_100, kw_101, kw_102, kw_24, kw_103, by decide +kernel⟩
theorem cs_X2_127 : csV RX2 RX3 127 yX3_hoursOf cX3_hoursOf 4 (some .int) 1 := ⟨kw_104, kw_105, kw_106, kw_17, kw_107, by decide +kernel⟩
theorem cs_X2_130 : csV RX2 RX2 130 yX2_hoursIn cX2_hoursIn 5 (some .int) 2 := ⟨kw_108, kw_109, kw_110, kw_24, kw_111, by decide +kernel⟩
theorem cs_X2_90 : csV RX2 RX3 90 yX3_everyScene cX3_everyScene 1 (some .int) 0 := ⟨kw_112, kw_15, kw_16, kw_17, kw_18, by decide +kernel⟩
theorem cs_X2_116 : csV RX2 RX2 116 yX2_hasRoom cX2_hasRoom 5 (some .boolean) 3 := ⟨kw_113, kw_114, kw_115, kw_24, kw_116, by decide +kernel⟩
theorem cs_X2_120 : csV RX2 RX2 120 yX2_hasRoomForChildren cX2_hasRoomForChildren 7 (some .boolean) 4 := ⟨kw_117, kw_118, kw_119, kw_24, kw_120, by decide +kernel⟩
theorem cs_X2_97 : csV RX2 RX3 97 yX3_canFollow cX3_canFollow 3 (some .boolean) 2 := ⟨kw_121, kw_122, kw_123, kw_17, kw_124, by decide +kernel⟩
theorem cs_X2_100 : csV RX2 RX2 100 yX2_place cX2_place 7 none 3 := ⟨kw_125, kw_126, kw_127, kw_24, kw_128, by decide +kernel⟩
theorem cs_X2_104 : csV RX2 RX2 104 yX2_canBeBetter cX2_canBeBetter 6 (some .boolean) 2 := ⟨kw_129, kw_130, kw_131, kw_24, kw_132, by decide +kernel⟩
theorem cs_X2_42 : csS RX2 42 yX2_tryOrders cX2_tryOrders 5 none 3 := ⟨kw_133, kw_134, kw_24, kw_135, by decide +kernel⟩
theorem cs_X2_93 : csV RX2 RX2 93 yX2_keep cX2_keep 3 none 1 := ⟨kw_136, kw_137, kw_138, kw_24, kw_139, by decide +kernel⟩
theorem cs_X3_38 : csS RX3 38 yJ6_bitCount_0f7a4 cJ6_bitCount_0f7a4 1 (some .int) 1 := ⟨kw_145, kw_146, kw_147, kw_148, by decide +kernel⟩
theorem cs_X2_50 : csV RX2 RX3 50 yX3_countOpen cX3_countOpen 1 (some .int) 0 := ⟨kw_150, kw_151, kw_152, kw_17, kw_153, by decide +kernel⟩
theorem cs_X2_65 : csV RX2 RX3 65 yX3_isOutdoors cX3_isOutdoors 2 (some .boolean) 1 := ⟨kw_154, kw_155, kw_156, kw_17, kw_157, by decide +kernel⟩
theorem cs_X2_69 : csV RX2 RX3 69 yX3_isFree cX3_isFree 3 (some .boolean) 2 := ⟨kw_158, kw_63, kw_64, kw_17, kw_65, by decide +kernel⟩
theorem cs_X0_15 : csN RX0 15 yX4_at RX4 cX4_at 2 (some .int) 2 := ⟨List.mem_of_getElem? (i := 11) rfl, kw_49, kw_4, kw_50, by decide +kernel⟩
theorem cs_X0_25 : csV RX0 RX0 25 yX0_lackOf cX0_lackOf 3 (some .int) 2 := ⟨kw_161, kw_162, kw_163, kw_164, kw_165, by decide +kernel⟩
theorem cs_X0_28 : csN RX0 28 yX4_add RX4 cX4_add 3 none 3 := ⟨List.mem_of_getElem? (i := 12) rfl, kw_166, kw_4, kw_167, by decide +kernel⟩
theorem cs_X2_87 : csV RX2 RX2 87 yX2_forget cX2_forget 1 none 0 := ⟨kw_171, kw_22, kw_23, kw_24, kw_25, by decide +kernel⟩
theorem cs_X4_89 : csV RX4 RX2 89 yX2_makePlan cX2_makePlan 1 none 0 := ⟨kw_172, kw_173, kw_174, kw_24, kw_175, by decide +kernel⟩
theorem cs_X4_92 : csV RX4 RX2 92 yX2_shootable cX2_shootable 5 (some .int) 1 := ⟨kw_176, kw_177, kw_178, kw_24, kw_179, by decide +kernel⟩
theorem cs_X4_96 : csV RX4 RX3 96 yX3_hoursOf cX3_hoursOf 4 (some .int) 1 := ⟨kw_180, kw_105, kw_106, kw_17, kw_107, by decide +kernel⟩
theorem cs_X4_100 : csV RX4 RX0 100 yX0_lackOf cX0_lackOf 3 (some .int) 2 := ⟨kw_182, kw_162, kw_163, kw_164, kw_165, by decide +kernel⟩
theorem cs_X4_110 : csV RX4 RX0 110 yX0_pay cX0_pay 4 (some .int) 2 := ⟨kw_185, kw_186, kw_187, kw_164, kw_188, by decide +kernel⟩
theorem cs_X4_113 : csV RX4 RX2 113 yX2_endDay cX2_endDay 3 none 1 := ⟨kw_189, kw_190, kw_191, kw_24, kw_192, by decide +kernel⟩
theorem cs_X4_117 : csS RX4 117 yJ6_bitCount_0f7a4 cJ6_bitCount_0f7a4 1 (some .int) 1 := ⟨kw_193, kw_146, kw_147, kw_148, by decide +kernel⟩
theorem cs_X4_127 : csS RX4 127 yX4_add cX4_add 3 none 3 := ⟨kw_196, kw_166, kw_4, kw_167, by decide +kernel⟩
theorem cs_X4_131 : csS RX4 131 yX4_at cX4_at 2 (some .int) 2 := ⟨kw_197, kw_49, kw_4, kw_50, by decide +kernel⟩
theorem cs_X1_37 : csN RX1 37 yX4_put RX4 cX4_put 3 none 3 := ⟨List.mem_of_getElem? (i := 13) rfl, kw_3, kw_4, kw_5, by decide +kernel⟩
theorem cs_X4_138 : csV RX4 RX1 138 yX1_appendLoan cX1_appendLoan 3 (some .int) 2 := ⟨kw_203, kw_204, kw_205, kw_206, kw_207, by decide +kernel⟩
theorem cs_X1_44 : csN RX1 44 yX4_at RX4 cX4_at 2 (some .int) 2 := ⟨List.mem_of_getElem? (i := 14) rfl, kw_49, kw_4, kw_50, by decide +kernel⟩
theorem cs_X4_144 : csV RX4 RX1 144 yX1_percentOf cX1_percentOf 4 (some .int) 1 := ⟨kw_213, kw_214, kw_215, kw_206, kw_216, by decide +kernel⟩
theorem cs_X4_147 : csV RX4 RX1 147 yX1_appendPart cX1_appendPart 4 (some .int) 3 := ⟨kw_217, kw_218, kw_219, kw_206, kw_220, by decide +kernel⟩
theorem cs_X1_54 : csN RX1 54 yX4_add RX4 cX4_add 3 none 3 := ⟨List.mem_of_getElem? (i := 15) rfl, kw_166, kw_4, kw_167, by decide +kernel⟩
theorem cs_X4_152 : csV RX4 RX0 152 yX0_payBack cX0_payBack 3 (some .int) 1 := ⟨kw_229, kw_230, kw_231, kw_164, kw_232, by decide +kernel⟩
theorem cs_X4_155 : csV RX4 RX1 155 yX1_payBackLoans cX1_payBackLoans 5 (some .int) 1 := ⟨kw_233, kw_234, kw_235, kw_206, kw_236, by decide +kernel⟩
theorem cs_X4_158 : csV RX4 RX1 158 yX1_share cX1_share 6 none 1 := ⟨kw_237, kw_238, kw_239, kw_206, kw_240, by decide +kernel⟩
theorem cs_X2_46 : csS RX2 46 yX2_fewestOfAll cX2_fewestOfAll 5 (some .int) 3 := ⟨kw_243, kw_244, kw_24, kw_245, by decide +kernel⟩
theorem cs_X4_167 : csV RX4 RX3 167 yX3_countOpen cX3_countOpen 1 (some .int) 0 := ⟨kw_247, kw_151, kw_152, kw_17, kw_153, by decide +kernel⟩
theorem cs_X4_170 : csV RX4 RX2 170 yX2_fewestDays cX2_fewestDays 1 (some .int) 0 := ⟨kw_248, kw_249, kw_250, kw_24, kw_251, by decide +kernel⟩
theorem cs_X5_74 : csS RX5 74 yX5_isIn cX5_isIn 3 (some .boolean) 3 := ⟨kw_260, kw_261, kw_262, kw_263, by decide +kernel⟩
theorem cs_X5_87 : csV RX5 RX5 87 yX5_plays cX5_plays 6 (some .int) 3 := ⟨kw_272, kw_273, kw_274, kw_262, kw_275, by decide +kernel⟩
theorem cs_X5_94 : csV RX5 RX5 94 yX5_rested cX5_rested 9 (some .int) 3 := ⟨kw_279, kw_280, kw_281, kw_262, kw_282, by decide +kernel⟩
theorem cs_X5_97 : csV RX5 RX5 97 yX5_isTooLong cX5_isTooLong 7 (some .boolean) 3 := ⟨kw_283, kw_284, kw_285, kw_262, kw_286, by decide +kernel⟩
theorem cs_X5_107 : csV RX5 RX5 107 yX5_may cX5_may 5 (some .boolean) 1 := ⟨kw_294, kw_295, kw_296, kw_262, kw_297, by decide +kernel⟩
theorem cs_X5_111 : csV RX5 RX5 111 yX5_begin cX5_begin 8 (some .int) 1 := ⟨kw_298, kw_299, kw_300, kw_262, kw_301, by decide +kernel⟩
theorem cs_X5_115 : csV RX5 RX5 115 yX5_keeps cX5_keeps 2 none 0 := ⟨kw_302, kw_303, kw_304, kw_262, kw_305, by decide +kernel⟩
theorem cs_X5_122 : csV RX5 RX5 122 yX5_finds cX5_finds 3 none 0 := ⟨kw_306, kw_307, kw_308, kw_262, kw_309, by decide +kernel⟩
theorem cs_X5_125 : csS RX5 125 yX5_isIn4 cX5_isIn4 1 (some .boolean) 1 := ⟨kw_310, kw_311, kw_262, kw_312, by decide +kernel⟩
theorem cs_X5_131 : csS RX5 131 yX5_isPerson cX5_isPerson 1 (some .boolean) 1 := ⟨kw_314, kw_315, kw_262, kw_316, by decide +kernel⟩
theorem cs_X5_137 : csV RX5 RX5 137 yX5_lacks cX5_lacks 3 (some .int) 2 := ⟨kw_321, kw_322, kw_323, kw_262, kw_324, by decide +kernel⟩
theorem cs_X5_150 : csV RX5 RX5 150 yX5_plans cX5_plans 1 none 0 := ⟨kw_328, kw_329, kw_330, kw_262, kw_331, by decide +kernel⟩
theorem cs_X5_153 : csV RX5 RX5 153 yX5_pays cX5_pays 4 none 2 := ⟨kw_332, kw_333, kw_334, kw_262, kw_335, by decide +kernel⟩
theorem cs_X5_158 : csS RX5 158 yX5_isMoney cX5_isMoney 1 (some .boolean) 1 := ⟨kw_337, kw_338, kw_262, kw_339, by decide +kernel⟩
theorem cs_X5_170 : csV RX5 RX5 170 yX5_isLine cX5_isLine 2 (some .boolean) 1 := ⟨kw_350, kw_351, kw_352, kw_262, kw_353, by decide +kernel⟩
theorem cs_X4_194 : csS RX4 194 yX4_put cX4_put 3 none 3 := ⟨kw_354, kw_3, kw_4, kw_5, by decide +kernel⟩
end
section
/-! The functions that the methods compute, laid by program out of javap's listing (wip/whole/gen): σ k i is the i-th field or element of the k-th cell. -/
def fat (σ : SS) (k n : Nat) (i : Int32) : Int32 := if i < 0 then 0 else if Int32.ofNat n ≤ i then 0 else σ k i.toNatClampNeg
def fput (σ : SS) (k n : Nat) (i x : Int32) : SS := if i < 0 then σ else if Int32.ofNat n ≤ i then σ else wr σ k i.toNatClampNeg x
def fadd (σ : SS) (k n : Nat) (i x : Int32) : SS := fput σ k n i (fat σ k n i + x)
def X4_isWithin (x0 x1 x2 : Int32) : Int32 := (if x0 < x1 then (0 : Int32) else (if x2 < x0 then (0 : Int32) else (1 : Int32)))
theorem z_X4_isWithin  (x0 x1 x2 : Int32) : (X4_isWithin x0 x1 x2) &&& 1 = X4_isWithin x0 x1 x2 := by unfold X4_isWithin; (repeat' split) <;> first | rfl | decide | exact z_X4_isIn _ _ | exact z_X5_isIn _ _ _
def X3_everyScene (σ : SS) : Int32 := ((1 : Int32) <<< ((σ 2 5) &&& 31)) - (1 : Int32)
def X2_forget (σ : SS) : Option SS := (lt (wr σ 1 7 (0 : Int32)) (fun σ_1 => some σ_1))
def X3_append (σ : SS) (x1 x2 x3 x4 x5 : Int32) : Option (Int32 × SS) := (lt (fput σ 5 8 (σ 2 5) x1) (fun σ_1 => (lt (fput σ_1 6 8 (σ_1 2 5) x2) (fun σ_2 => (lt (fput σ_2 7 8 (σ_2 2 5) x3) (fun σ_3 => (lt (fput σ_3 8 8 (σ_3 2 5) x4) (fun σ_4 => (lt (fput σ_4 9 8 (σ_4 2 5) x5) (fun σ_5 => (lt (wr σ_5 2 5 ((σ_5 2 5) + (1 : Int32))) (fun σ_6 => some ((σ_6 2 5) - (1 : Int32), σ_6)))))))))))))
def X4_addScene_b54 (τ : SS) : Option ((Int32 ⊕ String) × SS) := some (.inr "java/lang/IllegalArgumentException", τ)
def X4_addScene (σ : SS) (x1 x2 x3 x4 x5 : Int32) : Option ((Int32 ⊕ String) × SS) := (if (X4_isWithin x1 (1 : Int32) (6 : Int32)) = 0 then (X4_addScene_b54 σ) else (if (X4_isWithin x2 (0 : Int32) (3 : Int32)) = 0 then (X4_addScene_b54 σ) else (if (X4_isWithin x3 (0 : Int32) (63 : Int32)) = 0 then (X4_addScene_b54 σ) else (if (X4_isWithin x4 (0 : Int32) (2 : Int32)) = 0 then (X4_addScene_b54 σ) else (if (x5 &&& ((X3_everyScene σ) ^^^ (-1 : Int32))) = 0 then (if (σ 2 5) < (8 : Int32) then ((X2_forget σ).bind (fun σ_7 => (bd2 (X3_append σ_7 x1 x2 x3 x4 x5) (fun r_8 σ_8 => some (.inl r_8, σ_8))))) else some (.inr "java/lang/IllegalStateException", σ)) else (X4_addScene_b54 σ))))))
def X4_isIn (x0 x1 : Int32) : Int32 := (if ((x0 >>> (x1 &&& 31)) &&& (1 : Int32)) = 0 then (0 : Int32) else (1 : Int32))
theorem z_X4_isIn  (x0 x1 : Int32) : (X4_isIn x0 x1) &&& 1 = X4_isIn x0 x1 := by unfold X4_isIn; (repeat' split) <;> first | rfl | decide | exact z_X4_isIn _ _ | exact z_X5_isIn _ _ _
def X4_with (x0 x1 x2 : Int32) : Int32 := (if x2 = 0 then x0 &&& (((1 : Int32) <<< (x1 &&& 31)) ^^^ (-1 : Int32)) else x0 ||| ((1 : Int32) <<< (x1 &&& 31)))
def X4_setOut (σ : SS) (x1 x2 : Int32) : Option ((Int32 ⊕ String) × SS) := (if (X4_isWithin x1 (0 : Int32) (3 : Int32)) = 0 then some (.inr "java/lang/IndexOutOfBoundsException", σ) else (lt (wr σ 2 7 (X4_with (σ 2 7) x1 x2)) (fun σ_2 => some (.inl (X4_isIn (σ 2 7) x1), σ_2))))
def X4_setChild (σ : SS) (x1 x2 : Int32) : Option ((Int32 ⊕ String) × SS) := (if (X4_isWithin x1 (0 : Int32) (5 : Int32)) = 0 then some (.inr "java/lang/IndexOutOfBoundsException", σ) else (if (X4_isIn (σ 2 8) x1) = x2 then some (.inl (X4_isIn (σ 2 8) x1), σ) else ((X2_forget σ).bind (fun σ_3 => (lt (wr σ_3 2 8 (X4_with (σ_3 2 8) x1 x2)) (fun σ_4 => some (.inl (X4_isIn (σ 2 8) x1), σ_4)))))))
def X4_setRates_b22 (τ : SS) : Option ((Int32 ⊕ String) × SS) := some (.inr "java/lang/IllegalArgumentException", τ)
def X4_setRates (σ : SS) (x1 x2 : Int32) : Option ((Int32 ⊕ String) × SS) := (if (X4_isWithin x1 (0 : Int32) (1000 : Int32)) = 0 then (X4_setRates_b22 σ) else (if (X4_isWithin x2 (0 : Int32) (1000 : Int32)) = 0 then (X4_setRates_b22 σ) else (lt (wr σ 0 4 x1) (fun σ_3 => (lt (wr σ_3 0 5 x2) (fun σ_4 => some (.inl (σ 0 4), σ_4)))))))
def X4_hold (σ : SS) (x1 : Int32) : Option (Int32 × SS) := (if x1 &&& 1 = x1 then (lt (wr σ 0 6 x1) (fun σ_2 => (if (σ 0 6) &&& 1 = (σ 0 6) then some (σ 0 6, σ_2) else none))) else none)
def X2_dayOf (x0 : Int32) : Int32 := x0 / (24 : Int32)
def X2_daysUpTo (σ : SS) (x1 : Int32) : Int32 := (if x1 = 0 then (0 : Int32) else ((X2_dayOf (fat σ 11 8 (fat σ 10 8 (x1 - (1 : Int32))))) - (σ 1 6)) + (1 : Int32))
def fuel_X2_keep_11 : Nat := 64
def X2_keep_l11 : Nat → SS → Int32 → Option SS
  | 0, _, _ => none
  | n + 1, τ, x2 => (if (8 : Int32) ≤ x2 then some τ else (lt (fput τ 12 8 x2 (fat τ 10 8 x2)) (fun σ_3 => (lt (fput σ_3 13 8 x2 (fat σ_3 11 8 x2)) (fun σ_4 => (X2_keep_l11 n σ_4 (x2 + 1)))))))
def X2_keep (σ : SS) (x1 : Int32) : Option SS := (lt (wr σ 1 5 (X2_daysUpTo σ x1)) (fun σ_1 => (X2_keep_l11 fuel_X2_keep_11 σ_1 (0 : Int32))))
def X3_isFree (σ : SS) (x1 x2 : Int32) : Int32 := (if ((fat σ 9 8 x1) &&& (x2 ^^^ (-1 : Int32))) = 0 then (1 : Int32) else (0 : Int32))
theorem z_X3_isFree (σ : SS) (x1 x2 : Int32) : (X3_isFree σ x1 x2) &&& 1 = X3_isFree σ x1 x2 := by unfold X3_isFree; (repeat' split) <;> first | rfl | decide | exact z_X4_isIn _ _ | exact z_X5_isIn _ _ _
def X3_canFollow (σ : SS) (x1 x2 : Int32) : Int32 := (if (X4_isIn x2 x1) = 0 then (if (X3_isFree σ x1 x2) = 0 then (0 : Int32) else (1 : Int32)) else (0 : Int32))
theorem z_X3_canFollow (σ : SS) (x1 x2 : Int32) : (X3_canFollow σ x1 x2) &&& 1 = X3_canFollow σ x1 x2 := by unfold X3_canFollow; (repeat' split) <;> first | rfl | decide | exact z_X4_isIn _ _ | exact z_X5_isIn _ _ _
def X2_startOf (x0 : Int32) : Int32 := ((24 : Int32) * x0) + (8 : Int32)
def X2_endOf (σ : SS) (x1 : Int32) : Int32 := (fat σ 11 8 x1) + (fat σ 5 8 x1)
def X2_beginFrom_b121 (k : SS → Int32 → Int32 → Int32 → Int32 → Int32 → Option Int32) (σ : SS) (x2 x3 x4 x6 x7 : Int32) : Option Int32 := (k σ x2 x3 x4 x6 (x7 + 1))
def fuel_X2_beginFrom_40 : Nat := 64
def X2_beginFrom_l40 : Nat → SS → Int32 → Int32 → Int32 → Int32 → Int32 → Option Int32
  | 0, _, _, _, _, _, _ => none
  | n + 1, σ, x2, x3, x4, x6, x7 => (if (σ 2 5) ≤ x7 then some x6 else (if (X4_isIn x4 x7) = 0 then (X2_beginFrom_b121 (X2_beginFrom_l40 n) σ x2 x3 x4 x6 x7) else (if ((fat σ 7 8 x7) &&& (fat σ 7 8 x2)) = 0 then (X2_beginFrom_b121 (X2_beginFrom_l40 n) σ x2 x3 x4 x6 x7) else (if x3 ≤ (X2_dayOf (fat σ 11 8 x7)) then (X2_beginFrom_b121 (X2_beginFrom_l40 n) σ x2 x3 x4 x6 x7) else (X2_beginFrom_b121 (X2_beginFrom_l40 n) σ x2 x3 x4 (imax x6 ((X2_endOf σ x7) + (11 : Int32))) x7)))))
def X2_beginFrom_b26 (σ : SS) (x1 x2 x3 x4 y0 y1 : Int32) : Option Int32 := (X2_beginFrom_l40 fuel_X2_beginFrom_40 σ x2 x3 x4 (imax x1 (y0 + y1)) (0 : Int32))
def X2_beginFrom (σ : SS) (x1 x2 x3 x4 : Int32) : Option Int32 := (if (fat σ 8 8 x2) = (2 : Int32) then (X2_beginFrom_b26 σ x1 x2 x3 x4 ((24 : Int32) * x3) (18 : Int32)) else (X2_beginFrom_b26 σ x1 x2 x3 x4 ((24 : Int32) * x3) (8 : Int32)))
def X2_endsInTime_b22 (σ : SS) (x1 x2 x3 y0 : Int32) : Int32 := (if (((24 : Int32) * x3) + y0) < (x2 + (fat σ 5 8 x1)) then (0 : Int32) else (1 : Int32))
def X2_endsInTime (σ : SS) (x1 x2 x3 : Int32) : Int32 := (if (fat σ 8 8 x1) = (1 : Int32) then (X2_endsInTime_b22 σ x1 x2 x3 (18 : Int32)) else (X2_endsInTime_b22 σ x1 x2 x3 (24 : Int32)))
theorem z_X2_endsInTime (σ : SS) (x1 x2 x3 : Int32) : (X2_endsInTime σ x1 x2 x3) &&& 1 = X2_endsInTime σ x1 x2 x3 := by unfold X2_endsInTime X2_endsInTime_b22; (repeat' split) <;> first | rfl | decide | exact z_X4_isIn _ _ | exact z_X5_isIn _ _ _
def X2_placedOn_b50 (k : SS → Int32 → Int32 → Int32 → Int32 → Option Int32) (σ : SS) (x1 x2 x3 x4 : Int32) : Option Int32 := (k σ x1 x2 x3 (x4 + 1))
def fuel_X2_placedOn_5 : Nat := 64
def X2_placedOn_l5 : Nat → SS → Int32 → Int32 → Int32 → Int32 → Option Int32
  | 0, _, _, _, _, _ => none
  | n + 1, σ, x1, x2, x3, x4 => (if (σ 2 5) ≤ x4 then some x3 else (if (X4_isIn x2 x4) = 0 then (X2_placedOn_b50 (X2_placedOn_l5 n) σ x1 x2 x3 x4) else (if (X2_dayOf (fat σ 11 8 x4)) = x1 then (X2_placedOn_b50 (X2_placedOn_l5 n) σ x1 x2 (X4_with x3 x4 (1 : Int32)) x4) else (X2_placedOn_b50 (X2_placedOn_l5 n) σ x1 x2 x3 x4))))
def X2_placedOn (σ : SS) (x1 x2 : Int32) : Option Int32 := (X2_placedOn_l5 fuel_X2_placedOn_5 σ x1 x2 (0 : Int32) (0 : Int32))
def X2_hoursFor_b60 (k : SS → Int32 → Int32 → Int32 → Int32 → Option Int32) (σ : SS) (x1 x2 x3 x4 : Int32) : Option Int32 := (k σ x1 x2 x3 (x4 + 1))
def fuel_X2_hoursFor_5 : Nat := 64
def X2_hoursFor_l5 : Nat → SS → Int32 → Int32 → Int32 → Int32 → Option Int32
  | 0, _, _, _, _, _ => none
  | n + 1, σ, x1, x2, x3, x4 => (if (σ 2 5) ≤ x4 then some x3 else (if (X4_isIn x2 x4) = 0 then (X2_hoursFor_b60 (X2_hoursFor_l5 n) σ x1 x2 x3 x4) else (if (X4_isIn (fat σ 7 8 x4) x1) = 0 then (X2_hoursFor_b60 (X2_hoursFor_l5 n) σ x1 x2 x3 x4) else (X2_hoursFor_b60 (X2_hoursFor_l5 n) σ x1 x2 (x3 + (fat σ 5 8 x4)) x4))))
def X2_hoursFor (σ : SS) (x1 x2 : Int32) : Option Int32 := (X2_hoursFor_l5 fuel_X2_hoursFor_5 σ x1 x2 (0 : Int32) (0 : Int32))
def X2_isFitForChildren_b72 (k : SS → Int32 → Int32 → Int32 → Int32 → Int32 → Option Int32) (σ : SS) (x1 x2 x3 x4 x5 : Int32) : Option Int32 := (k σ x1 x2 x3 x4 (x5 + 1))
def fuel_X2_isFitForChildren_24 : Nat := 64
def X2_isFitForChildren_l24 : Nat → SS → Int32 → Int32 → Int32 → Int32 → Int32 → Option Int32
  | 0, _, _, _, _, _, _ => none
  | n + 1, σ, x1, x2, x3, x4, x5 => (if (6 : Int32) ≤ x5 then some (1 : Int32) else (if (X4_isIn x4 x5) = 0 then (X2_isFitForChildren_b72 (X2_isFitForChildren_l24 n) σ x1 x2 x3 x4 x5) else ((X2_placedOn σ x2 x3).bind (fun r_3 => ((X2_hoursFor σ x5 r_3).bind (fun r_4 => (if (r_4 + (fat σ 5 8 x1)) ≤ (6 : Int32) then (X2_isFitForChildren_b72 (X2_isFitForChildren_l24 n) σ x1 x2 x3 x4 x5) else some (0 : Int32))))))))
def X2_isFitForChildren (σ : SS) (x1 x2 x3 : Int32) : Option Int32 := (X2_isFitForChildren_l24 fuel_X2_isFitForChildren_24 σ x1 x2 x3 ((σ 2 8) &&& (fat σ 7 8 x1)) (0 : Int32))
def X2_place_b136 (τ : SS) (x1 x2 x5 : Int32) : Option SS := (lt (fput τ 10 8 x2 x1) (fun σ_7 => (lt (fput σ_7 11 8 x1 x5) (fun σ_8 => some σ_8))))
def X2_place_b118 (τ : SS) (x1 x2 x3 x4 : Int32) : Option SS := ((X2_beginFrom τ (X2_startOf (x4 + 1)) x1 (x4 + 1) x3).bind (fun r_9 => (X2_place_b136 τ x1 x2 r_9)))
def X2_place_b83 (τ : SS) (x1 x2 x3 x4 x5 : Int32) : Option SS := ((X2_beginFrom τ x5 x1 x4 x3).bind (fun r_3 => (if (X2_endsInTime τ x1 r_3 x4) = 0 then (X2_place_b118 τ x1 x2 x3 x4) else ((X2_isFitForChildren τ x1 x4 x3).bind (fun r_5 => (if r_5 = 0 then (X2_place_b118 τ x1 x2 x3 x4) else (X2_place_b136 τ x1 x2 r_3)))))))
def X2_place_b80 (τ : SS) (x1 x2 x3 x4 y0 y1 : Int32) : Option SS := (X2_place_b83 τ x1 x2 x3 x4 (y0 + y1))
def X2_place (σ : SS) (x1 x2 x3 : Int32) : Option SS := (if x2 ≤ 0 then (X2_place_b83 σ x1 x2 x3 (σ 1 6) (X2_startOf (σ 1 6))) else (if (fat σ 6 8 (fat σ 10 8 (x2 - (1 : Int32)))) = (fat σ 6 8 x1) then (X2_place_b80 σ x1 x2 x3 (X2_dayOf (fat σ 11 8 (fat σ 10 8 (x2 - (1 : Int32))))) (X2_endOf σ (fat σ 10 8 (x2 - (1 : Int32)))) (0 : Int32)) else (X2_place_b80 σ x1 x2 x3 (X2_dayOf (fat σ 11 8 (fat σ 10 8 (x2 - (1 : Int32))))) (X2_endOf σ (fat σ 10 8 (x2 - (1 : Int32)))) (1 : Int32))))
def X3_hoursOf_b31 (k : SS → Int32 → Int32 → Int32 → Option Int32) (σ : SS) (x1 x2 x3 : Int32) : Option Int32 := (k σ x1 x2 (x3 + 1))
def fuel_X3_hoursOf_4 : Nat := 64
def X3_hoursOf_l4 : Nat → SS → Int32 → Int32 → Int32 → Option Int32
  | 0, _, _, _, _ => none
  | n + 1, σ, x1, x2, x3 => (if (σ 2 5) ≤ x3 then some x2 else (if (X4_isIn x1 x3) = 0 then (X3_hoursOf_b31 (X3_hoursOf_l4 n) σ x1 x2 x3) else (X3_hoursOf_b31 (X3_hoursOf_l4 n) σ x1 (x2 + (fat σ 5 8 x3)) x3)))
def X3_hoursOf (σ : SS) (x1 : Int32) : Option Int32 := (X3_hoursOf_l4 fuel_X3_hoursOf_4 σ x1 (0 : Int32) (0 : Int32))
def X2_hoursIn_b57 (k : SS → Int32 → Int32 → Int32 → Int32 → Option Int32) (σ : SS) (x1 x2 x3 x4 : Int32) : Option Int32 := (k σ x1 x2 x3 (x4 + 1))
def fuel_X2_hoursIn_5 : Nat := 64
def X2_hoursIn_l5 : Nat → SS → Int32 → Int32 → Int32 → Int32 → Option Int32
  | 0, _, _, _, _, _ => none
  | n + 1, σ, x1, x2, x3, x4 => (if (σ 2 5) ≤ x4 then some x3 else (if (X4_isIn x1 x4) = 0 then (X2_hoursIn_b57 (X2_hoursIn_l5 n) σ x1 x2 x3 x4) else (if (fat σ 8 8 x4) = x2 then (X2_hoursIn_b57 (X2_hoursIn_l5 n) σ x1 x2 (x3 + (fat σ 5 8 x4)) x4) else (X2_hoursIn_b57 (X2_hoursIn_l5 n) σ x1 x2 x3 x4))))
def X2_hoursIn (σ : SS) (x1 x2 : Int32) : Option Int32 := (X2_hoursIn_l5 fuel_X2_hoursIn_5 σ x1 x2 (0 : Int32) (0 : Int32))
def X2_hasRoom (σ : SS) (x1 x2 x3 : Int32) : Option Int32 := ((X3_hoursOf σ x1).bind (fun r_1 => (if (((24 : Int32) - ((X2_endOf σ x2) - ((24 : Int32) * (X2_dayOf (fat σ 11 8 x2))))) + (x3 * (16 : Int32))) < r_1 then some (0 : Int32) else ((X2_hoursIn σ x1 (1 : Int32)).bind (fun r_3 => (if ((imax (0 : Int32) ((18 : Int32) - ((X2_endOf σ x2) - ((24 : Int32) * (X2_dayOf (fat σ 11 8 x2)))))) + (x3 * (10 : Int32))) < r_3 then some (0 : Int32) else ((X2_hoursIn σ x1 (2 : Int32)).bind (fun r_5 => (if (((24 : Int32) - (imax (18 : Int32) ((X2_endOf σ x2) - ((24 : Int32) * (X2_dayOf (fat σ 11 8 x2)))))) + (x3 * (6 : Int32))) < r_5 then some (0 : Int32) else some (1 : Int32))))))))))
def X2_hasRoomForChildren_b71 (k : SS → Int32 → Int32 → Int32 → Int32 → Int32 → Option Int32) (σ : SS) (x1 x2 x4 x5 x6 : Int32) : Option Int32 := (k σ x1 x2 x4 x5 (x6 + 1))
def fuel_X2_hasRoomForChildren_16 : Nat := 64
def X2_hasRoomForChildren_l16 : Nat → SS → Int32 → Int32 → Int32 → Int32 → Int32 → Option Int32
  | 0, _, _, _, _, _, _ => none
  | n + 1, σ, x1, x2, x4, x5, x6 => (if (6 : Int32) ≤ x6 then some (1 : Int32) else (if (X4_isIn (σ 2 8) x6) = 0 then (X2_hasRoomForChildren_b71 (X2_hasRoomForChildren_l16 n) σ x1 x2 x4 x5 x6) else ((X2_hoursFor σ x6 x1).bind (fun r_3 => ((X2_placedOn σ x5 x2).bind (fun r_4 => ((X2_hoursFor σ x6 r_4).bind (fun r_5 => (if r_3 ≤ (((6 : Int32) * (x4 + (1 : Int32))) - r_5) then (X2_hasRoomForChildren_b71 (X2_hasRoomForChildren_l16 n) σ x1 x2 x4 x5 x6) else some (0 : Int32))))))))))
def X2_hasRoomForChildren (σ : SS) (x1 x2 x3 x4 : Int32) : Option Int32 := (X2_hasRoomForChildren_l16 fuel_X2_hasRoomForChildren_16 σ x1 x2 x4 (X2_dayOf (fat σ 11 8 x3)) (0 : Int32))
def X2_canBeBetter (σ : SS) (x1 x2 : Int32) : Option Int32 := (if (((σ 1 5) - (1 : Int32)) - (X2_daysUpTo σ x1)) < 0 then some (0 : Int32) else ((X2_hasRoom σ ((X3_everyScene σ) &&& (x2 ^^^ (-1 : Int32))) (fat σ 10 8 (x1 - (1 : Int32))) (((σ 1 5) - (1 : Int32)) - (X2_daysUpTo σ x1))).bind (fun r_2 => (if r_2 = 0 then some (0 : Int32) else ((X2_hasRoomForChildren σ ((X3_everyScene σ) &&& (x2 ^^^ (-1 : Int32))) x2 (fat σ 10 8 (x1 - (1 : Int32))) (((σ 1 5) - (1 : Int32)) - (X2_daysUpTo σ x1))).bind (fun r_4 => (if r_4 = 0 then some (0 : Int32) else some (1 : Int32))))))))
def X2_tryOrders_b84 (rec : SS → Int32 → Int32 → Option SS) (k : SS → Int32 → Int32 → Int32 → Option SS) (τ : SS) (x1 x2 x3 : Int32) : Option SS := (k τ x1 x2 (x3 + 1))
def fuel_X2_tryOrders_25 : Nat := 64
def X2_tryOrders_l25 (rec : SS → Int32 → Int32 → Option SS) : Nat → SS → Int32 → Int32 → Int32 → Option SS
  | 0, _, _, _, _ => none
  | n + 1, τ, x1, x2, x3 => (if (τ 2 5) ≤ x3 then some τ else (if (X3_canFollow τ x3 x2) = 0 then (X2_tryOrders_b84 rec (X2_tryOrders_l25 rec n) τ x1 x2 x3) else ((X2_place τ x3 x1 x2).bind (fun σ_5 => ((X2_canBeBetter σ_5 (x1 + (1 : Int32)) (X4_with x2 x3 (1 : Int32))).bind (fun r_6 => (if r_6 = 0 then (X2_tryOrders_b84 rec (X2_tryOrders_l25 rec n) σ_5 x1 x2 x3) else ((rec σ_5 (x1 + (1 : Int32)) (X4_with x2 x3 (1 : Int32))).bind (fun σ_8 => (X2_tryOrders_b84 rec (X2_tryOrders_l25 rec n) σ_8 x1 x2 x3))))))))))
def X2_tryOrders_b17 (rec : SS → Int32 → Int32 → Option SS) (τ : SS) (x1 : Int32) : Option SS := ((X2_keep τ x1).bind (fun σ_9 => some σ_9))
def X2_tryOrders : Nat → SS → Int32 → Int32 → Option SS
  | 0, _, _, _ => none
  | n + 1, σ, x1, x2 => (if x2 = (X3_everyScene σ) then (X2_tryOrders_b17 (X2_tryOrders n) σ x1) else (if x1 < (8 : Int32) then (X2_tryOrders_l25 (X2_tryOrders n) fuel_X2_tryOrders_25 σ x1 x2 (0 : Int32)) else (X2_tryOrders_b17 (X2_tryOrders n) σ x1)))
def X2_makePlan (σ : SS) : Option SS := (if (σ 1 7) = 0 then (lt (wr σ 1 5 (9 : Int32)) (fun σ_2 => ((X2_tryOrders 16 σ_2 (0 : Int32) (σ_2 2 6)).bind (fun σ_3 => (lt (wr σ_3 1 7 (1 : Int32)) (fun σ_4 => some σ_4)))))) else some σ)
def J6_bitCount_b48 (x0 : Int32) : Int32 := x0 &&& (63 : Int32)
def J6_bitCount_b41 (x0 : Int32) : Int32 := (J6_bitCount_b48 (x0 + (ius x0 (16 : Int32))))
def J6_bitCount_b34 (x0 : Int32) : Int32 := (J6_bitCount_b41 (x0 + (ius x0 (8 : Int32))))
def J6_bitCount_b24 (x0 : Int32) : Int32 := (J6_bitCount_b34 ((x0 + (ius x0 (4 : Int32))) &&& (252645135 : Int32)))
def J6_bitCount_b10 (x0 : Int32) : Int32 := (J6_bitCount_b24 ((x0 &&& (858993459 : Int32)) + ((ius x0 (2 : Int32)) &&& (858993459 : Int32))))
def J6_bitCount (x0 : Int32) : Int32 := (J6_bitCount_b10 (x0 - ((ius x0 (1 : Int32)) &&& (1431655765 : Int32))))
def X3_countOpen (σ : SS) : Int32 := (σ 2 5) - (J6_bitCount (σ 2 6))
def X3_isOutdoors (σ : SS) (x1 : Int32) : Int32 := X4_isIn (σ 2 7) (fat σ 6 8 x1)
theorem z_X3_isOutdoors (σ : SS) (x1 : Int32) : (X3_isOutdoors σ x1) &&& 1 = X3_isOutdoors σ x1 := by unfold X3_isOutdoors; (repeat' split) <;> first | rfl | decide | exact z_X4_isIn _ _ | exact z_X5_isIn _ _ _
def X2_shootable_b89 (k : SS → Int32 → Int32 → Int32 → Option Int32) (σ : SS) (x1 x2 x3 : Int32) : Option Int32 := (k σ x1 x2 (x3 + 1))
def X2_shootable_b60 (k : SS → Int32 → Int32 → Int32 → Option Int32) (σ : SS) (x1 x2 x3 x4 : Int32) : Option Int32 := (if (X3_isFree σ x4 ((σ 2 6) ||| x2)) = 0 then (X2_shootable_b89 k σ x1 x2 x3) else (X2_shootable_b89 k σ x1 (X4_with x2 x4 (1 : Int32)) x3))
def fuel_X2_shootable_4 : Nat := 64
def X2_shootable_l4 : Nat → SS → Int32 → Int32 → Int32 → Option Int32
  | 0, _, _, _, _ => none
  | n + 1, σ, x1, x2, x3 => (if (X3_countOpen σ) ≤ x3 then some x2 else (if (X2_dayOf (fat σ 13 8 (fat σ 12 8 x3))) = (σ 1 6) then (if x1 = 0 then (X2_shootable_b60 (X2_shootable_l4 n) σ x1 x2 x3 (fat σ 12 8 x3)) else (if (X3_isOutdoors σ (fat σ 12 8 x3)) = 0 then (X2_shootable_b60 (X2_shootable_l4 n) σ x1 x2 x3 (fat σ 12 8 x3)) else (X2_shootable_b89 (X2_shootable_l4 n) σ x1 x2 x3))) else (X2_shootable_b89 (X2_shootable_l4 n) σ x1 x2 x3)))
def X2_shootable (σ : SS) (x1 : Int32) : Option Int32 := (X2_shootable_l4 fuel_X2_shootable_4 σ x1 (0 : Int32) (0 : Int32))
def X0_lackOf (σ : SS) (x1 x2 : Int32) : Int32 := imax (0 : Int32) (x2 - (fat σ 14 4 x1))
def X0_pay (σ : SS) (x1 x2 : Int32) : Option (Int32 × SS) := (lt (fadd σ 14 4 x1 ((X0_lackOf σ x1 x2) - x2)) (fun σ_1 => (lt (wr σ_1 3 1 ((σ_1 3 1) - (X0_lackOf σ x1 x2))) (fun σ_2 => (lt (wr σ_2 3 2 ((σ_2 3 2) + x2)) (fun σ_3 => (lt (wr σ_3 3 3 ((σ_3 3 3) + x2)) (fun σ_4 => some (X0_lackOf σ x1 x2, σ_4)))))))))
def X2_endDay_b37 (k : SS → Int32 → Int32 → Option SS) (τ : SS) (x1 x2 : Int32) : Option SS := (k τ x1 (x2 + 1))
def fuel_X2_endDay_2 : Nat := 64
def X2_endDay_l2 : Nat → SS → Int32 → Int32 → Option SS
  | 0, _, _, _ => none
  | n + 1, τ, x1, x2 => (if (τ 2 5) ≤ x2 then (lt (wr τ 2 6 ((τ 2 6) ||| x1)) (fun σ_2 => (lt (wr σ_2 1 6 ((σ_2 1 6) + (1 : Int32))) (fun σ_3 => ((X2_forget σ_3).bind (fun σ_4 => some σ_4)))))) else (if (X4_isIn x1 x2) = 0 then (X2_endDay_b37 (X2_endDay_l2 n) τ x1 x2) else (lt (fput τ 11 8 x2 (fat τ 13 8 x2)) (fun σ_6 => (X2_endDay_b37 (X2_endDay_l2 n) σ_6 x1 x2)))))
def X2_endDay (σ : SS) (x1 : Int32) : Option SS := (X2_endDay_l2 fuel_X2_endDay_2 σ x1 (0 : Int32))
def X4_shoot_b109 (τ : SS) : Option ((Int32 ⊕ String) × SS) := some (.inr "java/lang/IllegalStateException", τ)
def X4_shoot_b60 (τ : SS) (x2 x3 y0 : Int32) : Option ((Int32 ⊕ String) × SS) := (if (τ 3 1) < ((X0_lackOf τ (0 : Int32) x3) + (X0_lackOf τ (1 : Int32) y0)) then (X4_shoot_b109 τ) else (if (τ 1 6) < (1000 : Int32) then (bd2 (X0_pay τ (0 : Int32) x3) (fun r_9 σ_9 => (bd2 (X0_pay σ_9 (1 : Int32) y0) (fun r_10 σ_10 => ((X2_endDay σ_10 x2).bind (fun σ_11 => some (.inl (J6_bitCount x2), σ_11))))))) else (X4_shoot_b109 τ)))
def X4_shoot_b27 (τ : SS) (y1 : Int32) : Option ((Int32 ⊕ String) × SS) := ((X2_shootable τ y1).bind (fun r_4 => ((X3_hoursOf τ r_4).bind (fun r_5 => (if (τ 0 6) = 0 then (X4_shoot_b60 τ r_4 (r_5 * (τ 0 4)) (0 : Int32)) else (X4_shoot_b60 τ r_4 (r_5 * (τ 0 4)) (τ 0 5)))))))
def X4_shoot_b26 (τ : SS) : Option ((Int32 ⊕ String) × SS) := (X4_shoot_b27 τ (0 : Int32))
def X4_shoot (σ : SS) (x1 : Int32) : Option ((Int32 ⊕ String) × SS) := ((X2_makePlan σ).bind (fun σ_1 => (if x1 = 0 then (X4_shoot_b26 σ_1) else (if (σ_1 0 6) = 0 then (X4_shoot_b27 σ_1 (1 : Int32)) else (X4_shoot_b26 σ_1)))))
def X4_approve (σ : SS) (x1 x2 : Int32) : Option ((Int32 ⊕ String) × SS) := (if (X4_isWithin x1 (0 : Int32) (3 : Int32)) = 0 then some (.inr "java/lang/IndexOutOfBoundsException", σ) else (if (X4_isWithin x2 (1 : Int32) (100000 : Int32)) = 0 then some (.inr "java/lang/IllegalArgumentException", σ) else (lt (fadd σ 14 4 x1 x2) (fun σ_3 => some (.inl (fat σ_3 14 4 x1), σ_3)))))
def X4_grant (σ : SS) (x1 : Int32) : Option ((Int32 ⊕ String) × SS) := (if (X4_isWithin x1 (1 : Int32) (100000 : Int32)) = 0 then some (.inr "java/lang/IllegalArgumentException", σ) else (lt (wr σ 3 1 ((σ 3 1) + x1)) (fun σ_2 => some (.inl (σ_2 3 1), σ_2))))
def X4_bill (σ : SS) (x1 x2 : Int32) : Option ((Int32 ⊕ String) × SS) := (if (X4_isWithin x1 (0 : Int32) (3 : Int32)) = 0 then some (.inr "java/lang/IndexOutOfBoundsException", σ) else (if (X4_isWithin x2 (1 : Int32) (100000 : Int32)) = 0 then some (.inr "java/lang/IllegalArgumentException", σ) else (if (X0_lackOf σ x1 x2) ≤ (σ 3 1) then (bd2 (X0_pay σ x1 x2) (fun r_4 σ_4 => some (.inl r_4, σ_4))) else some (.inr "java/lang/IllegalStateException", σ))))
def X1_appendLoan (σ : SS) (x1 x2 : Int32) : Option (Int32 × SS) := (lt (fput σ 15 10 (σ 4 7) x1) (fun σ_1 => (lt (fput σ_1 16 10 (σ_1 4 7) x2) (fun σ_2 => (lt (wr σ_2 4 7 ((σ_2 4 7) + (1 : Int32))) (fun σ_3 => some ((σ_3 4 7) - (1 : Int32), σ_3)))))))
def X4_loan (σ : SS) (x1 x2 : Int32) : Option ((Int32 ⊕ String) × SS) := (if (X4_isWithin x1 (0 : Int32) (5 : Int32)) = 0 then some (.inr "java/lang/IndexOutOfBoundsException", σ) else (if (X4_isWithin x2 (1 : Int32) (100000 : Int32)) = 0 then some (.inr "java/lang/IllegalArgumentException", σ) else (if (σ 4 7) < (10 : Int32) then (bd2 (X1_appendLoan σ x1 x2) (fun r_4 σ_4 => some (.inl r_4, σ_4))) else some (.inr "java/lang/IllegalStateException", σ))))
def X1_percentOf_b35 (k : SS → Int32 → Int32 → Int32 → Option Int32) (σ : SS) (x1 x2 x3 : Int32) : Option Int32 := (k σ x1 x2 (x3 + 1))
def fuel_X1_percentOf_4 : Nat := 64
def X1_percentOf_l4 : Nat → SS → Int32 → Int32 → Int32 → Option Int32
  | 0, _, _, _, _ => none
  | n + 1, σ, x1, x2, x3 => (if (σ 4 8) ≤ x3 then some x2 else (if (fat σ 17 12 x3) = x1 then (X1_percentOf_b35 (X1_percentOf_l4 n) σ x1 (x2 + (fat σ 19 12 x3)) x3) else (X1_percentOf_b35 (X1_percentOf_l4 n) σ x1 x2 x3)))
def X1_percentOf (σ : SS) (x1 : Int32) : Option Int32 := (X1_percentOf_l4 fuel_X1_percentOf_4 σ x1 (0 : Int32) (0 : Int32))
def X1_appendPart (σ : SS) (x1 x2 x3 : Int32) : Option (Int32 × SS) := (lt (fput σ 17 12 (σ 4 8) x1) (fun σ_1 => (lt (fput σ_1 18 12 (σ_1 4 8) x2) (fun σ_2 => (lt (fput σ_2 19 12 (σ_2 4 8) x3) (fun σ_3 => (lt (wr σ_3 4 8 ((σ_3 4 8) + (1 : Int32))) (fun σ_4 => some ((σ_4 4 8) - (1 : Int32), σ_4)))))))))
def X4_part_b79 (τ : SS) : Option ((Int32 ⊕ String) × SS) := some (.inr "java/lang/IllegalStateException", τ)
def X4_part_b26 (τ : SS) : Option ((Int32 ⊕ String) × SS) := some (.inr "java/lang/IndexOutOfBoundsException", τ)
def X4_part (σ : SS) (x1 x2 x3 : Int32) : Option ((Int32 ⊕ String) × SS) := (if (X4_isWithin x1 (-1 : Int32) ((σ 4 8) - (1 : Int32))) = 0 then (X4_part_b26 σ) else (if (X4_isWithin x2 (0 : Int32) (5 : Int32)) = 0 then (X4_part_b26 σ) else (if (X4_isWithin x3 (1 : Int32) (100 : Int32)) = 0 then some (.inr "java/lang/IllegalArgumentException", σ) else (if (12 : Int32) ≤ (σ 4 8) then (X4_part_b79 σ) else ((X1_percentOf σ x1).bind (fun r_5 => (if (r_5 + x3) ≤ (100 : Int32) then (bd2 (X1_appendPart σ x1 x2 x3) (fun r_7 σ_7 => some (.inl r_7, σ_7))) else (X4_part_b79 σ))))))))
def X0_payBack (σ : SS) (x1 : Int32) : Option (Int32 × SS) := (lt (wr σ 3 3 ((σ 3 3) - (imin x1 (σ 3 3)))) (fun σ_1 => some (x1 - (imin x1 (σ 3 3)), σ_1)))
def fuel_X1_payBackLoans_4 : Nat := 64
def X1_payBackLoans_l4 : Nat → SS → Int32 → Int32 → Option (Int32 × SS)
  | 0, _, _, _ => none
  | n + 1, τ, x2, x3 => (if (τ 4 7) ≤ x3 then some (x2, τ) else (lt (fadd τ 16 10 x3 (-(imin x2 (fat τ 16 10 x3)))) (fun σ_2 => (lt (fadd σ_2 21 6 (fat σ_2 15 10 x3) (imin x2 (fat τ 16 10 x3))) (fun σ_3 => (X1_payBackLoans_l4 n σ_3 (x2 - (imin x2 (fat τ 16 10 x3))) (x3 + 1)))))))
def X1_payBackLoans (σ : SS) (x1 : Int32) : Option (Int32 × SS) := (X1_payBackLoans_l4 fuel_X1_payBackLoans_4 σ x1 (0 : Int32))
def X1_share_b115 (k : SS → Int32 → Int32 → Int32 → Option SS) (τ : SS) (x1 x2 x3 : Int32) : Option SS := (k τ x1 x2 (x3 + 1))
def X1_share_b41 (k : SS → Int32 → Int32 → Int32 → Option SS) (τ : SS) (x1 x2 x3 x4 y0 : Int32) : Option SS := (lt (fput τ 20 12 x3 ((y0 * (fat τ 19 12 x3)) / (100 : Int32))) (fun σ_4 => (lt (fadd σ_4 21 6 (fat σ_4 18 12 x3) ((y0 * (fat τ 19 12 x3)) / (100 : Int32))) (fun σ_5 => (if x4 = (-1 : Int32) then (X1_share_b115 k σ_5 x1 (x2 - ((y0 * (fat τ 19 12 x3)) / (100 : Int32))) x3) else (lt (fadd σ_5 21 6 (fat σ_5 18 12 x4) (-((y0 * (fat τ 19 12 x3)) / (100 : Int32)))) (fun σ_7 => (X1_share_b115 k σ_7 x1 x2 x3))))))))
def fuel_X1_share_4 : Nat := 64
def X1_share_l4 : Nat → SS → Int32 → Int32 → Int32 → Option SS
  | 0, _, _, _, _ => none
  | n + 1, τ, x1, x2, x3 => (if (τ 4 8) ≤ x3 then (lt (wr τ 4 9 ((τ 4 9) + x2)) (fun σ_2 => some σ_2)) else (if (fat τ 17 12 x3) = (-1 : Int32) then (X1_share_b41 (X1_share_l4 n) τ x1 x2 x3 (fat τ 17 12 x3) x1) else (X1_share_b41 (X1_share_l4 n) τ x1 x2 x3 (fat τ 17 12 x3) (fat τ 20 12 (fat τ 17 12 x3)))))
def X1_share (σ : SS) (x1 : Int32) : Option SS := (X1_share_l4 fuel_X1_share_4 σ x1 x1 (0 : Int32))
def X4_income (σ : SS) (x1 : Int32) : Option ((Int32 ⊕ String) × SS) := (if (X4_isWithin x1 (1 : Int32) (1000000 : Int32)) = 0 then some (.inr "java/lang/IllegalArgumentException", σ) else (bd2 (X0_payBack σ x1) (fun r_2 σ_2 => (bd2 (X1_payBackLoans σ_2 r_2) (fun r_3 σ_3 => ((X1_share σ_3 r_3).bind (fun σ_4 => some (.inl r_3, σ_4))))))))
def X4_today (σ : SS) : Int32 := σ 1 6
def X4_shot (σ : SS) : Int32 := σ 2 6
def X4_days (σ : SS) : Option (Int32 × SS) := ((X2_makePlan σ).bind (fun σ_1 => some (σ_1 1 5, σ_1)))
def X2_fewestOfAll_b81 (rec : SS → Int32 → Int32 → Option (Int32 × SS)) (k : SS → Int32 → Int32 → Int32 → Int32 → Option (Int32 × SS)) (τ : SS) (x1 x2 x3 x4 : Int32) : Option (Int32 × SS) := (k τ x1 x2 x3 (x4 + 1))
def fuel_X2_fewestOfAll_29 : Nat := 64
def X2_fewestOfAll_l29 (rec : SS → Int32 → Int32 → Option (Int32 × SS)) : Nat → SS → Int32 → Int32 → Int32 → Int32 → Option (Int32 × SS)
  | 0, _, _, _, _, _ => none
  | n + 1, τ, x1, x2, x3, x4 => (if (τ 2 5) ≤ x4 then some (x3, τ) else (if (X3_canFollow τ x4 x2) = 0 then (X2_fewestOfAll_b81 rec (X2_fewestOfAll_l29 rec n) τ x1 x2 x3 x4) else ((X2_place τ x4 x1 x2).bind (fun σ_5 => (bd2 (rec σ_5 (x1 + (1 : Int32)) (X4_with x2 x4 (1 : Int32))) (fun r_6 σ_6 => (X2_fewestOfAll_b81 rec (X2_fewestOfAll_l29 rec n) σ_6 x1 x2 (imin x3 r_6) x4)))))))
def X2_fewestOfAll_b17 (rec : SS → Int32 → Int32 → Option (Int32 × SS)) (τ : SS) (x1 : Int32) : Option (Int32 × SS) := some (X2_daysUpTo τ x1, τ)
def X2_fewestOfAll : Nat → SS → Int32 → Int32 → Option (Int32 × SS)
  | 0, _, _, _ => none
  | n + 1, σ, x1, x2 => (if x2 = (X3_everyScene σ) then (X2_fewestOfAll_b17 (X2_fewestOfAll n) σ x1) else (if x1 < (8 : Int32) then (X2_fewestOfAll_l29 (X2_fewestOfAll n) fuel_X2_fewestOfAll_29 σ x1 x2 (9 : Int32) (0 : Int32)) else (X2_fewestOfAll_b17 (X2_fewestOfAll n) σ x1)))
def X2_fewestDays (σ : SS) : Option (Int32 × SS) := (bd2 (X2_fewestOfAll 16 σ (0 : Int32) (σ 2 6)) (fun r_1 σ_1 => some (r_1, σ_1)))
def X4_daysByAll (σ : SS) : Option ((Int32 ⊕ String) × SS) := (if (X3_countOpen σ) ≤ (6 : Int32) then (bd2 (X2_fewestDays σ) (fun r_2 σ_2 => some (.inl r_2, σ_2))) else some (.inr "java/lang/IllegalStateException", σ))
def X4_planned (σ : SS) (x1 : Int32) : Option ((Int32 ⊕ String) × SS) := (if (X4_isWithin x1 (0 : Int32) ((X3_countOpen σ) - (1 : Int32))) = 0 then some (.inr "java/lang/IndexOutOfBoundsException", σ) else ((X2_makePlan σ).bind (fun σ_2 => some (.inl (fat σ_2 12 8 x1), σ_2))))
def X4_begins (σ : SS) (x1 : Int32) : Option ((Int32 ⊕ String) × SS) := (if (X4_isWithin x1 (0 : Int32) ((σ 2 5) - (1 : Int32))) = 0 then some (.inr "java/lang/IndexOutOfBoundsException", σ) else ((X2_makePlan σ).bind (fun σ_2 => some (.inl (fat σ_2 13 8 x1), σ_2))))
def X4_left (σ : SS) (x1 : Int32) : Option ((Int32 ⊕ String) × SS) := (if (X4_isWithin x1 (0 : Int32) (3 : Int32)) = 0 then some (.inr "java/lang/IndexOutOfBoundsException", σ) else some (.inl (fat σ 14 4 x1), σ))
def X4_fee (σ : SS) : Int32 := σ 3 1
def X4_costs (σ : SS) : Int32 := σ 3 2
def X4_open (σ : SS) : Int32 := σ 3 3
def X4_openOf (σ : SS) (x1 : Int32) : Option ((Int32 ⊕ String) × SS) := (if (X4_isWithin x1 (0 : Int32) ((σ 4 7) - (1 : Int32))) = 0 then some (.inr "java/lang/IndexOutOfBoundsException", σ) else some (.inl (fat σ 16 10 x1), σ))
def X4_got (σ : SS) (x1 : Int32) : Option ((Int32 ⊕ String) × SS) := (if (X4_isWithin x1 (0 : Int32) (5 : Int32)) = 0 then some (.inr "java/lang/IndexOutOfBoundsException", σ) else some (.inl (fat σ 21 6 x1), σ))
def X4_house (σ : SS) : Int32 := σ 4 9
def X5_thrown (σ : SS) : Int32 := σ 0 35
def X5_isIn (x0 x1 x2 : Int32) : Int32 := (if x0 < x1 then (0 : Int32) else (if x2 < x0 then (0 : Int32) else (1 : Int32)))
theorem z_X5_isIn  (x0 x1 x2 : Int32) : (X5_isIn x0 x1 x2) &&& 1 = X5_isIn x0 x1 x2 := by unfold X5_isIn; (repeat' split) <;> first | rfl | decide | exact z_X4_isIn _ _ | exact z_X5_isIn _ _ _
def X5_isIn4 (x0 : Int32) : Int32 := X5_isIn x0 (0 : Int32) (3 : Int32)
theorem z_X5_isIn4  (x0 : Int32) : (X5_isIn4 x0) &&& 1 = X5_isIn4 x0 := by unfold X5_isIn4; (repeat' split) <;> first | rfl | decide | exact z_X4_isIn _ _ | exact z_X5_isIn _ _ _
def X5_isPerson (x0 : Int32) : Int32 := X5_isIn x0 (0 : Int32) (5 : Int32)
theorem z_X5_isPerson  (x0 : Int32) : (X5_isPerson x0) &&& 1 = X5_isPerson x0 := by unfold X5_isPerson; (repeat' split) <;> first | rfl | decide | exact z_X4_isIn _ _ | exact z_X5_isIn _ _ _
def X5_rested_b186 (k : SS → Int32 → Int32 → Int32 → Int32 → Int32 → Option Int32) (σ : SS) (x1 x2 x3 x5 y0 : Int32) : Option Int32 := (k σ x1 x2 x3 y0 (x5 + 1))
def X5_rested_b184 (k : SS → Int32 → Int32 → Int32 → Int32 → Int32 → Option Int32) (σ : SS) (x1 x2 x3 x4 x5 : Int32) : Option Int32 := (X5_rested_b186 k σ x1 x2 x3 x5 x4)
def X5_rested_b132 (k : SS → Int32 → Int32 → Int32 → Int32 → Int32 → Option Int32) (σ : SS) (x1 x2 x3 x4 x5 x6 x7 y0 : Int32) : Option Int32 := (if ¬ (x6 < 0 ∨ 8 ≤ (Int32.toNatClampNeg x6)) then (if x7 = 0 then (X5_rested_b184 k σ x1 x2 x3 x4 x5) else (if ¬ (x6 < 0 ∨ 8 ≤ (Int32.toNatClampNeg x6)) then (if ¬ (x1 < 0 ∨ 8 ≤ (Int32.toNatClampNeg x1)) then (if ((σ 3 (Int32.toNatClampNeg x6)) &&& (σ 3 (Int32.toNatClampNeg x1))) = 0 then (X5_rested_b184 k σ x1 x2 x3 x4 x5) else (if (((y0 + (σ 1 (Int32.toNatClampNeg x6))) + (11 : Int32)) - ((24 : Int32) * x2)) ≤ x4 then (X5_rested_b184 k σ x1 x2 x3 x4 x5) else (X5_rested_b186 k σ x1 x2 x3 x5 (((y0 + (σ 1 (Int32.toNatClampNeg x6))) + (11 : Int32)) - ((24 : Int32) * x2))))) else none) else none)) else none)
def X5_rested_b99 (k : SS → Int32 → Int32 → Int32 → Int32 → Int32 → Option Int32) (σ : SS) (x1 x2 x3 x4 x5 x6 y0 : Int32) : Option Int32 := (if (σ 0 0) ≤ x5 then (if ¬ ((x5 - (σ 0 0)) < 0 ∨ 9 ≤ (Int32.toNatClampNeg (x5 - (σ 0 0)))) then (X5_rested_b132 k σ x1 x2 x3 x4 x5 x6 y0 (σ 10 (Int32.toNatClampNeg (x5 - (σ 0 0))))) else none) else (if ¬ (x5 < 0 ∨ 8 ≤ (Int32.toNatClampNeg x5)) then (X5_rested_b132 k σ x1 x2 x3 x4 x5 x6 y0 (σ 6 (Int32.toNatClampNeg x5))) else none))
def X5_rested_b43 (k : SS → Int32 → Int32 → Int32 → Int32 → Int32 → Option Int32) (σ : SS) (x1 x2 x3 x4 x5 y0 : Int32) : Option Int32 := (if (σ 0 0) ≤ x5 then (if ¬ ((x5 - (σ 0 0)) < 0 ∨ 9 ≤ (Int32.toNatClampNeg (x5 - (σ 0 0)))) then (if x2 ≤ ((σ 10 (Int32.toNatClampNeg (x5 - (σ 0 0)))) / (24 : Int32)) then (X5_rested_b99 k σ x1 x2 x3 x4 x5 y0 (0 : Int32)) else (X5_rested_b99 k σ x1 x2 x3 x4 x5 y0 (1 : Int32))) else none) else (if (((σ 0 6) >>> (x5 &&& 31)) &&& (1 : Int32)) = (1 : Int32) then (X5_rested_b99 k σ x1 x2 x3 x4 x5 y0 (1 : Int32)) else (X5_rested_b99 k σ x1 x2 x3 x4 x5 y0 (0 : Int32))))
def fuel_X5_rested_6 : Nat := 64
def X5_rested_l6 : Nat → SS → Int32 → Int32 → Int32 → Int32 → Int32 → Option Int32
  | 0, _, _, _, _, _, _ => none
  | n + 1, σ, x1, x2, x3, x4, x5 => (if ((σ 0 0) + x3) ≤ x5 then some x4 else (if (σ 0 0) ≤ x5 then (if ¬ ((x5 - (σ 0 0)) < 0 ∨ 9 ≤ (Int32.toNatClampNeg (x5 - (σ 0 0)))) then (X5_rested_b43 (X5_rested_l6 n) σ x1 x2 x3 x4 x5 (σ 9 (Int32.toNatClampNeg (x5 - (σ 0 0))))) else none) else (X5_rested_b43 (X5_rested_l6 n) σ x1 x2 x3 x4 x5 x5)))
def X5_rested (σ : SS) (x1 x2 x3 : Int32) : Option Int32 := (X5_rested_l6 fuel_X5_rested_6 σ x1 x2 x3 (0 : Int32) (0 : Int32))
def X5_plays_b64 (k : SS → Int32 → Int32 → Int32 → Int32 → Int32 → Option Int32) (σ : SS) (x1 x2 x3 x5 y0 y1 : Int32) : Option Int32 := (k σ x1 x2 x3 (y0 + y1) (x5 + 1))
def X5_plays_b63 (k : SS → Int32 → Int32 → Int32 → Int32 → Int32 → Option Int32) (σ : SS) (x1 x2 x3 x5 y0 : Int32) : Option Int32 := (X5_plays_b64 k σ x1 x2 x3 x5 y0 (0 : Int32))
def fuel_X5_plays_6 : Nat := 64
def X5_plays_l6 : Nat → SS → Int32 → Int32 → Int32 → Int32 → Int32 → Option Int32
  | 0, _, _, _, _, _, _ => none
  | n + 1, σ, x1, x2, x3, x4, x5 => (if x3 ≤ x5 then some x4 else (if ¬ (x5 < 0 ∨ 9 ≤ (Int32.toNatClampNeg x5)) then (if ((σ 10 (Int32.toNatClampNeg x5)) / (24 : Int32)) = x2 then (if ¬ (x5 < 0 ∨ 9 ≤ (Int32.toNatClampNeg x5)) then (if ¬ ((σ 9 (Int32.toNatClampNeg x5)) < 0 ∨ 8 ≤ (Int32.toNatClampNeg (σ 9 (Int32.toNatClampNeg x5)))) then (if (((σ 3 (Int32.toNatClampNeg (σ 9 (Int32.toNatClampNeg x5)))) >>> (x1 &&& 31)) &&& (1 : Int32)) = (1 : Int32) then (if ¬ (x5 < 0 ∨ 9 ≤ (Int32.toNatClampNeg x5)) then (if ¬ ((σ 9 (Int32.toNatClampNeg x5)) < 0 ∨ 8 ≤ (Int32.toNatClampNeg (σ 9 (Int32.toNatClampNeg x5)))) then (X5_plays_b64 (X5_plays_l6 n) σ x1 x2 x3 x5 x4 (σ 1 (Int32.toNatClampNeg (σ 9 (Int32.toNatClampNeg x5))))) else none) else none) else (X5_plays_b63 (X5_plays_l6 n) σ x1 x2 x3 x5 x4)) else none) else none) else (X5_plays_b63 (X5_plays_l6 n) σ x1 x2 x3 x5 x4)) else none))
def X5_plays (σ : SS) (x1 x2 x3 : Int32) : Option Int32 := (X5_plays_l6 fuel_X5_plays_6 σ x1 x2 x3 (0 : Int32) (0 : Int32))
def X5_isTooLong_b71 (k : SS → Int32 → Int32 → Int32 → Int32 → Int32 → Option Int32) (σ : SS) (x1 x2 x3 x5 y0 y1 : Int32) : Option Int32 := (k σ x1 x2 x3 (y0 ||| y1) (x5 + 1))
def X5_isTooLong_b70 (k : SS → Int32 → Int32 → Int32 → Int32 → Int32 → Option Int32) (σ : SS) (x1 x2 x3 x5 y0 : Int32) : Option Int32 := (X5_isTooLong_b71 k σ x1 x2 x3 x5 y0 (0 : Int32))
def X5_isTooLong_b37 (k : SS → Int32 → Int32 → Int32 → Int32 → Int32 → Option Int32) (σ : SS) (x1 x2 x3 x4 x5 y0 : Int32) : Option Int32 := (if y0 = 0 then (X5_isTooLong_b70 k σ x1 x2 x3 x5 x4) else ((X5_plays σ x5 x2 x3).bind (fun r_6 => (if ¬ (x1 < 0 ∨ 8 ≤ (Int32.toNatClampNeg x1)) then (if (r_6 + (σ 1 (Int32.toNatClampNeg x1))) ≤ (6 : Int32) then (X5_isTooLong_b70 k σ x1 x2 x3 x5 x4) else (X5_isTooLong_b71 k σ x1 x2 x3 x5 x4 (1 : Int32))) else none))))
def fuel_X5_isTooLong_6 : Nat := 64
def X5_isTooLong_l6 : Nat → SS → Int32 → Int32 → Int32 → Int32 → Int32 → Option Int32
  | 0, _, _, _, _, _, _ => none
  | n + 1, σ, x1, x2, x3, x4, x5 => (if (6 : Int32) ≤ x5 then (if x4 &&& 1 = x4 then some x4 else none) else (if ¬ (x1 < 0 ∨ 8 ≤ (Int32.toNatClampNeg x1)) then (if (((σ 0 8) &&& (σ 3 (Int32.toNatClampNeg x1))) &&& ((1 : Int32) <<< (x5 &&& 31))) = 0 then (X5_isTooLong_b37 (X5_isTooLong_l6 n) σ x1 x2 x3 x4 x5 (0 : Int32)) else (X5_isTooLong_b37 (X5_isTooLong_l6 n) σ x1 x2 x3 x4 x5 (1 : Int32))) else none))
def X5_isTooLong (σ : SS) (x1 x2 x3 : Int32) : Option Int32 := (X5_isTooLong_l6 fuel_X5_isTooLong_6 σ x1 x2 x3 (0 : Int32) (0 : Int32))
def X5_begin_b232 (k : SS → Int32 → Int32 → Int32 → Int32 → Option Int32) (σ : SS) (x1 x2 x3 y0 : Int32) : Option Int32 := (k σ x1 x2 (x3 + 1) y0)
def X5_begin_b231 (k : SS → Int32 → Int32 → Int32 → Int32 → Option Int32) (σ : SS) (x1 x2 x3 : Int32) : Option Int32 := (X5_begin_b232 k σ x1 x2 x3 (-1 : Int32))
def X5_begin_b204 (k : SS → Int32 → Int32 → Int32 → Int32 → Option Int32) (σ : SS) (x1 x2 x3 x5 y0 : Int32) : Option Int32 := (if y0 = 0 then (X5_begin_b231 k σ x1 x2 x3) else ((X5_isTooLong σ x2 x3 x1).bind (fun r_23 => (if r_23 = 0 then (X5_begin_b232 k σ x1 x2 x3 (((24 : Int32) * x3) + x5)) else (X5_begin_b231 k σ x1 x2 x3)))))
def X5_begin_b196 (k : SS → Int32 → Int32 → Int32 → Int32 → Option Int32) (σ : SS) (x1 x2 x3 x5 y0 y1 : Int32) : Option Int32 := (if y1 < y0 then (X5_begin_b204 k σ x1 x2 x3 x5 (0 : Int32)) else (X5_begin_b204 k σ x1 x2 x3 x5 (1 : Int32)))
def X5_begin_b168 (k : SS → Int32 → Int32 → Int32 → Int32 → Option Int32) (σ : SS) (x1 x2 x3 y0 : Int32) : Option Int32 := (if ¬ (x2 < 0 ∨ 8 ≤ (Int32.toNatClampNeg x2)) then (if ¬ (x2 < 0 ∨ 8 ≤ (Int32.toNatClampNeg x2)) then (if (σ 4 (Int32.toNatClampNeg x2)) = (1 : Int32) then (X5_begin_b196 k σ x1 x2 x3 y0 (y0 + (σ 1 (Int32.toNatClampNeg x2))) (18 : Int32)) else (X5_begin_b196 k σ x1 x2 x3 y0 (y0 + (σ 1 (Int32.toNatClampNeg x2))) (24 : Int32))) else none) else none)
def X5_begin_b145 (k : SS → Int32 → Int32 → Int32 → Int32 → Option Int32) (σ : SS) (x1 x2 x3 x5 : Int32) : Option Int32 := ((X5_rested σ x2 x3 x1).bind (fun r_16 => (if r_16 ≤ x5 then (X5_begin_b168 k σ x1 x2 x3 x5) else (X5_begin_b168 k σ x1 x2 x3 r_16))))
def X5_begin_b143 (k : SS → Int32 → Int32 → Int32 → Int32 → Option Int32) (σ : SS) (x1 x2 x3 y0 : Int32) : Option Int32 := (X5_begin_b145 k σ x1 x2 x3 y0)
def X5_begin_b126 (k : SS → Int32 → Int32 → Int32 → Int32 → Option Int32) (σ : SS) (x1 x2 x3 x5 y0 y1 : Int32) : Option Int32 := (if (y0 + y1) ≤ x5 then (X5_begin_b143 k σ x1 x2 x3 x5) else (X5_begin_b143 k σ x1 x2 x3 (y0 + y1)))
def X5_begin_b55 (k : SS → Int32 → Int32 → Int32 → Int32 → Option Int32) (σ : SS) (x1 x2 x3 y0 : Int32) : Option Int32 := (if x1 ≤ 0 then (X5_begin_b145 k σ x1 x2 x3 y0) else (if ¬ ((x1 - (1 : Int32)) < 0 ∨ 9 ≤ (Int32.toNatClampNeg (x1 - (1 : Int32)))) then (if ((σ 10 (Int32.toNatClampNeg (x1 - (1 : Int32)))) / (24 : Int32)) = x3 then (if ¬ ((x1 - (1 : Int32)) < 0 ∨ 9 ≤ (Int32.toNatClampNeg (x1 - (1 : Int32)))) then (if ¬ ((x1 - (1 : Int32)) < 0 ∨ 9 ≤ (Int32.toNatClampNeg (x1 - (1 : Int32)))) then (if ¬ ((σ 9 (Int32.toNatClampNeg (x1 - (1 : Int32)))) < 0 ∨ 8 ≤ (Int32.toNatClampNeg (σ 9 (Int32.toNatClampNeg (x1 - (1 : Int32)))))) then (if ¬ ((σ 9 (Int32.toNatClampNeg (x1 - (1 : Int32)))) < 0 ∨ 8 ≤ (Int32.toNatClampNeg (σ 9 (Int32.toNatClampNeg (x1 - (1 : Int32)))))) then (if ¬ (x2 < 0 ∨ 8 ≤ (Int32.toNatClampNeg x2)) then (if (σ 2 (Int32.toNatClampNeg (σ 9 (Int32.toNatClampNeg (x1 - (1 : Int32)))))) = (σ 2 (Int32.toNatClampNeg x2)) then (X5_begin_b126 k σ x1 x2 x3 y0 (((σ 10 (Int32.toNatClampNeg (x1 - (1 : Int32)))) - (σ 10 (Int32.toNatClampNeg (x1 - (1 : Int32)))) / (24 : Int32) * (24 : Int32)) + (σ 1 (Int32.toNatClampNeg (σ 9 (Int32.toNatClampNeg (x1 - (1 : Int32))))))) (0 : Int32)) else (X5_begin_b126 k σ x1 x2 x3 y0 (((σ 10 (Int32.toNatClampNeg (x1 - (1 : Int32)))) - (σ 10 (Int32.toNatClampNeg (x1 - (1 : Int32)))) / (24 : Int32) * (24 : Int32)) + (σ 1 (Int32.toNatClampNeg (σ 9 (Int32.toNatClampNeg (x1 - (1 : Int32))))))) (1 : Int32))) else none) else none) else none) else none) else none) else (X5_begin_b145 k σ x1 x2 x3 y0)) else none))
def fuel_X5_begin_33 : Nat := 64
def X5_begin_l33 : Nat → SS → Int32 → Int32 → Int32 → Int32 → Option Int32
  | 0, _, _, _, _, _ => none
  | n + 1, σ, x1, x2, x3, x4 => (if 0 ≤ x4 then some x4 else (if ¬ (x2 < 0 ∨ 8 ≤ (Int32.toNatClampNeg x2)) then (if (σ 4 (Int32.toNatClampNeg x2)) = (2 : Int32) then (X5_begin_b55 (X5_begin_l33 n) σ x1 x2 x3 (18 : Int32)) else (X5_begin_b55 (X5_begin_l33 n) σ x1 x2 x3 (8 : Int32))) else none))
def X5_begin_b29 (σ : SS) (x1 x2 y0 : Int32) : Option Int32 := (X5_begin_l33 fuel_X5_begin_33 σ x1 x2 y0 (-1 : Int32))
def X5_begin (σ : SS) (x1 : Int32) : Option Int32 := (if ¬ (x1 < 0 ∨ 9 ≤ (Int32.toNatClampNeg x1)) then (if x1 = 0 then (X5_begin_b29 σ x1 (σ 9 (Int32.toNatClampNeg x1)) (σ 0 10)) else (if ¬ ((x1 - (1 : Int32)) < 0 ∨ 9 ≤ (Int32.toNatClampNeg (x1 - (1 : Int32)))) then (X5_begin_b29 σ x1 (σ 9 (Int32.toNatClampNeg x1)) ((σ 10 (Int32.toNatClampNeg (x1 - (1 : Int32)))) / (24 : Int32))) else none)) else none)
def fuel_X5_may_15 : Nat := 64
def X5_may_l15 : Nat → SS → Int32 → Int32 → Int32 → Int32 → Option Int32
  | 0, _, _, _, _, _ => none
  | n + 1, σ, x1, x2, x3, x4 => (if x1 ≤ x4 then (if ((x3 >>> (x2 &&& 31)) &&& (1 : Int32)) = 0 then (if ¬ (x2 < 0 ∨ 8 ≤ (Int32.toNatClampNeg x2)) then (if ((σ 5 (Int32.toNatClampNeg x2)) &&& (x3 ^^^ (-1 : Int32))) = 0 then some (1 : Int32) else some (0 : Int32)) else none) else some (0 : Int32)) else (if ¬ (x4 < 0 ∨ 9 ≤ (Int32.toNatClampNeg x4)) then (X5_may_l15 n σ x1 x2 (x3 ||| ((1 : Int32) <<< ((σ 9 (Int32.toNatClampNeg x4)) &&& 31))) (x4 + 1)) else none))
def X5_may (σ : SS) (x1 : Int32) : Option Int32 := (if ¬ (x1 < 0 ∨ 9 ≤ (Int32.toNatClampNeg x1)) then (X5_may_l15 fuel_X5_may_15 σ x1 (σ 9 (Int32.toNatClampNeg x1)) (σ 0 6) (0 : Int32)) else none)
def fuel_X5_keeps_2 : Nat := 64
def X5_keeps_l2 : Nat → SS → Int32 → Option SS
  | 0, _, _ => none
  | n + 1, τ, x1 => (if (τ 0 16) ≤ x1 then some τ else (if ¬ (x1 < 0 ∨ 9 ≤ (Int32.toNatClampNeg x1)) then (if ¬ (x1 < 0 ∨ 8 ≤ (Int32.toNatClampNeg x1)) then (lt (wr τ 7 (Int32.toNatClampNeg x1) (τ 9 (Int32.toNatClampNeg x1))) (fun σ_4 => (if ¬ (x1 < 0 ∨ 9 ≤ (Int32.toNatClampNeg x1)) then (if ¬ (x1 < 0 ∨ 8 ≤ (Int32.toNatClampNeg x1)) then (lt (wr σ_4 8 (Int32.toNatClampNeg x1) (σ_4 10 (Int32.toNatClampNeg x1))) (fun σ_7 => (X5_keeps_l2 n σ_7 (x1 + 1)))) else none) else none))) else none) else none))
def X5_keeps (σ : SS) : Option SS := (X5_keeps_l2 fuel_X5_keeps_2 σ (0 : Int32))
def X5_finds_b200 (k : SS → Int32 → Option SS) (τ : SS) (x1 : Int32) : Option SS := (k τ x1)
def X5_finds_b182 (k : SS → Int32 → Option SS) (τ : SS) (x1 x2 : Int32) : Option SS := (if (τ 0 17) ≤ x2 then (X5_finds_b200 k τ x1) else (if ¬ ((x1 + 1) < 0 ∨ 9 ≤ (Int32.toNatClampNeg (x1 + 1))) then (lt (wr τ 9 (Int32.toNatClampNeg (x1 + 1)) (-1 : Int32)) (fun σ_28 => (X5_finds_b200 k σ_28 (x1 + 1)))) else none))
def fuel_X5_finds_83 : Nat := 64
def X5_finds_l83 : Nat → SS → Int32 → Option SS
  | 0, _, _ => none
  | n + 1, τ, x1 => (if x1 < 0 then (lt (wr τ 0 18 (0 : Int32)) (fun σ_10 => some σ_10)) else (if ¬ (x1 < 0 ∨ 9 ≤ (Int32.toNatClampNeg x1)) then (if ¬ (x1 < 0 ∨ 9 ≤ (Int32.toNatClampNeg x1)) then (lt (wr τ 9 (Int32.toNatClampNeg x1) ((τ 9 (Int32.toNatClampNeg x1)) + (1 : Int32))) (fun σ_13 => (if ¬ (x1 < 0 ∨ 9 ≤ (Int32.toNatClampNeg x1)) then (if (σ_13 9 (Int32.toNatClampNeg x1)) < (σ_13 0 0) then ((X5_may σ_13 x1).bind (fun r_16 => (if r_16 = 0 then (X5_finds_l83 n σ_13 x1) else ((X5_begin σ_13 x1).bind (fun r_18 => (if ¬ (x1 < 0 ∨ 9 ≤ (Int32.toNatClampNeg x1)) then (lt (wr σ_13 10 (Int32.toNatClampNeg x1) r_18) (fun σ_20 => (if ¬ (x1 < 0 ∨ 9 ≤ (Int32.toNatClampNeg x1)) then (if (σ_20 0 17) ≤ ((((σ_20 10 (Int32.toNatClampNeg x1)) / (24 : Int32)) - (σ_20 0 10)) + (1 : Int32)) then (X5_finds_b182 (X5_finds_l83 n) σ_20 x1 ((((σ_20 10 (Int32.toNatClampNeg x1)) / (24 : Int32)) - (σ_20 0 10)) + (1 : Int32))) else (if (x1 + (1 : Int32)) = (σ_20 0 16) then (lt (wr σ_20 0 17 ((((σ_20 10 (Int32.toNatClampNeg x1)) / (24 : Int32)) - (σ_20 0 10)) + (1 : Int32))) (fun σ_24 => ((X5_keeps σ_24).bind (fun σ_25 => (X5_finds_b200 (X5_finds_l83 n) σ_25 x1))))) else (X5_finds_b182 (X5_finds_l83 n) σ_20 x1 ((((σ_20 10 (Int32.toNatClampNeg x1)) / (24 : Int32)) - (σ_20 0 10)) + (1 : Int32))))) else none))) else none)))))) else (X5_finds_l83 n σ_13 (x1 + (-1)))) else none))) else none) else none))
def X5_finds_b75 (τ : SS) (y0 : Int32) : Option SS := (if ¬ ((0 : Int32) < 0 ∨ 9 ≤ (Int32.toNatClampNeg (0 : Int32))) then (lt (wr τ 9 (Int32.toNatClampNeg (0 : Int32)) (-1 : Int32)) (fun σ_8 => (X5_finds_l83 fuel_X5_finds_83 σ_8 y0))) else none)
def X5_finds_b60 (τ : SS) (y1 : Int32) : Option SS := (lt (wr τ 0 17 y1) (fun σ_5 => (if (σ_5 0 16) = 0 then (X5_finds_b75 σ_5 (-1 : Int32)) else (X5_finds_b75 σ_5 (0 : Int32)))))
def X5_finds_b36 (k : SS → Int32 → Option SS) (τ : SS) (x1 y1 y2 : Int32) : Option SS := (lt (wr τ 0 16 (y1 + y2)) (fun σ_29 => (k σ_29 (x1 + 1))))
def fuel_X5_finds_7 : Nat := 64
def X5_finds_l7 : Nat → SS → Int32 → Option SS
  | 0, _, _ => none
  | n + 1, τ, x1 => (if (τ 0 0) ≤ x1 then (if (τ 0 16) = 0 then (X5_finds_b60 τ (0 : Int32)) else (X5_finds_b60 τ (1000000 : Int32))) else (if (((τ 0 6) >>> (x1 &&& 31)) &&& (1 : Int32)) = 0 then (X5_finds_b36 (X5_finds_l7 n) τ x1 (τ 0 16) (1 : Int32)) else (X5_finds_b36 (X5_finds_l7 n) τ x1 (τ 0 16) (0 : Int32))))
def X5_finds (σ : SS) : Option SS := (lt (wr σ 0 16 (0 : Int32)) (fun σ_1 => (X5_finds_l7 fuel_X5_finds_7 σ_1 (0 : Int32))))
def X5_plans (σ : SS) : Option SS := (if (σ 0 18) = 0 then some σ else ((X5_finds σ).bind (fun σ_2 => some σ_2)))
def X5_addScene_b85 (τ : SS) (x1 x2 x3 x4 x5 y1 : Int32) : Option (Int32 × SS) := (lt (wr τ 0 35 y1) (fun σ_8 => (if (σ_8 0 35) ≤ 0 then (if ¬ ((σ_8 0 0) < 0 ∨ 8 ≤ (Int32.toNatClampNeg (σ_8 0 0))) then (lt (wr σ_8 1 (Int32.toNatClampNeg (σ_8 0 0)) x1) (fun σ_11 => (if ¬ ((σ_11 0 0) < 0 ∨ 8 ≤ (Int32.toNatClampNeg (σ_11 0 0))) then (lt (wr σ_11 2 (Int32.toNatClampNeg (σ_11 0 0)) x2) (fun σ_13 => (if ¬ ((σ_13 0 0) < 0 ∨ 8 ≤ (Int32.toNatClampNeg (σ_13 0 0))) then (lt (wr σ_13 3 (Int32.toNatClampNeg (σ_13 0 0)) x3) (fun σ_15 => (if ¬ ((σ_15 0 0) < 0 ∨ 8 ≤ (Int32.toNatClampNeg (σ_15 0 0))) then (lt (wr σ_15 4 (Int32.toNatClampNeg (σ_15 0 0)) x4) (fun σ_17 => (if ¬ ((σ_17 0 0) < 0 ∨ 8 ≤ (Int32.toNatClampNeg (σ_17 0 0))) then (lt (wr σ_17 5 (Int32.toNatClampNeg (σ_17 0 0)) x5) (fun σ_19 => (lt (wr σ_19 0 0 ((σ_19 0 0) + (1 : Int32))) (fun σ_20 => (lt (wr σ_20 0 18 (1 : Int32)) (fun σ_21 => some ((σ_21 0 0) - (1 : Int32), σ_21))))))) else none))) else none))) else none))) else none))) else none) else some ((0 : Int32), σ_8))))
def X5_addScene_b59 (τ : SS) (x1 x2 x3 x4 x5 y0 : Int32) : Option (Int32 × SS) := (if y0 = 0 then (X5_addScene_b85 τ x1 x2 x3 x4 x5 (1 : Int32)) else (if (τ 0 0) = (8 : Int32) then (X5_addScene_b85 τ x1 x2 x3 x4 x5 (2 : Int32)) else (X5_addScene_b85 τ x1 x2 x3 x4 x5 (0 : Int32))))
def X5_addScene_b58 (τ : SS) (x1 x2 x3 x4 x5 : Int32) : Option (Int32 × SS) := (X5_addScene_b59 τ x1 x2 x3 x4 x5 (0 : Int32))
def X5_addScene (σ : SS) (x1 x2 x3 x4 x5 : Int32) : Option (Int32 × SS) := (if (X5_isIn x1 (1 : Int32) (6 : Int32)) = 0 then (X5_addScene_b58 σ x1 x2 x3 x4 x5) else (if (X5_isIn4 x2) = 0 then (X5_addScene_b58 σ x1 x2 x3 x4 x5) else (if (X5_isIn x3 (0 : Int32) (63 : Int32)) = 0 then (X5_addScene_b58 σ x1 x2 x3 x4 x5) else (if (X5_isIn x4 (0 : Int32) (2 : Int32)) = 0 then (X5_addScene_b58 σ x1 x2 x3 x4 x5) else (if (X5_isIn x5 (0 : Int32) (((1 : Int32) <<< ((σ 0 0) &&& 31)) - (1 : Int32))) = 0 then (X5_addScene_b58 σ x1 x2 x3 x4 x5) else (X5_addScene_b59 σ x1 x2 x3 x4 x5 (1 : Int32)))))))
def X5_setOut_b69 (τ : SS) (x3 y1 : Int32) : Option (Int32 × SS) := (lt (wr τ 0 9 y1) (fun σ_6 => (if x3 &&& 1 = x3 then some (x3, σ_6) else none)))
def X5_setOut_b42 (τ : SS) (x1 x2 y0 : Int32) : Option (Int32 × SS) := (if x2 = 0 then (X5_setOut_b69 τ y0 ((τ 0 9) &&& (((1 : Int32) <<< (x1 &&& 31)) ^^^ (-1 : Int32)))) else (X5_setOut_b69 τ y0 ((τ 0 9) ||| ((1 : Int32) <<< (x1 &&& 31)))))
def X5_setOut_b13 (τ : SS) (x1 x2 y1 : Int32) : Option (Int32 × SS) := (lt (wr τ 0 35 y1) (fun σ_2 => (if (σ_2 0 35) ≤ 0 then (if (((σ_2 0 9) >>> (x1 &&& 31)) &&& (1 : Int32)) = (1 : Int32) then (X5_setOut_b42 σ_2 x1 x2 (1 : Int32)) else (X5_setOut_b42 σ_2 x1 x2 (0 : Int32))) else some ((0 : Int32), σ_2))))
def X5_setOut (σ : SS) (x1 x2 : Int32) : Option (Int32 × SS) := (if (X5_isIn4 x1) = 0 then (X5_setOut_b13 σ x1 x2 (1 : Int32)) else (X5_setOut_b13 σ x1 x2 (0 : Int32)))
def X5_setChild_b69 (τ : SS) (x3 y1 : Int32) : Option (Int32 × SS) := (lt (wr τ 0 8 y1) (fun σ_6 => (lt (wr σ_6 0 18 (1 : Int32)) (fun σ_7 => (if x3 &&& 1 = x3 then some (x3, σ_7) else none)))))
def X5_setChild_b42 (τ : SS) (x1 x2 y0 : Int32) : Option (Int32 × SS) := (if x2 = 0 then (X5_setChild_b69 τ y0 ((τ 0 8) &&& (((1 : Int32) <<< (x1 &&& 31)) ^^^ (-1 : Int32)))) else (X5_setChild_b69 τ y0 ((τ 0 8) ||| ((1 : Int32) <<< (x1 &&& 31)))))
def X5_setChild_b13 (τ : SS) (x1 x2 y1 : Int32) : Option (Int32 × SS) := (lt (wr τ 0 35 y1) (fun σ_2 => (if (σ_2 0 35) ≤ 0 then (if (((σ_2 0 8) >>> (x1 &&& 31)) &&& (1 : Int32)) = (1 : Int32) then (X5_setChild_b42 σ_2 x1 x2 (1 : Int32)) else (X5_setChild_b42 σ_2 x1 x2 (0 : Int32))) else some ((0 : Int32), σ_2))))
def X5_setChild (σ : SS) (x1 x2 : Int32) : Option (Int32 × SS) := (if (X5_isPerson x1) = 0 then (X5_setChild_b13 σ x1 x2 (1 : Int32)) else (X5_setChild_b13 σ x1 x2 (0 : Int32)))
def X5_setRates_b28 (τ : SS) (x1 x2 y1 : Int32) : Option (Int32 × SS) := (lt (wr τ 0 35 y1) (fun σ_3 => (if (σ_3 0 35) ≤ 0 then (lt (wr σ_3 0 11 x1) (fun σ_5 => (lt (wr σ_5 0 12 x2) (fun σ_6 => some (σ_3 0 11, σ_6))))) else some ((0 : Int32), σ_3))))
def X5_setRates_b27 (τ : SS) (x1 x2 : Int32) : Option (Int32 × SS) := (X5_setRates_b28 τ x1 x2 (1 : Int32))
def X5_setRates (σ : SS) (x1 x2 : Int32) : Option (Int32 × SS) := (if (X5_isIn x1 (0 : Int32) (1000 : Int32)) = 0 then (X5_setRates_b27 σ x1 x2) else (if (X5_isIn x2 (0 : Int32) (1000 : Int32)) = 0 then (X5_setRates_b27 σ x1 x2) else (X5_setRates_b28 σ x1 x2 (0 : Int32))))
def X5_hold (σ : SS) (x1 : Int32) : Option (Int32 × SS) := (lt (wr σ 0 35 (0 : Int32)) (fun σ_1 => (if x1 &&& 1 = x1 then (lt (wr σ_1 0 13 x1) (fun σ_3 => (if (σ_1 0 13) &&& 1 = (σ_1 0 13) then some (σ_1 0 13, σ_3) else none))) else none)))
def X5_lacks (σ : SS) (x1 x2 : Int32) : Option Int32 := (if ¬ (x1 < 0 ∨ 4 ≤ (Int32.toNatClampNeg x1)) then (if x2 ≤ (σ 11 (Int32.toNatClampNeg x1)) then some (0 : Int32) else (if ¬ (x1 < 0 ∨ 4 ≤ (Int32.toNatClampNeg x1)) then some (x2 - (σ 11 (Int32.toNatClampNeg x1))) else none)) else none)
def X5_pays (σ : SS) (x1 x2 : Int32) : Option SS := ((X5_lacks σ x1 x2).bind (fun r_1 => (if ¬ (x1 < 0 ∨ 4 ≤ (Int32.toNatClampNeg x1)) then (if ¬ (x1 < 0 ∨ 4 ≤ (Int32.toNatClampNeg x1)) then (lt (wr σ 11 (Int32.toNatClampNeg x1) ((σ 11 (Int32.toNatClampNeg x1)) - (x2 - r_1))) (fun σ_4 => (lt (wr σ_4 0 22 ((σ_4 0 22) - r_1)) (fun σ_5 => (lt (wr σ_5 0 23 ((σ_5 0 23) + x2)) (fun σ_6 => (lt (wr σ_6 0 24 ((σ_6 0 24) + x2)) (fun σ_7 => some σ_7)))))))) else none) else none)))
def X5_shoot_b269 (k : SS → Int32 → Int32 → Int32 → Option (Int32 × SS)) (τ : SS) (x2 x5 x6 : Int32) : Option (Int32 × SS) := (k τ x2 x5 (x6 + 1))
def fuel_X5_shoot_217 : Nat := 64
def X5_shoot_l217 : Nat → SS → Int32 → Int32 → Int32 → Option (Int32 × SS)
  | 0, _, _, _, _ => none
  | n + 1, τ, x2, x5, x6 => (if (τ 0 16) ≤ x6 then (lt (wr τ 0 6 x2) (fun σ_18 => (lt (wr σ_18 0 10 ((σ_18 0 10) + (1 : Int32))) (fun σ_19 => (lt (wr σ_19 0 18 (1 : Int32)) (fun σ_20 => some (x5, σ_20))))))) else (if ¬ (x6 < 0 ∨ 8 ≤ (Int32.toNatClampNeg x6)) then (if ((x2 &&& ((τ 0 6) ^^^ (-1 : Int32))) &&& ((1 : Int32) <<< ((τ 7 (Int32.toNatClampNeg x6)) &&& 31))) = 0 then (X5_shoot_b269 (X5_shoot_l217 n) τ x2 x5 x6) else (if ¬ (x6 < 0 ∨ 8 ≤ (Int32.toNatClampNeg x6)) then (if ¬ (x6 < 0 ∨ 8 ≤ (Int32.toNatClampNeg x6)) then (if ¬ ((τ 7 (Int32.toNatClampNeg x6)) < 0 ∨ 8 ≤ (Int32.toNatClampNeg (τ 7 (Int32.toNatClampNeg x6)))) then (lt (wr τ 6 (Int32.toNatClampNeg (τ 7 (Int32.toNatClampNeg x6))) (τ 8 (Int32.toNatClampNeg x6))) (fun σ_26 => (X5_shoot_b269 (X5_shoot_l217 n) σ_26 x2 (x5 + 1) x6))) else none) else none) else none)) else none))
def X5_shoot_b186 (τ : SS) (x2 x3 x4 y1 : Int32) : Option (Int32 × SS) := (lt (wr τ 0 35 y1) (fun σ_13 => (if (σ_13 0 35) ≤ 0 then ((X5_pays σ_13 (0 : Int32) x3).bind (fun σ_15 => ((X5_pays σ_15 (1 : Int32) x4).bind (fun σ_16 => (X5_shoot_l217 fuel_X5_shoot_217 σ_16 x2 (0 : Int32) (0 : Int32)))))) else some ((0 : Int32), σ_13))))
def X5_shoot_b181 (τ : SS) (x2 x3 x4 : Int32) : Option (Int32 × SS) := (X5_shoot_b186 τ x2 x3 x4 (1 : Int32))
def X5_shoot_b147 (τ : SS) (x2 x3 y0 : Int32) : Option (Int32 × SS) := ((X5_lacks τ (0 : Int32) x3).bind (fun r_9 => ((X5_lacks τ (1 : Int32) y0).bind (fun r_10 => (if (τ 0 22) < (r_9 + r_10) then (X5_shoot_b181 τ x2 x3 y0) else (if (τ 0 10) = (1000 : Int32) then (X5_shoot_b181 τ x2 x3 y0) else (X5_shoot_b186 τ x2 x3 y0 (0 : Int32))))))))
def X5_shoot_b126 (k : SS → Int32 → Int32 → Int32 → Int32 → Option (Int32 × SS)) (τ : SS) (x1 x2 x3 x4 : Int32) : Option (Int32 × SS) := (k τ x1 x2 x3 (x4 + 1))
def X5_shoot_b66 (k : SS → Int32 → Int32 → Int32 → Int32 → Option (Int32 × SS)) (τ : SS) (x1 x2 x3 x4 x5 y0 : Int32) : Option (Int32 × SS) := (if ¬ (x4 < 0 ∨ 8 ≤ (Int32.toNatClampNeg x4)) then (if ((τ 8 (Int32.toNatClampNeg x4)) / (24 : Int32)) = (τ 0 10) then (if y0 = 0 then (if ¬ (x5 < 0 ∨ 8 ≤ (Int32.toNatClampNeg x5)) then (if ((τ 5 (Int32.toNatClampNeg x5)) &&& (x2 ^^^ (-1 : Int32))) = 0 then (if ¬ (x5 < 0 ∨ 8 ≤ (Int32.toNatClampNeg x5)) then (X5_shoot_b126 k τ x1 (x2 ||| ((1 : Int32) <<< (x5 &&& 31))) (x3 + ((τ 1 (Int32.toNatClampNeg x5)) * (τ 0 11))) x4) else none) else (X5_shoot_b126 k τ x1 x2 x3 x4)) else none) else (X5_shoot_b126 k τ x1 x2 x3 x4)) else (X5_shoot_b126 k τ x1 x2 x3 x4)) else none)
def X5_shoot_b65 (k : SS → Int32 → Int32 → Int32 → Int32 → Option (Int32 × SS)) (τ : SS) (x1 x2 x3 x4 x5 : Int32) : Option (Int32 × SS) := (X5_shoot_b66 k τ x1 x2 x3 x4 x5 (0 : Int32))
def fuel_X5_shoot_14 : Nat := 64
def X5_shoot_l14 : Nat → SS → Int32 → Int32 → Int32 → Int32 → Option (Int32 × SS)
  | 0, _, _, _, _, _ => none
  | n + 1, τ, x1, x2, x3, x4 => (if (τ 0 16) ≤ x4 then (if (τ 0 13) = 0 then (X5_shoot_b147 τ x2 x3 (0 : Int32)) else (X5_shoot_b147 τ x2 x3 (τ 0 12))) else (if ¬ (x4 < 0 ∨ 8 ≤ (Int32.toNatClampNeg x4)) then (if x1 = 0 then (X5_shoot_b65 (X5_shoot_l14 n) τ x1 x2 x3 x4 (τ 7 (Int32.toNatClampNeg x4))) else (if (τ 0 13) = 0 then (if ¬ ((τ 7 (Int32.toNatClampNeg x4)) < 0 ∨ 8 ≤ (Int32.toNatClampNeg (τ 7 (Int32.toNatClampNeg x4)))) then (if (((τ 0 9) >>> ((τ 2 (Int32.toNatClampNeg (τ 7 (Int32.toNatClampNeg x4)))) &&& 31)) &&& (1 : Int32)) = (1 : Int32) then (X5_shoot_b66 (X5_shoot_l14 n) τ x1 x2 x3 x4 (τ 7 (Int32.toNatClampNeg x4)) (1 : Int32)) else (X5_shoot_b65 (X5_shoot_l14 n) τ x1 x2 x3 x4 (τ 7 (Int32.toNatClampNeg x4)))) else none) else (X5_shoot_b65 (X5_shoot_l14 n) τ x1 x2 x3 x4 (τ 7 (Int32.toNatClampNeg x4))))) else none))
def X5_shoot (σ : SS) (x1 : Int32) : Option (Int32 × SS) := ((X5_plans σ).bind (fun σ_1 => (X5_shoot_l14 fuel_X5_shoot_14 σ_1 x1 (σ_1 0 6) (0 : Int32) (0 : Int32))))
def X5_isLine_b13 (τ : SS) (y1 : Int32) : Option (Int32 × SS) := (lt (wr τ 0 35 y1) (fun σ_2 => (if (σ_2 0 35) = 0 then some ((1 : Int32), σ_2) else some ((0 : Int32), σ_2))))
def X5_isLine (σ : SS) (x1 : Int32) : Option (Int32 × SS) := (if (X5_isIn4 x1) = 0 then (X5_isLine_b13 σ (1 : Int32)) else (X5_isLine_b13 σ (0 : Int32)))
def X5_isMoney (x0 : Int32) : Int32 := X5_isIn x0 (1 : Int32) (100000 : Int32)
theorem z_X5_isMoney  (x0 : Int32) : (X5_isMoney x0) &&& 1 = X5_isMoney x0 := by unfold X5_isMoney; (repeat' split) <;> first | rfl | decide | exact z_X4_isIn _ _ | exact z_X5_isIn _ _ _
def X5_approve_b24 (τ : SS) (x1 x2 y1 : Int32) : Option (Int32 × SS) := (lt (wr τ 0 35 y1) (fun σ_3 => (if (σ_3 0 35) ≤ 0 then (if ¬ (x1 < 0 ∨ 4 ≤ (Int32.toNatClampNeg x1)) then (if ¬ (x1 < 0 ∨ 4 ≤ (Int32.toNatClampNeg x1)) then (lt (wr σ_3 11 (Int32.toNatClampNeg x1) ((σ_3 11 (Int32.toNatClampNeg x1)) + x2)) (fun σ_7 => (if ¬ (x1 < 0 ∨ 4 ≤ (Int32.toNatClampNeg x1)) then some (σ_7 11 (Int32.toNatClampNeg x1), σ_7) else none))) else none) else none) else some ((0 : Int32), σ_3))))
def X5_approve (σ : SS) (x1 x2 : Int32) : Option (Int32 × SS) := (if (X5_isIn4 x1) = 0 then (X5_approve_b24 σ x1 x2 (1 : Int32)) else (if (X5_isMoney x2) = 0 then (X5_approve_b24 σ x1 x2 (2 : Int32)) else (X5_approve_b24 σ x1 x2 (0 : Int32))))
def X5_grant_b13 (τ : SS) (x1 y1 : Int32) : Option (Int32 × SS) := (lt (wr τ 0 35 y1) (fun σ_2 => (if (σ_2 0 35) ≤ 0 then (lt (wr σ_2 0 22 ((σ_2 0 22) + x1)) (fun σ_4 => some (σ_4 0 22, σ_4))) else some ((0 : Int32), σ_2))))
def X5_grant (σ : SS) (x1 : Int32) : Option (Int32 × SS) := (if (X5_isMoney x1) = 0 then (X5_grant_b13 σ x1 (1 : Int32)) else (X5_grant_b13 σ x1 (0 : Int32)))
def X5_bill_b57 (τ : SS) (x1 x2 x3 y1 : Int32) : Option (Int32 × SS) := (lt (wr τ 0 35 y1) (fun σ_7 => (if (σ_7 0 35) ≤ 0 then ((X5_pays σ_7 x1 x2).bind (fun σ_9 => some (x3, σ_9))) else some ((0 : Int32), σ_7))))
def X5_bill_b24 (τ : SS) (x1 x2 y1 : Int32) : Option (Int32 × SS) := (lt (wr τ 0 35 y1) (fun σ_3 => (if (σ_3 0 35) ≤ 0 then ((X5_lacks σ_3 x1 x2).bind (fun r_5 => (if r_5 ≤ (σ_3 0 22) then (X5_bill_b57 σ_3 x1 x2 r_5 (0 : Int32)) else (X5_bill_b57 σ_3 x1 x2 r_5 (3 : Int32))))) else some ((0 : Int32), σ_3))))
def X5_bill (σ : SS) (x1 x2 : Int32) : Option (Int32 × SS) := (if (X5_isIn4 x1) = 0 then (X5_bill_b24 σ x1 x2 (1 : Int32)) else (if (X5_isMoney x2) = 0 then (X5_bill_b24 σ x1 x2 (2 : Int32)) else (X5_bill_b24 σ x1 x2 (0 : Int32))))
def X5_loan_b37 (τ : SS) (x1 x2 y1 : Int32) : Option (Int32 × SS) := (lt (wr τ 0 35 y1) (fun σ_4 => (if (σ_4 0 35) ≤ 0 then (if ¬ ((σ_4 0 25) < 0 ∨ 10 ≤ (Int32.toNatClampNeg (σ_4 0 25))) then (lt (wr σ_4 12 (Int32.toNatClampNeg (σ_4 0 25)) x1) (fun σ_7 => (if ¬ ((σ_7 0 25) < 0 ∨ 10 ≤ (Int32.toNatClampNeg (σ_7 0 25))) then (lt (wr σ_7 13 (Int32.toNatClampNeg (σ_7 0 25)) x2) (fun σ_9 => (lt (wr σ_9 0 25 ((σ_9 0 25) + (1 : Int32))) (fun σ_10 => some ((σ_10 0 25) - (1 : Int32), σ_10))))) else none))) else none) else some ((0 : Int32), σ_4))))
def X5_loan (σ : SS) (x1 x2 : Int32) : Option (Int32 × SS) := (if (X5_isPerson x1) = 0 then (X5_loan_b37 σ x1 x2 (1 : Int32)) else (if (X5_isMoney x2) = 0 then (X5_loan_b37 σ x1 x2 (2 : Int32)) else (if (σ 0 25) = (10 : Int32) then (X5_loan_b37 σ x1 x2 (3 : Int32)) else (X5_loan_b37 σ x1 x2 (0 : Int32)))))
def X5_part_b140 (τ : SS) (x1 x2 x3 y1 : Int32) : Option (Int32 × SS) := (lt (wr τ 0 35 y1) (fun σ_14 => (if (σ_14 0 35) ≤ 0 then (if ¬ ((σ_14 0 28) < 0 ∨ 12 ≤ (Int32.toNatClampNeg (σ_14 0 28))) then (lt (wr σ_14 14 (Int32.toNatClampNeg (σ_14 0 28)) x1) (fun σ_17 => (if ¬ ((σ_17 0 28) < 0 ∨ 12 ≤ (Int32.toNatClampNeg (σ_17 0 28))) then (lt (wr σ_17 15 (Int32.toNatClampNeg (σ_17 0 28)) x2) (fun σ_19 => (if ¬ ((σ_19 0 28) < 0 ∨ 12 ≤ (Int32.toNatClampNeg (σ_19 0 28))) then (lt (wr σ_19 16 (Int32.toNatClampNeg (σ_19 0 28)) x3) (fun σ_21 => (lt (wr σ_21 0 28 ((σ_21 0 28) + (1 : Int32))) (fun σ_22 => some ((σ_22 0 28) - (1 : Int32), σ_22))))) else none))) else none))) else none) else some ((0 : Int32), σ_14))))
def X5_part_b135 (τ : SS) (x1 x2 x3 : Int32) : Option (Int32 × SS) := (X5_part_b140 τ x1 x2 x3 (3 : Int32))
def X5_part_b109 (k : SS → Int32 → Int32 → Int32 → Int32 → Int32 → Option (Int32 × SS)) (τ : SS) (x1 x2 x3 x6 y0 y1 : Int32) : Option (Int32 × SS) := (k τ x1 x2 x3 (y0 + y1) (x6 + 1))
def fuel_X5_part_76 : Nat := 64
def X5_part_l76 : Nat → SS → Int32 → Int32 → Int32 → Int32 → Int32 → Option (Int32 × SS)
  | 0, _, _, _, _, _, _ => none
  | n + 1, τ, x1, x2, x3, x5, x6 => (if (τ 0 28) ≤ x6 then (if (τ 0 28) = (12 : Int32) then (X5_part_b135 τ x1 x2 x3) else (if x5 ≤ (100 : Int32) then (X5_part_b140 τ x1 x2 x3 (0 : Int32)) else (X5_part_b135 τ x1 x2 x3))) else (if ¬ (x6 < 0 ∨ 12 ≤ (Int32.toNatClampNeg x6)) then (if (τ 14 (Int32.toNatClampNeg x6)) = x1 then (if ¬ (x6 < 0 ∨ 12 ≤ (Int32.toNatClampNeg x6)) then (X5_part_b109 (X5_part_l76 n) τ x1 x2 x3 x6 x5 (τ 16 (Int32.toNatClampNeg x6))) else none) else (X5_part_b109 (X5_part_l76 n) τ x1 x2 x3 x6 x5 (0 : Int32))) else none))
def X5_part_b58 (τ : SS) (x1 x2 x3 y1 : Int32) : Option (Int32 × SS) := (lt (wr τ 0 35 y1) (fun σ_6 => (if (σ_6 0 35) ≤ 0 then (X5_part_l76 fuel_X5_part_76 σ_6 x1 x2 x3 x3 (0 : Int32)) else some ((0 : Int32), σ_6))))
def X5_part_b39 (τ : SS) (x1 x2 x3 : Int32) : Option (Int32 × SS) := (X5_part_b58 τ x1 x2 x3 (1 : Int32))
def X5_part_b24 (τ : SS) (x1 x2 x3 y0 : Int32) : Option (Int32 × SS) := (if y0 = 0 then (X5_part_b39 τ x1 x2 x3) else (if (X5_isPerson x2) = 0 then (X5_part_b39 τ x1 x2 x3) else (if (X5_isIn x3 (1 : Int32) (100 : Int32)) = 0 then (X5_part_b58 τ x1 x2 x3 (2 : Int32)) else (X5_part_b58 τ x1 x2 x3 (0 : Int32)))))
def X5_part_b19 (τ : SS) (x1 x2 x3 : Int32) : Option (Int32 × SS) := (X5_part_b24 τ x1 x2 x3 (1 : Int32))
def X5_part (σ : SS) (x1 x2 x3 : Int32) : Option (Int32 × SS) := (if x1 = (-1 : Int32) then (X5_part_b19 σ x1 x2 x3) else (if (X5_isIn x1 (0 : Int32) ((σ 0 28) - (1 : Int32))) = 0 then (X5_part_b24 σ x1 x2 x3 (0 : Int32)) else (X5_part_b19 σ x1 x2 x3)))
def X5_income_b279 (k : SS → Int32 → Int32 → Option (Int32 × SS)) (τ : SS) (x3 x4 : Int32) : Option (Int32 × SS) := (k τ x3 (x4 + 1))
def X5_income_b189 (k : SS → Int32 → Int32 → Option (Int32 × SS)) (τ : SS) (x3 x4 y1 y2 : Int32) : Option (Int32 × SS) := (if ¬ (x4 < 0 ∨ 12 ≤ (Int32.toNatClampNeg x4)) then (if ¬ (y1 < 0 ∨ 12 ≤ (Int32.toNatClampNeg y1)) then (lt (wr τ 17 (Int32.toNatClampNeg y1) ((y2 * (τ 16 (Int32.toNatClampNeg x4))) / (100 : Int32))) (fun σ_18 => (if ¬ (x4 < 0 ∨ 12 ≤ (Int32.toNatClampNeg x4)) then (if ¬ ((σ_18 15 (Int32.toNatClampNeg x4)) < 0 ∨ 6 ≤ (Int32.toNatClampNeg (σ_18 15 (Int32.toNatClampNeg x4)))) then (if ¬ (x4 < 0 ∨ 12 ≤ (Int32.toNatClampNeg x4)) then (if ¬ ((σ_18 15 (Int32.toNatClampNeg x4)) < 0 ∨ 6 ≤ (Int32.toNatClampNeg (σ_18 15 (Int32.toNatClampNeg x4)))) then (lt (wr σ_18 18 (Int32.toNatClampNeg (σ_18 15 (Int32.toNatClampNeg x4))) ((σ_18 18 (Int32.toNatClampNeg (σ_18 15 (Int32.toNatClampNeg x4)))) + (σ_18 17 (Int32.toNatClampNeg x4)))) (fun σ_23 => (if ¬ (x4 < 0 ∨ 12 ≤ (Int32.toNatClampNeg x4)) then (if 0 ≤ (σ_23 14 (Int32.toNatClampNeg x4)) then (if ¬ (x4 < 0 ∨ 12 ≤ (Int32.toNatClampNeg x4)) then (if ¬ ((σ_23 14 (Int32.toNatClampNeg x4)) < 0 ∨ 12 ≤ (Int32.toNatClampNeg (σ_23 14 (Int32.toNatClampNeg x4)))) then (if ¬ ((σ_23 15 (Int32.toNatClampNeg (σ_23 14 (Int32.toNatClampNeg x4)))) < 0 ∨ 6 ≤ (Int32.toNatClampNeg (σ_23 15 (Int32.toNatClampNeg (σ_23 14 (Int32.toNatClampNeg x4)))))) then (if ¬ (x4 < 0 ∨ 12 ≤ (Int32.toNatClampNeg x4)) then (if ¬ ((σ_23 15 (Int32.toNatClampNeg (σ_23 14 (Int32.toNatClampNeg x4)))) < 0 ∨ 6 ≤ (Int32.toNatClampNeg (σ_23 15 (Int32.toNatClampNeg (σ_23 14 (Int32.toNatClampNeg x4)))))) then (lt (wr σ_23 18 (Int32.toNatClampNeg (σ_23 15 (Int32.toNatClampNeg (σ_23 14 (Int32.toNatClampNeg x4))))) ((σ_23 18 (Int32.toNatClampNeg (σ_23 15 (Int32.toNatClampNeg (σ_23 14 (Int32.toNatClampNeg x4)))))) - (σ_23 17 (Int32.toNatClampNeg x4)))) (fun σ_31 => (X5_income_b279 k σ_31 x3 x4))) else none) else none) else none) else none) else none) else (if ¬ (x4 < 0 ∨ 12 ≤ (Int32.toNatClampNeg x4)) then (lt (wr σ_23 0 34 ((σ_23 0 34) - (σ_23 17 (Int32.toNatClampNeg x4)))) (fun σ_33 => (X5_income_b279 k σ_33 x3 x4))) else none)) else none))) else none) else none) else none) else none))) else none) else none)
def fuel_X5_income_148 : Nat := 64
def X5_income_l148 : Nat → SS → Int32 → Int32 → Option (Int32 × SS)
  | 0, _, _, _ => none
  | n + 1, τ, x3, x4 => (if (τ 0 28) ≤ x4 then some (x3, τ) else (if ¬ (x4 < 0 ∨ 12 ≤ (Int32.toNatClampNeg x4)) then (if 0 ≤ (τ 14 (Int32.toNatClampNeg x4)) then (if ¬ (x4 < 0 ∨ 12 ≤ (Int32.toNatClampNeg x4)) then (if ¬ ((τ 14 (Int32.toNatClampNeg x4)) < 0 ∨ 12 ≤ (Int32.toNatClampNeg (τ 14 (Int32.toNatClampNeg x4)))) then (X5_income_b189 (X5_income_l148 n) τ x3 x4 x4 (τ 17 (Int32.toNatClampNeg (τ 14 (Int32.toNatClampNeg x4))))) else none) else none) else (X5_income_b189 (X5_income_l148 n) τ x3 x4 x4 x3)) else none))
def X5_income_b93 (k : SS → Int32 → Int32 → Option (Int32 × SS)) (τ : SS) (x3 x4 y0 : Int32) : Option (Int32 × SS) := (if ¬ (x4 < 0 ∨ 10 ≤ (Int32.toNatClampNeg x4)) then (if ¬ (x4 < 0 ∨ 10 ≤ (Int32.toNatClampNeg x4)) then (lt (wr τ 13 (Int32.toNatClampNeg x4) ((τ 13 (Int32.toNatClampNeg x4)) - y0)) (fun σ_36 => (if ¬ (x4 < 0 ∨ 10 ≤ (Int32.toNatClampNeg x4)) then (if ¬ ((σ_36 12 (Int32.toNatClampNeg x4)) < 0 ∨ 6 ≤ (Int32.toNatClampNeg (σ_36 12 (Int32.toNatClampNeg x4)))) then (if ¬ ((σ_36 12 (Int32.toNatClampNeg x4)) < 0 ∨ 6 ≤ (Int32.toNatClampNeg (σ_36 12 (Int32.toNatClampNeg x4)))) then (lt (wr σ_36 18 (Int32.toNatClampNeg (σ_36 12 (Int32.toNatClampNeg x4))) ((σ_36 18 (Int32.toNatClampNeg (σ_36 12 (Int32.toNatClampNeg x4)))) + y0)) (fun σ_40 => (k σ_40 (x3 - y0) (x4 + 1)))) else none) else none) else none))) else none) else none)
def fuel_X5_income_62 : Nat := 64
def X5_income_l62 : Nat → SS → Int32 → Int32 → Option (Int32 × SS)
  | 0, _, _, _ => none
  | n + 1, τ, x3, x4 => (if (τ 0 25) ≤ x4 then (lt (wr τ 0 34 ((τ 0 34) + x3)) (fun σ_7 => (X5_income_l148 fuel_X5_income_148 σ_7 x3 (0 : Int32)))) else (if ¬ (x4 < 0 ∨ 10 ≤ (Int32.toNatClampNeg x4)) then (if x3 ≤ (τ 13 (Int32.toNatClampNeg x4)) then (X5_income_b93 (X5_income_l62 n) τ x3 x4 x3) else (if ¬ (x4 < 0 ∨ 10 ≤ (Int32.toNatClampNeg x4)) then (X5_income_b93 (X5_income_l62 n) τ x3 x4 (τ 13 (Int32.toNatClampNeg x4))) else none)) else none))
def X5_income_b44 (τ : SS) (x1 y0 : Int32) : Option (Int32 × SS) := (lt (wr τ 0 24 ((τ 0 24) - y0)) (fun σ_5 => (X5_income_l62 fuel_X5_income_62 σ_5 (x1 - y0) (0 : Int32))))
def X5_income_b16 (τ : SS) (x1 y1 : Int32) : Option (Int32 × SS) := (lt (wr τ 0 35 y1) (fun σ_2 => (if (σ_2 0 35) ≤ 0 then (if x1 ≤ (σ_2 0 24) then (X5_income_b44 σ_2 x1 x1) else (X5_income_b44 σ_2 x1 (σ_2 0 24))) else some ((0 : Int32), σ_2))))
def X5_income (σ : SS) (x1 : Int32) : Option (Int32 × SS) := (if (X5_isIn x1 (1 : Int32) (1000000 : Int32)) = 0 then (X5_income_b16 σ x1 (1 : Int32)) else (X5_income_b16 σ x1 (0 : Int32)))
def X5_today (σ : SS) : Option (Int32 × SS) := (lt (wr σ 0 35 (0 : Int32)) (fun σ_1 => some (σ_1 0 10, σ_1)))
def X5_shot (σ : SS) : Option (Int32 × SS) := (lt (wr σ 0 35 (0 : Int32)) (fun σ_1 => some (σ_1 0 6, σ_1)))
def X5_days (σ : SS) : Option (Int32 × SS) := (lt (wr σ 0 35 (0 : Int32)) (fun σ_1 => ((X5_plans σ_1).bind (fun σ_2 => some (σ_2 0 17, σ_2)))))
def X5_daysByAll_b19 (τ : SS) (y1 : Int32) : Option (Int32 × SS) := (lt (wr τ 0 35 y1) (fun σ_3 => (if (σ_3 0 35) ≤ 0 then some (σ_3 0 17, σ_3) else some ((0 : Int32), σ_3))))
def X5_daysByAll (σ : SS) : Option (Int32 × SS) := ((X5_plans σ).bind (fun σ_1 => (if (σ_1 0 16) ≤ (6 : Int32) then (X5_daysByAll_b19 σ_1 (0 : Int32)) else (X5_daysByAll_b19 σ_1 (1 : Int32)))))
def X5_planned_b24 (τ : SS) (x1 y1 : Int32) : Option (Int32 × SS) := (lt (wr τ 0 35 y1) (fun σ_3 => (if (σ_3 0 35) ≤ 0 then (if ¬ (x1 < 0 ∨ 8 ≤ (Int32.toNatClampNeg x1)) then some (σ_3 7 (Int32.toNatClampNeg x1), σ_3) else none) else some ((0 : Int32), σ_3))))
def X5_planned (σ : SS) (x1 : Int32) : Option (Int32 × SS) := ((X5_plans σ).bind (fun σ_1 => (if (X5_isIn x1 (0 : Int32) ((σ_1 0 16) - (1 : Int32))) = 0 then (X5_planned_b24 σ_1 x1 (1 : Int32)) else (X5_planned_b24 σ_1 x1 (0 : Int32)))))
def X5_begins_b73 (k : SS → Int32 → Int32 → Int32 → Option (Int32 × SS)) (τ : SS) (x1 x3 y0 : Int32) : Option (Int32 × SS) := (k τ x1 y0 (x3 + 1))
def fuel_X5_begins_45 : Nat := 64
def X5_begins_l45 : Nat → SS → Int32 → Int32 → Int32 → Option (Int32 × SS)
  | 0, _, _, _, _ => none
  | n + 1, τ, x1, x2, x3 => (if (τ 0 16) ≤ x3 then some (x2, τ) else (if ¬ (x3 < 0 ∨ 8 ≤ (Int32.toNatClampNeg x3)) then (if (τ 7 (Int32.toNatClampNeg x3)) = x1 then (if ¬ (x3 < 0 ∨ 8 ≤ (Int32.toNatClampNeg x3)) then (X5_begins_b73 (X5_begins_l45 n) τ x1 x3 (τ 8 (Int32.toNatClampNeg x3))) else none) else (X5_begins_b73 (X5_begins_l45 n) τ x1 x3 x2)) else none))
def X5_begins_b24 (τ : SS) (x1 y1 : Int32) : Option (Int32 × SS) := (lt (wr τ 0 35 y1) (fun σ_3 => (if (σ_3 0 35) ≤ 0 then (if ¬ (x1 < 0 ∨ 8 ≤ (Int32.toNatClampNeg x1)) then (X5_begins_l45 fuel_X5_begins_45 σ_3 x1 (σ_3 6 (Int32.toNatClampNeg x1)) (0 : Int32)) else none) else some ((0 : Int32), σ_3))))
def X5_begins (σ : SS) (x1 : Int32) : Option (Int32 × SS) := ((X5_plans σ).bind (fun σ_1 => (if (X5_isIn x1 (0 : Int32) ((σ_1 0 0) - (1 : Int32))) = 0 then (X5_begins_b24 σ_1 x1 (1 : Int32)) else (X5_begins_b24 σ_1 x1 (0 : Int32)))))
def X5_left (σ : SS) (x1 : Int32) : Option (Int32 × SS) := (bd2 (X5_isLine σ x1) (fun r_1 σ_1 => (if r_1 = 0 then some ((0 : Int32), σ_1) else (if ¬ (x1 < 0 ∨ 4 ≤ (Int32.toNatClampNeg x1)) then some (σ_1 11 (Int32.toNatClampNeg x1), σ_1) else none))))
def X5_fee (σ : SS) : Option (Int32 × SS) := (lt (wr σ 0 35 (0 : Int32)) (fun σ_1 => some (σ_1 0 22, σ_1)))
def X5_costs (σ : SS) : Option (Int32 × SS) := (lt (wr σ 0 35 (0 : Int32)) (fun σ_1 => some (σ_1 0 23, σ_1)))
def X5_open (σ : SS) : Option (Int32 × SS) := (lt (wr σ 0 35 (0 : Int32)) (fun σ_1 => some (σ_1 0 24, σ_1)))
def X5_openOf_b20 (τ : SS) (x1 y1 : Int32) : Option (Int32 × SS) := (lt (wr τ 0 35 y1) (fun σ_2 => (if (σ_2 0 35) ≤ 0 then (if ¬ (x1 < 0 ∨ 10 ≤ (Int32.toNatClampNeg x1)) then some (σ_2 13 (Int32.toNatClampNeg x1), σ_2) else none) else some ((0 : Int32), σ_2))))
def X5_openOf (σ : SS) (x1 : Int32) : Option (Int32 × SS) := (if (X5_isIn x1 (0 : Int32) ((σ 0 25) - (1 : Int32))) = 0 then (X5_openOf_b20 σ x1 (1 : Int32)) else (X5_openOf_b20 σ x1 (0 : Int32)))
def X5_got_b13 (τ : SS) (x1 y1 : Int32) : Option (Int32 × SS) := (lt (wr τ 0 35 y1) (fun σ_2 => (if (σ_2 0 35) ≤ 0 then (if ¬ (x1 < 0 ∨ 6 ≤ (Int32.toNatClampNeg x1)) then some (σ_2 18 (Int32.toNatClampNeg x1), σ_2) else none) else some ((0 : Int32), σ_2))))
def X5_got (σ : SS) (x1 : Int32) : Option (Int32 × SS) := (if (X5_isPerson x1) = 0 then (X5_got_b13 σ x1 (1 : Int32)) else (X5_got_b13 σ x1 (0 : Int32)))
def X5_house (σ : SS) : Option (Int32 × SS) := (lt (wr σ 0 35 (0 : Int32)) (fun σ_1 => some (σ_1 0 34, σ_1)))
end
section
/-- the class's rows of numbers, with their lengths -/
def rowL : List (Nat × Nat) := [(5, 8), (6, 8), (7, 8), (8, 8), (9, 8), (10, 8), (11, 8), (12, 8), (13, 8), (14, 4), (15, 10), (16, 10), (17, 12), (18, 12), (19, 12), (20, 12), (21, 6)]
theorem rowL_at {q : Nat → Nat} {cA : ClassId} {k n : Nat} (h : (k, n) ∈ rowL) (σ : SS) : (WC q cA σ)[k]? = some (q k, .inl (cA, n, .inl (σ k))) ∧ (∀ f : Nat → Int32, (WC q cA σ).set k (q k, .inl (cA, n, .inl f)) = WC q cA (sst σ k f)) ∧ n < 2 ^ 31 := by
  simp only [rowL, List.mem_cons, Prod.mk.injEq, List.not_mem_nil, or_false] at h
  rcases h with ⟨rfl, rfl⟩ | ⟨rfl, rfl⟩ | ⟨rfl, rfl⟩ | ⟨rfl, rfl⟩ | ⟨rfl, rfl⟩ | ⟨rfl, rfl⟩ | ⟨rfl, rfl⟩ | ⟨rfl, rfl⟩ | ⟨rfl, rfl⟩ | ⟨rfl, rfl⟩ | ⟨rfl, rfl⟩ | ⟨rfl, rfl⟩ | ⟨rfl, rfl⟩ | ⟨rfl, rfl⟩ | ⟨rfl, rfl⟩ | ⟨rfl, rfl⟩ | ⟨rfl, rfl⟩ <;> exact ⟨rfl, fun _ => rfl, by decide⟩
theorem in_of {i : Int32} {n : Nat} (hn : n < 2 ^ 31) (h1 : ¬ i < 0) (h2 : ¬ Int32.ofNat n ≤ i) : vp_in i n := by
  rw [vp_in_iff]
  have e := nI_toInt hn
  simp only [nI] at e
  rw [Int32.lt_iff_toInt_lt, Int32.toInt_zero] at h1
  rw [Int32.le_iff_toInt_le, e] at h2
  omega
section
variable {l : Launch} {D : va_G} {q : Nat → Nat} {cA : ClassId}
set_option maxHeartbeats 4000000 in
set_option maxRecDepth 100000 in
theorem m_at {k n : Nat} (hk : (k, n) ∈ rowL) (σ : SS) (x1 : Int32) : Ct l yX4_at cX4_at 2 (some .int) 0 0 D vwCl [(cA, .int)] (WC q cA σ) (WC q cA σ) [.ref (q k), .int x1] (some (.int (fat σ k n x1))) := by
  obtain ⟨hk1, hk2, hn⟩ := rowL_at (q := q) (cA := cA) hk σ
  obtain ⟨r, h⟩ : ∃ r, fat σ k n x1 = r := ⟨_, rfl⟩
  rw [h]
  unfold fat at h
  refine ct_of (by decide +kernel) (Nat.le_of_ble_eq_true rfl) ?_
  intro p e s m args below meth c hx hb hr hlk hml hown hts hK hD hN hA
  have hown : s.vm.findClass RX4 = some m.cls := hown
  refine ww_sub (lv1 := [(0, .ref (q k)), (1, .int x1)]) [0, 1] rfl ?_
  refine ww_iload_n hx hb dX4_at_0 rfl 1 rfl ?_
  refine ww_lt0 (tgt := 16) hx hb dX4_at_1 (by decide) (fun c_1 => ?_) (fun c_1 => ?_)
  · replace h := it_p c_1 h
    obtain rfl := h
    refine ww_iconst (v := 0) hx hb dX4_at_16 (by decide) ?_
    exact ww_iret hx hb hr hlk rfl dX4_at_17
  · replace h := it_n c_1 h
    refine ww_iload_n hx hb dX4_at_4 rfl 1 rfl ?_
    refine ww_aload_n hx hb dX4_at_5 rfl 0 rfl ?_
    refine ww_alen (v := Int32.ofNat n) hx hb hown hts hK k 0 hk1 rfl rfl dX4_at_6 ?_
    refine ww_ge2 (tgt := 16) hx hb dX4_at_7 (by decide) (fun c_2 => ?_) (fun c_2 => ?_)
    · replace h := it_p c_2 h
      obtain rfl := h
      refine ww_iconst (v := 0) hx hb dX4_at_16 (by decide) ?_
      exact ww_iret hx hb hr hlk rfl dX4_at_17
    · replace h := it_n c_2 h
      obtain rfl := h
      refine ww_aload_n hx hb dX4_at_10 rfl 0 rfl ?_
      refine ww_iload_n hx hb dX4_at_11 rfl 1 rfl ?_
      refine ww_iald hx hb hown hts hK k 0 hk1 rfl (in_of hn c_1 c_2) dX4_at_12 ?_
      refine ww_goto (tgt := 17) hx hb dX4_at_13 (by decide) ?_
      exact ww_iret hx hb hr hlk rfl dX4_at_17
set_option maxHeartbeats 4000000 in
set_option maxRecDepth 100000 in
theorem m_put {k n : Nat} (hk : (k, n) ∈ rowL) (σ : SS) (x1 x2 : Int32) (σ1 : SS) (h : fput σ k n x1 x2 = σ1) : Ct l yX4_put cX4_put 3 none 0 0 D vwCl [(cA, .int)] (WC q cA σ) (WC q cA σ1) [.ref (q k), .int x1, .int x2] none := by
  obtain ⟨hk1, hk2, hn⟩ := rowL_at (q := q) (cA := cA) hk σ
  unfold fput at h
  refine ct_of (by decide +kernel) (Nat.le_of_ble_eq_true rfl) ?_
  intro p e s m args below meth c hx hb hr hlk hml hown hts hK hD hN hA
  have hown : s.vm.findClass RX4 = some m.cls := hown
  refine ww_sub (lv1 := [(0, .ref (q k)), (1, .int x1), (2, .int x2)]) [0, 1, 2] rfl ?_
  refine ww_iload_n hx hb dX4_put_0 rfl 1 rfl ?_
  refine ww_lt0 (tgt := 14) hx hb dX4_put_1 (by decide) (fun c_1 => ?_) (fun c_1 => ?_)
  · replace h := it_p c_1 h
    obtain rfl := h
    exact ww_vret hx hb hr hlk dX4_put_14
  · replace h := it_n c_1 h
    refine ww_iload_n hx hb dX4_put_4 rfl 1 rfl ?_
    refine ww_aload_n hx hb dX4_put_5 rfl 0 rfl ?_
    refine ww_alen (v := Int32.ofNat n) hx hb hown hts hK k 0 hk1 rfl rfl dX4_put_6 ?_
    refine ww_ge2 (tgt := 14) hx hb dX4_put_7 (by decide) (fun c_2 => ?_) (fun c_2 => ?_)
    · replace h := it_p c_2 h
      obtain rfl := h
      exact ww_vret hx hb hr hlk dX4_put_14
    · replace h := it_n c_2 h
      obtain rfl := h
      refine ww_aload_n hx hb dX4_put_10 rfl 0 rfl ?_
      refine ww_iload_n hx hb dX4_put_11 rfl 1 rfl ?_
      refine ww_iload_n hx hb dX4_put_12 rfl 2 rfl ?_
      refine ww_iast (ws1 := WC q cA (wr σ k x1.toNatClampNeg x2)) hx hb hown hts hK hD k 0 hk1 rfl (in_of hn c_1 c_2) dX4_put_13 (hk2 _) ?_
      exact ww_vret hx hb hr hlk dX4_put_14
set_option maxHeartbeats 4000000 in
set_option maxRecDepth 100000 in
theorem m_add {k n : Nat} (hk : (k, n) ∈ rowL) (σ : SS) (x1 x2 : Int32) (σ1 : SS) (h : fadd σ k n x1 x2 = σ1) : Ct l yX4_add cX4_add 3 none 1 40 D vwCl [(cA, .int)] (WC q cA σ) (WC q cA σ1) [.ref (q k), .int x1, .int x2] none := by
  refine ct_of (by decide +kernel) (Nat.le_of_ble_eq_true rfl) ?_
  intro p e s m args below meth c hx hb hr hlk hml hown hts hK hD hN hA
  have hown : s.vm.findClass RX4 = some m.cls := hown
  have hDD : ∀ τ : SS, va_D (va_A (WC q cA σ) s.heap.size) (WC q cA τ) := fun τ => hD.adr rfl
  refine ww_sub (lv1 := [(0, .ref (q k)), (1, .int x1), (2, .int x2)]) [0, 1, 2] rfl ?_
  refine ww_aload_n hx hb dX4_add_0 rfl 0 rfl ?_
  refine ww_iload_n hx hb dX4_add_1 rfl 1 rfl ?_
  refine ww_aload_n hx hb dX4_add_2 rfl 0 rfl ?_
  refine ww_iload_n hx hb dX4_add_3 rfl 1 rfl ?_
  refine ww_callS (ws1 := WC q cA σ) (st1 := [.int (fat σ k n x1), .int x1, .ref (q k)]) hx hb hml hown hts hK hN hA (hDD _) (Nat.zero_le _) (Nat.zero_le _) [.ref (q k), .int x1] [.int x1, .ref (q k)] (m_at hk σ x1) cs_X4_131 rfl (by decide) rfl (Nat.le_of_ble_eq_true rfl) dX4_add_4 rfl ?_
  refine ww_iload_n hx hb dX4_add_7 rfl 2 rfl ?_
  refine ww_iadd hx hb dX4_add_8 ?_
  refine ww_callS (ws1 := WC q cA σ1) (st1 := []) hx hb hml hown hts hK hN hA (hDD _) (Nat.zero_le _) (Nat.zero_le _) [.ref (q k), .int x1, .int (fat σ k n x1 + x2)] [] (m_put hk σ x1 (fat σ k n x1 + x2) σ1 h) cs_X4_194 rfl (by decide) rfl (Nat.le_of_ble_eq_true rfl) dX4_add_9 rfl ?_
  exact ww_vret hx hb hr hlk dX4_add_12
end
section
variable {l : Launch} {D : va_G} {q : Nat → Nat} {cA : ClassId}
set_option maxHeartbeats 4000000 in
set_option maxRecDepth 100000 in
theorem m_X4_isWithin (σ : SS) (x0 x1 x2 : Int32) : Ct l yX4_isWithin cX4_isWithin 3 (some .boolean) 0 0 D vwCl [(cA, .int)] (WC q cA σ) (WC q cA σ) [.int (x0), .int (x1), .int (x2)] (some (.int (X4_isWithin x0 x1 x2))) := by
  refine ct_of (by decide +kernel) (Nat.le_of_ble_eq_true rfl) ?_
  intro p e s m args below meth c hx hb hr hlk hml hown hts hK hD hN hA
  have hown : s.vm.findClass RX4 = some m.cls := hown
  have hDD : ∀ τ : SS, va_D (va_A (WC q cA σ) s.heap.size) (WC q cA τ) := fun τ => hD.adr rfl
  obtain ⟨r, h⟩ : ∃ r, X4_isWithin x0 x1 x2 = r := ⟨_, rfl⟩
  rw [h]
  unfold X4_isWithin at h
  refine ww_sub (lv1 := [(0, .int (x0)), (1, .int (x1)), (2, .int (x2))]) [0, 1, 2] rfl ?_
  refine ww_iload_n hx hb dX4_isWithin_0 rfl 0 rfl ?_
  refine ww_iload_n hx hb dX4_isWithin_1 rfl 1 rfl ?_
  refine ww_lt2 (tgt := 14) hx hb dX4_isWithin_2 (by decide) (fun c_1 => ?_) (fun c_1 => ?_)
  · replace h := it_p c_1 h
    refine ww_iconst (v := 0) hx hb dX4_isWithin_14 (by decide) ?_
    obtain rfl := h
    exact ww_zret hx hb hr hlk (by decide) rfl dX4_isWithin_15
  · replace h := it_n c_1 h
    refine ww_iload_n hx hb dX4_isWithin_5 rfl 0 rfl ?_
    refine ww_iload_n hx hb dX4_isWithin_6 rfl 2 rfl ?_
    refine ww_gt2 (tgt := 14) hx hb dX4_isWithin_7 (by decide) (fun c_2 => ?_) (fun c_2 => ?_)
    · replace h := it_p c_2 h
      refine ww_iconst (v := 0) hx hb dX4_isWithin_14 (by decide) ?_
      obtain rfl := h
      exact ww_zret hx hb hr hlk (by decide) rfl dX4_isWithin_15
    · replace h := it_n c_2 h
      refine ww_iconst (v := 1) hx hb dX4_isWithin_10 (by decide) ?_
      refine ww_goto (tgt := 15) hx hb dX4_isWithin_11 (by decide) ?_
      obtain rfl := h
      exact ww_zret hx hb hr hlk (by decide) rfl dX4_isWithin_15
set_option maxHeartbeats 4000000 in
set_option maxRecDepth 100000 in
theorem m_X3_everyScene (σ : SS) : Ct l yX3_everyScene cX3_everyScene 1 (some .int) 0 0 D vwCl [(cA, .int)] (WC q cA σ) (WC q cA σ) [.ref (q 2)] (some (.int (X3_everyScene σ))) := by
  refine ct_of (by decide +kernel) (Nat.le_of_ble_eq_true rfl) ?_
  intro p e s m args below meth c hx hb hr hlk hml hown hts hK hD hN hA
  have hown : s.vm.findClass RX3 = some m.cls := hown
  have hDD : ∀ τ : SS, va_D (va_A (WC q cA σ) s.heap.size) (WC q cA τ) := fun τ => hD.adr rfl
  obtain ⟨r, h⟩ : ∃ r, X3_everyScene σ = r := ⟨_, rfl⟩
  rw [h]
  unfold X3_everyScene at h
  refine ww_sub (lv1 := [(0, .ref (q 2))]) [0] rfl ?_
  refine ww_iconst (v := 1) hx hb dX3_everyScene_0 (by decide) ?_
  refine ww_aload_n hx hb dX3_everyScene_1 rfl 0 rfl ?_
  refine ww_get (C := RX3) (T := TX3) (N := 9) hx hb hown hts hK inA3 2 rfl rfl 5 (by decide) kw_0 rfl rfl dX3_everyScene_2 ?_
  refine ww_ishl hx hb dX3_everyScene_5 ?_
  refine ww_iconst (v := 1) hx hb dX3_everyScene_6 (by decide) ?_
  refine ww_isub hx hb dX3_everyScene_7 ?_
  obtain rfl := h
  exact ww_iret hx hb hr hlk rfl dX3_everyScene_8
set_option maxHeartbeats 4000000 in
set_option maxRecDepth 100000 in
theorem m_X2_forget (σ : SS) (σ1 : SS) (h : X2_forget σ = some σ1) : Ct l yX2_forget cX2_forget 1 none 0 0 D vwCl [(cA, .int)] (WC q cA σ) (WC q cA σ1) [.ref (q 1)] none := by
  refine ct_of (by decide +kernel) (Nat.le_of_ble_eq_true rfl) ?_
  intro p e s m args below meth c hx hb hr hlk hml hown hts hK hD hN hA
  have hown : s.vm.findClass RX2 = some m.cls := hown
  have hDD : ∀ τ : SS, va_D (va_A (WC q cA σ) s.heap.size) (WC q cA τ) := fun τ => hD.adr rfl
  unfold X2_forget at h
  refine ww_sub (lv1 := [(0, .ref (q 1))]) [0] rfl ?_
  refine ww_aload_n hx hb dX2_forget_0 rfl 0 rfl ?_
  refine ww_iconst (v := 0) hx hb dX2_forget_1 (by decide) ?_
  obtain ⟨σ_1, e_1, h⟩ := lt_e h
  refine ww_put (C := RX2) (T := TX2) (N := 8) (ty := .boolean) (ws1 := WC q cA (σ_1)) hx hb hown hts hK inA2 tyX2 tyX2_ok nmX2 (hDD _) 1 rfl rfl 7 (by decide) kw_1 rfl rfl rfl (isZ_narrow (by decide)) (isZ_fits (by decide)) (Nat.le_of_ble_eq_true rfl) dX2_forget_2 (e_1 ▸ rfl) ?_
  obtain rfl := os1 h
  exact ww_vret hx hb hr hlk dX2_forget_5
set_option maxHeartbeats 4000000 in
set_option maxRecDepth 100000 in
theorem m_X3_append (σ : SS) (x1 x2 x3 x4 x5 : Int32) (r : Int32) (σ1 : SS) (h : X3_append σ x1 x2 x3 x4 x5 = some (r, σ1)) : Ct l yX3_append cX3_append 6 (some .int) 1 40 D vwCl [(cA, .int)] (WC q cA σ) (WC q cA σ1) [.ref (q 2), .int (x1), .int (x2), .int (x3), .int (x4), .int (x5)] (some (.int r)) := by
  refine ct_of (by decide +kernel) (Nat.le_of_ble_eq_true rfl) ?_
  intro p e s m args below meth c hx hb hr hlk hml hown hts hK hD hN hA
  have hown : s.vm.findClass RX3 = some m.cls := hown
  have hDD : ∀ τ : SS, va_D (va_A (WC q cA σ) s.heap.size) (WC q cA τ) := fun τ => hD.adr rfl
  unfold X3_append at h
  refine ww_sub (lv1 := [(0, .ref (q 2)), (1, .int (x1)), (2, .int (x2)), (3, .int (x3)), (4, .int (x4)), (5, .int (x5))]) [0, 1, 2, 3, 4, 5] rfl ?_
  refine ww_aload_n hx hb dX3_append_0 rfl 0 rfl ?_
  refine ww_get (C := RX3) (T := TX3) (N := 9) hx hb hown hts hK inA3 2 rfl rfl 0 (by decide) kw_2 rfl rfl dX3_append_1 ?_
  refine ww_aload_n hx hb dX3_append_4 rfl 0 rfl ?_
  refine ww_get (C := RX3) (T := TX3) (N := 9) hx hb hown hts hK inA3 2 rfl rfl 5 (by decide) kw_0 rfl rfl dX3_append_5 ?_
  refine ww_iload_n hx hb dX3_append_8 rfl 1 rfl ?_
  obtain ⟨σ_1, e_1, h⟩ := lt_e h
  refine ww_callN (ws1 := WC q cA σ_1) (st1 := []) hx hb hml hown hts hK hN hA (hDD _) (Nat.zero_le _) (Nat.zero_le _) [.ref (q 5), .int (σ 2 5), .int (x1)] [] (m_put (by decide) _ _ _ _ e_1) cs_X3_31 rfl (by decide) rfl (Nat.le_of_ble_eq_true rfl) dX3_append_9 rfl ?_
  refine ww_aload_n hx hb dX3_append_12 rfl 0 rfl ?_
  refine ww_get (C := RX3) (T := TX3) (N := 9) hx hb hown hts hK inA3 2 rfl rfl 1 (by decide) kw_6 rfl rfl dX3_append_13 ?_
  refine ww_aload_n hx hb dX3_append_16 rfl 0 rfl ?_
  refine ww_get (C := RX3) (T := TX3) (N := 9) hx hb hown hts hK inA3 2 rfl rfl 5 (by decide) kw_0 rfl rfl dX3_append_17 ?_
  refine ww_iload_n hx hb dX3_append_20 rfl 2 rfl ?_
  obtain ⟨σ_2, e_2, h⟩ := lt_e h
  refine ww_callN (ws1 := WC q cA σ_2) (st1 := []) hx hb hml hown hts hK hN hA (hDD _) (Nat.zero_le _) (Nat.zero_le _) [.ref (q 6), .int (σ_1 2 5), .int (x2)] [] (m_put (by decide) _ _ _ _ e_2) cs_X3_31 rfl (by decide) rfl (Nat.le_of_ble_eq_true rfl) dX3_append_21 rfl ?_
  refine ww_aload_n hx hb dX3_append_24 rfl 0 rfl ?_
  refine ww_get (C := RX3) (T := TX3) (N := 9) hx hb hown hts hK inA3 2 rfl rfl 2 (by decide) kw_7 rfl rfl dX3_append_25 ?_
  refine ww_aload_n hx hb dX3_append_28 rfl 0 rfl ?_
  refine ww_get (C := RX3) (T := TX3) (N := 9) hx hb hown hts hK inA3 2 rfl rfl 5 (by decide) kw_0 rfl rfl dX3_append_29 ?_
  refine ww_iload_n hx hb dX3_append_32 rfl 3 rfl ?_
  obtain ⟨σ_3, e_3, h⟩ := lt_e h
  refine ww_callN (ws1 := WC q cA σ_3) (st1 := []) hx hb hml hown hts hK hN hA (hDD _) (Nat.zero_le _) (Nat.zero_le _) [.ref (q 7), .int (σ_2 2 5), .int (x3)] [] (m_put (by decide) _ _ _ _ e_3) cs_X3_31 rfl (by decide) rfl (Nat.le_of_ble_eq_true rfl) dX3_append_33 rfl ?_
  refine ww_aload_n hx hb dX3_append_36 rfl 0 rfl ?_
  refine ww_get (C := RX3) (T := TX3) (N := 9) hx hb hown hts hK inA3 2 rfl rfl 3 (by decide) kw_8 rfl rfl dX3_append_37 ?_
  refine ww_aload_n hx hb dX3_append_40 rfl 0 rfl ?_
  refine ww_get (C := RX3) (T := TX3) (N := 9) hx hb hown hts hK inA3 2 rfl rfl 5 (by decide) kw_0 rfl rfl dX3_append_41 ?_
  refine ww_iload hx hb dX3_append_44 4 rfl ?_
  obtain ⟨σ_4, e_4, h⟩ := lt_e h
  refine ww_callN (ws1 := WC q cA σ_4) (st1 := []) hx hb hml hown hts hK hN hA (hDD _) (Nat.zero_le _) (Nat.zero_le _) [.ref (q 8), .int (σ_3 2 5), .int (x4)] [] (m_put (by decide) _ _ _ _ e_4) cs_X3_31 rfl (by decide) rfl (Nat.le_of_ble_eq_true rfl) dX3_append_46 rfl ?_
  refine ww_aload_n hx hb dX3_append_49 rfl 0 rfl ?_
  refine ww_get (C := RX3) (T := TX3) (N := 9) hx hb hown hts hK inA3 2 rfl rfl 4 (by decide) kw_9 rfl rfl dX3_append_50 ?_
  refine ww_aload_n hx hb dX3_append_53 rfl 0 rfl ?_
  refine ww_get (C := RX3) (T := TX3) (N := 9) hx hb hown hts hK inA3 2 rfl rfl 5 (by decide) kw_0 rfl rfl dX3_append_54 ?_
  refine ww_iload hx hb dX3_append_57 5 rfl ?_
  obtain ⟨σ_5, e_5, h⟩ := lt_e h
  refine ww_callN (ws1 := WC q cA σ_5) (st1 := []) hx hb hml hown hts hK hN hA (hDD _) (Nat.zero_le _) (Nat.zero_le _) [.ref (q 9), .int (σ_4 2 5), .int (x5)] [] (m_put (by decide) _ _ _ _ e_5) cs_X3_31 rfl (by decide) rfl (Nat.le_of_ble_eq_true rfl) dX3_append_59 rfl ?_
  refine ww_aload_n hx hb dX3_append_62 rfl 0 rfl ?_
  refine ww_dup hx hb dX3_append_63 rfl ?_
  refine ww_get (C := RX3) (T := TX3) (N := 9) hx hb hown hts hK inA3 2 rfl rfl 5 (by decide) kw_0 rfl rfl dX3_append_64 ?_
  refine ww_iconst (v := 1) hx hb dX3_append_67 (by decide) ?_
  refine ww_iadd hx hb dX3_append_68 ?_
  obtain ⟨σ_6, e_6, h⟩ := lt_e h
  refine ww_put (C := RX3) (T := TX3) (N := 9) (ty := .int) (ws1 := WC q cA (σ_6)) hx hb hown hts hK inA3 tyX3 tyX3_ok nmX3 (hDD _) 2 rfl rfl 5 (by decide) kw_0 rfl rfl rfl rfl rfl (Nat.le_of_ble_eq_true rfl) dX3_append_69 (e_6 ▸ rfl) ?_
  refine ww_aload_n hx hb dX3_append_72 rfl 0 rfl ?_
  refine ww_get (C := RX3) (T := TX3) (N := 9) hx hb hown hts hK inA3 2 rfl rfl 5 (by decide) kw_0 rfl rfl dX3_append_73 ?_
  refine ww_iconst (v := 1) hx hb dX3_append_76 (by decide) ?_
  refine ww_isub hx hb dX3_append_77 ?_
  obtain ⟨rfl, rfl⟩ := os2 h
  exact ww_iret hx hb hr hlk rfl dX3_append_78
set_option maxHeartbeats 4000000 in
set_option maxRecDepth 100000 in
theorem m_X4_isIn (σ : SS) (x0 x1 : Int32) : Ct l yX4_isIn cX4_isIn 2 (some .boolean) 0 0 D vwCl [(cA, .int)] (WC q cA σ) (WC q cA σ) [.int (x0), .int (x1)] (some (.int (X4_isIn x0 x1))) := by
  refine ct_of (by decide +kernel) (Nat.le_of_ble_eq_true rfl) ?_
  intro p e s m args below meth c hx hb hr hlk hml hown hts hK hD hN hA
  have hown : s.vm.findClass RX4 = some m.cls := hown
  have hDD : ∀ τ : SS, va_D (va_A (WC q cA σ) s.heap.size) (WC q cA τ) := fun τ => hD.adr rfl
  obtain ⟨r, h⟩ : ∃ r, X4_isIn x0 x1 = r := ⟨_, rfl⟩
  rw [h]
  unfold X4_isIn at h
  refine ww_sub (lv1 := [(0, .int (x0)), (1, .int (x1))]) [0, 1] rfl ?_
  refine ww_iload_n hx hb dX4_isIn_0 rfl 0 rfl ?_
  refine ww_iload_n hx hb dX4_isIn_1 rfl 1 rfl ?_
  refine ww_ishr hx hb dX4_isIn_2 ?_
  refine ww_iconst (v := 1) hx hb dX4_isIn_3 (by decide) ?_
  refine ww_iand hx hb dX4_isIn_4 ?_
  refine ww_eq0 (tgt := 12) hx hb dX4_isIn_5 (by decide) (fun c_1 => ?_) (fun c_1 => ?_)
  · replace h := it_p c_1 h
    refine ww_iconst (v := 0) hx hb dX4_isIn_12 (by decide) ?_
    obtain rfl := h
    exact ww_zret hx hb hr hlk (by decide) rfl dX4_isIn_13
  · replace h := it_n c_1 h
    refine ww_iconst (v := 1) hx hb dX4_isIn_8 (by decide) ?_
    refine ww_goto (tgt := 13) hx hb dX4_isIn_9 (by decide) ?_
    obtain rfl := h
    exact ww_zret hx hb hr hlk (by decide) rfl dX4_isIn_13
set_option maxHeartbeats 4000000 in
set_option maxRecDepth 100000 in
theorem m_X4_with (σ : SS) (x0 x1 x2 : Int32) : Ct l yX4_with cX4_with 3 (some .int) 0 0 D vwCl [(cA, .int)] (WC q cA σ) (WC q cA σ) [.int (x0), .int (x1), .int (x2)] (some (.int (X4_with x0 x1 x2))) := by
  refine ct_of (by decide +kernel) (Nat.le_of_ble_eq_true rfl) ?_
  intro p e s m args below meth c hx hb hr hlk hml hown hts hK hD hN hA
  have hown : s.vm.findClass RX4 = some m.cls := hown
  have hDD : ∀ τ : SS, va_D (va_A (WC q cA σ) s.heap.size) (WC q cA τ) := fun τ => hD.adr rfl
  obtain ⟨r, h⟩ : ∃ r, X4_with x0 x1 x2 = r := ⟨_, rfl⟩
  rw [h]
  unfold X4_with at h
  refine ww_sub (lv1 := [(0, .int (x0)), (1, .int (x1)), (2, .int (x2))]) [0, 1, 2] rfl ?_
  refine ww_iload_n hx hb dX4_with_0 rfl 2 rfl ?_
  refine ww_eq0 (tgt := 12) hx hb dX4_with_1 (by decide) (fun c_1 => ?_) (fun c_1 => ?_)
  · replace h := it_p c_1 h
    refine ww_iload_n hx hb dX4_with_12 rfl 0 rfl ?_
    refine ww_iconst (v := 1) hx hb dX4_with_13 (by decide) ?_
    refine ww_iload_n hx hb dX4_with_14 rfl 1 rfl ?_
    refine ww_ishl hx hb dX4_with_15 ?_
    refine ww_iconst (v := -1) hx hb dX4_with_16 (by decide) ?_
    refine ww_ixor hx hb dX4_with_17 ?_
    refine ww_iand hx hb dX4_with_18 ?_
    obtain rfl := h
    exact ww_iret hx hb hr hlk rfl dX4_with_19
  · replace h := it_n c_1 h
    refine ww_iload_n hx hb dX4_with_4 rfl 0 rfl ?_
    refine ww_iconst (v := 1) hx hb dX4_with_5 (by decide) ?_
    refine ww_iload_n hx hb dX4_with_6 rfl 1 rfl ?_
    refine ww_ishl hx hb dX4_with_7 ?_
    refine ww_ior hx hb dX4_with_8 ?_
    refine ww_goto (tgt := 19) hx hb dX4_with_9 (by decide) ?_
    obtain rfl := h
    exact ww_iret hx hb hr hlk rfl dX4_with_19
set_option maxHeartbeats 4000000 in
set_option maxRecDepth 100000 in
theorem m_X4_hold (σ : SS) (x1 : Int32) (r : Int32) (σ1 : SS) (h : X4_hold σ x1 = some (r, σ1)) : Ct l yX4_hold cX4_hold 3 (some .boolean) 0 0 D vwCl [(cA, .int)] (WC q cA σ) (WC q cA σ1) [.ref (q 0), .int (x1)] (some (.int r)) := by
  refine ct_of (by decide +kernel) (Nat.le_of_ble_eq_true rfl) ?_
  intro p e s m args below meth c hx hb hr hlk hml hown hts hK hD hN hA
  have hown : s.vm.findClass RX4 = some m.cls := hown
  have hDD : ∀ τ : SS, va_D (va_A (WC q cA σ) s.heap.size) (WC q cA τ) := fun τ => hD.adr rfl
  unfold X4_hold at h
  refine ww_sub (lv1 := [(0, .ref (q 0)), (1, .int (x1))]) [0, 1] rfl ?_
  refine ww_aload_n hx hb dX4_hold_0 rfl 0 rfl ?_
  refine ww_get (C := RX4) (T := TX4) (N := 7) hx hb hown hts hK inA4 0 rfl rfl 6 (by decide) kw_46 rfl rfl dX4_hold_1 ?_
  refine ww_istore_n (i := 2) (lv1 := [(0, .ref (q 0)), (1, .int (x1)), (2, .int (σ 0 6))]) hx hb dX4_hold_4 rfl (by decide) [1, 2, 0] rfl ?_
  refine ww_aload_n hx hb dX4_hold_5 rfl 0 rfl ?_
  refine ww_iload_n hx hb dX4_hold_6 rfl 1 rfl ?_
  obtain ⟨g_1, h⟩ := og h
  obtain ⟨σ_2, e_2, h⟩ := lt_e h
  refine ww_put (C := RX4) (T := TX4) (N := 7) (ty := .boolean) (ws1 := WC q cA (σ_2)) hx hb hown hts hK inA4 tyX4 tyX4_ok nmX4 (hDD _) 0 rfl rfl 6 (by decide) kw_46 rfl rfl rfl (isZ_narrow g_1) (isZ_fits g_1) (Nat.le_of_ble_eq_true rfl) dX4_hold_7 (e_2 ▸ rfl) ?_
  refine ww_iload_n hx hb dX4_hold_10 rfl 2 rfl ?_
  obtain ⟨g_3, h⟩ := og h
  obtain ⟨rfl, rfl⟩ := os2 h
  exact ww_zret hx hb hr hlk g_3 rfl dX4_hold_11
set_option maxHeartbeats 4000000 in
set_option maxRecDepth 100000 in
theorem m_X2_dayOf (σ : SS) (x0 : Int32) : Ct l yX2_dayOf cX2_dayOf 1 (some .int) 0 0 D vwCl [(cA, .int)] (WC q cA σ) (WC q cA σ) [.int (x0)] (some (.int (X2_dayOf x0))) := by
  refine ct_of (by decide +kernel) (Nat.le_of_ble_eq_true rfl) ?_
  intro p e s m args below meth c hx hb hr hlk hml hown hts hK hD hN hA
  have hown : s.vm.findClass RX2 = some m.cls := hown
  have hDD : ∀ τ : SS, va_D (va_A (WC q cA σ) s.heap.size) (WC q cA τ) := fun τ => hD.adr rfl
  obtain ⟨r, h⟩ : ∃ r, X2_dayOf x0 = r := ⟨_, rfl⟩
  rw [h]
  unfold X2_dayOf at h
  refine ww_sub (lv1 := [(0, .int (x0))]) [0] rfl ?_
  refine ww_iload_n hx hb dX2_dayOf_0 rfl 0 rfl ?_
  refine ww_bipush (v := 24) hx hb dX2_dayOf_1 (by decide) ?_
  refine ww_idiv hx hb dX2_dayOf_3 (by decide) ?_
  obtain rfl := h
  exact ww_iret hx hb hr hlk rfl dX2_dayOf_4
set_option maxHeartbeats 4000000 in
set_option maxRecDepth 100000 in
theorem m_X2_daysUpTo (σ : SS) (x1 : Int32) : Ct l yX2_daysUpTo cX2_daysUpTo 2 (some .int) 1 40 D vwCl [(cA, .int)] (WC q cA σ) (WC q cA σ) [.ref (q 1), .int (x1)] (some (.int (X2_daysUpTo σ x1))) := by
  refine ct_of (by decide +kernel) (Nat.le_of_ble_eq_true rfl) ?_
  intro p e s m args below meth c hx hb hr hlk hml hown hts hK hD hN hA
  have hown : s.vm.findClass RX2 = some m.cls := hown
  have hDD : ∀ τ : SS, va_D (va_A (WC q cA σ) s.heap.size) (WC q cA τ) := fun τ => hD.adr rfl
  obtain ⟨r, h⟩ : ∃ r, X2_daysUpTo σ x1 = r := ⟨_, rfl⟩
  rw [h]
  unfold X2_daysUpTo at h
  refine ww_sub (lv1 := [(0, .ref (q 1)), (1, .int (x1))]) [0, 1] rfl ?_
  refine ww_iload_n hx hb dX2_daysUpTo_0 rfl 1 rfl ?_
  refine ww_ne0 (tgt := 8) hx hb dX2_daysUpTo_1 (by decide) (fun c_1 => ?_) (fun c_1 => ?_)
  · replace h := it_n c_1 h
    refine ww_aload_n hx hb dX2_daysUpTo_8 rfl 0 rfl ?_
    refine ww_get (C := RX2) (T := TX2) (N := 8) hx hb hown hts hK inA2 1 rfl rfl 2 (by decide) kw_47 rfl rfl dX2_daysUpTo_9 ?_
    refine ww_aload_n hx hb dX2_daysUpTo_12 rfl 0 rfl ?_
    refine ww_get (C := RX2) (T := TX2) (N := 8) hx hb hown hts hK inA2 1 rfl rfl 1 (by decide) kw_48 rfl rfl dX2_daysUpTo_13 ?_
    refine ww_iload_n hx hb dX2_daysUpTo_16 rfl 1 rfl ?_
    refine ww_iconst (v := 1) hx hb dX2_daysUpTo_17 (by decide) ?_
    refine ww_isub hx hb dX2_daysUpTo_18 ?_
    refine ww_callN (ws1 := WC q cA σ) (st1 := [.int (fat σ 10 8 (x1 - (1 : Int32))), .ref (q 11)]) hx hb hml hown hts hK hN hA (hDD _) (Nat.zero_le _) (Nat.zero_le _) [.ref (q 10), .int (x1 - (1 : Int32))] [.ref (q 11)] (m_at (by decide) σ (x1 - (1 : Int32))) cs_X2_54 rfl (by decide) rfl (Nat.le_of_ble_eq_true rfl) dX2_daysUpTo_19 rfl ?_
    refine ww_callN (ws1 := WC q cA σ) (st1 := [.int (fat σ 11 8 (fat σ 10 8 (x1 - (1 : Int32))))]) hx hb hml hown hts hK hN hA (hDD _) (Nat.zero_le _) (Nat.zero_le _) [.ref (q 11), .int (fat σ 10 8 (x1 - (1 : Int32)))] [] (m_at (by decide) σ (fat σ 10 8 (x1 - (1 : Int32)))) cs_X2_54 rfl (by decide) rfl (Nat.le_of_ble_eq_true rfl) dX2_daysUpTo_22 rfl ?_
    refine ww_callS (ws1 := WC q cA σ) (st1 := [.int (X2_dayOf (fat σ 11 8 (fat σ 10 8 (x1 - (1 : Int32)))))]) hx hb hml hown hts hK hN hA (hDD _) (Nat.zero_le _) (Nat.zero_le _) [.int (fat σ 11 8 (fat σ 10 8 (x1 - (1 : Int32))))] [] (m_X2_dayOf σ (fat σ 11 8 (fat σ 10 8 (x1 - (1 : Int32))))) cs_X2_58 rfl (by decide) rfl (Nat.le_of_ble_eq_true rfl) dX2_daysUpTo_25 rfl ?_
    refine ww_aload_n hx hb dX2_daysUpTo_28 rfl 0 rfl ?_
    refine ww_get (C := RX2) (T := TX2) (N := 8) hx hb hown hts hK inA2 1 rfl rfl 6 (by decide) kw_54 rfl rfl dX2_daysUpTo_29 ?_
    refine ww_isub hx hb dX2_daysUpTo_32 ?_
    refine ww_iconst (v := 1) hx hb dX2_daysUpTo_33 (by decide) ?_
    refine ww_iadd hx hb dX2_daysUpTo_34 ?_
    obtain rfl := h
    exact ww_iret hx hb hr hlk rfl dX2_daysUpTo_35
  · replace h := it_p c_1 h
    refine ww_iconst (v := 0) hx hb dX2_daysUpTo_4 (by decide) ?_
    refine ww_goto (tgt := 35) hx hb dX2_daysUpTo_5 (by decide) ?_
    obtain rfl := h
    exact ww_iret hx hb hr hlk rfl dX2_daysUpTo_35
set_option maxHeartbeats 4000000 in
set_option maxRecDepth 100000 in
theorem m_X2_keep (σ : SS) (x1 : Int32) (σ1 : SS) (h : X2_keep σ x1 = some σ1) : Ct l yX2_keep cX2_keep 3 none 2 80 D vwCl [(cA, .int)] (WC q cA σ) (WC q cA σ1) [.ref (q 1), .int (x1)] none := by
  refine ct_of (by decide +kernel) (Nat.le_of_ble_eq_true rfl) ?_
  intro p e s m args below meth c hx hb hr hlk hml hown hts hK hD hN hA
  have hown : s.vm.findClass RX2 = some m.cls := hown
  have hDD : ∀ τ : SS, va_D (va_A (WC q cA σ) s.heap.size) (WC q cA τ) := fun τ => hD.adr rfl
  unfold X2_keep at h
  have lp11 : ∀ (n : Nat) (τ : SS) (x2 : Int32), X2_keep_l11 n τ x2 = some σ1 → WW p l e (rmc 2 80 0 0) s m args below meth c D vwCl (va_A (WC q cA σ) s.heap.size) 3 0 0 (MQ below (qcW D vwCl (WC q cA σ) (WC q cA σ1) none s.heap.size) args s 0 0 (va_A (WC q cA σ) s.heap.size)) (WC q cA τ) 11 [(0, .ref (q 1)), (2, .int (x2))] [] := by
    intro n
    induction n with
    | zero => intro τ x2 h; rw [X2_keep_l11] at h; cases h
    | succ n ih =>
      intro τ x2 h
      rw [X2_keep_l11] at h
      refine ww_iload_n hx hb dX2_keep_11 rfl 1 rfl ?_
      refine ww_bipush (v := 8) hx hb dX2_keep_12 (by decide) ?_
      refine ww_ge2 (tgt := 55) hx hb dX2_keep_14 (by decide) (fun c_2 => ?_) (fun c_2 => ?_)
      · replace h := it_p c_2 h
        obtain rfl := os1 h
        exact ww_vret hx hb hr hlk dX2_keep_55
      · replace h := it_n c_2 h
        refine ww_aload_n hx hb dX2_keep_17 rfl 0 rfl ?_
        refine ww_get (C := RX2) (T := TX2) (N := 8) hx hb hown hts hK inA2 1 rfl rfl 3 (by decide) kw_60 rfl rfl dX2_keep_18 ?_
        refine ww_iload_n hx hb dX2_keep_21 rfl 1 rfl ?_
        refine ww_aload_n hx hb dX2_keep_22 rfl 0 rfl ?_
        refine ww_get (C := RX2) (T := TX2) (N := 8) hx hb hown hts hK inA2 1 rfl rfl 1 (by decide) kw_48 rfl rfl dX2_keep_23 ?_
        refine ww_iload_n hx hb dX2_keep_26 rfl 1 rfl ?_
        refine ww_callN (ws1 := WC q cA τ) (st1 := [.int (fat τ 10 8 x2), .int (x2), .ref (q 12)]) hx hb hml hown hts hK hN hA (hDD _) (Nat.zero_le _) (Nat.zero_le _) [.ref (q 10), .int (x2)] [.int (x2), .ref (q 12)] (m_at (by decide) τ x2) cs_X2_54 rfl (by decide) rfl (Nat.le_of_ble_eq_true rfl) dX2_keep_27 rfl ?_
        obtain ⟨σ_3, e_3, h⟩ := lt_e h
        refine ww_callN (ws1 := WC q cA σ_3) (st1 := []) hx hb hml hown hts hK hN hA (hDD _) (Nat.zero_le _) (Nat.zero_le _) [.ref (q 12), .int (x2), .int (fat τ 10 8 x2)] [] (m_put (by decide) _ _ _ _ e_3) cs_X2_83 rfl (by decide) rfl (Nat.le_of_ble_eq_true rfl) dX2_keep_30 rfl ?_
        refine ww_aload_n hx hb dX2_keep_33 rfl 0 rfl ?_
        refine ww_get (C := RX2) (T := TX2) (N := 8) hx hb hown hts hK inA2 1 rfl rfl 4 (by decide) kw_61 rfl rfl dX2_keep_34 ?_
        refine ww_iload_n hx hb dX2_keep_37 rfl 1 rfl ?_
        refine ww_aload_n hx hb dX2_keep_38 rfl 0 rfl ?_
        refine ww_get (C := RX2) (T := TX2) (N := 8) hx hb hown hts hK inA2 1 rfl rfl 2 (by decide) kw_47 rfl rfl dX2_keep_39 ?_
        refine ww_iload_n hx hb dX2_keep_42 rfl 1 rfl ?_
        refine ww_callN (ws1 := WC q cA σ_3) (st1 := [.int (fat σ_3 11 8 x2), .int (x2), .ref (q 13)]) hx hb hml hown hts hK hN hA (hDD _) (Nat.zero_le _) (Nat.zero_le _) [.ref (q 11), .int (x2)] [.int (x2), .ref (q 13)] (m_at (by decide) σ_3 x2) cs_X2_54 rfl (by decide) rfl (Nat.le_of_ble_eq_true rfl) dX2_keep_43 rfl ?_
        obtain ⟨σ_4, e_4, h⟩ := lt_e h
        refine ww_callN (ws1 := WC q cA σ_4) (st1 := []) hx hb hml hown hts hK hN hA (hDD _) (Nat.zero_le _) (Nat.zero_le _) [.ref (q 13), .int (x2), .int (fat σ_3 11 8 x2)] [] (m_put (by decide) _ _ _ _ e_4) cs_X2_83 rfl (by decide) rfl (Nat.le_of_ble_eq_true rfl) dX2_keep_46 rfl ?_
        refine ww_iinc (i := 2) (k := 1) (v := 1) (lv1 := [(0, .ref (q 1)), (2, .int (x2 + 1))]) hx hb dX2_keep_49 rfl (by decide) (by decide) [1, 0] rfl ?_
        refine ww_goto (tgt := 11) hx hb dX2_keep_52 (by decide) ?_
        exact ww_sub (lv1 := [(0, .ref (q 1)), (2, .int (x2 + 1))]) [0, 1] rfl (ih _ _ h)
  refine ww_sub (lv1 := [(0, .ref (q 1)), (1, .int (x1))]) [0, 1] rfl ?_
  refine ww_aload_n hx hb dX2_keep_0 rfl 0 rfl ?_
  refine ww_aload_n hx hb dX2_keep_1 rfl 0 rfl ?_
  refine ww_iload_n hx hb dX2_keep_2 rfl 1 rfl ?_
  refine ww_callV (ws1 := WC q cA σ) (st1 := [.int (X2_daysUpTo σ x1), .ref (q 1)]) hx hb hml hown hts hK hN hA (hDD _) (Nat.zero_le _) (Nat.zero_le _) [.int (x1)] [.ref (q 1)] (m_X2_daysUpTo σ x1) cs_X2_107 rfl (by decide) 1 rfl rfl rfl (Nat.le_of_ble_eq_true rfl) dX2_keep_3 rfl ?_
  obtain ⟨σ_1, e_1, h⟩ := lt_e h
  refine ww_put (C := RX2) (T := TX2) (N := 8) (ty := .int) (ws1 := WC q cA (σ_1)) hx hb hown hts hK inA2 tyX2 tyX2_ok nmX2 (hDD _) 1 rfl rfl 5 (by decide) kw_59 rfl rfl rfl rfl rfl (Nat.le_of_ble_eq_true rfl) dX2_keep_6 (e_1 ▸ rfl) ?_
  refine ww_iconst (v := 0) hx hb dX2_keep_9 (by decide) ?_
  refine ww_istore_n (i := 2) (lv1 := [(0, .ref (q 1)), (2, .int ((0 : Int32)))]) hx hb dX2_keep_10 rfl (by decide) [1, 0] rfl ?_
  exact ww_sub (lv1 := [(0, .ref (q 1)), (2, .int ((0 : Int32)))]) [0, 1] rfl (lp11 _ _ _ h)
set_option maxHeartbeats 4000000 in
set_option maxRecDepth 100000 in
theorem m_X3_isFree (σ : SS) (x1 x2 : Int32) : Ct l yX3_isFree cX3_isFree 3 (some .boolean) 1 40 D vwCl [(cA, .int)] (WC q cA σ) (WC q cA σ) [.ref (q 2), .int (x1), .int (x2)] (some (.int (X3_isFree σ x1 x2))) := by
  refine ct_of (by decide +kernel) (Nat.le_of_ble_eq_true rfl) ?_
  intro p e s m args below meth c hx hb hr hlk hml hown hts hK hD hN hA
  have hown : s.vm.findClass RX3 = some m.cls := hown
  have hDD : ∀ τ : SS, va_D (va_A (WC q cA σ) s.heap.size) (WC q cA τ) := fun τ => hD.adr rfl
  obtain ⟨r, h⟩ : ∃ r, X3_isFree σ x1 x2 = r := ⟨_, rfl⟩
  rw [h]
  unfold X3_isFree at h
  refine ww_sub (lv1 := [(0, .ref (q 2)), (1, .int (x1)), (2, .int (x2))]) [0, 1, 2] rfl ?_
  refine ww_aload_n hx hb dX3_isFree_0 rfl 0 rfl ?_
  refine ww_get (C := RX3) (T := TX3) (N := 9) hx hb hown hts hK inA3 2 rfl rfl 4 (by decide) kw_9 rfl rfl dX3_isFree_1 ?_
  refine ww_iload_n hx hb dX3_isFree_4 rfl 1 rfl ?_
  refine ww_callN (ws1 := WC q cA σ) (st1 := [.int (fat σ 9 8 x1)]) hx hb hml hown hts hK hN hA (hDD _) (Nat.zero_le _) (Nat.zero_le _) [.ref (q 9), .int (x1)] [] (m_at (by decide) σ x1) cs_X3_48 rfl (by decide) rfl (Nat.le_of_ble_eq_true rfl) dX3_isFree_5 rfl ?_
  refine ww_iload_n hx hb dX3_isFree_8 rfl 2 rfl ?_
  refine ww_iconst (v := -1) hx hb dX3_isFree_9 (by decide) ?_
  refine ww_ixor hx hb dX3_isFree_10 ?_
  refine ww_iand hx hb dX3_isFree_11 ?_
  refine ww_ne0 (tgt := 19) hx hb dX3_isFree_12 (by decide) (fun c_1 => ?_) (fun c_1 => ?_)
  · replace h := it_n c_1 h
    refine ww_iconst (v := 0) hx hb dX3_isFree_19 (by decide) ?_
    obtain rfl := h
    exact ww_zret hx hb hr hlk (by decide) rfl dX3_isFree_20
  · replace h := it_p c_1 h
    refine ww_iconst (v := 1) hx hb dX3_isFree_15 (by decide) ?_
    refine ww_goto (tgt := 20) hx hb dX3_isFree_16 (by decide) ?_
    obtain rfl := h
    exact ww_zret hx hb hr hlk (by decide) rfl dX3_isFree_20
set_option maxHeartbeats 4000000 in
set_option maxRecDepth 100000 in
theorem m_X3_canFollow (σ : SS) (x1 x2 : Int32) : Ct l yX3_canFollow cX3_canFollow 3 (some .boolean) 2 80 D vwCl [(cA, .int)] (WC q cA σ) (WC q cA σ) [.ref (q 2), .int (x1), .int (x2)] (some (.int (X3_canFollow σ x1 x2))) := by
  refine ct_of (by decide +kernel) (Nat.le_of_ble_eq_true rfl) ?_
  intro p e s m args below meth c hx hb hr hlk hml hown hts hK hD hN hA
  have hown : s.vm.findClass RX3 = some m.cls := hown
  have hDD : ∀ τ : SS, va_D (va_A (WC q cA σ) s.heap.size) (WC q cA τ) := fun τ => hD.adr rfl
  obtain ⟨r, h⟩ : ∃ r, X3_canFollow σ x1 x2 = r := ⟨_, rfl⟩
  rw [h]
  unfold X3_canFollow at h
  refine ww_sub (lv1 := [(0, .ref (q 2)), (1, .int (x1)), (2, .int (x2))]) [0, 1, 2] rfl ?_
  refine ww_iload_n hx hb dX3_canFollow_0 rfl 2 rfl ?_
  refine ww_iload_n hx hb dX3_canFollow_1 rfl 1 rfl ?_
  refine ww_callN (ws1 := WC q cA σ) (st1 := [.int (X4_isIn x2 x1)]) hx hb hml hown hts hK hN hA (hDD _) (Nat.zero_le _) (Nat.zero_le _) [.int (x2), .int (x1)] [] (m_X4_isIn σ x2 x1) cs_X3_44 rfl (by decide) rfl (Nat.le_of_ble_eq_true rfl) dX3_canFollow_2 rfl ?_
  refine ww_ne0 (tgt := 21) hx hb dX3_canFollow_5 (by decide) (fun c_1 => ?_) (fun c_1 => ?_)
  · replace h := it_n c_1 h
    refine ww_iconst (v := 0) hx hb dX3_canFollow_21 (by decide) ?_
    obtain rfl := h
    exact ww_zret hx hb hr hlk (by decide) rfl dX3_canFollow_22
  · replace h := it_p c_1 h
    refine ww_aload_n hx hb dX3_canFollow_8 rfl 0 rfl ?_
    refine ww_iload_n hx hb dX3_canFollow_9 rfl 1 rfl ?_
    refine ww_iload_n hx hb dX3_canFollow_10 rfl 2 rfl ?_
    refine ww_callV (ws1 := WC q cA σ) (st1 := [.int (X3_isFree σ x1 x2)]) hx hb hml hown hts hK hN hA (hDD _) (Nat.zero_le _) (Nat.zero_le _) [.int (x1), .int (x2)] [] (m_X3_isFree σ x1 x2) cs_X3_52 rfl (by decide) 2 rfl rfl rfl (Nat.le_of_ble_eq_true rfl) dX3_canFollow_11 rfl ?_
    refine ww_eq0 (tgt := 21) hx hb dX3_canFollow_14 (by decide) (fun c_2 => ?_) (fun c_2 => ?_)
    · replace h := it_p c_2 h
      refine ww_iconst (v := 0) hx hb dX3_canFollow_21 (by decide) ?_
      obtain rfl := h
      exact ww_zret hx hb hr hlk (by decide) rfl dX3_canFollow_22
    · replace h := it_n c_2 h
      refine ww_iconst (v := 1) hx hb dX3_canFollow_17 (by decide) ?_
      refine ww_goto (tgt := 22) hx hb dX3_canFollow_18 (by decide) ?_
      obtain rfl := h
      exact ww_zret hx hb hr hlk (by decide) rfl dX3_canFollow_22
set_option maxHeartbeats 4000000 in
set_option maxRecDepth 100000 in
theorem m_X2_startOf (σ : SS) (x0 : Int32) : Ct l yX2_startOf cX2_startOf 1 (some .int) 0 0 D vwCl [(cA, .int)] (WC q cA σ) (WC q cA σ) [.int (x0)] (some (.int (X2_startOf x0))) := by
  refine ct_of (by decide +kernel) (Nat.le_of_ble_eq_true rfl) ?_
  intro p e s m args below meth c hx hb hr hlk hml hown hts hK hD hN hA
  have hown : s.vm.findClass RX2 = some m.cls := hown
  have hDD : ∀ τ : SS, va_D (va_A (WC q cA σ) s.heap.size) (WC q cA τ) := fun τ => hD.adr rfl
  obtain ⟨r, h⟩ : ∃ r, X2_startOf x0 = r := ⟨_, rfl⟩
  rw [h]
  unfold X2_startOf at h
  refine ww_sub (lv1 := [(0, .int (x0))]) [0] rfl ?_
  refine ww_bipush (v := 24) hx hb dX2_startOf_0 (by decide) ?_
  refine ww_iload_n hx hb dX2_startOf_2 rfl 0 rfl ?_
  refine ww_imul hx hb dX2_startOf_3 ?_
  refine ww_bipush (v := 8) hx hb dX2_startOf_4 (by decide) ?_
  refine ww_iadd hx hb dX2_startOf_6 ?_
  obtain rfl := h
  exact ww_iret hx hb hr hlk rfl dX2_startOf_7
set_option maxHeartbeats 4000000 in
set_option maxRecDepth 100000 in
theorem m_X2_endOf (σ : SS) (x1 : Int32) : Ct l yX2_endOf cX2_endOf 2 (some .int) 1 40 D vwCl [(cA, .int)] (WC q cA σ) (WC q cA σ) [.ref (q 1), .int (x1)] (some (.int (X2_endOf σ x1))) := by
  refine ct_of (by decide +kernel) (Nat.le_of_ble_eq_true rfl) ?_
  intro p e s m args below meth c hx hb hr hlk hml hown hts hK hD hN hA
  have hown : s.vm.findClass RX2 = some m.cls := hown
  have hDD : ∀ τ : SS, va_D (va_A (WC q cA σ) s.heap.size) (WC q cA τ) := fun τ => hD.adr rfl
  obtain ⟨r, h⟩ : ∃ r, X2_endOf σ x1 = r := ⟨_, rfl⟩
  rw [h]
  unfold X2_endOf at h
  refine ww_sub (lv1 := [(0, .ref (q 1)), (1, .int (x1))]) [0, 1] rfl ?_
  refine ww_aload_n hx hb dX2_endOf_0 rfl 0 rfl ?_
  refine ww_get (C := RX2) (T := TX2) (N := 8) hx hb hown hts hK inA2 1 rfl rfl 2 (by decide) kw_47 rfl rfl dX2_endOf_1 ?_
  refine ww_iload_n hx hb dX2_endOf_4 rfl 1 rfl ?_
  refine ww_callN (ws1 := WC q cA σ) (st1 := [.int (fat σ 11 8 x1)]) hx hb hml hown hts hK hN hA (hDD _) (Nat.zero_le _) (Nat.zero_le _) [.ref (q 11), .int (x1)] [] (m_at (by decide) σ x1) cs_X2_54 rfl (by decide) rfl (Nat.le_of_ble_eq_true rfl) dX2_endOf_5 rfl ?_
  refine ww_aload_n hx hb dX2_endOf_8 rfl 0 rfl ?_
  refine ww_get (C := RX2) (T := TX2) (N := 8) hx hb hown hts hK inA2 1 rfl rfl 0 (by decide) kw_66 rfl rfl dX2_endOf_9 ?_
  refine ww_get (C := RX3) (T := TX3) (N := 9) hx hb hown hts hK inA3 2 rfl rfl 0 (by decide) kw_67 rfl rfl dX2_endOf_12 ?_
  refine ww_iload_n hx hb dX2_endOf_15 rfl 1 rfl ?_
  refine ww_callN (ws1 := WC q cA σ) (st1 := [.int (fat σ 5 8 x1), .int (fat σ 11 8 x1)]) hx hb hml hown hts hK hN hA (hDD _) (Nat.zero_le _) (Nat.zero_le _) [.ref (q 5), .int (x1)] [.int (fat σ 11 8 x1)] (m_at (by decide) σ x1) cs_X2_54 rfl (by decide) rfl (Nat.le_of_ble_eq_true rfl) dX2_endOf_16 rfl ?_
  refine ww_iadd hx hb dX2_endOf_19 ?_
  obtain rfl := h
  exact ww_iret hx hb hr hlk rfl dX2_endOf_20
set_option maxHeartbeats 4000000 in
set_option maxRecDepth 100000 in
theorem m_X2_beginFrom (σ : SS) (x1 x2 x3 x4 : Int32) (r : Int32) (h : X2_beginFrom σ x1 x2 x3 x4 = some r) : Ct l yX2_beginFrom cX2_beginFrom 8 (some .int) 2 80 D vwCl [(cA, .int)] (WC q cA σ) (WC q cA σ) [.ref (q 1), .int (x1), .int (x2), .int (x3), .int (x4)] (some (.int r)) := by
  refine ct_of (by decide +kernel) (Nat.le_of_ble_eq_true rfl) ?_
  intro p e s m args below meth c hx hb hr hlk hml hown hts hK hD hN hA
  have hown : s.vm.findClass RX2 = some m.cls := hown
  have hDD : ∀ τ : SS, va_D (va_A (WC q cA σ) s.heap.size) (WC q cA τ) := fun τ => hD.adr rfl
  unfold X2_beginFrom at h
  have lp40 : ∀ (n : Nat) (x2 : Int32) (x3 : Int32) (x4 : Int32) (x6 : Int32) (x7 : Int32), X2_beginFrom_l40 n σ x2 x3 x4 x6 x7 = some r → WW p l e (rmc 2 80 0 0) s m args below meth c D vwCl (va_A (WC q cA σ) s.heap.size) 8 0 0 (MQ below (qcW D vwCl (WC q cA σ) (WC q cA σ) (some (.int r)) s.heap.size) args s 0 0 (va_A (WC q cA σ) s.heap.size)) (WC q cA σ) 40 [(0, .ref (q 1)), (2, .int (x2)), (3, .int (x3)), (4, .int (x4)), (6, .int (x6)), (7, .int (x7))] [] := by
    intro n
    induction n with
    | zero => intro x2 x3 x4 x6 x7 h; rw [X2_beginFrom_l40] at h; cases h
    | succ n ih =>
      have bk121 : ∀ (x2 : Int32) (x3 : Int32) (x4 : Int32) (x6 : Int32) (x7 : Int32), X2_beginFrom_b121 (X2_beginFrom_l40 n) σ x2 x3 x4 x6 x7 = some r → WW p l e (rmc 2 80 0 0) s m args below meth c D vwCl (va_A (WC q cA σ) s.heap.size) 8 0 0 (MQ below (qcW D vwCl (WC q cA σ) (WC q cA σ) (some (.int r)) s.heap.size) args s 0 0 (va_A (WC q cA σ) s.heap.size)) (WC q cA σ) 121 [(0, .ref (q 1)), (2, .int (x2)), (3, .int (x3)), (4, .int (x4)), (6, .int (x6)), (7, .int (x7))] [] := by
        intro x2 x3 x4 x6 x7 h
        unfold X2_beginFrom_b121 at h
        refine ww_iinc (i := 7) (k := 5) (v := 1) (lv1 := [(0, .ref (q 1)), (2, .int (x2)), (3, .int (x3)), (4, .int (x4)), (6, .int (x6)), (7, .int (x7 + 1))]) hx hb dX2_beginFrom_121 rfl (by decide) (by decide) [1, 2, 3, 4, 5, 0] rfl ?_
        refine ww_goto (tgt := 40) hx hb dX2_beginFrom_124 (by decide) ?_
        exact ww_sub (lv1 := [(0, .ref (q 1)), (2, .int (x2)), (3, .int (x3)), (4, .int (x4)), (6, .int (x6)), (7, .int (x7 + 1))]) [0, 1, 2, 3, 4, 5] rfl (ih _ _ _ _ _ h)
      intro x2 x3 x4 x6 x7 h
      rw [X2_beginFrom_l40] at h
      refine ww_iload hx hb dX2_beginFrom_40 5 rfl ?_
      refine ww_aload_n hx hb dX2_beginFrom_42 rfl 0 rfl ?_
      refine ww_get (C := RX2) (T := TX2) (N := 8) hx hb hown hts hK inA2 1 rfl rfl 0 (by decide) kw_66 rfl rfl dX2_beginFrom_43 ?_
      refine ww_get (C := RX3) (T := TX3) (N := 9) hx hb hown hts hK inA3 2 rfl rfl 5 (by decide) kw_73 rfl rfl dX2_beginFrom_46 ?_
      refine ww_ge2 (tgt := 127) hx hb dX2_beginFrom_49 (by decide) (fun c_2 => ?_) (fun c_2 => ?_)
      · replace h := it_p c_2 h
        refine ww_iload hx hb dX2_beginFrom_127 4 rfl ?_
        obtain rfl := os1 h
        exact ww_iret hx hb hr hlk rfl dX2_beginFrom_129
      · replace h := it_n c_2 h
        refine ww_iload hx hb dX2_beginFrom_52 3 rfl ?_
        refine ww_iload hx hb dX2_beginFrom_54 5 rfl ?_
        refine ww_callN (ws1 := WC q cA σ) (st1 := [.int (X4_isIn x4 x7)]) hx hb hml hown hts hK hN hA (hDD _) (Nat.zero_le _) (Nat.zero_le _) [.int (x4), .int (x7)] [] (m_X4_isIn σ x4 x7) cs_X2_80 rfl (by decide) rfl (Nat.le_of_ble_eq_true rfl) dX2_beginFrom_56 rfl ?_
        refine ww_eq0 (tgt := 121) hx hb dX2_beginFrom_59 (by decide) (fun c_3 => ?_) (fun c_3 => ?_)
        · replace h := it_p c_3 h
          exact ww_sub (lv1 := [(0, .ref (q 1)), (2, .int (x2)), (3, .int (x3)), (4, .int (x4)), (6, .int (x6)), (7, .int (x7))]) [0, 1, 2, 3, 4, 5] rfl (bk121 _ _ _ _ _ h)
        · replace h := it_n c_3 h
          refine ww_aload_n hx hb dX2_beginFrom_62 rfl 0 rfl ?_
          refine ww_get (C := RX2) (T := TX2) (N := 8) hx hb hown hts hK inA2 1 rfl rfl 0 (by decide) kw_66 rfl rfl dX2_beginFrom_63 ?_
          refine ww_get (C := RX3) (T := TX3) (N := 9) hx hb hown hts hK inA3 2 rfl rfl 2 (by decide) kw_74 rfl rfl dX2_beginFrom_66 ?_
          refine ww_iload hx hb dX2_beginFrom_69 5 rfl ?_
          refine ww_callN (ws1 := WC q cA σ) (st1 := [.int (fat σ 7 8 x7)]) hx hb hml hown hts hK hN hA (hDD _) (Nat.zero_le _) (Nat.zero_le _) [.ref (q 7), .int (x7)] [] (m_at (by decide) σ x7) cs_X2_54 rfl (by decide) rfl (Nat.le_of_ble_eq_true rfl) dX2_beginFrom_71 rfl ?_
          refine ww_aload_n hx hb dX2_beginFrom_74 rfl 0 rfl ?_
          refine ww_get (C := RX2) (T := TX2) (N := 8) hx hb hown hts hK inA2 1 rfl rfl 0 (by decide) kw_66 rfl rfl dX2_beginFrom_75 ?_
          refine ww_get (C := RX3) (T := TX3) (N := 9) hx hb hown hts hK inA3 2 rfl rfl 2 (by decide) kw_74 rfl rfl dX2_beginFrom_78 ?_
          refine ww_iload_n hx hb dX2_beginFrom_81 rfl 1 rfl ?_
          refine ww_callN (ws1 := WC q cA σ) (st1 := [.int (fat σ 7 8 x2), .int (fat σ 7 8 x7)]) hx hb hml hown hts hK hN hA (hDD _) (Nat.zero_le _) (Nat.zero_le _) [.ref (q 7), .int (x2)] [.int (fat σ 7 8 x7)] (m_at (by decide) σ x2) cs_X2_54 rfl (by decide) rfl (Nat.le_of_ble_eq_true rfl) dX2_beginFrom_82 rfl ?_
          refine ww_iand hx hb dX2_beginFrom_85 ?_
          refine ww_eq0 (tgt := 121) hx hb dX2_beginFrom_86 (by decide) (fun c_4 => ?_) (fun c_4 => ?_)
          · replace h := it_p c_4 h
            exact ww_sub (lv1 := [(0, .ref (q 1)), (2, .int (x2)), (3, .int (x3)), (4, .int (x4)), (6, .int (x6)), (7, .int (x7))]) [0, 1, 2, 3, 4, 5] rfl (bk121 _ _ _ _ _ h)
          · replace h := it_n c_4 h
            refine ww_aload_n hx hb dX2_beginFrom_89 rfl 0 rfl ?_
            refine ww_get (C := RX2) (T := TX2) (N := 8) hx hb hown hts hK inA2 1 rfl rfl 2 (by decide) kw_47 rfl rfl dX2_beginFrom_90 ?_
            refine ww_iload hx hb dX2_beginFrom_93 5 rfl ?_
            refine ww_callN (ws1 := WC q cA σ) (st1 := [.int (fat σ 11 8 x7)]) hx hb hml hown hts hK hN hA (hDD _) (Nat.zero_le _) (Nat.zero_le _) [.ref (q 11), .int (x7)] [] (m_at (by decide) σ x7) cs_X2_54 rfl (by decide) rfl (Nat.le_of_ble_eq_true rfl) dX2_beginFrom_95 rfl ?_
            refine ww_callS (ws1 := WC q cA σ) (st1 := [.int (X2_dayOf (fat σ 11 8 x7))]) hx hb hml hown hts hK hN hA (hDD _) (Nat.zero_le _) (Nat.zero_le _) [.int (fat σ 11 8 x7)] [] (m_X2_dayOf σ (fat σ 11 8 x7)) cs_X2_58 rfl (by decide) rfl (Nat.le_of_ble_eq_true rfl) dX2_beginFrom_98 rfl ?_
            refine ww_iload_n hx hb dX2_beginFrom_101 rfl 2 rfl ?_
            refine ww_ge2 (tgt := 121) hx hb dX2_beginFrom_102 (by decide) (fun c_5 => ?_) (fun c_5 => ?_)
            · replace h := it_p c_5 h
              exact ww_sub (lv1 := [(0, .ref (q 1)), (2, .int (x2)), (3, .int (x3)), (4, .int (x4)), (6, .int (x6)), (7, .int (x7))]) [0, 1, 2, 3, 4, 5] rfl (bk121 _ _ _ _ _ h)
            · replace h := it_n c_5 h
              refine ww_iload hx hb dX2_beginFrom_105 4 rfl ?_
              refine ww_aload_n hx hb dX2_beginFrom_107 rfl 0 rfl ?_
              refine ww_iload hx hb dX2_beginFrom_108 5 rfl ?_
              refine ww_callV (ws1 := WC q cA σ) (st1 := [.int (X2_endOf σ x7), .int (x6)]) hx hb hml hown hts hK hN hA (hDD _) (Nat.zero_le _) (Nat.zero_le _) [.int (x7)] [.int (x6)] (m_X2_endOf σ x7) cs_X2_124 rfl (by decide) 1 rfl rfl rfl (Nat.le_of_ble_eq_true rfl) dX2_beginFrom_110 rfl ?_
              refine ww_bipush (v := 11) hx hb dX2_beginFrom_113 (by decide) ?_
              refine ww_iadd hx hb dX2_beginFrom_115 ?_
              refine ww_max hx hb hml hown hts (Nat.zero_le _) (Nat.zero_le _) kw_69 kw_70 kw_71 kw_72 ⟨Nat.le_of_ble_eq_true rfl, Nat.le_of_ble_eq_true rfl⟩ dX2_beginFrom_116 ?_
              refine ww_istore (i := 6) (lv1 := [(0, .ref (q 1)), (2, .int (x2)), (3, .int (x3)), (4, .int (x4)), (6, .int (imax x6 ((X2_endOf σ x7) + (11 : Int32)))), (7, .int (x7))]) hx hb dX2_beginFrom_119 (by decide) [1, 2, 3, 4, 0, 5] rfl ?_
              exact ww_sub (lv1 := [(0, .ref (q 1)), (2, .int (x2)), (3, .int (x3)), (4, .int (x4)), (6, .int (imax x6 ((X2_endOf σ x7) + (11 : Int32)))), (7, .int (x7))]) [0, 1, 2, 3, 4, 5] rfl (bk121 _ _ _ _ _ h)
  have bk26 : ∀ (x1 : Int32) (x2 : Int32) (x3 : Int32) (x4 : Int32) (y0 : Int32) (y1 : Int32), X2_beginFrom_b26 σ x1 x2 x3 x4 y0 y1 = some r → WW p l e (rmc 2 80 0 0) s m args below meth c D vwCl (va_A (WC q cA σ) s.heap.size) 8 0 0 (MQ below (qcW D vwCl (WC q cA σ) (WC q cA σ) (some (.int r)) s.heap.size) args s 0 0 (va_A (WC q cA σ) s.heap.size)) (WC q cA σ) 26 [(0, .ref (q 1)), (1, .int (x1)), (2, .int (x2)), (3, .int (x3)), (4, .int (x4))] [.int (y1), .int (y0)] := by
    intro x1 x2 x3 x4 y0 y1 h
    unfold X2_beginFrom_b26 at h
    refine ww_iadd hx hb dX2_beginFrom_26 ?_
    refine ww_istore (i := 5) (lv1 := [(0, .ref (q 1)), (1, .int (x1)), (2, .int (x2)), (3, .int (x3)), (4, .int (x4)), (5, .int (y0 + y1))]) hx hb dX2_beginFrom_27 (by decide) [1, 2, 3, 4, 5, 0] rfl ?_
    refine ww_iload_n hx hb dX2_beginFrom_29 rfl 1 rfl ?_
    refine ww_iload hx hb dX2_beginFrom_30 5 rfl ?_
    refine ww_max hx hb hml hown hts (Nat.zero_le _) (Nat.zero_le _) kw_69 kw_70 kw_71 kw_72 ⟨Nat.le_of_ble_eq_true rfl, Nat.le_of_ble_eq_true rfl⟩ dX2_beginFrom_32 ?_
    refine ww_istore (i := 6) (lv1 := [(0, .ref (q 1)), (2, .int (x2)), (3, .int (x3)), (4, .int (x4)), (6, .int (imax x1 (y0 + y1)))]) hx hb dX2_beginFrom_35 (by decide) [1, 3, 4, 5, 0] rfl ?_
    refine ww_iconst (v := 0) hx hb dX2_beginFrom_37 (by decide) ?_
    refine ww_istore (i := 7) (lv1 := [(0, .ref (q 1)), (2, .int (x2)), (3, .int (x3)), (4, .int (x4)), (6, .int (imax x1 (y0 + y1))), (7, .int ((0 : Int32)))]) hx hb dX2_beginFrom_38 (by decide) [1, 2, 3, 4, 5, 0] rfl ?_
    exact ww_sub (lv1 := [(0, .ref (q 1)), (2, .int (x2)), (3, .int (x3)), (4, .int (x4)), (6, .int (imax x1 (y0 + y1))), (7, .int ((0 : Int32)))]) [0, 1, 2, 3, 4, 5] rfl (lp40 _ _ _ _ _ _ h)
  refine ww_sub (lv1 := [(0, .ref (q 1)), (1, .int (x1)), (2, .int (x2)), (3, .int (x3)), (4, .int (x4))]) [0, 1, 2, 3, 4] rfl ?_
  refine ww_bipush (v := 24) hx hb dX2_beginFrom_0 (by decide) ?_
  refine ww_iload_n hx hb dX2_beginFrom_2 rfl 3 rfl ?_
  refine ww_imul hx hb dX2_beginFrom_3 ?_
  refine ww_aload_n hx hb dX2_beginFrom_4 rfl 0 rfl ?_
  refine ww_get (C := RX2) (T := TX2) (N := 8) hx hb hown hts hK inA2 1 rfl rfl 0 (by decide) kw_66 rfl rfl dX2_beginFrom_5 ?_
  refine ww_get (C := RX3) (T := TX3) (N := 9) hx hb hown hts hK inA3 2 rfl rfl 3 (by decide) kw_68 rfl rfl dX2_beginFrom_8 ?_
  refine ww_iload_n hx hb dX2_beginFrom_11 rfl 2 rfl ?_
  refine ww_callN (ws1 := WC q cA σ) (st1 := [.int (fat σ 8 8 x2), .int ((24 : Int32) * x3)]) hx hb hml hown hts hK hN hA (hDD _) (Nat.zero_le _) (Nat.zero_le _) [.ref (q 8), .int (x2)] [.int ((24 : Int32) * x3)] (m_at (by decide) σ x2) cs_X2_54 rfl (by decide) rfl (Nat.le_of_ble_eq_true rfl) dX2_beginFrom_12 rfl ?_
  refine ww_iconst (v := 2) hx hb dX2_beginFrom_15 (by decide) ?_
  refine ww_ne2 (tgt := 24) hx hb dX2_beginFrom_16 (by decide) (fun c_1 => ?_) (fun c_1 => ?_)
  · replace h := it_n c_1 h
    refine ww_bipush (v := 8) hx hb dX2_beginFrom_24 (by decide) ?_
    exact ww_sub (lv1 := [(0, .ref (q 1)), (1, .int (x1)), (2, .int (x2)), (3, .int (x3)), (4, .int (x4))]) [0, 1, 2, 3, 4] rfl (bk26 _ _ _ _ _ _ h)
  · replace h := it_p c_1 h
    refine ww_bipush (v := 18) hx hb dX2_beginFrom_19 (by decide) ?_
    refine ww_goto (tgt := 26) hx hb dX2_beginFrom_21 (by decide) ?_
    exact ww_sub (lv1 := [(0, .ref (q 1)), (1, .int (x1)), (2, .int (x2)), (3, .int (x3)), (4, .int (x4))]) [0, 1, 2, 3, 4] rfl (bk26 _ _ _ _ _ _ h)
set_option maxHeartbeats 4000000 in
set_option maxRecDepth 100000 in
theorem m_X2_endsInTime (σ : SS) (x1 x2 x3 : Int32) : Ct l yX2_endsInTime cX2_endsInTime 5 (some .boolean) 1 40 D vwCl [(cA, .int)] (WC q cA σ) (WC q cA σ) [.ref (q 1), .int (x1), .int (x2), .int (x3)] (some (.int (X2_endsInTime σ x1 x2 x3))) := by
  refine ct_of (by decide +kernel) (Nat.le_of_ble_eq_true rfl) ?_
  intro p e s m args below meth c hx hb hr hlk hml hown hts hK hD hN hA
  have hown : s.vm.findClass RX2 = some m.cls := hown
  have hDD : ∀ τ : SS, va_D (va_A (WC q cA σ) s.heap.size) (WC q cA τ) := fun τ => hD.adr rfl
  obtain ⟨r, h⟩ : ∃ r, X2_endsInTime σ x1 x2 x3 = r := ⟨_, rfl⟩
  rw [h]
  unfold X2_endsInTime at h
  have bk22 : ∀ (x1 : Int32) (x2 : Int32) (x3 : Int32) (y0 : Int32), X2_endsInTime_b22 σ x1 x2 x3 y0 = r → WW p l e (rmc 1 40 0 0) s m args below meth c D vwCl (va_A (WC q cA σ) s.heap.size) 5 0 0 (MQ below (qcW D vwCl (WC q cA σ) (WC q cA σ) (some (.int r)) s.heap.size) args s 0 0 (va_A (WC q cA σ) s.heap.size)) (WC q cA σ) 22 [(0, .ref (q 1)), (1, .int (x1)), (2, .int (x2)), (3, .int (x3))] [.int (y0)] := by
    intro x1 x2 x3 y0 h
    unfold X2_endsInTime_b22 at h
    refine ww_istore (i := 4) (lv1 := [(0, .ref (q 1)), (1, .int (x1)), (2, .int (x2)), (3, .int (x3)), (4, .int (y0))]) hx hb dX2_endsInTime_22 (by decide) [1, 2, 3, 4, 0] rfl ?_
    refine ww_iload_n hx hb dX2_endsInTime_24 rfl 2 rfl ?_
    refine ww_aload_n hx hb dX2_endsInTime_25 rfl 0 rfl ?_
    refine ww_get (C := RX2) (T := TX2) (N := 8) hx hb hown hts hK inA2 1 rfl rfl 0 (by decide) kw_66 rfl rfl dX2_endsInTime_26 ?_
    refine ww_get (C := RX3) (T := TX3) (N := 9) hx hb hown hts hK inA3 2 rfl rfl 0 (by decide) kw_67 rfl rfl dX2_endsInTime_29 ?_
    refine ww_iload_n hx hb dX2_endsInTime_32 rfl 1 rfl ?_
    refine ww_callN (ws1 := WC q cA σ) (st1 := [.int (fat σ 5 8 x1), .int (x2)]) hx hb hml hown hts hK hN hA (hDD _) (Nat.zero_le _) (Nat.zero_le _) [.ref (q 5), .int (x1)] [.int (x2)] (m_at (by decide) σ x1) cs_X2_54 rfl (by decide) rfl (Nat.le_of_ble_eq_true rfl) dX2_endsInTime_33 rfl ?_
    refine ww_iadd hx hb dX2_endsInTime_36 ?_
    refine ww_bipush (v := 24) hx hb dX2_endsInTime_37 (by decide) ?_
    refine ww_iload_n hx hb dX2_endsInTime_39 rfl 3 rfl ?_
    refine ww_imul hx hb dX2_endsInTime_40 ?_
    refine ww_iload hx hb dX2_endsInTime_41 4 rfl ?_
    refine ww_iadd hx hb dX2_endsInTime_43 ?_
    refine ww_gt2 (tgt := 51) hx hb dX2_endsInTime_44 (by decide) (fun c_2 => ?_) (fun c_2 => ?_)
    · replace h := it_p c_2 h
      refine ww_iconst (v := 0) hx hb dX2_endsInTime_51 (by decide) ?_
      obtain rfl := h
      exact ww_zret hx hb hr hlk (by decide) rfl dX2_endsInTime_52
    · replace h := it_n c_2 h
      refine ww_iconst (v := 1) hx hb dX2_endsInTime_47 (by decide) ?_
      refine ww_goto (tgt := 52) hx hb dX2_endsInTime_48 (by decide) ?_
      obtain rfl := h
      exact ww_zret hx hb hr hlk (by decide) rfl dX2_endsInTime_52
  refine ww_sub (lv1 := [(0, .ref (q 1)), (1, .int (x1)), (2, .int (x2)), (3, .int (x3))]) [0, 1, 2, 3] rfl ?_
  refine ww_aload_n hx hb dX2_endsInTime_0 rfl 0 rfl ?_
  refine ww_get (C := RX2) (T := TX2) (N := 8) hx hb hown hts hK inA2 1 rfl rfl 0 (by decide) kw_66 rfl rfl dX2_endsInTime_1 ?_
  refine ww_get (C := RX3) (T := TX3) (N := 9) hx hb hown hts hK inA3 2 rfl rfl 3 (by decide) kw_68 rfl rfl dX2_endsInTime_4 ?_
  refine ww_iload_n hx hb dX2_endsInTime_7 rfl 1 rfl ?_
  refine ww_callN (ws1 := WC q cA σ) (st1 := [.int (fat σ 8 8 x1)]) hx hb hml hown hts hK hN hA (hDD _) (Nat.zero_le _) (Nat.zero_le _) [.ref (q 8), .int (x1)] [] (m_at (by decide) σ x1) cs_X2_54 rfl (by decide) rfl (Nat.le_of_ble_eq_true rfl) dX2_endsInTime_8 rfl ?_
  refine ww_iconst (v := 1) hx hb dX2_endsInTime_11 (by decide) ?_
  refine ww_ne2 (tgt := 20) hx hb dX2_endsInTime_12 (by decide) (fun c_1 => ?_) (fun c_1 => ?_)
  · replace h := it_n c_1 h
    refine ww_bipush (v := 24) hx hb dX2_endsInTime_20 (by decide) ?_
    exact ww_sub (lv1 := [(0, .ref (q 1)), (1, .int (x1)), (2, .int (x2)), (3, .int (x3))]) [0, 1, 2, 3] rfl (bk22 _ _ _ _ h)
  · replace h := it_p c_1 h
    refine ww_bipush (v := 18) hx hb dX2_endsInTime_15 (by decide) ?_
    refine ww_goto (tgt := 22) hx hb dX2_endsInTime_17 (by decide) ?_
    exact ww_sub (lv1 := [(0, .ref (q 1)), (1, .int (x1)), (2, .int (x2)), (3, .int (x3))]) [0, 1, 2, 3] rfl (bk22 _ _ _ _ h)
set_option maxHeartbeats 4000000 in
set_option maxRecDepth 100000 in
theorem m_X2_placedOn (σ : SS) (x1 x2 : Int32) (r : Int32) (h : X2_placedOn σ x1 x2 = some r) : Ct l yX2_placedOn cX2_placedOn 5 (some .int) 1 40 D vwCl [(cA, .int)] (WC q cA σ) (WC q cA σ) [.ref (q 1), .int (x1), .int (x2)] (some (.int r)) := by
  refine ct_of (by decide +kernel) (Nat.le_of_ble_eq_true rfl) ?_
  intro p e s m args below meth c hx hb hr hlk hml hown hts hK hD hN hA
  have hown : s.vm.findClass RX2 = some m.cls := hown
  have hDD : ∀ τ : SS, va_D (va_A (WC q cA σ) s.heap.size) (WC q cA τ) := fun τ => hD.adr rfl
  unfold X2_placedOn at h
  have lp5 : ∀ (n : Nat) (x1 : Int32) (x2 : Int32) (x3 : Int32) (x4 : Int32), X2_placedOn_l5 n σ x1 x2 x3 x4 = some r → WW p l e (rmc 1 40 0 0) s m args below meth c D vwCl (va_A (WC q cA σ) s.heap.size) 5 0 0 (MQ below (qcW D vwCl (WC q cA σ) (WC q cA σ) (some (.int r)) s.heap.size) args s 0 0 (va_A (WC q cA σ) s.heap.size)) (WC q cA σ) 5 [(0, .ref (q 1)), (1, .int (x1)), (2, .int (x2)), (3, .int (x3)), (4, .int (x4))] [] := by
    intro n
    induction n with
    | zero => intro x1 x2 x3 x4 h; rw [X2_placedOn_l5] at h; cases h
    | succ n ih =>
      have bk50 : ∀ (x1 : Int32) (x2 : Int32) (x3 : Int32) (x4 : Int32), X2_placedOn_b50 (X2_placedOn_l5 n) σ x1 x2 x3 x4 = some r → WW p l e (rmc 1 40 0 0) s m args below meth c D vwCl (va_A (WC q cA σ) s.heap.size) 5 0 0 (MQ below (qcW D vwCl (WC q cA σ) (WC q cA σ) (some (.int r)) s.heap.size) args s 0 0 (va_A (WC q cA σ) s.heap.size)) (WC q cA σ) 50 [(0, .ref (q 1)), (1, .int (x1)), (2, .int (x2)), (3, .int (x3)), (4, .int (x4))] [] := by
        intro x1 x2 x3 x4 h
        unfold X2_placedOn_b50 at h
        refine ww_iinc (i := 4) (k := 4) (v := 1) (lv1 := [(0, .ref (q 1)), (1, .int (x1)), (2, .int (x2)), (3, .int (x3)), (4, .int (x4 + 1))]) hx hb dX2_placedOn_50 rfl (by decide) (by decide) [1, 2, 3, 4, 0] rfl ?_
        refine ww_goto (tgt := 5) hx hb dX2_placedOn_53 (by decide) ?_
        exact ww_sub (lv1 := [(0, .ref (q 1)), (1, .int (x1)), (2, .int (x2)), (3, .int (x3)), (4, .int (x4 + 1))]) [0, 1, 2, 3, 4] rfl (ih _ _ _ _ h)
      intro x1 x2 x3 x4 h
      rw [X2_placedOn_l5] at h
      refine ww_iload hx hb dX2_placedOn_5 4 rfl ?_
      refine ww_aload_n hx hb dX2_placedOn_7 rfl 0 rfl ?_
      refine ww_get (C := RX2) (T := TX2) (N := 8) hx hb hown hts hK inA2 1 rfl rfl 0 (by decide) kw_66 rfl rfl dX2_placedOn_8 ?_
      refine ww_get (C := RX3) (T := TX3) (N := 9) hx hb hown hts hK inA3 2 rfl rfl 5 (by decide) kw_73 rfl rfl dX2_placedOn_11 ?_
      refine ww_ge2 (tgt := 56) hx hb dX2_placedOn_14 (by decide) (fun c_1 => ?_) (fun c_1 => ?_)
      · replace h := it_p c_1 h
        refine ww_iload_n hx hb dX2_placedOn_56 rfl 3 rfl ?_
        obtain rfl := os1 h
        exact ww_iret hx hb hr hlk rfl dX2_placedOn_57
      · replace h := it_n c_1 h
        refine ww_iload_n hx hb dX2_placedOn_17 rfl 2 rfl ?_
        refine ww_iload hx hb dX2_placedOn_18 4 rfl ?_
        refine ww_callN (ws1 := WC q cA σ) (st1 := [.int (X4_isIn x2 x4)]) hx hb hml hown hts hK hN hA (hDD _) (Nat.zero_le _) (Nat.zero_le _) [.int (x2), .int (x4)] [] (m_X4_isIn σ x2 x4) cs_X2_80 rfl (by decide) rfl (Nat.le_of_ble_eq_true rfl) dX2_placedOn_20 rfl ?_
        refine ww_eq0 (tgt := 50) hx hb dX2_placedOn_23 (by decide) (fun c_2 => ?_) (fun c_2 => ?_)
        · replace h := it_p c_2 h
          exact ww_sub (lv1 := [(0, .ref (q 1)), (1, .int (x1)), (2, .int (x2)), (3, .int (x3)), (4, .int (x4))]) [0, 1, 2, 3, 4] rfl (bk50 _ _ _ _ h)
        · replace h := it_n c_2 h
          refine ww_aload_n hx hb dX2_placedOn_26 rfl 0 rfl ?_
          refine ww_get (C := RX2) (T := TX2) (N := 8) hx hb hown hts hK inA2 1 rfl rfl 2 (by decide) kw_47 rfl rfl dX2_placedOn_27 ?_
          refine ww_iload hx hb dX2_placedOn_30 4 rfl ?_
          refine ww_callN (ws1 := WC q cA σ) (st1 := [.int (fat σ 11 8 x4)]) hx hb hml hown hts hK hN hA (hDD _) (Nat.zero_le _) (Nat.zero_le _) [.ref (q 11), .int (x4)] [] (m_at (by decide) σ x4) cs_X2_54 rfl (by decide) rfl (Nat.le_of_ble_eq_true rfl) dX2_placedOn_32 rfl ?_
          refine ww_callS (ws1 := WC q cA σ) (st1 := [.int (X2_dayOf (fat σ 11 8 x4))]) hx hb hml hown hts hK hN hA (hDD _) (Nat.zero_le _) (Nat.zero_le _) [.int (fat σ 11 8 x4)] [] (m_X2_dayOf σ (fat σ 11 8 x4)) cs_X2_58 rfl (by decide) rfl (Nat.le_of_ble_eq_true rfl) dX2_placedOn_35 rfl ?_
          refine ww_iload_n hx hb dX2_placedOn_38 rfl 1 rfl ?_
          refine ww_ne2 (tgt := 50) hx hb dX2_placedOn_39 (by decide) (fun c_3 => ?_) (fun c_3 => ?_)
          · replace h := it_n c_3 h
            exact ww_sub (lv1 := [(0, .ref (q 1)), (1, .int (x1)), (2, .int (x2)), (3, .int (x3)), (4, .int (x4))]) [0, 1, 2, 3, 4] rfl (bk50 _ _ _ _ h)
          · replace h := it_p c_3 h
            refine ww_iload_n hx hb dX2_placedOn_42 rfl 3 rfl ?_
            refine ww_iload hx hb dX2_placedOn_43 4 rfl ?_
            refine ww_iconst (v := 1) hx hb dX2_placedOn_45 (by decide) ?_
            refine ww_callN (ws1 := WC q cA σ) (st1 := [.int (X4_with x3 x4 (1 : Int32))]) hx hb hml hown hts hK hN hA (hDD _) (Nat.zero_le _) (Nat.zero_le _) [.int (x3), .int (x4), .int ((1 : Int32))] [] (m_X4_with σ x3 x4 (1 : Int32)) cs_X2_73 rfl (by decide) rfl (Nat.le_of_ble_eq_true rfl) dX2_placedOn_46 rfl ?_
            refine ww_istore_n (i := 3) (lv1 := [(0, .ref (q 1)), (1, .int (x1)), (2, .int (x2)), (3, .int (X4_with x3 x4 (1 : Int32))), (4, .int (x4))]) hx hb dX2_placedOn_49 rfl (by decide) [1, 2, 3, 0, 4] rfl ?_
            exact ww_sub (lv1 := [(0, .ref (q 1)), (1, .int (x1)), (2, .int (x2)), (3, .int (X4_with x3 x4 (1 : Int32))), (4, .int (x4))]) [0, 1, 2, 3, 4] rfl (bk50 _ _ _ _ h)
  refine ww_sub (lv1 := [(0, .ref (q 1)), (1, .int (x1)), (2, .int (x2))]) [0, 1, 2] rfl ?_
  refine ww_iconst (v := 0) hx hb dX2_placedOn_0 (by decide) ?_
  refine ww_istore_n (i := 3) (lv1 := [(0, .ref (q 1)), (1, .int (x1)), (2, .int (x2)), (3, .int ((0 : Int32)))]) hx hb dX2_placedOn_1 rfl (by decide) [1, 2, 3, 0] rfl ?_
  refine ww_iconst (v := 0) hx hb dX2_placedOn_2 (by decide) ?_
  refine ww_istore (i := 4) (lv1 := [(0, .ref (q 1)), (1, .int (x1)), (2, .int (x2)), (3, .int ((0 : Int32))), (4, .int ((0 : Int32)))]) hx hb dX2_placedOn_3 (by decide) [1, 2, 3, 4, 0] rfl ?_
  exact ww_sub (lv1 := [(0, .ref (q 1)), (1, .int (x1)), (2, .int (x2)), (3, .int ((0 : Int32))), (4, .int ((0 : Int32)))]) [0, 1, 2, 3, 4] rfl (lp5 _ _ _ _ _ h)
set_option maxHeartbeats 4000000 in
set_option maxRecDepth 100000 in
theorem m_X2_hoursFor (σ : SS) (x1 x2 : Int32) (r : Int32) (h : X2_hoursFor σ x1 x2 = some r) : Ct l yX2_hoursFor cX2_hoursFor 5 (some .int) 1 40 D vwCl [(cA, .int)] (WC q cA σ) (WC q cA σ) [.ref (q 1), .int (x1), .int (x2)] (some (.int r)) := by
  refine ct_of (by decide +kernel) (Nat.le_of_ble_eq_true rfl) ?_
  intro p e s m args below meth c hx hb hr hlk hml hown hts hK hD hN hA
  have hown : s.vm.findClass RX2 = some m.cls := hown
  have hDD : ∀ τ : SS, va_D (va_A (WC q cA σ) s.heap.size) (WC q cA τ) := fun τ => hD.adr rfl
  unfold X2_hoursFor at h
  have lp5 : ∀ (n : Nat) (x1 : Int32) (x2 : Int32) (x3 : Int32) (x4 : Int32), X2_hoursFor_l5 n σ x1 x2 x3 x4 = some r → WW p l e (rmc 1 40 0 0) s m args below meth c D vwCl (va_A (WC q cA σ) s.heap.size) 5 0 0 (MQ below (qcW D vwCl (WC q cA σ) (WC q cA σ) (some (.int r)) s.heap.size) args s 0 0 (va_A (WC q cA σ) s.heap.size)) (WC q cA σ) 5 [(0, .ref (q 1)), (1, .int (x1)), (2, .int (x2)), (3, .int (x3)), (4, .int (x4))] [] := by
    intro n
    induction n with
    | zero => intro x1 x2 x3 x4 h; rw [X2_hoursFor_l5] at h; cases h
    | succ n ih =>
      have bk60 : ∀ (x1 : Int32) (x2 : Int32) (x3 : Int32) (x4 : Int32), X2_hoursFor_b60 (X2_hoursFor_l5 n) σ x1 x2 x3 x4 = some r → WW p l e (rmc 1 40 0 0) s m args below meth c D vwCl (va_A (WC q cA σ) s.heap.size) 5 0 0 (MQ below (qcW D vwCl (WC q cA σ) (WC q cA σ) (some (.int r)) s.heap.size) args s 0 0 (va_A (WC q cA σ) s.heap.size)) (WC q cA σ) 60 [(0, .ref (q 1)), (1, .int (x1)), (2, .int (x2)), (3, .int (x3)), (4, .int (x4))] [] := by
        intro x1 x2 x3 x4 h
        unfold X2_hoursFor_b60 at h
        refine ww_iinc (i := 4) (k := 4) (v := 1) (lv1 := [(0, .ref (q 1)), (1, .int (x1)), (2, .int (x2)), (3, .int (x3)), (4, .int (x4 + 1))]) hx hb dX2_hoursFor_60 rfl (by decide) (by decide) [1, 2, 3, 4, 0] rfl ?_
        refine ww_goto (tgt := 5) hx hb dX2_hoursFor_63 (by decide) ?_
        exact ww_sub (lv1 := [(0, .ref (q 1)), (1, .int (x1)), (2, .int (x2)), (3, .int (x3)), (4, .int (x4 + 1))]) [0, 1, 2, 3, 4] rfl (ih _ _ _ _ h)
      intro x1 x2 x3 x4 h
      rw [X2_hoursFor_l5] at h
      refine ww_iload hx hb dX2_hoursFor_5 4 rfl ?_
      refine ww_aload_n hx hb dX2_hoursFor_7 rfl 0 rfl ?_
      refine ww_get (C := RX2) (T := TX2) (N := 8) hx hb hown hts hK inA2 1 rfl rfl 0 (by decide) kw_66 rfl rfl dX2_hoursFor_8 ?_
      refine ww_get (C := RX3) (T := TX3) (N := 9) hx hb hown hts hK inA3 2 rfl rfl 5 (by decide) kw_73 rfl rfl dX2_hoursFor_11 ?_
      refine ww_ge2 (tgt := 66) hx hb dX2_hoursFor_14 (by decide) (fun c_1 => ?_) (fun c_1 => ?_)
      · replace h := it_p c_1 h
        refine ww_iload_n hx hb dX2_hoursFor_66 rfl 3 rfl ?_
        obtain rfl := os1 h
        exact ww_iret hx hb hr hlk rfl dX2_hoursFor_67
      · replace h := it_n c_1 h
        refine ww_iload_n hx hb dX2_hoursFor_17 rfl 2 rfl ?_
        refine ww_iload hx hb dX2_hoursFor_18 4 rfl ?_
        refine ww_callN (ws1 := WC q cA σ) (st1 := [.int (X4_isIn x2 x4)]) hx hb hml hown hts hK hN hA (hDD _) (Nat.zero_le _) (Nat.zero_le _) [.int (x2), .int (x4)] [] (m_X4_isIn σ x2 x4) cs_X2_80 rfl (by decide) rfl (Nat.le_of_ble_eq_true rfl) dX2_hoursFor_20 rfl ?_
        refine ww_eq0 (tgt := 60) hx hb dX2_hoursFor_23 (by decide) (fun c_2 => ?_) (fun c_2 => ?_)
        · replace h := it_p c_2 h
          exact ww_sub (lv1 := [(0, .ref (q 1)), (1, .int (x1)), (2, .int (x2)), (3, .int (x3)), (4, .int (x4))]) [0, 1, 2, 3, 4] rfl (bk60 _ _ _ _ h)
        · replace h := it_n c_2 h
          refine ww_aload_n hx hb dX2_hoursFor_26 rfl 0 rfl ?_
          refine ww_get (C := RX2) (T := TX2) (N := 8) hx hb hown hts hK inA2 1 rfl rfl 0 (by decide) kw_66 rfl rfl dX2_hoursFor_27 ?_
          refine ww_get (C := RX3) (T := TX3) (N := 9) hx hb hown hts hK inA3 2 rfl rfl 2 (by decide) kw_74 rfl rfl dX2_hoursFor_30 ?_
          refine ww_iload hx hb dX2_hoursFor_33 4 rfl ?_
          refine ww_callN (ws1 := WC q cA σ) (st1 := [.int (fat σ 7 8 x4)]) hx hb hml hown hts hK hN hA (hDD _) (Nat.zero_le _) (Nat.zero_le _) [.ref (q 7), .int (x4)] [] (m_at (by decide) σ x4) cs_X2_54 rfl (by decide) rfl (Nat.le_of_ble_eq_true rfl) dX2_hoursFor_35 rfl ?_
          refine ww_iload_n hx hb dX2_hoursFor_38 rfl 1 rfl ?_
          refine ww_callN (ws1 := WC q cA σ) (st1 := [.int (X4_isIn (fat σ 7 8 x4) x1)]) hx hb hml hown hts hK hN hA (hDD _) (Nat.zero_le _) (Nat.zero_le _) [.int (fat σ 7 8 x4), .int (x1)] [] (m_X4_isIn σ (fat σ 7 8 x4) x1) cs_X2_80 rfl (by decide) rfl (Nat.le_of_ble_eq_true rfl) dX2_hoursFor_39 rfl ?_
          refine ww_eq0 (tgt := 60) hx hb dX2_hoursFor_42 (by decide) (fun c_3 => ?_) (fun c_3 => ?_)
          · replace h := it_p c_3 h
            exact ww_sub (lv1 := [(0, .ref (q 1)), (1, .int (x1)), (2, .int (x2)), (3, .int (x3)), (4, .int (x4))]) [0, 1, 2, 3, 4] rfl (bk60 _ _ _ _ h)
          · replace h := it_n c_3 h
            refine ww_iload_n hx hb dX2_hoursFor_45 rfl 3 rfl ?_
            refine ww_aload_n hx hb dX2_hoursFor_46 rfl 0 rfl ?_
            refine ww_get (C := RX2) (T := TX2) (N := 8) hx hb hown hts hK inA2 1 rfl rfl 0 (by decide) kw_66 rfl rfl dX2_hoursFor_47 ?_
            refine ww_get (C := RX3) (T := TX3) (N := 9) hx hb hown hts hK inA3 2 rfl rfl 0 (by decide) kw_67 rfl rfl dX2_hoursFor_50 ?_
            refine ww_iload hx hb dX2_hoursFor_53 4 rfl ?_
            refine ww_callN (ws1 := WC q cA σ) (st1 := [.int (fat σ 5 8 x4), .int (x3)]) hx hb hml hown hts hK hN hA (hDD _) (Nat.zero_le _) (Nat.zero_le _) [.ref (q 5), .int (x4)] [.int (x3)] (m_at (by decide) σ x4) cs_X2_54 rfl (by decide) rfl (Nat.le_of_ble_eq_true rfl) dX2_hoursFor_55 rfl ?_
            refine ww_iadd hx hb dX2_hoursFor_58 ?_
            refine ww_istore_n (i := 3) (lv1 := [(0, .ref (q 1)), (1, .int (x1)), (2, .int (x2)), (3, .int (x3 + (fat σ 5 8 x4))), (4, .int (x4))]) hx hb dX2_hoursFor_59 rfl (by decide) [1, 2, 3, 0, 4] rfl ?_
            exact ww_sub (lv1 := [(0, .ref (q 1)), (1, .int (x1)), (2, .int (x2)), (3, .int (x3 + (fat σ 5 8 x4))), (4, .int (x4))]) [0, 1, 2, 3, 4] rfl (bk60 _ _ _ _ h)
  refine ww_sub (lv1 := [(0, .ref (q 1)), (1, .int (x1)), (2, .int (x2))]) [0, 1, 2] rfl ?_
  refine ww_iconst (v := 0) hx hb dX2_hoursFor_0 (by decide) ?_
  refine ww_istore_n (i := 3) (lv1 := [(0, .ref (q 1)), (1, .int (x1)), (2, .int (x2)), (3, .int ((0 : Int32)))]) hx hb dX2_hoursFor_1 rfl (by decide) [1, 2, 3, 0] rfl ?_
  refine ww_iconst (v := 0) hx hb dX2_hoursFor_2 (by decide) ?_
  refine ww_istore (i := 4) (lv1 := [(0, .ref (q 1)), (1, .int (x1)), (2, .int (x2)), (3, .int ((0 : Int32))), (4, .int ((0 : Int32)))]) hx hb dX2_hoursFor_3 (by decide) [1, 2, 3, 4, 0] rfl ?_
  exact ww_sub (lv1 := [(0, .ref (q 1)), (1, .int (x1)), (2, .int (x2)), (3, .int ((0 : Int32))), (4, .int ((0 : Int32)))]) [0, 1, 2, 3, 4] rfl (lp5 _ _ _ _ _ h)
set_option maxHeartbeats 4000000 in
set_option maxRecDepth 100000 in
theorem m_X2_isFitForChildren (σ : SS) (x1 x2 x3 : Int32) (r : Int32) (h : X2_isFitForChildren σ x1 x2 x3 = some r) : Ct l yX2_isFitForChildren cX2_isFitForChildren 6 (some .boolean) 2 80 D vwCl [(cA, .int)] (WC q cA σ) (WC q cA σ) [.ref (q 1), .int (x1), .int (x2), .int (x3)] (some (.int r)) := by
  refine ct_of (by decide +kernel) (Nat.le_of_ble_eq_true rfl) ?_
  intro p e s m args below meth c hx hb hr hlk hml hown hts hK hD hN hA
  have hown : s.vm.findClass RX2 = some m.cls := hown
  have hDD : ∀ τ : SS, va_D (va_A (WC q cA σ) s.heap.size) (WC q cA τ) := fun τ => hD.adr rfl
  unfold X2_isFitForChildren at h
  have lp24 : ∀ (n : Nat) (x1 : Int32) (x2 : Int32) (x3 : Int32) (x4 : Int32) (x5 : Int32), X2_isFitForChildren_l24 n σ x1 x2 x3 x4 x5 = some r → WW p l e (rmc 2 80 0 0) s m args below meth c D vwCl (va_A (WC q cA σ) s.heap.size) 6 0 0 (MQ below (qcW D vwCl (WC q cA σ) (WC q cA σ) (some (.int r)) s.heap.size) args s 0 0 (va_A (WC q cA σ) s.heap.size)) (WC q cA σ) 24 [(0, .ref (q 1)), (1, .int (x1)), (2, .int (x2)), (3, .int (x3)), (4, .int (x4)), (5, .int (x5))] [] := by
    intro n
    induction n with
    | zero => intro x1 x2 x3 x4 x5 h; rw [X2_isFitForChildren_l24] at h; cases h
    | succ n ih =>
      have bk72 : ∀ (x1 : Int32) (x2 : Int32) (x3 : Int32) (x4 : Int32) (x5 : Int32), X2_isFitForChildren_b72 (X2_isFitForChildren_l24 n) σ x1 x2 x3 x4 x5 = some r → WW p l e (rmc 2 80 0 0) s m args below meth c D vwCl (va_A (WC q cA σ) s.heap.size) 6 0 0 (MQ below (qcW D vwCl (WC q cA σ) (WC q cA σ) (some (.int r)) s.heap.size) args s 0 0 (va_A (WC q cA σ) s.heap.size)) (WC q cA σ) 72 [(0, .ref (q 1)), (1, .int (x1)), (2, .int (x2)), (3, .int (x3)), (4, .int (x4)), (5, .int (x5))] [] := by
        intro x1 x2 x3 x4 x5 h
        unfold X2_isFitForChildren_b72 at h
        refine ww_iinc (i := 5) (k := 5) (v := 1) (lv1 := [(0, .ref (q 1)), (1, .int (x1)), (2, .int (x2)), (3, .int (x3)), (4, .int (x4)), (5, .int (x5 + 1))]) hx hb dX2_isFitForChildren_72 rfl (by decide) (by decide) [1, 2, 3, 4, 5, 0] rfl ?_
        refine ww_goto (tgt := 24) hx hb dX2_isFitForChildren_75 (by decide) ?_
        exact ww_sub (lv1 := [(0, .ref (q 1)), (1, .int (x1)), (2, .int (x2)), (3, .int (x3)), (4, .int (x4)), (5, .int (x5 + 1))]) [0, 1, 2, 3, 4, 5] rfl (ih _ _ _ _ _ h)
      intro x1 x2 x3 x4 x5 h
      rw [X2_isFitForChildren_l24] at h
      refine ww_iload hx hb dX2_isFitForChildren_24 5 rfl ?_
      refine ww_bipush (v := 6) hx hb dX2_isFitForChildren_26 (by decide) ?_
      refine ww_ge2 (tgt := 78) hx hb dX2_isFitForChildren_28 (by decide) (fun c_1 => ?_) (fun c_1 => ?_)
      · replace h := it_p c_1 h
        refine ww_iconst (v := 1) hx hb dX2_isFitForChildren_78 (by decide) ?_
        obtain rfl := os1 h
        exact ww_zret hx hb hr hlk (by decide) rfl dX2_isFitForChildren_79
      · replace h := it_n c_1 h
        refine ww_iload hx hb dX2_isFitForChildren_31 4 rfl ?_
        refine ww_iload hx hb dX2_isFitForChildren_33 5 rfl ?_
        refine ww_callN (ws1 := WC q cA σ) (st1 := [.int (X4_isIn x4 x5)]) hx hb hml hown hts hK hN hA (hDD _) (Nat.zero_le _) (Nat.zero_le _) [.int (x4), .int (x5)] [] (m_X4_isIn σ x4 x5) cs_X2_80 rfl (by decide) rfl (Nat.le_of_ble_eq_true rfl) dX2_isFitForChildren_35 rfl ?_
        refine ww_eq0 (tgt := 72) hx hb dX2_isFitForChildren_38 (by decide) (fun c_2 => ?_) (fun c_2 => ?_)
        · replace h := it_p c_2 h
          exact ww_sub (lv1 := [(0, .ref (q 1)), (1, .int (x1)), (2, .int (x2)), (3, .int (x3)), (4, .int (x4)), (5, .int (x5))]) [0, 1, 2, 3, 4, 5] rfl (bk72 _ _ _ _ _ h)
        · replace h := it_n c_2 h
          refine ww_aload_n hx hb dX2_isFitForChildren_41 rfl 0 rfl ?_
          refine ww_iload hx hb dX2_isFitForChildren_42 5 rfl ?_
          refine ww_aload_n hx hb dX2_isFitForChildren_44 rfl 0 rfl ?_
          refine ww_iload_n hx hb dX2_isFitForChildren_45 rfl 2 rfl ?_
          refine ww_iload_n hx hb dX2_isFitForChildren_46 rfl 3 rfl ?_
          obtain ⟨r_3, e_3, h⟩ := ob h
          refine ww_callV (ws1 := WC q cA σ) (st1 := [.int (r_3), .int (x5), .ref (q 1)]) hx hb hml hown hts hK hN hA (hDD _) (Nat.zero_le _) (Nat.zero_le _) [.int (x2), .int (x3)] [.int (x5), .ref (q 1)] (m_X2_placedOn _ _ _ _ e_3) cs_X2_142 rfl (by decide) 1 rfl rfl rfl (Nat.le_of_ble_eq_true rfl) dX2_isFitForChildren_47 rfl ?_
          obtain ⟨r_4, e_4, h⟩ := ob h
          refine ww_callV (ws1 := WC q cA σ) (st1 := [.int (r_4)]) hx hb hml hown hts hK hN hA (hDD _) (Nat.zero_le _) (Nat.zero_le _) [.int (x5), .int (r_3)] [] (m_X2_hoursFor _ _ _ _ e_4) cs_X2_139 rfl (by decide) 1 rfl rfl rfl (Nat.le_of_ble_eq_true rfl) dX2_isFitForChildren_50 rfl ?_
          refine ww_aload_n hx hb dX2_isFitForChildren_53 rfl 0 rfl ?_
          refine ww_get (C := RX2) (T := TX2) (N := 8) hx hb hown hts hK inA2 1 rfl rfl 0 (by decide) kw_66 rfl rfl dX2_isFitForChildren_54 ?_
          refine ww_get (C := RX3) (T := TX3) (N := 9) hx hb hown hts hK inA3 2 rfl rfl 0 (by decide) kw_67 rfl rfl dX2_isFitForChildren_57 ?_
          refine ww_iload_n hx hb dX2_isFitForChildren_60 rfl 1 rfl ?_
          refine ww_callN (ws1 := WC q cA σ) (st1 := [.int (fat σ 5 8 x1), .int (r_4)]) hx hb hml hown hts hK hN hA (hDD _) (Nat.zero_le _) (Nat.zero_le _) [.ref (q 5), .int (x1)] [.int (r_4)] (m_at (by decide) σ x1) cs_X2_54 rfl (by decide) rfl (Nat.le_of_ble_eq_true rfl) dX2_isFitForChildren_61 rfl ?_
          refine ww_iadd hx hb dX2_isFitForChildren_64 ?_
          refine ww_bipush (v := 6) hx hb dX2_isFitForChildren_65 (by decide) ?_
          refine ww_le2 (tgt := 72) hx hb dX2_isFitForChildren_67 (by decide) (fun c_5 => ?_) (fun c_5 => ?_)
          · replace h := it_p c_5 h
            exact ww_sub (lv1 := [(0, .ref (q 1)), (1, .int (x1)), (2, .int (x2)), (3, .int (x3)), (4, .int (x4)), (5, .int (x5))]) [0, 1, 2, 3, 4, 5] rfl (bk72 _ _ _ _ _ h)
          · replace h := it_n c_5 h
            refine ww_iconst (v := 0) hx hb dX2_isFitForChildren_70 (by decide) ?_
            obtain rfl := os1 h
            exact ww_zret hx hb hr hlk (by decide) rfl dX2_isFitForChildren_71
  refine ww_sub (lv1 := [(0, .ref (q 1)), (1, .int (x1)), (2, .int (x2)), (3, .int (x3))]) [0, 1, 2, 3] rfl ?_
  refine ww_aload_n hx hb dX2_isFitForChildren_0 rfl 0 rfl ?_
  refine ww_get (C := RX2) (T := TX2) (N := 8) hx hb hown hts hK inA2 1 rfl rfl 0 (by decide) kw_66 rfl rfl dX2_isFitForChildren_1 ?_
  refine ww_get (C := RX3) (T := TX3) (N := 9) hx hb hown hts hK inA3 2 rfl rfl 8 (by decide) kw_79 rfl rfl dX2_isFitForChildren_4 ?_
  refine ww_aload_n hx hb dX2_isFitForChildren_7 rfl 0 rfl ?_
  refine ww_get (C := RX2) (T := TX2) (N := 8) hx hb hown hts hK inA2 1 rfl rfl 0 (by decide) kw_66 rfl rfl dX2_isFitForChildren_8 ?_
  refine ww_get (C := RX3) (T := TX3) (N := 9) hx hb hown hts hK inA3 2 rfl rfl 2 (by decide) kw_74 rfl rfl dX2_isFitForChildren_11 ?_
  refine ww_iload_n hx hb dX2_isFitForChildren_14 rfl 1 rfl ?_
  refine ww_callN (ws1 := WC q cA σ) (st1 := [.int (fat σ 7 8 x1), .int (σ 2 8)]) hx hb hml hown hts hK hN hA (hDD _) (Nat.zero_le _) (Nat.zero_le _) [.ref (q 7), .int (x1)] [.int (σ 2 8)] (m_at (by decide) σ x1) cs_X2_54 rfl (by decide) rfl (Nat.le_of_ble_eq_true rfl) dX2_isFitForChildren_15 rfl ?_
  refine ww_iand hx hb dX2_isFitForChildren_18 ?_
  refine ww_istore (i := 4) (lv1 := [(0, .ref (q 1)), (1, .int (x1)), (2, .int (x2)), (3, .int (x3)), (4, .int ((σ 2 8) &&& (fat σ 7 8 x1)))]) hx hb dX2_isFitForChildren_19 (by decide) [1, 2, 3, 4, 0] rfl ?_
  refine ww_iconst (v := 0) hx hb dX2_isFitForChildren_21 (by decide) ?_
  refine ww_istore (i := 5) (lv1 := [(0, .ref (q 1)), (1, .int (x1)), (2, .int (x2)), (3, .int (x3)), (4, .int ((σ 2 8) &&& (fat σ 7 8 x1))), (5, .int ((0 : Int32)))]) hx hb dX2_isFitForChildren_22 (by decide) [1, 2, 3, 4, 5, 0] rfl ?_
  exact ww_sub (lv1 := [(0, .ref (q 1)), (1, .int (x1)), (2, .int (x2)), (3, .int (x3)), (4, .int ((σ 2 8) &&& (fat σ 7 8 x1))), (5, .int ((0 : Int32)))]) [0, 1, 2, 3, 4, 5] rfl (lp24 _ _ _ _ _ _ h)
set_option maxHeartbeats 4000000 in
set_option maxRecDepth 100000 in
theorem m_X2_place (σ : SS) (x1 x2 x3 : Int32) (σ1 : SS) (h : X2_place σ x1 x2 x3 = some σ1) : Ct l yX2_place cX2_place 7 none 3 120 D vwCl [(cA, .int)] (WC q cA σ) (WC q cA σ1) [.ref (q 1), .int (x1), .int (x2), .int (x3)] none := by
  refine ct_of (by decide +kernel) (Nat.le_of_ble_eq_true rfl) ?_
  intro p e s m args below meth c hx hb hr hlk hml hown hts hK hD hN hA
  have hown : s.vm.findClass RX2 = some m.cls := hown
  have hDD : ∀ τ : SS, va_D (va_A (WC q cA σ) s.heap.size) (WC q cA τ) := fun τ => hD.adr rfl
  unfold X2_place at h
  have bk136 : ∀ (τ : SS) (x1 : Int32) (x2 : Int32) (x5 : Int32), X2_place_b136 τ x1 x2 x5 = some σ1 → WW p l e (rmc 3 120 0 0) s m args below meth c D vwCl (va_A (WC q cA σ) s.heap.size) 7 0 0 (MQ below (qcW D vwCl (WC q cA σ) (WC q cA σ1) none s.heap.size) args s 0 0 (va_A (WC q cA σ) s.heap.size)) (WC q cA τ) 136 [(0, .ref (q 1)), (1, .int (x1)), (2, .int (x2)), (5, .int (x5))] [] := by
    intro τ x1 x2 x5 h
    unfold X2_place_b136 at h
    refine ww_aload_n hx hb dX2_place_136 rfl 0 rfl ?_
    refine ww_get (C := RX2) (T := TX2) (N := 8) hx hb hown hts hK inA2 1 rfl rfl 1 (by decide) kw_48 rfl rfl dX2_place_137 ?_
    refine ww_iload_n hx hb dX2_place_140 rfl 2 rfl ?_
    refine ww_iload_n hx hb dX2_place_141 rfl 1 rfl ?_
    obtain ⟨σ_7, e_7, h⟩ := lt_e h
    refine ww_callN (ws1 := WC q cA σ_7) (st1 := []) hx hb hml hown hts hK hN hA (hDD _) (Nat.zero_le _) (Nat.zero_le _) [.ref (q 10), .int (x2), .int (x1)] [] (m_put (by decide) _ _ _ _ e_7) cs_X2_83 rfl (by decide) rfl (Nat.le_of_ble_eq_true rfl) dX2_place_142 rfl ?_
    refine ww_aload_n hx hb dX2_place_145 rfl 0 rfl ?_
    refine ww_get (C := RX2) (T := TX2) (N := 8) hx hb hown hts hK inA2 1 rfl rfl 2 (by decide) kw_47 rfl rfl dX2_place_146 ?_
    refine ww_iload_n hx hb dX2_place_149 rfl 1 rfl ?_
    refine ww_iload hx hb dX2_place_150 3 rfl ?_
    obtain ⟨σ_8, e_8, h⟩ := lt_e h
    refine ww_callN (ws1 := WC q cA σ_8) (st1 := []) hx hb hml hown hts hK hN hA (hDD _) (Nat.zero_le _) (Nat.zero_le _) [.ref (q 11), .int (x1), .int (x5)] [] (m_put (by decide) _ _ _ _ e_8) cs_X2_83 rfl (by decide) rfl (Nat.le_of_ble_eq_true rfl) dX2_place_152 rfl ?_
    obtain rfl := os1 h
    exact ww_vret hx hb hr hlk dX2_place_155
  have bk118 : ∀ (τ : SS) (x1 : Int32) (x2 : Int32) (x3 : Int32) (x4 : Int32), X2_place_b118 τ x1 x2 x3 x4 = some σ1 → WW p l e (rmc 3 120 0 0) s m args below meth c D vwCl (va_A (WC q cA σ) s.heap.size) 7 0 0 (MQ below (qcW D vwCl (WC q cA σ) (WC q cA σ1) none s.heap.size) args s 0 0 (va_A (WC q cA σ) s.heap.size)) (WC q cA τ) 118 [(0, .ref (q 1)), (1, .int (x1)), (2, .int (x2)), (3, .int (x3)), (4, .int (x4))] [] := by
    intro τ x1 x2 x3 x4 h
    unfold X2_place_b118 at h
    refine ww_iinc (i := 4) (k := 4) (v := 1) (lv1 := [(0, .ref (q 1)), (1, .int (x1)), (2, .int (x2)), (3, .int (x3)), (4, .int (x4 + 1))]) hx hb dX2_place_118 rfl (by decide) (by decide) [1, 2, 3, 4, 0] rfl ?_
    refine ww_aload_n hx hb dX2_place_121 rfl 0 rfl ?_
    refine ww_iload hx hb dX2_place_122 4 rfl ?_
    refine ww_callS (ws1 := WC q cA τ) (st1 := [.int (X2_startOf (x4 + 1)), .ref (q 1)]) hx hb hml hown hts hK hN hA (hDD _) (Nat.zero_le _) (Nat.zero_le _) [.int (x4 + 1)] [.ref (q 1)] (m_X2_startOf τ (x4 + 1)) cs_X2_151 rfl (by decide) rfl (Nat.le_of_ble_eq_true rfl) dX2_place_124 rfl ?_
    refine ww_iload_n hx hb dX2_place_127 rfl 1 rfl ?_
    refine ww_iload hx hb dX2_place_128 4 rfl ?_
    refine ww_iload_n hx hb dX2_place_130 rfl 3 rfl ?_
    obtain ⟨r_9, e_9, h⟩ := ob h
    refine ww_callV (ws1 := WC q cA τ) (st1 := [.int (r_9)]) hx hb hml hown hts hK hN hA (hDD _) (Nat.zero_le _) (Nat.zero_le _) [.int (X2_startOf (x4 + 1)), .int (x1), .int (x4 + 1), .int (x3)] [] (m_X2_beginFrom _ _ _ _ _ _ e_9) cs_X2_157 rfl (by decide) 1 rfl rfl rfl (Nat.le_of_ble_eq_true rfl) dX2_place_131 rfl ?_
    refine ww_istore (i := 5) (lv1 := [(0, .ref (q 1)), (1, .int (x1)), (2, .int (x2)), (5, .int (r_9))]) hx hb dX2_place_134 (by decide) [1, 2, 3, 0] rfl ?_
    exact ww_sub (lv1 := [(0, .ref (q 1)), (1, .int (x1)), (2, .int (x2)), (5, .int (r_9))]) [0, 1, 2, 3] rfl (bk136 _ _ _ _ h)
  have bk83 : ∀ (τ : SS) (x1 : Int32) (x2 : Int32) (x3 : Int32) (x4 : Int32) (x5 : Int32), X2_place_b83 τ x1 x2 x3 x4 x5 = some σ1 → WW p l e (rmc 3 120 0 0) s m args below meth c D vwCl (va_A (WC q cA σ) s.heap.size) 7 0 0 (MQ below (qcW D vwCl (WC q cA σ) (WC q cA σ1) none s.heap.size) args s 0 0 (va_A (WC q cA σ) s.heap.size)) (WC q cA τ) 83 [(0, .ref (q 1)), (1, .int (x1)), (2, .int (x2)), (3, .int (x3)), (4, .int (x4)), (5, .int (x5))] [] := by
    intro τ x1 x2 x3 x4 x5 h
    unfold X2_place_b83 at h
    refine ww_aload_n hx hb dX2_place_83 rfl 0 rfl ?_
    refine ww_iload hx hb dX2_place_84 5 rfl ?_
    refine ww_iload_n hx hb dX2_place_86 rfl 1 rfl ?_
    refine ww_iload hx hb dX2_place_87 4 rfl ?_
    refine ww_iload_n hx hb dX2_place_89 rfl 3 rfl ?_
    obtain ⟨r_3, e_3, h⟩ := ob h
    refine ww_callV (ws1 := WC q cA τ) (st1 := [.int (r_3)]) hx hb hml hown hts hK hN hA (hDD _) (Nat.zero_le _) (Nat.zero_le _) [.int (x5), .int (x1), .int (x4), .int (x3)] [] (m_X2_beginFrom _ _ _ _ _ _ e_3) cs_X2_157 rfl (by decide) 1 rfl rfl rfl (Nat.le_of_ble_eq_true rfl) dX2_place_90 rfl ?_
    refine ww_istore (i := 5) (lv1 := [(0, .ref (q 1)), (1, .int (x1)), (2, .int (x2)), (3, .int (x3)), (4, .int (x4)), (5, .int (r_3))]) hx hb dX2_place_93 (by decide) [1, 2, 3, 4, 5, 0] rfl ?_
    refine ww_aload_n hx hb dX2_place_95 rfl 0 rfl ?_
    refine ww_iload_n hx hb dX2_place_96 rfl 1 rfl ?_
    refine ww_iload hx hb dX2_place_97 5 rfl ?_
    refine ww_iload hx hb dX2_place_99 4 rfl ?_
    refine ww_callV (ws1 := WC q cA τ) (st1 := [.int (X2_endsInTime τ x1 r_3 x4)]) hx hb hml hown hts hK hN hA (hDD _) (Nat.zero_le _) (Nat.zero_le _) [.int (x1), .int (r_3), .int (x4)] [] (m_X2_endsInTime τ x1 r_3 x4) cs_X2_161 rfl (by decide) 1 rfl rfl rfl (Nat.le_of_ble_eq_true rfl) dX2_place_101 rfl ?_
    refine ww_eq0 (tgt := 118) hx hb dX2_place_104 (by decide) (fun c_4 => ?_) (fun c_4 => ?_)
    · replace h := it_p c_4 h
      exact ww_sub (lv1 := [(0, .ref (q 1)), (1, .int (x1)), (2, .int (x2)), (3, .int (x3)), (4, .int (x4))]) [0, 1, 2, 3, 4] rfl (bk118 _ _ _ _ _ h)
    · replace h := it_n c_4 h
      refine ww_aload_n hx hb dX2_place_107 rfl 0 rfl ?_
      refine ww_iload_n hx hb dX2_place_108 rfl 1 rfl ?_
      refine ww_iload hx hb dX2_place_109 4 rfl ?_
      refine ww_iload_n hx hb dX2_place_111 rfl 3 rfl ?_
      obtain ⟨r_5, e_5, h⟩ := ob h
      refine ww_callV (ws1 := WC q cA τ) (st1 := [.int (r_5)]) hx hb hml hown hts hK hN hA (hDD _) (Nat.zero_le _) (Nat.zero_le _) [.int (x1), .int (x4), .int (x3)] [] (m_X2_isFitForChildren _ _ _ _ _ e_5) cs_X2_164 rfl (by decide) 1 rfl rfl rfl (Nat.le_of_ble_eq_true rfl) dX2_place_112 rfl ?_
      refine ww_ne0 (tgt := 136) hx hb dX2_place_115 (by decide) (fun c_6 => ?_) (fun c_6 => ?_)
      · replace h := it_n c_6 h
        exact ww_sub (lv1 := [(0, .ref (q 1)), (1, .int (x1)), (2, .int (x2)), (5, .int (r_3))]) [0, 1, 2, 5] rfl (bk136 _ _ _ _ h)
      · replace h := it_p c_6 h
        exact ww_sub (lv1 := [(0, .ref (q 1)), (1, .int (x1)), (2, .int (x2)), (3, .int (x3)), (4, .int (x4))]) [0, 1, 2, 3, 4] rfl (bk118 _ _ _ _ _ h)
  have bk80 : ∀ (τ : SS) (x1 : Int32) (x2 : Int32) (x3 : Int32) (x4 : Int32) (y0 : Int32) (y1 : Int32), X2_place_b80 τ x1 x2 x3 x4 y0 y1 = some σ1 → WW p l e (rmc 3 120 0 0) s m args below meth c D vwCl (va_A (WC q cA σ) s.heap.size) 7 0 0 (MQ below (qcW D vwCl (WC q cA σ) (WC q cA σ1) none s.heap.size) args s 0 0 (va_A (WC q cA σ) s.heap.size)) (WC q cA τ) 80 [(0, .ref (q 1)), (1, .int (x1)), (2, .int (x2)), (3, .int (x3)), (4, .int (x4))] [.int (y1), .int (y0)] := by
    intro τ x1 x2 x3 x4 y0 y1 h
    unfold X2_place_b80 at h
    refine ww_iadd hx hb dX2_place_80 ?_
    refine ww_istore (i := 5) (lv1 := [(0, .ref (q 1)), (1, .int (x1)), (2, .int (x2)), (3, .int (x3)), (4, .int (x4)), (5, .int (y0 + y1))]) hx hb dX2_place_81 (by decide) [1, 2, 3, 4, 5, 0] rfl ?_
    exact ww_sub (lv1 := [(0, .ref (q 1)), (1, .int (x1)), (2, .int (x2)), (3, .int (x3)), (4, .int (x4)), (5, .int (y0 + y1))]) [0, 1, 2, 3, 4, 5] rfl (bk83 _ _ _ _ _ _ h)
  refine ww_sub (lv1 := [(0, .ref (q 1)), (1, .int (x1)), (2, .int (x2)), (3, .int (x3))]) [0, 1, 2, 3] rfl ?_
  refine ww_aload_n hx hb dX2_place_0 rfl 0 rfl ?_
  refine ww_get (C := RX2) (T := TX2) (N := 8) hx hb hown hts hK inA2 1 rfl rfl 6 (by decide) kw_54 rfl rfl dX2_place_1 ?_
  refine ww_istore (i := 4) (lv1 := [(0, .ref (q 1)), (1, .int (x1)), (2, .int (x2)), (3, .int (x3)), (4, .int (σ 1 6))]) hx hb dX2_place_4 (by decide) [1, 2, 3, 4, 0] rfl ?_
  refine ww_iload hx hb dX2_place_6 4 rfl ?_
  refine ww_callS (ws1 := WC q cA σ) (st1 := [.int (X2_startOf (σ 1 6))]) hx hb hml hown hts hK hN hA (hDD _) (Nat.zero_le _) (Nat.zero_le _) [.int (σ 1 6)] [] (m_X2_startOf σ (σ 1 6)) cs_X2_151 rfl (by decide) rfl (Nat.le_of_ble_eq_true rfl) dX2_place_8 rfl ?_
  refine ww_istore (i := 5) (lv1 := [(0, .ref (q 1)), (1, .int (x1)), (2, .int (x2)), (3, .int (x3)), (4, .int (σ 1 6)), (5, .int (X2_startOf (σ 1 6)))]) hx hb dX2_place_11 (by decide) [1, 2, 3, 4, 5, 0] rfl ?_
  refine ww_iload_n hx hb dX2_place_13 rfl 2 rfl ?_
  refine ww_le0 (tgt := 83) hx hb dX2_place_14 (by decide) (fun c_1 => ?_) (fun c_1 => ?_)
  · replace h := it_p c_1 h
    exact ww_sub (lv1 := [(0, .ref (q 1)), (1, .int (x1)), (2, .int (x2)), (3, .int (x3)), (4, .int (σ 1 6)), (5, .int (X2_startOf (σ 1 6)))]) [0, 1, 2, 3, 4, 5] rfl (bk83 _ _ _ _ _ _ h)
  · replace h := it_n c_1 h
    refine ww_aload_n hx hb dX2_place_17 rfl 0 rfl ?_
    refine ww_get (C := RX2) (T := TX2) (N := 8) hx hb hown hts hK inA2 1 rfl rfl 1 (by decide) kw_48 rfl rfl dX2_place_18 ?_
    refine ww_iload_n hx hb dX2_place_21 rfl 2 rfl ?_
    refine ww_iconst (v := 1) hx hb dX2_place_22 (by decide) ?_
    refine ww_isub hx hb dX2_place_23 ?_
    refine ww_callN (ws1 := WC q cA σ) (st1 := [.int (fat σ 10 8 (x2 - (1 : Int32)))]) hx hb hml hown hts hK hN hA (hDD _) (Nat.zero_le _) (Nat.zero_le _) [.ref (q 10), .int (x2 - (1 : Int32))] [] (m_at (by decide) σ (x2 - (1 : Int32))) cs_X2_54 rfl (by decide) rfl (Nat.le_of_ble_eq_true rfl) dX2_place_24 rfl ?_
    refine ww_istore (i := 6) (lv1 := [(0, .ref (q 1)), (1, .int (x1)), (2, .int (x2)), (3, .int (x3)), (6, .int (fat σ 10 8 (x2 - (1 : Int32))))]) hx hb dX2_place_27 (by decide) [1, 2, 3, 4, 0] rfl ?_
    refine ww_aload_n hx hb dX2_place_29 rfl 0 rfl ?_
    refine ww_get (C := RX2) (T := TX2) (N := 8) hx hb hown hts hK inA2 1 rfl rfl 2 (by decide) kw_47 rfl rfl dX2_place_30 ?_
    refine ww_iload hx hb dX2_place_33 4 rfl ?_
    refine ww_callN (ws1 := WC q cA σ) (st1 := [.int (fat σ 11 8 (fat σ 10 8 (x2 - (1 : Int32))))]) hx hb hml hown hts hK hN hA (hDD _) (Nat.zero_le _) (Nat.zero_le _) [.ref (q 11), .int (fat σ 10 8 (x2 - (1 : Int32)))] [] (m_at (by decide) σ (fat σ 10 8 (x2 - (1 : Int32)))) cs_X2_54 rfl (by decide) rfl (Nat.le_of_ble_eq_true rfl) dX2_place_35 rfl ?_
    refine ww_callS (ws1 := WC q cA σ) (st1 := [.int (X2_dayOf (fat σ 11 8 (fat σ 10 8 (x2 - (1 : Int32)))))]) hx hb hml hown hts hK hN hA (hDD _) (Nat.zero_le _) (Nat.zero_le _) [.int (fat σ 11 8 (fat σ 10 8 (x2 - (1 : Int32))))] [] (m_X2_dayOf σ (fat σ 11 8 (fat σ 10 8 (x2 - (1 : Int32))))) cs_X2_58 rfl (by decide) rfl (Nat.le_of_ble_eq_true rfl) dX2_place_38 rfl ?_
    refine ww_istore (i := 4) (lv1 := [(0, .ref (q 1)), (1, .int (x1)), (2, .int (x2)), (3, .int (x3)), (4, .int (X2_dayOf (fat σ 11 8 (fat σ 10 8 (x2 - (1 : Int32)))))), (6, .int (fat σ 10 8 (x2 - (1 : Int32))))]) hx hb dX2_place_41 (by decide) [1, 2, 3, 4, 0, 5] rfl ?_
    refine ww_aload_n hx hb dX2_place_43 rfl 0 rfl ?_
    refine ww_iload hx hb dX2_place_44 5 rfl ?_
    refine ww_callV (ws1 := WC q cA σ) (st1 := [.int (X2_endOf σ (fat σ 10 8 (x2 - (1 : Int32))))]) hx hb hml hown hts hK hN hA (hDD _) (Nat.zero_le _) (Nat.zero_le _) [.int (fat σ 10 8 (x2 - (1 : Int32)))] [] (m_X2_endOf σ (fat σ 10 8 (x2 - (1 : Int32)))) cs_X2_124 rfl (by decide) 1 rfl rfl rfl (Nat.le_of_ble_eq_true rfl) dX2_place_46 rfl ?_
    refine ww_aload_n hx hb dX2_place_49 rfl 0 rfl ?_
    refine ww_get (C := RX2) (T := TX2) (N := 8) hx hb hown hts hK inA2 1 rfl rfl 0 (by decide) kw_66 rfl rfl dX2_place_50 ?_
    refine ww_get (C := RX3) (T := TX3) (N := 9) hx hb hown hts hK inA3 2 rfl rfl 1 (by decide) kw_91 rfl rfl dX2_place_53 ?_
    refine ww_iload hx hb dX2_place_56 5 rfl ?_
    refine ww_callN (ws1 := WC q cA σ) (st1 := [.int (fat σ 6 8 (fat σ 10 8 (x2 - (1 : Int32)))), .int (X2_endOf σ (fat σ 10 8 (x2 - (1 : Int32))))]) hx hb hml hown hts hK hN hA (hDD _) (Nat.zero_le _) (Nat.zero_le _) [.ref (q 6), .int (fat σ 10 8 (x2 - (1 : Int32)))] [.int (X2_endOf σ (fat σ 10 8 (x2 - (1 : Int32))))] (m_at (by decide) σ (fat σ 10 8 (x2 - (1 : Int32)))) cs_X2_54 rfl (by decide) rfl (Nat.le_of_ble_eq_true rfl) dX2_place_58 rfl ?_
    refine ww_aload_n hx hb dX2_place_61 rfl 0 rfl ?_
    refine ww_get (C := RX2) (T := TX2) (N := 8) hx hb hown hts hK inA2 1 rfl rfl 0 (by decide) kw_66 rfl rfl dX2_place_62 ?_
    refine ww_get (C := RX3) (T := TX3) (N := 9) hx hb hown hts hK inA3 2 rfl rfl 1 (by decide) kw_91 rfl rfl dX2_place_65 ?_
    refine ww_iload_n hx hb dX2_place_68 rfl 1 rfl ?_
    refine ww_callN (ws1 := WC q cA σ) (st1 := [.int (fat σ 6 8 x1), .int (fat σ 6 8 (fat σ 10 8 (x2 - (1 : Int32)))), .int (X2_endOf σ (fat σ 10 8 (x2 - (1 : Int32))))]) hx hb hml hown hts hK hN hA (hDD _) (Nat.zero_le _) (Nat.zero_le _) [.ref (q 6), .int (x1)] [.int (fat σ 6 8 (fat σ 10 8 (x2 - (1 : Int32)))), .int (X2_endOf σ (fat σ 10 8 (x2 - (1 : Int32))))] (m_at (by decide) σ x1) cs_X2_54 rfl (by decide) rfl (Nat.le_of_ble_eq_true rfl) dX2_place_69 rfl ?_
    refine ww_ne2 (tgt := 79) hx hb dX2_place_72 (by decide) (fun c_2 => ?_) (fun c_2 => ?_)
    · replace h := it_n c_2 h
      refine ww_iconst (v := 1) hx hb dX2_place_79 (by decide) ?_
      exact ww_sub (lv1 := [(0, .ref (q 1)), (1, .int (x1)), (2, .int (x2)), (3, .int (x3)), (4, .int (X2_dayOf (fat σ 11 8 (fat σ 10 8 (x2 - (1 : Int32))))))]) [0, 1, 2, 3, 4] rfl (bk80 _ _ _ _ _ _ _ h)
    · replace h := it_p c_2 h
      refine ww_iconst (v := 0) hx hb dX2_place_75 (by decide) ?_
      refine ww_goto (tgt := 80) hx hb dX2_place_76 (by decide) ?_
      exact ww_sub (lv1 := [(0, .ref (q 1)), (1, .int (x1)), (2, .int (x2)), (3, .int (x3)), (4, .int (X2_dayOf (fat σ 11 8 (fat σ 10 8 (x2 - (1 : Int32))))))]) [0, 1, 2, 3, 4] rfl (bk80 _ _ _ _ _ _ _ h)
set_option maxHeartbeats 4000000 in
set_option maxRecDepth 100000 in
theorem m_X3_hoursOf (σ : SS) (x1 : Int32) (r : Int32) (h : X3_hoursOf σ x1 = some r) : Ct l yX3_hoursOf cX3_hoursOf 4 (some .int) 1 40 D vwCl [(cA, .int)] (WC q cA σ) (WC q cA σ) [.ref (q 2), .int (x1)] (some (.int r)) := by
  refine ct_of (by decide +kernel) (Nat.le_of_ble_eq_true rfl) ?_
  intro p e s m args below meth c hx hb hr hlk hml hown hts hK hD hN hA
  have hown : s.vm.findClass RX3 = some m.cls := hown
  have hDD : ∀ τ : SS, va_D (va_A (WC q cA σ) s.heap.size) (WC q cA τ) := fun τ => hD.adr rfl
  unfold X3_hoursOf at h
  have lp4 : ∀ (n : Nat) (x1 : Int32) (x2 : Int32) (x3 : Int32), X3_hoursOf_l4 n σ x1 x2 x3 = some r → WW p l e (rmc 1 40 0 0) s m args below meth c D vwCl (va_A (WC q cA σ) s.heap.size) 4 0 0 (MQ below (qcW D vwCl (WC q cA σ) (WC q cA σ) (some (.int r)) s.heap.size) args s 0 0 (va_A (WC q cA σ) s.heap.size)) (WC q cA σ) 4 [(0, .ref (q 2)), (1, .int (x1)), (2, .int (x2)), (3, .int (x3))] [] := by
    intro n
    induction n with
    | zero => intro x1 x2 x3 h; rw [X3_hoursOf_l4] at h; cases h
    | succ n ih =>
      have bk31 : ∀ (x1 : Int32) (x2 : Int32) (x3 : Int32), X3_hoursOf_b31 (X3_hoursOf_l4 n) σ x1 x2 x3 = some r → WW p l e (rmc 1 40 0 0) s m args below meth c D vwCl (va_A (WC q cA σ) s.heap.size) 4 0 0 (MQ below (qcW D vwCl (WC q cA σ) (WC q cA σ) (some (.int r)) s.heap.size) args s 0 0 (va_A (WC q cA σ) s.heap.size)) (WC q cA σ) 31 [(0, .ref (q 2)), (1, .int (x1)), (2, .int (x2)), (3, .int (x3))] [] := by
        intro x1 x2 x3 h
        unfold X3_hoursOf_b31 at h
        refine ww_iinc (i := 3) (k := 3) (v := 1) (lv1 := [(0, .ref (q 2)), (1, .int (x1)), (2, .int (x2)), (3, .int (x3 + 1))]) hx hb dX3_hoursOf_31 rfl (by decide) (by decide) [1, 2, 3, 0] rfl ?_
        refine ww_goto (tgt := 4) hx hb dX3_hoursOf_34 (by decide) ?_
        exact ww_sub (lv1 := [(0, .ref (q 2)), (1, .int (x1)), (2, .int (x2)), (3, .int (x3 + 1))]) [0, 1, 2, 3] rfl (ih _ _ _ h)
      intro x1 x2 x3 h
      rw [X3_hoursOf_l4] at h
      refine ww_iload_n hx hb dX3_hoursOf_4 rfl 3 rfl ?_
      refine ww_aload_n hx hb dX3_hoursOf_5 rfl 0 rfl ?_
      refine ww_get (C := RX3) (T := TX3) (N := 9) hx hb hown hts hK inA3 2 rfl rfl 5 (by decide) kw_0 rfl rfl dX3_hoursOf_6 ?_
      refine ww_ge2 (tgt := 37) hx hb dX3_hoursOf_9 (by decide) (fun c_1 => ?_) (fun c_1 => ?_)
      · replace h := it_p c_1 h
        refine ww_iload_n hx hb dX3_hoursOf_37 rfl 2 rfl ?_
        obtain rfl := os1 h
        exact ww_iret hx hb hr hlk rfl dX3_hoursOf_38
      · replace h := it_n c_1 h
        refine ww_iload_n hx hb dX3_hoursOf_12 rfl 1 rfl ?_
        refine ww_iload_n hx hb dX3_hoursOf_13 rfl 3 rfl ?_
        refine ww_callN (ws1 := WC q cA σ) (st1 := [.int (X4_isIn x1 x3)]) hx hb hml hown hts hK hN hA (hDD _) (Nat.zero_le _) (Nat.zero_le _) [.int (x1), .int (x3)] [] (m_X4_isIn σ x1 x3) cs_X3_44 rfl (by decide) rfl (Nat.le_of_ble_eq_true rfl) dX3_hoursOf_14 rfl ?_
        refine ww_eq0 (tgt := 31) hx hb dX3_hoursOf_17 (by decide) (fun c_2 => ?_) (fun c_2 => ?_)
        · replace h := it_p c_2 h
          exact ww_sub (lv1 := [(0, .ref (q 2)), (1, .int (x1)), (2, .int (x2)), (3, .int (x3))]) [0, 1, 2, 3] rfl (bk31 _ _ _ h)
        · replace h := it_n c_2 h
          refine ww_iload_n hx hb dX3_hoursOf_20 rfl 2 rfl ?_
          refine ww_aload_n hx hb dX3_hoursOf_21 rfl 0 rfl ?_
          refine ww_get (C := RX3) (T := TX3) (N := 9) hx hb hown hts hK inA3 2 rfl rfl 0 (by decide) kw_2 rfl rfl dX3_hoursOf_22 ?_
          refine ww_iload_n hx hb dX3_hoursOf_25 rfl 3 rfl ?_
          refine ww_callN (ws1 := WC q cA σ) (st1 := [.int (fat σ 5 8 x3), .int (x2)]) hx hb hml hown hts hK hN hA (hDD _) (Nat.zero_le _) (Nat.zero_le _) [.ref (q 5), .int (x3)] [.int (x2)] (m_at (by decide) σ x3) cs_X3_48 rfl (by decide) rfl (Nat.le_of_ble_eq_true rfl) dX3_hoursOf_26 rfl ?_
          refine ww_iadd hx hb dX3_hoursOf_29 ?_
          refine ww_istore_n (i := 2) (lv1 := [(0, .ref (q 2)), (1, .int (x1)), (2, .int (x2 + (fat σ 5 8 x3))), (3, .int (x3))]) hx hb dX3_hoursOf_30 rfl (by decide) [1, 2, 0, 3] rfl ?_
          exact ww_sub (lv1 := [(0, .ref (q 2)), (1, .int (x1)), (2, .int (x2 + (fat σ 5 8 x3))), (3, .int (x3))]) [0, 1, 2, 3] rfl (bk31 _ _ _ h)
  refine ww_sub (lv1 := [(0, .ref (q 2)), (1, .int (x1))]) [0, 1] rfl ?_
  refine ww_iconst (v := 0) hx hb dX3_hoursOf_0 (by decide) ?_
  refine ww_istore_n (i := 2) (lv1 := [(0, .ref (q 2)), (1, .int (x1)), (2, .int ((0 : Int32)))]) hx hb dX3_hoursOf_1 rfl (by decide) [1, 2, 0] rfl ?_
  refine ww_iconst (v := 0) hx hb dX3_hoursOf_2 (by decide) ?_
  refine ww_istore_n (i := 3) (lv1 := [(0, .ref (q 2)), (1, .int (x1)), (2, .int ((0 : Int32))), (3, .int ((0 : Int32)))]) hx hb dX3_hoursOf_3 rfl (by decide) [1, 2, 3, 0] rfl ?_
  exact ww_sub (lv1 := [(0, .ref (q 2)), (1, .int (x1)), (2, .int ((0 : Int32))), (3, .int ((0 : Int32)))]) [0, 1, 2, 3] rfl (lp4 _ _ _ _ h)
set_option maxHeartbeats 4000000 in
set_option maxRecDepth 100000 in
theorem m_X2_hoursIn (σ : SS) (x1 x2 : Int32) (r : Int32) (h : X2_hoursIn σ x1 x2 = some r) : Ct l yX2_hoursIn cX2_hoursIn 5 (some .int) 1 40 D vwCl [(cA, .int)] (WC q cA σ) (WC q cA σ) [.ref (q 1), .int (x1), .int (x2)] (some (.int r)) := by
  refine ct_of (by decide +kernel) (Nat.le_of_ble_eq_true rfl) ?_
  intro p e s m args below meth c hx hb hr hlk hml hown hts hK hD hN hA
  have hown : s.vm.findClass RX2 = some m.cls := hown
  have hDD : ∀ τ : SS, va_D (va_A (WC q cA σ) s.heap.size) (WC q cA τ) := fun τ => hD.adr rfl
  unfold X2_hoursIn at h
  have lp5 : ∀ (n : Nat) (x1 : Int32) (x2 : Int32) (x3 : Int32) (x4 : Int32), X2_hoursIn_l5 n σ x1 x2 x3 x4 = some r → WW p l e (rmc 1 40 0 0) s m args below meth c D vwCl (va_A (WC q cA σ) s.heap.size) 5 0 0 (MQ below (qcW D vwCl (WC q cA σ) (WC q cA σ) (some (.int r)) s.heap.size) args s 0 0 (va_A (WC q cA σ) s.heap.size)) (WC q cA σ) 5 [(0, .ref (q 1)), (1, .int (x1)), (2, .int (x2)), (3, .int (x3)), (4, .int (x4))] [] := by
    intro n
    induction n with
    | zero => intro x1 x2 x3 x4 h; rw [X2_hoursIn_l5] at h; cases h
    | succ n ih =>
      have bk57 : ∀ (x1 : Int32) (x2 : Int32) (x3 : Int32) (x4 : Int32), X2_hoursIn_b57 (X2_hoursIn_l5 n) σ x1 x2 x3 x4 = some r → WW p l e (rmc 1 40 0 0) s m args below meth c D vwCl (va_A (WC q cA σ) s.heap.size) 5 0 0 (MQ below (qcW D vwCl (WC q cA σ) (WC q cA σ) (some (.int r)) s.heap.size) args s 0 0 (va_A (WC q cA σ) s.heap.size)) (WC q cA σ) 57 [(0, .ref (q 1)), (1, .int (x1)), (2, .int (x2)), (3, .int (x3)), (4, .int (x4))] [] := by
        intro x1 x2 x3 x4 h
        unfold X2_hoursIn_b57 at h
        refine ww_iinc (i := 4) (k := 4) (v := 1) (lv1 := [(0, .ref (q 1)), (1, .int (x1)), (2, .int (x2)), (3, .int (x3)), (4, .int (x4 + 1))]) hx hb dX2_hoursIn_57 rfl (by decide) (by decide) [1, 2, 3, 4, 0] rfl ?_
        refine ww_goto (tgt := 5) hx hb dX2_hoursIn_60 (by decide) ?_
        exact ww_sub (lv1 := [(0, .ref (q 1)), (1, .int (x1)), (2, .int (x2)), (3, .int (x3)), (4, .int (x4 + 1))]) [0, 1, 2, 3, 4] rfl (ih _ _ _ _ h)
      intro x1 x2 x3 x4 h
      rw [X2_hoursIn_l5] at h
      refine ww_iload hx hb dX2_hoursIn_5 4 rfl ?_
      refine ww_aload_n hx hb dX2_hoursIn_7 rfl 0 rfl ?_
      refine ww_get (C := RX2) (T := TX2) (N := 8) hx hb hown hts hK inA2 1 rfl rfl 0 (by decide) kw_66 rfl rfl dX2_hoursIn_8 ?_
      refine ww_get (C := RX3) (T := TX3) (N := 9) hx hb hown hts hK inA3 2 rfl rfl 5 (by decide) kw_73 rfl rfl dX2_hoursIn_11 ?_
      refine ww_ge2 (tgt := 63) hx hb dX2_hoursIn_14 (by decide) (fun c_1 => ?_) (fun c_1 => ?_)
      · replace h := it_p c_1 h
        refine ww_iload_n hx hb dX2_hoursIn_63 rfl 3 rfl ?_
        obtain rfl := os1 h
        exact ww_iret hx hb hr hlk rfl dX2_hoursIn_64
      · replace h := it_n c_1 h
        refine ww_iload_n hx hb dX2_hoursIn_17 rfl 1 rfl ?_
        refine ww_iload hx hb dX2_hoursIn_18 4 rfl ?_
        refine ww_callN (ws1 := WC q cA σ) (st1 := [.int (X4_isIn x1 x4)]) hx hb hml hown hts hK hN hA (hDD _) (Nat.zero_le _) (Nat.zero_le _) [.int (x1), .int (x4)] [] (m_X4_isIn σ x1 x4) cs_X2_80 rfl (by decide) rfl (Nat.le_of_ble_eq_true rfl) dX2_hoursIn_20 rfl ?_
        refine ww_eq0 (tgt := 57) hx hb dX2_hoursIn_23 (by decide) (fun c_2 => ?_) (fun c_2 => ?_)
        · replace h := it_p c_2 h
          exact ww_sub (lv1 := [(0, .ref (q 1)), (1, .int (x1)), (2, .int (x2)), (3, .int (x3)), (4, .int (x4))]) [0, 1, 2, 3, 4] rfl (bk57 _ _ _ _ h)
        · replace h := it_n c_2 h
          refine ww_aload_n hx hb dX2_hoursIn_26 rfl 0 rfl ?_
          refine ww_get (C := RX2) (T := TX2) (N := 8) hx hb hown hts hK inA2 1 rfl rfl 0 (by decide) kw_66 rfl rfl dX2_hoursIn_27 ?_
          refine ww_get (C := RX3) (T := TX3) (N := 9) hx hb hown hts hK inA3 2 rfl rfl 3 (by decide) kw_68 rfl rfl dX2_hoursIn_30 ?_
          refine ww_iload hx hb dX2_hoursIn_33 4 rfl ?_
          refine ww_callN (ws1 := WC q cA σ) (st1 := [.int (fat σ 8 8 x4)]) hx hb hml hown hts hK hN hA (hDD _) (Nat.zero_le _) (Nat.zero_le _) [.ref (q 8), .int (x4)] [] (m_at (by decide) σ x4) cs_X2_54 rfl (by decide) rfl (Nat.le_of_ble_eq_true rfl) dX2_hoursIn_35 rfl ?_
          refine ww_iload_n hx hb dX2_hoursIn_38 rfl 2 rfl ?_
          refine ww_ne2 (tgt := 57) hx hb dX2_hoursIn_39 (by decide) (fun c_3 => ?_) (fun c_3 => ?_)
          · replace h := it_n c_3 h
            exact ww_sub (lv1 := [(0, .ref (q 1)), (1, .int (x1)), (2, .int (x2)), (3, .int (x3)), (4, .int (x4))]) [0, 1, 2, 3, 4] rfl (bk57 _ _ _ _ h)
          · replace h := it_p c_3 h
            refine ww_iload_n hx hb dX2_hoursIn_42 rfl 3 rfl ?_
            refine ww_aload_n hx hb dX2_hoursIn_43 rfl 0 rfl ?_
            refine ww_get (C := RX2) (T := TX2) (N := 8) hx hb hown hts hK inA2 1 rfl rfl 0 (by decide) kw_66 rfl rfl dX2_hoursIn_44 ?_
            refine ww_get (C := RX3) (T := TX3) (N := 9) hx hb hown hts hK inA3 2 rfl rfl 0 (by decide) kw_67 rfl rfl dX2_hoursIn_47 ?_
            refine ww_iload hx hb dX2_hoursIn_50 4 rfl ?_
            refine ww_callN (ws1 := WC q cA σ) (st1 := [.int (fat σ 5 8 x4), .int (x3)]) hx hb hml hown hts hK hN hA (hDD _) (Nat.zero_le _) (Nat.zero_le _) [.ref (q 5), .int (x4)] [.int (x3)] (m_at (by decide) σ x4) cs_X2_54 rfl (by decide) rfl (Nat.le_of_ble_eq_true rfl) dX2_hoursIn_52 rfl ?_
            refine ww_iadd hx hb dX2_hoursIn_55 ?_
            refine ww_istore_n (i := 3) (lv1 := [(0, .ref (q 1)), (1, .int (x1)), (2, .int (x2)), (3, .int (x3 + (fat σ 5 8 x4))), (4, .int (x4))]) hx hb dX2_hoursIn_56 rfl (by decide) [1, 2, 3, 0, 4] rfl ?_
            exact ww_sub (lv1 := [(0, .ref (q 1)), (1, .int (x1)), (2, .int (x2)), (3, .int (x3 + (fat σ 5 8 x4))), (4, .int (x4))]) [0, 1, 2, 3, 4] rfl (bk57 _ _ _ _ h)
  refine ww_sub (lv1 := [(0, .ref (q 1)), (1, .int (x1)), (2, .int (x2))]) [0, 1, 2] rfl ?_
  refine ww_iconst (v := 0) hx hb dX2_hoursIn_0 (by decide) ?_
  refine ww_istore_n (i := 3) (lv1 := [(0, .ref (q 1)), (1, .int (x1)), (2, .int (x2)), (3, .int ((0 : Int32)))]) hx hb dX2_hoursIn_1 rfl (by decide) [1, 2, 3, 0] rfl ?_
  refine ww_iconst (v := 0) hx hb dX2_hoursIn_2 (by decide) ?_
  refine ww_istore (i := 4) (lv1 := [(0, .ref (q 1)), (1, .int (x1)), (2, .int (x2)), (3, .int ((0 : Int32))), (4, .int ((0 : Int32)))]) hx hb dX2_hoursIn_3 (by decide) [1, 2, 3, 4, 0] rfl ?_
  exact ww_sub (lv1 := [(0, .ref (q 1)), (1, .int (x1)), (2, .int (x2)), (3, .int ((0 : Int32))), (4, .int ((0 : Int32)))]) [0, 1, 2, 3, 4] rfl (lp5 _ _ _ _ _ h)
set_option maxHeartbeats 4000000 in
set_option maxRecDepth 100000 in
theorem m_X2_hasRoom (σ : SS) (x1 x2 x3 : Int32) (r : Int32) (h : X2_hasRoom σ x1 x2 x3 = some r) : Ct l yX2_hasRoom cX2_hasRoom 5 (some .boolean) 2 80 D vwCl [(cA, .int)] (WC q cA σ) (WC q cA σ) [.ref (q 1), .int (x1), .int (x2), .int (x3)] (some (.int r)) := by
  refine ct_of (by decide +kernel) (Nat.le_of_ble_eq_true rfl) ?_
  intro p e s m args below meth c hx hb hr hlk hml hown hts hK hD hN hA
  have hown : s.vm.findClass RX2 = some m.cls := hown
  have hDD : ∀ τ : SS, va_D (va_A (WC q cA σ) s.heap.size) (WC q cA τ) := fun τ => hD.adr rfl
  unfold X2_hasRoom at h
  refine ww_sub (lv1 := [(0, .ref (q 1)), (1, .int (x1)), (2, .int (x2)), (3, .int (x3))]) [0, 1, 2, 3] rfl ?_
  refine ww_aload_n hx hb dX2_hasRoom_0 rfl 0 rfl ?_
  refine ww_iload_n hx hb dX2_hasRoom_1 rfl 2 rfl ?_
  refine ww_callV (ws1 := WC q cA σ) (st1 := [.int (X2_endOf σ x2)]) hx hb hml hown hts hK hN hA (hDD _) (Nat.zero_le _) (Nat.zero_le _) [.int (x2)] [] (m_X2_endOf σ x2) cs_X2_124 rfl (by decide) 1 rfl rfl rfl (Nat.le_of_ble_eq_true rfl) dX2_hasRoom_2 rfl ?_
  refine ww_bipush (v := 24) hx hb dX2_hasRoom_5 (by decide) ?_
  refine ww_aload_n hx hb dX2_hasRoom_7 rfl 0 rfl ?_
  refine ww_get (C := RX2) (T := TX2) (N := 8) hx hb hown hts hK inA2 1 rfl rfl 2 (by decide) kw_47 rfl rfl dX2_hasRoom_8 ?_
  refine ww_iload_n hx hb dX2_hasRoom_11 rfl 2 rfl ?_
  refine ww_callN (ws1 := WC q cA σ) (st1 := [.int (fat σ 11 8 x2), .int ((24 : Int32)), .int (X2_endOf σ x2)]) hx hb hml hown hts hK hN hA (hDD _) (Nat.zero_le _) (Nat.zero_le _) [.ref (q 11), .int (x2)] [.int ((24 : Int32)), .int (X2_endOf σ x2)] (m_at (by decide) σ x2) cs_X2_54 rfl (by decide) rfl (Nat.le_of_ble_eq_true rfl) dX2_hasRoom_12 rfl ?_
  refine ww_callS (ws1 := WC q cA σ) (st1 := [.int (X2_dayOf (fat σ 11 8 x2)), .int ((24 : Int32)), .int (X2_endOf σ x2)]) hx hb hml hown hts hK hN hA (hDD _) (Nat.zero_le _) (Nat.zero_le _) [.int (fat σ 11 8 x2)] [.int ((24 : Int32)), .int (X2_endOf σ x2)] (m_X2_dayOf σ (fat σ 11 8 x2)) cs_X2_58 rfl (by decide) rfl (Nat.le_of_ble_eq_true rfl) dX2_hasRoom_15 rfl ?_
  refine ww_imul hx hb dX2_hasRoom_18 ?_
  refine ww_isub hx hb dX2_hasRoom_19 ?_
  refine ww_istore (i := 4) (lv1 := [(0, .ref (q 1)), (1, .int (x1)), (3, .int (x3)), (4, .int ((X2_endOf σ x2) - ((24 : Int32) * (X2_dayOf (fat σ 11 8 x2)))))]) hx hb dX2_hasRoom_20 (by decide) [1, 2, 4, 0] rfl ?_
  refine ww_aload_n hx hb dX2_hasRoom_22 rfl 0 rfl ?_
  refine ww_get (C := RX2) (T := TX2) (N := 8) hx hb hown hts hK inA2 1 rfl rfl 0 (by decide) kw_66 rfl rfl dX2_hasRoom_23 ?_
  refine ww_iload_n hx hb dX2_hasRoom_26 rfl 1 rfl ?_
  obtain ⟨r_1, e_1, h⟩ := ob h
  refine ww_callV (ws1 := WC q cA σ) (st1 := [.int (r_1)]) hx hb hml hown hts hK hN hA (hDD _) (Nat.zero_le _) (Nat.zero_le _) [.int (x1)] [] (m_X3_hoursOf _ _ _ e_1) cs_X2_127 rfl (by decide) 2 rfl rfl rfl (Nat.le_of_ble_eq_true rfl) dX2_hasRoom_27 rfl ?_
  refine ww_bipush (v := 24) hx hb dX2_hasRoom_30 (by decide) ?_
  refine ww_iload hx hb dX2_hasRoom_32 3 rfl ?_
  refine ww_isub hx hb dX2_hasRoom_34 ?_
  refine ww_iload_n hx hb dX2_hasRoom_35 rfl 2 rfl ?_
  refine ww_bipush (v := 16) hx hb dX2_hasRoom_36 (by decide) ?_
  refine ww_imul hx hb dX2_hasRoom_38 ?_
  refine ww_iadd hx hb dX2_hasRoom_39 ?_
  refine ww_gt2 (tgt := 94) hx hb dX2_hasRoom_40 (by decide) (fun c_2 => ?_) (fun c_2 => ?_)
  · replace h := it_p c_2 h
    refine ww_iconst (v := 0) hx hb dX2_hasRoom_94 (by decide) ?_
    obtain rfl := os1 h
    exact ww_zret hx hb hr hlk (by decide) rfl dX2_hasRoom_95
  · replace h := it_n c_2 h
    refine ww_aload_n hx hb dX2_hasRoom_43 rfl 0 rfl ?_
    refine ww_iload_n hx hb dX2_hasRoom_44 rfl 1 rfl ?_
    refine ww_iconst (v := 1) hx hb dX2_hasRoom_45 (by decide) ?_
    obtain ⟨r_3, e_3, h⟩ := ob h
    refine ww_callV (ws1 := WC q cA σ) (st1 := [.int (r_3)]) hx hb hml hown hts hK hN hA (hDD _) (Nat.zero_le _) (Nat.zero_le _) [.int (x1), .int ((1 : Int32))] [] (m_X2_hoursIn _ _ _ _ e_3) cs_X2_130 rfl (by decide) 1 rfl rfl rfl (Nat.le_of_ble_eq_true rfl) dX2_hasRoom_46 rfl ?_
    refine ww_iconst (v := 0) hx hb dX2_hasRoom_49 (by decide) ?_
    refine ww_bipush (v := 18) hx hb dX2_hasRoom_50 (by decide) ?_
    refine ww_iload hx hb dX2_hasRoom_52 3 rfl ?_
    refine ww_isub hx hb dX2_hasRoom_54 ?_
    refine ww_max hx hb hml hown hts (Nat.zero_le _) (Nat.zero_le _) kw_69 kw_70 kw_71 kw_72 ⟨Nat.le_of_ble_eq_true rfl, Nat.le_of_ble_eq_true rfl⟩ dX2_hasRoom_55 ?_
    refine ww_iload_n hx hb dX2_hasRoom_58 rfl 2 rfl ?_
    refine ww_bipush (v := 10) hx hb dX2_hasRoom_59 (by decide) ?_
    refine ww_imul hx hb dX2_hasRoom_61 ?_
    refine ww_iadd hx hb dX2_hasRoom_62 ?_
    refine ww_gt2 (tgt := 94) hx hb dX2_hasRoom_63 (by decide) (fun c_4 => ?_) (fun c_4 => ?_)
    · replace h := it_p c_4 h
      refine ww_iconst (v := 0) hx hb dX2_hasRoom_94 (by decide) ?_
      obtain rfl := os1 h
      exact ww_zret hx hb hr hlk (by decide) rfl dX2_hasRoom_95
    · replace h := it_n c_4 h
      refine ww_aload_n hx hb dX2_hasRoom_66 rfl 0 rfl ?_
      refine ww_iload_n hx hb dX2_hasRoom_67 rfl 1 rfl ?_
      refine ww_iconst (v := 2) hx hb dX2_hasRoom_68 (by decide) ?_
      obtain ⟨r_5, e_5, h⟩ := ob h
      refine ww_callV (ws1 := WC q cA σ) (st1 := [.int (r_5)]) hx hb hml hown hts hK hN hA (hDD _) (Nat.zero_le _) (Nat.zero_le _) [.int (x1), .int ((2 : Int32))] [] (m_X2_hoursIn _ _ _ _ e_5) cs_X2_130 rfl (by decide) 1 rfl rfl rfl (Nat.le_of_ble_eq_true rfl) dX2_hasRoom_69 rfl ?_
      refine ww_bipush (v := 24) hx hb dX2_hasRoom_72 (by decide) ?_
      refine ww_bipush (v := 18) hx hb dX2_hasRoom_74 (by decide) ?_
      refine ww_iload hx hb dX2_hasRoom_76 3 rfl ?_
      refine ww_max hx hb hml hown hts (Nat.zero_le _) (Nat.zero_le _) kw_69 kw_70 kw_71 kw_72 ⟨Nat.le_of_ble_eq_true rfl, Nat.le_of_ble_eq_true rfl⟩ dX2_hasRoom_78 ?_
      refine ww_isub hx hb dX2_hasRoom_81 ?_
      refine ww_iload_n hx hb dX2_hasRoom_82 rfl 2 rfl ?_
      refine ww_bipush (v := 6) hx hb dX2_hasRoom_83 (by decide) ?_
      refine ww_imul hx hb dX2_hasRoom_85 ?_
      refine ww_iadd hx hb dX2_hasRoom_86 ?_
      refine ww_gt2 (tgt := 94) hx hb dX2_hasRoom_87 (by decide) (fun c_6 => ?_) (fun c_6 => ?_)
      · replace h := it_p c_6 h
        refine ww_iconst (v := 0) hx hb dX2_hasRoom_94 (by decide) ?_
        obtain rfl := os1 h
        exact ww_zret hx hb hr hlk (by decide) rfl dX2_hasRoom_95
      · replace h := it_n c_6 h
        refine ww_iconst (v := 1) hx hb dX2_hasRoom_90 (by decide) ?_
        refine ww_goto (tgt := 95) hx hb dX2_hasRoom_91 (by decide) ?_
        obtain rfl := os1 h
        exact ww_zret hx hb hr hlk (by decide) rfl dX2_hasRoom_95
set_option maxHeartbeats 4000000 in
set_option maxRecDepth 100000 in
theorem m_X2_hasRoomForChildren (σ : SS) (x1 x2 x3 x4 : Int32) (r : Int32) (h : X2_hasRoomForChildren σ x1 x2 x3 x4 = some r) : Ct l yX2_hasRoomForChildren cX2_hasRoomForChildren 7 (some .boolean) 2 80 D vwCl [(cA, .int)] (WC q cA σ) (WC q cA σ) [.ref (q 1), .int (x1), .int (x2), .int (x3), .int (x4)] (some (.int r)) := by
  refine ct_of (by decide +kernel) (Nat.le_of_ble_eq_true rfl) ?_
  intro p e s m args below meth c hx hb hr hlk hml hown hts hK hD hN hA
  have hown : s.vm.findClass RX2 = some m.cls := hown
  have hDD : ∀ τ : SS, va_D (va_A (WC q cA σ) s.heap.size) (WC q cA τ) := fun τ => hD.adr rfl
  unfold X2_hasRoomForChildren at h
  have lp16 : ∀ (n : Nat) (x1 : Int32) (x2 : Int32) (x4 : Int32) (x5 : Int32) (x6 : Int32), X2_hasRoomForChildren_l16 n σ x1 x2 x4 x5 x6 = some r → WW p l e (rmc 2 80 0 0) s m args below meth c D vwCl (va_A (WC q cA σ) s.heap.size) 7 0 0 (MQ below (qcW D vwCl (WC q cA σ) (WC q cA σ) (some (.int r)) s.heap.size) args s 0 0 (va_A (WC q cA σ) s.heap.size)) (WC q cA σ) 16 [(0, .ref (q 1)), (1, .int (x1)), (2, .int (x2)), (4, .int (x4)), (5, .int (x5)), (6, .int (x6))] [] := by
    intro n
    induction n with
    | zero => intro x1 x2 x4 x5 x6 h; rw [X2_hasRoomForChildren_l16] at h; cases h
    | succ n ih =>
      have bk71 : ∀ (x1 : Int32) (x2 : Int32) (x4 : Int32) (x5 : Int32) (x6 : Int32), X2_hasRoomForChildren_b71 (X2_hasRoomForChildren_l16 n) σ x1 x2 x4 x5 x6 = some r → WW p l e (rmc 2 80 0 0) s m args below meth c D vwCl (va_A (WC q cA σ) s.heap.size) 7 0 0 (MQ below (qcW D vwCl (WC q cA σ) (WC q cA σ) (some (.int r)) s.heap.size) args s 0 0 (va_A (WC q cA σ) s.heap.size)) (WC q cA σ) 71 [(0, .ref (q 1)), (1, .int (x1)), (2, .int (x2)), (4, .int (x4)), (5, .int (x5)), (6, .int (x6))] [] := by
        intro x1 x2 x4 x5 x6 h
        unfold X2_hasRoomForChildren_b71 at h
        refine ww_iinc (i := 6) (k := 5) (v := 1) (lv1 := [(0, .ref (q 1)), (1, .int (x1)), (2, .int (x2)), (4, .int (x4)), (5, .int (x5)), (6, .int (x6 + 1))]) hx hb dX2_hasRoomForChildren_71 rfl (by decide) (by decide) [1, 2, 3, 4, 5, 0] rfl ?_
        refine ww_goto (tgt := 16) hx hb dX2_hasRoomForChildren_74 (by decide) ?_
        exact ww_sub (lv1 := [(0, .ref (q 1)), (1, .int (x1)), (2, .int (x2)), (4, .int (x4)), (5, .int (x5)), (6, .int (x6 + 1))]) [0, 1, 2, 3, 4, 5] rfl (ih _ _ _ _ _ h)
      intro x1 x2 x4 x5 x6 h
      rw [X2_hasRoomForChildren_l16] at h
      refine ww_iload hx hb dX2_hasRoomForChildren_16 5 rfl ?_
      refine ww_bipush (v := 6) hx hb dX2_hasRoomForChildren_18 (by decide) ?_
      refine ww_ge2 (tgt := 77) hx hb dX2_hasRoomForChildren_20 (by decide) (fun c_1 => ?_) (fun c_1 => ?_)
      · replace h := it_p c_1 h
        refine ww_iconst (v := 1) hx hb dX2_hasRoomForChildren_77 (by decide) ?_
        obtain rfl := os1 h
        exact ww_zret hx hb hr hlk (by decide) rfl dX2_hasRoomForChildren_78
      · replace h := it_n c_1 h
        refine ww_aload_n hx hb dX2_hasRoomForChildren_23 rfl 0 rfl ?_
        refine ww_get (C := RX2) (T := TX2) (N := 8) hx hb hown hts hK inA2 1 rfl rfl 0 (by decide) kw_66 rfl rfl dX2_hasRoomForChildren_24 ?_
        refine ww_get (C := RX3) (T := TX3) (N := 9) hx hb hown hts hK inA3 2 rfl rfl 8 (by decide) kw_79 rfl rfl dX2_hasRoomForChildren_27 ?_
        refine ww_iload hx hb dX2_hasRoomForChildren_30 5 rfl ?_
        refine ww_callN (ws1 := WC q cA σ) (st1 := [.int (X4_isIn (σ 2 8) x6)]) hx hb hml hown hts hK hN hA (hDD _) (Nat.zero_le _) (Nat.zero_le _) [.int (σ 2 8), .int (x6)] [] (m_X4_isIn σ (σ 2 8) x6) cs_X2_80 rfl (by decide) rfl (Nat.le_of_ble_eq_true rfl) dX2_hasRoomForChildren_32 rfl ?_
        refine ww_eq0 (tgt := 71) hx hb dX2_hasRoomForChildren_35 (by decide) (fun c_2 => ?_) (fun c_2 => ?_)
        · replace h := it_p c_2 h
          exact ww_sub (lv1 := [(0, .ref (q 1)), (1, .int (x1)), (2, .int (x2)), (4, .int (x4)), (5, .int (x5)), (6, .int (x6))]) [0, 1, 2, 3, 4, 5] rfl (bk71 _ _ _ _ _ h)
        · replace h := it_n c_2 h
          refine ww_aload_n hx hb dX2_hasRoomForChildren_38 rfl 0 rfl ?_
          refine ww_iload hx hb dX2_hasRoomForChildren_39 5 rfl ?_
          refine ww_iload_n hx hb dX2_hasRoomForChildren_41 rfl 1 rfl ?_
          obtain ⟨r_3, e_3, h⟩ := ob h
          refine ww_callV (ws1 := WC q cA σ) (st1 := [.int (r_3)]) hx hb hml hown hts hK hN hA (hDD _) (Nat.zero_le _) (Nat.zero_le _) [.int (x6), .int (x1)] [] (m_X2_hoursFor _ _ _ _ e_3) cs_X2_139 rfl (by decide) 1 rfl rfl rfl (Nat.le_of_ble_eq_true rfl) dX2_hasRoomForChildren_42 rfl ?_
          refine ww_bipush (v := 6) hx hb dX2_hasRoomForChildren_45 (by decide) ?_
          refine ww_iload hx hb dX2_hasRoomForChildren_47 3 rfl ?_
          refine ww_iconst (v := 1) hx hb dX2_hasRoomForChildren_49 (by decide) ?_
          refine ww_iadd hx hb dX2_hasRoomForChildren_50 ?_
          refine ww_imul hx hb dX2_hasRoomForChildren_51 ?_
          refine ww_aload_n hx hb dX2_hasRoomForChildren_52 rfl 0 rfl ?_
          refine ww_iload hx hb dX2_hasRoomForChildren_53 5 rfl ?_
          refine ww_aload_n hx hb dX2_hasRoomForChildren_55 rfl 0 rfl ?_
          refine ww_iload hx hb dX2_hasRoomForChildren_56 4 rfl ?_
          refine ww_iload_n hx hb dX2_hasRoomForChildren_58 rfl 2 rfl ?_
          obtain ⟨r_4, e_4, h⟩ := ob h
          refine ww_callV (ws1 := WC q cA σ) (st1 := [.int (r_4), .int (x6), .ref (q 1), .int ((6 : Int32) * (x4 + (1 : Int32))), .int (r_3)]) hx hb hml hown hts hK hN hA (hDD _) (Nat.zero_le _) (Nat.zero_le _) [.int (x5), .int (x2)] [.int (x6), .ref (q 1), .int ((6 : Int32) * (x4 + (1 : Int32))), .int (r_3)] (m_X2_placedOn _ _ _ _ e_4) cs_X2_142 rfl (by decide) 1 rfl rfl rfl (Nat.le_of_ble_eq_true rfl) dX2_hasRoomForChildren_59 rfl ?_
          obtain ⟨r_5, e_5, h⟩ := ob h
          refine ww_callV (ws1 := WC q cA σ) (st1 := [.int (r_5), .int ((6 : Int32) * (x4 + (1 : Int32))), .int (r_3)]) hx hb hml hown hts hK hN hA (hDD _) (Nat.zero_le _) (Nat.zero_le _) [.int (x6), .int (r_4)] [.int ((6 : Int32) * (x4 + (1 : Int32))), .int (r_3)] (m_X2_hoursFor _ _ _ _ e_5) cs_X2_139 rfl (by decide) 1 rfl rfl rfl (Nat.le_of_ble_eq_true rfl) dX2_hasRoomForChildren_62 rfl ?_
          refine ww_isub hx hb dX2_hasRoomForChildren_65 ?_
          refine ww_le2 (tgt := 71) hx hb dX2_hasRoomForChildren_66 (by decide) (fun c_6 => ?_) (fun c_6 => ?_)
          · replace h := it_p c_6 h
            exact ww_sub (lv1 := [(0, .ref (q 1)), (1, .int (x1)), (2, .int (x2)), (4, .int (x4)), (5, .int (x5)), (6, .int (x6))]) [0, 1, 2, 3, 4, 5] rfl (bk71 _ _ _ _ _ h)
          · replace h := it_n c_6 h
            refine ww_iconst (v := 0) hx hb dX2_hasRoomForChildren_69 (by decide) ?_
            obtain rfl := os1 h
            exact ww_zret hx hb hr hlk (by decide) rfl dX2_hasRoomForChildren_70
  refine ww_sub (lv1 := [(0, .ref (q 1)), (1, .int (x1)), (2, .int (x2)), (3, .int (x3)), (4, .int (x4))]) [0, 1, 2, 3, 4] rfl ?_
  refine ww_aload_n hx hb dX2_hasRoomForChildren_0 rfl 0 rfl ?_
  refine ww_get (C := RX2) (T := TX2) (N := 8) hx hb hown hts hK inA2 1 rfl rfl 2 (by decide) kw_47 rfl rfl dX2_hasRoomForChildren_1 ?_
  refine ww_iload_n hx hb dX2_hasRoomForChildren_4 rfl 3 rfl ?_
  refine ww_callN (ws1 := WC q cA σ) (st1 := [.int (fat σ 11 8 x3)]) hx hb hml hown hts hK hN hA (hDD _) (Nat.zero_le _) (Nat.zero_le _) [.ref (q 11), .int (x3)] [] (m_at (by decide) σ x3) cs_X2_54 rfl (by decide) rfl (Nat.le_of_ble_eq_true rfl) dX2_hasRoomForChildren_5 rfl ?_
  refine ww_callS (ws1 := WC q cA σ) (st1 := [.int (X2_dayOf (fat σ 11 8 x3))]) hx hb hml hown hts hK hN hA (hDD _) (Nat.zero_le _) (Nat.zero_le _) [.int (fat σ 11 8 x3)] [] (m_X2_dayOf σ (fat σ 11 8 x3)) cs_X2_58 rfl (by decide) rfl (Nat.le_of_ble_eq_true rfl) dX2_hasRoomForChildren_8 rfl ?_
  refine ww_istore (i := 5) (lv1 := [(0, .ref (q 1)), (1, .int (x1)), (2, .int (x2)), (4, .int (x4)), (5, .int (X2_dayOf (fat σ 11 8 x3)))]) hx hb dX2_hasRoomForChildren_11 (by decide) [1, 2, 3, 5, 0] rfl ?_
  refine ww_iconst (v := 0) hx hb dX2_hasRoomForChildren_13 (by decide) ?_
  refine ww_istore (i := 6) (lv1 := [(0, .ref (q 1)), (1, .int (x1)), (2, .int (x2)), (4, .int (x4)), (5, .int (X2_dayOf (fat σ 11 8 x3))), (6, .int ((0 : Int32)))]) hx hb dX2_hasRoomForChildren_14 (by decide) [1, 2, 3, 4, 5, 0] rfl ?_
  exact ww_sub (lv1 := [(0, .ref (q 1)), (1, .int (x1)), (2, .int (x2)), (4, .int (x4)), (5, .int (X2_dayOf (fat σ 11 8 x3))), (6, .int ((0 : Int32)))]) [0, 1, 2, 3, 4, 5] rfl (lp16 _ _ _ _ _ _ h)
set_option maxHeartbeats 4000000 in
set_option maxRecDepth 100000 in
theorem m_X2_canBeBetter (σ : SS) (x1 x2 : Int32) (r : Int32) (h : X2_canBeBetter σ x1 x2 = some r) : Ct l yX2_canBeBetter cX2_canBeBetter 6 (some .boolean) 3 120 D vwCl [(cA, .int)] (WC q cA σ) (WC q cA σ) [.ref (q 1), .int (x1), .int (x2)] (some (.int r)) := by
  refine ct_of (by decide +kernel) (Nat.le_of_ble_eq_true rfl) ?_
  intro p e s m args below meth c hx hb hr hlk hml hown hts hK hD hN hA
  have hown : s.vm.findClass RX2 = some m.cls := hown
  have hDD : ∀ τ : SS, va_D (va_A (WC q cA σ) s.heap.size) (WC q cA τ) := fun τ => hD.adr rfl
  unfold X2_canBeBetter at h
  refine ww_sub (lv1 := [(0, .ref (q 1)), (1, .int (x1)), (2, .int (x2))]) [0, 1, 2] rfl ?_
  refine ww_aload_n hx hb dX2_canBeBetter_0 rfl 0 rfl ?_
  refine ww_get (C := RX2) (T := TX2) (N := 8) hx hb hown hts hK inA2 1 rfl rfl 5 (by decide) kw_59 rfl rfl dX2_canBeBetter_1 ?_
  refine ww_iconst (v := 1) hx hb dX2_canBeBetter_4 (by decide) ?_
  refine ww_isub hx hb dX2_canBeBetter_5 ?_
  refine ww_aload_n hx hb dX2_canBeBetter_6 rfl 0 rfl ?_
  refine ww_iload_n hx hb dX2_canBeBetter_7 rfl 1 rfl ?_
  refine ww_callV (ws1 := WC q cA σ) (st1 := [.int (X2_daysUpTo σ x1), .int ((σ 1 5) - (1 : Int32))]) hx hb hml hown hts hK hN hA (hDD _) (Nat.zero_le _) (Nat.zero_le _) [.int (x1)] [.int ((σ 1 5) - (1 : Int32))] (m_X2_daysUpTo σ x1) cs_X2_107 rfl (by decide) 1 rfl rfl rfl (Nat.le_of_ble_eq_true rfl) dX2_canBeBetter_8 rfl ?_
  refine ww_isub hx hb dX2_canBeBetter_11 ?_
  refine ww_istore_n (i := 3) (lv1 := [(0, .ref (q 1)), (1, .int (x1)), (2, .int (x2)), (3, .int (((σ 1 5) - (1 : Int32)) - (X2_daysUpTo σ x1)))]) hx hb dX2_canBeBetter_12 rfl (by decide) [1, 2, 3, 0] rfl ?_
  refine ww_aload_n hx hb dX2_canBeBetter_13 rfl 0 rfl ?_
  refine ww_get (C := RX2) (T := TX2) (N := 8) hx hb hown hts hK inA2 1 rfl rfl 1 (by decide) kw_48 rfl rfl dX2_canBeBetter_14 ?_
  refine ww_iload_n hx hb dX2_canBeBetter_17 rfl 1 rfl ?_
  refine ww_iconst (v := 1) hx hb dX2_canBeBetter_18 (by decide) ?_
  refine ww_isub hx hb dX2_canBeBetter_19 ?_
  refine ww_callN (ws1 := WC q cA σ) (st1 := [.int (fat σ 10 8 (x1 - (1 : Int32)))]) hx hb hml hown hts hK hN hA (hDD _) (Nat.zero_le _) (Nat.zero_le _) [.ref (q 10), .int (x1 - (1 : Int32))] [] (m_at (by decide) σ (x1 - (1 : Int32))) cs_X2_54 rfl (by decide) rfl (Nat.le_of_ble_eq_true rfl) dX2_canBeBetter_20 rfl ?_
  refine ww_istore (i := 4) (lv1 := [(0, .ref (q 1)), (2, .int (x2)), (3, .int (((σ 1 5) - (1 : Int32)) - (X2_daysUpTo σ x1))), (4, .int (fat σ 10 8 (x1 - (1 : Int32))))]) hx hb dX2_canBeBetter_23 (by decide) [1, 3, 4, 0] rfl ?_
  refine ww_aload_n hx hb dX2_canBeBetter_25 rfl 0 rfl ?_
  refine ww_get (C := RX2) (T := TX2) (N := 8) hx hb hown hts hK inA2 1 rfl rfl 0 (by decide) kw_66 rfl rfl dX2_canBeBetter_26 ?_
  refine ww_callV (ws1 := WC q cA σ) (st1 := [.int (X3_everyScene σ)]) hx hb hml hown hts hK hN hA (hDD _) (Nat.zero_le _) (Nat.zero_le _) [] [] (m_X3_everyScene σ) cs_X2_90 rfl (by decide) 2 rfl rfl rfl (Nat.le_of_ble_eq_true rfl) dX2_canBeBetter_29 rfl ?_
  refine ww_iload_n hx hb dX2_canBeBetter_32 rfl 1 rfl ?_
  refine ww_iconst (v := -1) hx hb dX2_canBeBetter_33 (by decide) ?_
  refine ww_ixor hx hb dX2_canBeBetter_34 ?_
  refine ww_iand hx hb dX2_canBeBetter_35 ?_
  refine ww_istore (i := 5) (lv1 := [(0, .ref (q 1)), (2, .int (x2)), (3, .int (((σ 1 5) - (1 : Int32)) - (X2_daysUpTo σ x1))), (4, .int (fat σ 10 8 (x1 - (1 : Int32)))), (5, .int ((X3_everyScene σ) &&& (x2 ^^^ (-1 : Int32))))]) hx hb dX2_canBeBetter_36 (by decide) [1, 2, 3, 4, 0] rfl ?_
  refine ww_iload_n hx hb dX2_canBeBetter_38 rfl 2 rfl ?_
  refine ww_lt0 (tgt := 71) hx hb dX2_canBeBetter_39 (by decide) (fun c_1 => ?_) (fun c_1 => ?_)
  · replace h := it_p c_1 h
    refine ww_iconst (v := 0) hx hb dX2_canBeBetter_71 (by decide) ?_
    obtain rfl := os1 h
    exact ww_zret hx hb hr hlk (by decide) rfl dX2_canBeBetter_72
  · replace h := it_n c_1 h
    refine ww_aload_n hx hb dX2_canBeBetter_42 rfl 0 rfl ?_
    refine ww_iload hx hb dX2_canBeBetter_43 4 rfl ?_
    refine ww_iload hx hb dX2_canBeBetter_45 3 rfl ?_
    refine ww_iload_n hx hb dX2_canBeBetter_47 rfl 2 rfl ?_
    obtain ⟨r_2, e_2, h⟩ := ob h
    refine ww_callV (ws1 := WC q cA σ) (st1 := [.int (r_2)]) hx hb hml hown hts hK hN hA (hDD _) (Nat.zero_le _) (Nat.zero_le _) [.int ((X3_everyScene σ) &&& (x2 ^^^ (-1 : Int32))), .int (fat σ 10 8 (x1 - (1 : Int32))), .int (((σ 1 5) - (1 : Int32)) - (X2_daysUpTo σ x1))] [] (m_X2_hasRoom _ _ _ _ _ e_2) cs_X2_116 rfl (by decide) 1 rfl rfl rfl (Nat.le_of_ble_eq_true rfl) dX2_canBeBetter_48 rfl ?_
    refine ww_eq0 (tgt := 71) hx hb dX2_canBeBetter_51 (by decide) (fun c_3 => ?_) (fun c_3 => ?_)
    · replace h := it_p c_3 h
      refine ww_iconst (v := 0) hx hb dX2_canBeBetter_71 (by decide) ?_
      obtain rfl := os1 h
      exact ww_zret hx hb hr hlk (by decide) rfl dX2_canBeBetter_72
    · replace h := it_n c_3 h
      refine ww_aload_n hx hb dX2_canBeBetter_54 rfl 0 rfl ?_
      refine ww_iload hx hb dX2_canBeBetter_55 4 rfl ?_
      refine ww_iload_n hx hb dX2_canBeBetter_57 rfl 1 rfl ?_
      refine ww_iload hx hb dX2_canBeBetter_58 3 rfl ?_
      refine ww_iload_n hx hb dX2_canBeBetter_60 rfl 2 rfl ?_
      obtain ⟨r_4, e_4, h⟩ := ob h
      refine ww_callV (ws1 := WC q cA σ) (st1 := [.int (r_4)]) hx hb hml hown hts hK hN hA (hDD _) (Nat.zero_le _) (Nat.zero_le _) [.int ((X3_everyScene σ) &&& (x2 ^^^ (-1 : Int32))), .int (x2), .int (fat σ 10 8 (x1 - (1 : Int32))), .int (((σ 1 5) - (1 : Int32)) - (X2_daysUpTo σ x1))] [] (m_X2_hasRoomForChildren _ _ _ _ _ _ e_4) cs_X2_120 rfl (by decide) 1 rfl rfl rfl (Nat.le_of_ble_eq_true rfl) dX2_canBeBetter_61 rfl ?_
      refine ww_eq0 (tgt := 71) hx hb dX2_canBeBetter_64 (by decide) (fun c_5 => ?_) (fun c_5 => ?_)
      · replace h := it_p c_5 h
        refine ww_iconst (v := 0) hx hb dX2_canBeBetter_71 (by decide) ?_
        obtain rfl := os1 h
        exact ww_zret hx hb hr hlk (by decide) rfl dX2_canBeBetter_72
      · replace h := it_n c_5 h
        refine ww_iconst (v := 1) hx hb dX2_canBeBetter_67 (by decide) ?_
        refine ww_goto (tgt := 72) hx hb dX2_canBeBetter_68 (by decide) ?_
        obtain rfl := os1 h
        exact ww_zret hx hb hr hlk (by decide) rfl dX2_canBeBetter_72
set_option maxHeartbeats 4000000 in
set_option maxRecDepth 100000 in
theorem m_X2_tryOrders : ∀ (d : Nat) (σ : SS) (x1 x2 : Int32) (σ1 : SS) (h : X2_tryOrders d σ x1 x2 = some σ1), Ct l yX2_tryOrders cX2_tryOrders 5 none (4 + d) (160 + 40 * d) D vwCl [(cA, .int)] (WC q cA σ) (WC q cA σ1) [.ref (q 1), .int (x1), .int (x2)] none := by
  intro d
  induction d with
  | zero => intro σ x1 x2 σ1 h; rw [X2_tryOrders] at h; cases h
  | succ d hrec =>
    intro σ x1 x2 σ1 h
    refine ct_of (by decide +kernel) (Nat.le_of_ble_eq_true rfl) ?_
    intro p e s m args below meth c hx hb hr hlk hml hown hts hK hD hN hA
    have hown : s.vm.findClass RX2 = some m.cls := hown
    have hDD : ∀ τ : SS, va_D (va_A (WC q cA σ) s.heap.size) (WC q cA τ) := fun τ => hD.adr rfl
    rw [X2_tryOrders] at h
    have lp25 : ∀ (n : Nat) (τ : SS) (x1 : Int32) (x2 : Int32) (x3 : Int32), X2_tryOrders_l25 (X2_tryOrders d) n τ x1 x2 x3 = some σ1 → WW p l e (rmc (4 + (d + 1)) (160 + 40 * (d + 1)) 0 0) s m args below meth c D vwCl (va_A (WC q cA σ) s.heap.size) 5 0 0 (MQ below (qcW D vwCl (WC q cA σ) (WC q cA σ1) none s.heap.size) args s 0 0 (va_A (WC q cA σ) s.heap.size)) (WC q cA τ) 25 [(0, .ref (q 1)), (1, .int (x1)), (2, .int (x2)), (3, .int (x3))] [] := by
      intro n
      induction n with
      | zero => intro τ x1 x2 x3 h; rw [X2_tryOrders_l25] at h; cases h
      | succ n ih =>
        have bk84 : ∀ (τ : SS) (x1 : Int32) (x2 : Int32) (x3 : Int32), X2_tryOrders_b84 (X2_tryOrders d) (X2_tryOrders_l25 (X2_tryOrders d) n) τ x1 x2 x3 = some σ1 → WW p l e (rmc (4 + (d + 1)) (160 + 40 * (d + 1)) 0 0) s m args below meth c D vwCl (va_A (WC q cA σ) s.heap.size) 5 0 0 (MQ below (qcW D vwCl (WC q cA σ) (WC q cA σ1) none s.heap.size) args s 0 0 (va_A (WC q cA σ) s.heap.size)) (WC q cA τ) 84 [(0, .ref (q 1)), (1, .int (x1)), (2, .int (x2)), (3, .int (x3))] [] := by
          intro τ x1 x2 x3 h
          unfold X2_tryOrders_b84 at h
          refine ww_iinc (i := 3) (k := 3) (v := 1) (lv1 := [(0, .ref (q 1)), (1, .int (x1)), (2, .int (x2)), (3, .int (x3 + 1))]) hx hb dX2_tryOrders_84 rfl (by decide) (by decide) [1, 2, 3, 0] rfl ?_
          refine ww_goto (tgt := 25) hx hb dX2_tryOrders_87 (by decide) ?_
          exact ww_sub (lv1 := [(0, .ref (q 1)), (1, .int (x1)), (2, .int (x2)), (3, .int (x3 + 1))]) [0, 1, 2, 3] rfl (ih _ _ _ _ h)
        intro τ x1 x2 x3 h
        rw [X2_tryOrders_l25] at h
        refine ww_iload_n hx hb dX2_tryOrders_25 rfl 3 rfl ?_
        refine ww_aload_n hx hb dX2_tryOrders_26 rfl 0 rfl ?_
        refine ww_get (C := RX2) (T := TX2) (N := 8) hx hb hown hts hK inA2 1 rfl rfl 0 (by decide) kw_66 rfl rfl dX2_tryOrders_27 ?_
        refine ww_get (C := RX3) (T := TX3) (N := 9) hx hb hown hts hK inA3 2 rfl rfl 5 (by decide) kw_73 rfl rfl dX2_tryOrders_30 ?_
        refine ww_ge2 (tgt := 90) hx hb dX2_tryOrders_33 (by decide) (fun c_3 => ?_) (fun c_3 => ?_)
        · replace h := it_p c_3 h
          obtain rfl := os1 h
          exact ww_vret hx hb hr hlk dX2_tryOrders_90
        · replace h := it_n c_3 h
          refine ww_aload_n hx hb dX2_tryOrders_36 rfl 0 rfl ?_
          refine ww_get (C := RX2) (T := TX2) (N := 8) hx hb hown hts hK inA2 1 rfl rfl 0 (by decide) kw_66 rfl rfl dX2_tryOrders_37 ?_
          refine ww_iload_n hx hb dX2_tryOrders_40 rfl 3 rfl ?_
          refine ww_iload_n hx hb dX2_tryOrders_41 rfl 2 rfl ?_
          refine ww_callV (ws1 := WC q cA τ) (st1 := [.int (X3_canFollow τ x3 x2)]) hx hb hml hown hts hK hN hA (hDD _) (Nat.zero_le _) (Nat.zero_le _) [.int (x3), .int (x2)] [] (m_X3_canFollow τ x3 x2) cs_X2_97 rfl ⟨by show _ ≤ _ + (_ + 1); omega, by show _ ≤ _ + 40 * (_ + 1); omega⟩ 2 rfl rfl rfl (Nat.le_of_ble_eq_true rfl) dX2_tryOrders_42 rfl ?_
          refine ww_eq0 (tgt := 84) hx hb dX2_tryOrders_45 (by decide) (fun c_4 => ?_) (fun c_4 => ?_)
          · replace h := it_p c_4 h
            exact ww_sub (lv1 := [(0, .ref (q 1)), (1, .int (x1)), (2, .int (x2)), (3, .int (x3))]) [0, 1, 2, 3] rfl (bk84 _ _ _ _ h)
          · replace h := it_n c_4 h
            refine ww_aload_n hx hb dX2_tryOrders_48 rfl 0 rfl ?_
            refine ww_iload_n hx hb dX2_tryOrders_49 rfl 3 rfl ?_
            refine ww_iload_n hx hb dX2_tryOrders_50 rfl 1 rfl ?_
            refine ww_iload_n hx hb dX2_tryOrders_51 rfl 2 rfl ?_
            obtain ⟨σ_5, e_5, h⟩ := ob h
            refine ww_callV (ws1 := WC q cA σ_5) (st1 := []) hx hb hml hown hts hK hN hA (hDD _) (Nat.zero_le _) (Nat.zero_le _) [.int (x3), .int (x1), .int (x2)] [] (m_X2_place _ _ _ _ _ e_5) cs_X2_100 rfl ⟨by show _ ≤ _ + (_ + 1); omega, by show _ ≤ _ + 40 * (_ + 1); omega⟩ 1 rfl rfl rfl (Nat.le_of_ble_eq_true rfl) dX2_tryOrders_52 rfl ?_
            refine ww_iload_n hx hb dX2_tryOrders_55 rfl 2 rfl ?_
            refine ww_iload_n hx hb dX2_tryOrders_56 rfl 3 rfl ?_
            refine ww_iconst (v := 1) hx hb dX2_tryOrders_57 (by decide) ?_
            refine ww_callN (ws1 := WC q cA σ_5) (st1 := [.int (X4_with x2 x3 (1 : Int32))]) hx hb hml hown hts hK hN hA (hDD _) (Nat.zero_le _) (Nat.zero_le _) [.int (x2), .int (x3), .int ((1 : Int32))] [] (m_X4_with σ_5 x2 x3 (1 : Int32)) cs_X2_73 rfl ⟨by show _ ≤ _ + (_ + 1); omega, by show _ ≤ _ + 40 * (_ + 1); omega⟩ rfl (Nat.le_of_ble_eq_true rfl) dX2_tryOrders_58 rfl ?_
            refine ww_istore (i := 4) (lv1 := [(0, .ref (q 1)), (1, .int (x1)), (2, .int (x2)), (3, .int (x3)), (4, .int (X4_with x2 x3 (1 : Int32)))]) hx hb dX2_tryOrders_61 (by decide) [1, 2, 3, 4, 0] rfl ?_
            refine ww_aload_n hx hb dX2_tryOrders_63 rfl 0 rfl ?_
            refine ww_iload_n hx hb dX2_tryOrders_64 rfl 1 rfl ?_
            refine ww_iconst (v := 1) hx hb dX2_tryOrders_65 (by decide) ?_
            refine ww_iadd hx hb dX2_tryOrders_66 ?_
            refine ww_iload hx hb dX2_tryOrders_67 4 rfl ?_
            obtain ⟨r_6, e_6, h⟩ := ob h
            refine ww_callV (ws1 := WC q cA σ_5) (st1 := [.int (r_6)]) hx hb hml hown hts hK hN hA (hDD _) (Nat.zero_le _) (Nat.zero_le _) [.int (x1 + (1 : Int32)), .int (X4_with x2 x3 (1 : Int32))] [] (m_X2_canBeBetter _ _ _ _ e_6) cs_X2_104 rfl ⟨by show _ ≤ _ + (_ + 1); omega, by show _ ≤ _ + 40 * (_ + 1); omega⟩ 1 rfl rfl rfl (Nat.le_of_ble_eq_true rfl) dX2_tryOrders_69 rfl ?_
            refine ww_eq0 (tgt := 84) hx hb dX2_tryOrders_72 (by decide) (fun c_7 => ?_) (fun c_7 => ?_)
            · replace h := it_p c_7 h
              exact ww_sub (lv1 := [(0, .ref (q 1)), (1, .int (x1)), (2, .int (x2)), (3, .int (x3))]) [0, 1, 2, 3] rfl (bk84 _ _ _ _ h)
            · replace h := it_n c_7 h
              refine ww_aload_n hx hb dX2_tryOrders_75 rfl 0 rfl ?_
              refine ww_iload_n hx hb dX2_tryOrders_76 rfl 1 rfl ?_
              refine ww_iconst (v := 1) hx hb dX2_tryOrders_77 (by decide) ?_
              refine ww_iadd hx hb dX2_tryOrders_78 ?_
              refine ww_iload hx hb dX2_tryOrders_79 4 rfl ?_
              obtain ⟨σ_8, e_8, h⟩ := ob h
              refine ww_callS (ws1 := WC q cA σ_8) (st1 := []) hx hb hml hown hts hK hN hA (hDD _) (Nat.zero_le _) (Nat.zero_le _) [.ref (q 1), .int (x1 + (1 : Int32)), .int (X4_with x2 x3 (1 : Int32))] [] (hrec _ _ _ _ e_8) cs_X2_42 rfl ⟨by show _ ≤ _ + (_ + 1); omega, by show _ ≤ _ + 40 * (_ + 1); omega⟩ rfl (Nat.le_of_ble_eq_true rfl) dX2_tryOrders_81 rfl ?_
              exact ww_sub (lv1 := [(0, .ref (q 1)), (1, .int (x1)), (2, .int (x2)), (3, .int (x3))]) [0, 1, 2, 3] rfl (bk84 _ _ _ _ h)
    have bk17 : ∀ (τ : SS) (x1 : Int32), X2_tryOrders_b17 (X2_tryOrders d) τ x1 = some σ1 → WW p l e (rmc (4 + (d + 1)) (160 + 40 * (d + 1)) 0 0) s m args below meth c D vwCl (va_A (WC q cA σ) s.heap.size) 5 0 0 (MQ below (qcW D vwCl (WC q cA σ) (WC q cA σ1) none s.heap.size) args s 0 0 (va_A (WC q cA σ) s.heap.size)) (WC q cA τ) 17 [(0, .ref (q 1)), (1, .int (x1))] [] := by
      intro τ x1 h
      unfold X2_tryOrders_b17 at h
      refine ww_aload_n hx hb dX2_tryOrders_17 rfl 0 rfl ?_
      refine ww_iload_n hx hb dX2_tryOrders_18 rfl 1 rfl ?_
      obtain ⟨σ_9, e_9, h⟩ := ob h
      refine ww_callV (ws1 := WC q cA σ_9) (st1 := []) hx hb hml hown hts hK hN hA (hDD _) (Nat.zero_le _) (Nat.zero_le _) [.int (x1)] [] (m_X2_keep _ _ _ e_9) cs_X2_93 rfl ⟨by show _ ≤ _ + (_ + 1); omega, by show _ ≤ _ + 40 * (_ + 1); omega⟩ 1 rfl rfl rfl (Nat.le_of_ble_eq_true rfl) dX2_tryOrders_19 rfl ?_
      obtain rfl := os1 h
      exact ww_vret hx hb hr hlk dX2_tryOrders_22
    refine ww_sub (lv1 := [(0, .ref (q 1)), (1, .int (x1)), (2, .int (x2))]) [0, 1, 2] rfl ?_
    refine ww_iload_n hx hb dX2_tryOrders_0 rfl 2 rfl ?_
    refine ww_aload_n hx hb dX2_tryOrders_1 rfl 0 rfl ?_
    refine ww_get (C := RX2) (T := TX2) (N := 8) hx hb hown hts hK inA2 1 rfl rfl 0 (by decide) kw_66 rfl rfl dX2_tryOrders_2 ?_
    refine ww_callV (ws1 := WC q cA σ) (st1 := [.int (X3_everyScene σ), .int (x2)]) hx hb hml hown hts hK hN hA (hDD _) (Nat.zero_le _) (Nat.zero_le _) [] [.int (x2)] (m_X3_everyScene σ) cs_X2_90 rfl ⟨by show _ ≤ _ + (_ + 1); omega, by show _ ≤ _ + 40 * (_ + 1); omega⟩ 2 rfl rfl rfl (Nat.le_of_ble_eq_true rfl) dX2_tryOrders_5 rfl ?_
    refine ww_eq2 (tgt := 17) hx hb dX2_tryOrders_8 (by decide) (fun c_1 => ?_) (fun c_1 => ?_)
    · replace h := it_p c_1 h
      exact ww_sub (lv1 := [(0, .ref (q 1)), (1, .int (x1))]) [0, 1] rfl (bk17 _ _ h)
    · replace h := it_n c_1 h
      refine ww_iload_n hx hb dX2_tryOrders_11 rfl 1 rfl ?_
      refine ww_bipush (v := 8) hx hb dX2_tryOrders_12 (by decide) ?_
      refine ww_lt2 (tgt := 23) hx hb dX2_tryOrders_14 (by decide) (fun c_2 => ?_) (fun c_2 => ?_)
      · replace h := it_p c_2 h
        refine ww_iconst (v := 0) hx hb dX2_tryOrders_23 (by decide) ?_
        refine ww_istore_n (i := 3) (lv1 := [(0, .ref (q 1)), (1, .int (x1)), (2, .int (x2)), (3, .int ((0 : Int32)))]) hx hb dX2_tryOrders_24 rfl (by decide) [1, 2, 3, 0] rfl ?_
        exact ww_sub (lv1 := [(0, .ref (q 1)), (1, .int (x1)), (2, .int (x2)), (3, .int ((0 : Int32)))]) [0, 1, 2, 3] rfl (lp25 _ _ _ _ _ h)
      · replace h := it_n c_2 h
        exact ww_sub (lv1 := [(0, .ref (q 1)), (1, .int (x1))]) [0, 1] rfl (bk17 _ _ h)
set_option maxHeartbeats 4000000 in
set_option maxRecDepth 100000 in
theorem m_X2_makePlan (σ : SS) (σ1 : SS) (h : X2_makePlan σ = some σ1) : Ct l yX2_makePlan cX2_makePlan 1 none 21 840 D vwCl [(cA, .int)] (WC q cA σ) (WC q cA σ1) [.ref (q 1)] none := by
  refine ct_of (by decide +kernel) (Nat.le_of_ble_eq_true rfl) ?_
  intro p e s m args below meth c hx hb hr hlk hml hown hts hK hD hN hA
  have hown : s.vm.findClass RX2 = some m.cls := hown
  have hDD : ∀ τ : SS, va_D (va_A (WC q cA σ) s.heap.size) (WC q cA τ) := fun τ => hD.adr rfl
  unfold X2_makePlan at h
  refine ww_sub (lv1 := [(0, .ref (q 1))]) [0] rfl ?_
  refine ww_aload_n hx hb dX2_makePlan_0 rfl 0 rfl ?_
  refine ww_get (C := RX2) (T := TX2) (N := 8) hx hb hown hts hK inA2 1 rfl rfl 7 (by decide) kw_1 rfl rfl dX2_makePlan_1 ?_
  refine ww_ne0 (tgt := 30) hx hb dX2_makePlan_4 (by decide) (fun c_1 => ?_) (fun c_1 => ?_)
  · replace h := it_n c_1 h
    obtain rfl := os1 h
    exact ww_vret hx hb hr hlk dX2_makePlan_30
  · replace h := it_p c_1 h
    refine ww_aload_n hx hb dX2_makePlan_7 rfl 0 rfl ?_
    refine ww_bipush (v := 9) hx hb dX2_makePlan_8 (by decide) ?_
    obtain ⟨σ_2, e_2, h⟩ := lt_e h
    refine ww_put (C := RX2) (T := TX2) (N := 8) (ty := .int) (ws1 := WC q cA (σ_2)) hx hb hown hts hK inA2 tyX2 tyX2_ok nmX2 (hDD _) 1 rfl rfl 5 (by decide) kw_59 rfl rfl rfl rfl rfl (Nat.le_of_ble_eq_true rfl) dX2_makePlan_10 (e_2 ▸ rfl) ?_
    refine ww_aload_n hx hb dX2_makePlan_13 rfl 0 rfl ?_
    refine ww_iconst (v := 0) hx hb dX2_makePlan_14 (by decide) ?_
    refine ww_aload_n hx hb dX2_makePlan_15 rfl 0 rfl ?_
    refine ww_get (C := RX2) (T := TX2) (N := 8) hx hb hown hts hK inA2 1 rfl rfl 0 (by decide) kw_66 rfl rfl dX2_makePlan_16 ?_
    refine ww_get (C := RX3) (T := TX3) (N := 9) hx hb hown hts hK inA3 2 rfl rfl 6 (by decide) kw_140 rfl rfl dX2_makePlan_19 ?_
    obtain ⟨σ_3, e_3, h⟩ := ob h
    refine ww_callS (ws1 := WC q cA σ_3) (st1 := []) hx hb hml hown hts hK hN hA (hDD _) (Nat.zero_le _) (Nat.zero_le _) [.ref (q 1), .int ((0 : Int32)), .int (σ_2 2 6)] [] (m_X2_tryOrders 16 _ _ _ _ e_3) cs_X2_42 rfl (by decide) rfl (Nat.le_of_ble_eq_true rfl) dX2_makePlan_22 rfl ?_
    refine ww_aload_n hx hb dX2_makePlan_25 rfl 0 rfl ?_
    refine ww_iconst (v := 1) hx hb dX2_makePlan_26 (by decide) ?_
    obtain ⟨σ_4, e_4, h⟩ := lt_e h
    refine ww_put (C := RX2) (T := TX2) (N := 8) (ty := .boolean) (ws1 := WC q cA (σ_4)) hx hb hown hts hK inA2 tyX2 tyX2_ok nmX2 (hDD _) 1 rfl rfl 7 (by decide) kw_1 rfl rfl rfl (isZ_narrow (by decide)) (isZ_fits (by decide)) (Nat.le_of_ble_eq_true rfl) dX2_makePlan_27 (e_4 ▸ rfl) ?_
    obtain rfl := os1 h
    exact ww_vret hx hb hr hlk dX2_makePlan_30
set_option maxHeartbeats 4000000 in
set_option maxRecDepth 100000 in
theorem m_J6_bitCount (σ : SS) (x0 : Int32) : Ct l yJ6_bitCount_0f7a4 cJ6_bitCount_0f7a4 1 (some .int) 0 0 D vwCl [(cA, .int)] (WC q cA σ) (WC q cA σ) [.int (x0)] (some (.int (J6_bitCount x0))) := by
  refine ct_of (by decide +kernel) (Nat.le_of_ble_eq_true rfl) ?_
  intro p e s m args below meth c hx hb hr hlk hml hown hts hK hD hN hA
  have hown : s.vm.findClass RJ6 = some m.cls := hown
  have hDD : ∀ τ : SS, va_D (va_A (WC q cA σ) s.heap.size) (WC q cA τ) := fun τ => hD.adr rfl
  obtain ⟨r, h⟩ : ∃ r, J6_bitCount x0 = r := ⟨_, rfl⟩
  rw [h]
  unfold J6_bitCount at h
  have bk48 : ∀ (x0 : Int32), J6_bitCount_b48  x0 = r → WW p l e (rmc 0 0 0 0) s m args below meth c D vwCl (va_A (WC q cA σ) s.heap.size) 1 0 0 (MQ below (qcW D vwCl (WC q cA σ) (WC q cA σ) (some (.int r)) s.heap.size) args s 0 0 (va_A (WC q cA σ) s.heap.size)) (WC q cA σ) 48 [(0, .int (x0))] [] := by
    intro x0 h
    unfold J6_bitCount_b48 at h
    refine ww_iload_n hx hb dJ6_bitCount_0f7a4_48 rfl 0 rfl ?_
    refine ww_bipush (v := 63) hx hb dJ6_bitCount_0f7a4_49 (by decide) ?_
    refine ww_iand hx hb dJ6_bitCount_0f7a4_51 ?_
    obtain rfl := h
    exact ww_iret hx hb hr hlk rfl dJ6_bitCount_0f7a4_52
  have bk41 : ∀ (x0 : Int32), J6_bitCount_b41  x0 = r → WW p l e (rmc 0 0 0 0) s m args below meth c D vwCl (va_A (WC q cA σ) s.heap.size) 1 0 0 (MQ below (qcW D vwCl (WC q cA σ) (WC q cA σ) (some (.int r)) s.heap.size) args s 0 0 (va_A (WC q cA σ) s.heap.size)) (WC q cA σ) 41 [(0, .int (x0))] [] := by
    intro x0 h
    unfold J6_bitCount_b41 at h
    refine ww_iload_n hx hb dJ6_bitCount_0f7a4_41 rfl 0 rfl ?_
    refine ww_iload_n hx hb dJ6_bitCount_0f7a4_42 rfl 0 rfl ?_
    refine ww_bipush (v := 16) hx hb dJ6_bitCount_0f7a4_43 (by decide) ?_
    refine ww_iushr hx hb dJ6_bitCount_0f7a4_45 ?_
    refine ww_iadd hx hb dJ6_bitCount_0f7a4_46 ?_
    refine ww_istore_n (i := 0) (lv1 := [(0, .int (x0 + (ius x0 (16 : Int32))))]) hx hb dJ6_bitCount_0f7a4_47 rfl (by decide) [0] rfl ?_
    exact ww_sub (lv1 := [(0, .int (x0 + (ius x0 (16 : Int32))))]) [0] rfl (bk48 _ h)
  have bk34 : ∀ (x0 : Int32), J6_bitCount_b34  x0 = r → WW p l e (rmc 0 0 0 0) s m args below meth c D vwCl (va_A (WC q cA σ) s.heap.size) 1 0 0 (MQ below (qcW D vwCl (WC q cA σ) (WC q cA σ) (some (.int r)) s.heap.size) args s 0 0 (va_A (WC q cA σ) s.heap.size)) (WC q cA σ) 34 [(0, .int (x0))] [] := by
    intro x0 h
    unfold J6_bitCount_b34 at h
    refine ww_iload_n hx hb dJ6_bitCount_0f7a4_34 rfl 0 rfl ?_
    refine ww_iload_n hx hb dJ6_bitCount_0f7a4_35 rfl 0 rfl ?_
    refine ww_bipush (v := 8) hx hb dJ6_bitCount_0f7a4_36 (by decide) ?_
    refine ww_iushr hx hb dJ6_bitCount_0f7a4_38 ?_
    refine ww_iadd hx hb dJ6_bitCount_0f7a4_39 ?_
    refine ww_istore_n (i := 0) (lv1 := [(0, .int (x0 + (ius x0 (8 : Int32))))]) hx hb dJ6_bitCount_0f7a4_40 rfl (by decide) [0] rfl ?_
    exact ww_sub (lv1 := [(0, .int (x0 + (ius x0 (8 : Int32))))]) [0] rfl (bk41 _ h)
  have bk24 : ∀ (x0 : Int32), J6_bitCount_b24  x0 = r → WW p l e (rmc 0 0 0 0) s m args below meth c D vwCl (va_A (WC q cA σ) s.heap.size) 1 0 0 (MQ below (qcW D vwCl (WC q cA σ) (WC q cA σ) (some (.int r)) s.heap.size) args s 0 0 (va_A (WC q cA σ) s.heap.size)) (WC q cA σ) 24 [(0, .int (x0))] [] := by
    intro x0 h
    unfold J6_bitCount_b24 at h
    refine ww_iload_n hx hb dJ6_bitCount_0f7a4_24 rfl 0 rfl ?_
    refine ww_iload_n hx hb dJ6_bitCount_0f7a4_25 rfl 0 rfl ?_
    refine ww_iconst (v := 4) hx hb dJ6_bitCount_0f7a4_26 (by decide) ?_
    refine ww_iushr hx hb dJ6_bitCount_0f7a4_27 ?_
    refine ww_iadd hx hb dJ6_bitCount_0f7a4_28 ?_
    refine ww_ldcw hx hb hown hts kw_143 dJ6_bitCount_0f7a4_29 ?_
    refine ww_iand hx hb dJ6_bitCount_0f7a4_32 ?_
    refine ww_istore_n (i := 0) (lv1 := [(0, .int ((x0 + (ius x0 (4 : Int32))) &&& (252645135 : Int32)))]) hx hb dJ6_bitCount_0f7a4_33 rfl (by decide) [0] rfl ?_
    exact ww_sub (lv1 := [(0, .int ((x0 + (ius x0 (4 : Int32))) &&& (252645135 : Int32)))]) [0] rfl (bk34 _ h)
  have bk10 : ∀ (x0 : Int32), J6_bitCount_b10  x0 = r → WW p l e (rmc 0 0 0 0) s m args below meth c D vwCl (va_A (WC q cA σ) s.heap.size) 1 0 0 (MQ below (qcW D vwCl (WC q cA σ) (WC q cA σ) (some (.int r)) s.heap.size) args s 0 0 (va_A (WC q cA σ) s.heap.size)) (WC q cA σ) 10 [(0, .int (x0))] [] := by
    intro x0 h
    unfold J6_bitCount_b10 at h
    refine ww_iload_n hx hb dJ6_bitCount_0f7a4_10 rfl 0 rfl ?_
    refine ww_ldcw hx hb hown hts kw_142 dJ6_bitCount_0f7a4_11 ?_
    refine ww_iand hx hb dJ6_bitCount_0f7a4_14 ?_
    refine ww_iload_n hx hb dJ6_bitCount_0f7a4_15 rfl 0 rfl ?_
    refine ww_iconst (v := 2) hx hb dJ6_bitCount_0f7a4_16 (by decide) ?_
    refine ww_iushr hx hb dJ6_bitCount_0f7a4_17 ?_
    refine ww_ldcw hx hb hown hts kw_142 dJ6_bitCount_0f7a4_18 ?_
    refine ww_iand hx hb dJ6_bitCount_0f7a4_21 ?_
    refine ww_iadd hx hb dJ6_bitCount_0f7a4_22 ?_
    refine ww_istore_n (i := 0) (lv1 := [(0, .int ((x0 &&& (858993459 : Int32)) + ((ius x0 (2 : Int32)) &&& (858993459 : Int32))))]) hx hb dJ6_bitCount_0f7a4_23 rfl (by decide) [0] rfl ?_
    exact ww_sub (lv1 := [(0, .int ((x0 &&& (858993459 : Int32)) + ((ius x0 (2 : Int32)) &&& (858993459 : Int32))))]) [0] rfl (bk24 _ h)
  refine ww_sub (lv1 := [(0, .int (x0))]) [0] rfl ?_
  refine ww_iload_n hx hb dJ6_bitCount_0f7a4_0 rfl 0 rfl ?_
  refine ww_iload_n hx hb dJ6_bitCount_0f7a4_1 rfl 0 rfl ?_
  refine ww_iconst (v := 1) hx hb dJ6_bitCount_0f7a4_2 (by decide) ?_
  refine ww_iushr hx hb dJ6_bitCount_0f7a4_3 ?_
  refine ww_ldcw hx hb hown hts kw_141 dJ6_bitCount_0f7a4_4 ?_
  refine ww_iand hx hb dJ6_bitCount_0f7a4_7 ?_
  refine ww_isub hx hb dJ6_bitCount_0f7a4_8 ?_
  refine ww_istore_n (i := 0) (lv1 := [(0, .int (x0 - ((ius x0 (1 : Int32)) &&& (1431655765 : Int32))))]) hx hb dJ6_bitCount_0f7a4_9 rfl (by decide) [0] rfl ?_
  exact ww_sub (lv1 := [(0, .int (x0 - ((ius x0 (1 : Int32)) &&& (1431655765 : Int32))))]) [0] rfl (bk10 _ h)
set_option maxHeartbeats 4000000 in
set_option maxRecDepth 100000 in
theorem m_X3_countOpen (σ : SS) : Ct l yX3_countOpen cX3_countOpen 1 (some .int) 1 40 D vwCl [(cA, .int)] (WC q cA σ) (WC q cA σ) [.ref (q 2)] (some (.int (X3_countOpen σ))) := by
  refine ct_of (by decide +kernel) (Nat.le_of_ble_eq_true rfl) ?_
  intro p e s m args below meth c hx hb hr hlk hml hown hts hK hD hN hA
  have hown : s.vm.findClass RX3 = some m.cls := hown
  have hDD : ∀ τ : SS, va_D (va_A (WC q cA σ) s.heap.size) (WC q cA τ) := fun τ => hD.adr rfl
  obtain ⟨r, h⟩ : ∃ r, X3_countOpen σ = r := ⟨_, rfl⟩
  rw [h]
  unfold X3_countOpen at h
  refine ww_sub (lv1 := [(0, .ref (q 2))]) [0] rfl ?_
  refine ww_aload_n hx hb dX3_countOpen_0 rfl 0 rfl ?_
  refine ww_get (C := RX3) (T := TX3) (N := 9) hx hb hown hts hK inA3 2 rfl rfl 5 (by decide) kw_0 rfl rfl dX3_countOpen_1 ?_
  refine ww_aload_n hx hb dX3_countOpen_4 rfl 0 rfl ?_
  refine ww_get (C := RX3) (T := TX3) (N := 9) hx hb hown hts hK inA3 2 rfl rfl 6 (by decide) kw_144 rfl rfl dX3_countOpen_5 ?_
  refine ww_callS (ws1 := WC q cA σ) (st1 := [.int (J6_bitCount (σ 2 6)), .int (σ 2 5)]) hx hb hml hown hts hK hN hA (hDD _) (Nat.zero_le _) (Nat.zero_le _) [.int (σ 2 6)] [.int (σ 2 5)] (m_J6_bitCount σ (σ 2 6)) cs_X3_38 rfl (by decide) rfl (Nat.le_of_ble_eq_true rfl) dX3_countOpen_8 rfl ?_
  refine ww_isub hx hb dX3_countOpen_11 ?_
  obtain rfl := h
  exact ww_iret hx hb hr hlk rfl dX3_countOpen_12
set_option maxHeartbeats 4000000 in
set_option maxRecDepth 100000 in
theorem m_X3_isOutdoors (σ : SS) (x1 : Int32) : Ct l yX3_isOutdoors cX3_isOutdoors 2 (some .boolean) 1 40 D vwCl [(cA, .int)] (WC q cA σ) (WC q cA σ) [.ref (q 2), .int (x1)] (some (.int (X3_isOutdoors σ x1))) := by
  refine ct_of (by decide +kernel) (Nat.le_of_ble_eq_true rfl) ?_
  intro p e s m args below meth c hx hb hr hlk hml hown hts hK hD hN hA
  have hown : s.vm.findClass RX3 = some m.cls := hown
  have hDD : ∀ τ : SS, va_D (va_A (WC q cA σ) s.heap.size) (WC q cA τ) := fun τ => hD.adr rfl
  obtain ⟨r, h⟩ : ∃ r, X3_isOutdoors σ x1 = r := ⟨_, rfl⟩
  rw [h]
  unfold X3_isOutdoors at h
  refine ww_sub (lv1 := [(0, .ref (q 2)), (1, .int (x1))]) [0, 1] rfl ?_
  refine ww_aload_n hx hb dX3_isOutdoors_0 rfl 0 rfl ?_
  refine ww_get (C := RX3) (T := TX3) (N := 9) hx hb hown hts hK inA3 2 rfl rfl 7 (by decide) kw_149 rfl rfl dX3_isOutdoors_1 ?_
  refine ww_aload_n hx hb dX3_isOutdoors_4 rfl 0 rfl ?_
  refine ww_get (C := RX3) (T := TX3) (N := 9) hx hb hown hts hK inA3 2 rfl rfl 1 (by decide) kw_6 rfl rfl dX3_isOutdoors_5 ?_
  refine ww_iload_n hx hb dX3_isOutdoors_8 rfl 1 rfl ?_
  refine ww_callN (ws1 := WC q cA σ) (st1 := [.int (fat σ 6 8 x1), .int (σ 2 7)]) hx hb hml hown hts hK hN hA (hDD _) (Nat.zero_le _) (Nat.zero_le _) [.ref (q 6), .int (x1)] [.int (σ 2 7)] (m_at (by decide) σ x1) cs_X3_48 rfl (by decide) rfl (Nat.le_of_ble_eq_true rfl) dX3_isOutdoors_9 rfl ?_
  refine ww_callN (ws1 := WC q cA σ) (st1 := [.int (X4_isIn (σ 2 7) (fat σ 6 8 x1))]) hx hb hml hown hts hK hN hA (hDD _) (Nat.zero_le _) (Nat.zero_le _) [.int (σ 2 7), .int (fat σ 6 8 x1)] [] (m_X4_isIn σ (σ 2 7) (fat σ 6 8 x1)) cs_X3_44 rfl (by decide) rfl (Nat.le_of_ble_eq_true rfl) dX3_isOutdoors_12 rfl ?_
  obtain rfl := h
  exact ww_zret hx hb hr hlk (z_X4_isIn (σ 2 7) (fat σ 6 8 x1)) rfl dX3_isOutdoors_15
set_option maxHeartbeats 4000000 in
set_option maxRecDepth 100000 in
theorem m_X2_shootable (σ : SS) (x1 : Int32) (r : Int32) (h : X2_shootable σ x1 = some r) : Ct l yX2_shootable cX2_shootable 5 (some .int) 2 80 D vwCl [(cA, .int)] (WC q cA σ) (WC q cA σ) [.ref (q 1), .int (x1)] (some (.int r)) := by
  refine ct_of (by decide +kernel) (Nat.le_of_ble_eq_true rfl) ?_
  intro p e s m args below meth c hx hb hr hlk hml hown hts hK hD hN hA
  have hown : s.vm.findClass RX2 = some m.cls := hown
  have hDD : ∀ τ : SS, va_D (va_A (WC q cA σ) s.heap.size) (WC q cA τ) := fun τ => hD.adr rfl
  unfold X2_shootable at h
  have lp4 : ∀ (n : Nat) (x1 : Int32) (x2 : Int32) (x3 : Int32), X2_shootable_l4 n σ x1 x2 x3 = some r → WW p l e (rmc 2 80 0 0) s m args below meth c D vwCl (va_A (WC q cA σ) s.heap.size) 5 0 0 (MQ below (qcW D vwCl (WC q cA σ) (WC q cA σ) (some (.int r)) s.heap.size) args s 0 0 (va_A (WC q cA σ) s.heap.size)) (WC q cA σ) 4 [(0, .ref (q 1)), (1, .int (x1)), (2, .int (x2)), (3, .int (x3))] [] := by
    intro n
    induction n with
    | zero => intro x1 x2 x3 h; rw [X2_shootable_l4] at h; cases h
    | succ n ih =>
      have bk89 : ∀ (x1 : Int32) (x2 : Int32) (x3 : Int32), X2_shootable_b89 (X2_shootable_l4 n) σ x1 x2 x3 = some r → WW p l e (rmc 2 80 0 0) s m args below meth c D vwCl (va_A (WC q cA σ) s.heap.size) 5 0 0 (MQ below (qcW D vwCl (WC q cA σ) (WC q cA σ) (some (.int r)) s.heap.size) args s 0 0 (va_A (WC q cA σ) s.heap.size)) (WC q cA σ) 89 [(0, .ref (q 1)), (1, .int (x1)), (2, .int (x2)), (3, .int (x3))] [] := by
        intro x1 x2 x3 h
        unfold X2_shootable_b89 at h
        refine ww_iinc (i := 3) (k := 3) (v := 1) (lv1 := [(0, .ref (q 1)), (1, .int (x1)), (2, .int (x2)), (3, .int (x3 + 1))]) hx hb dX2_shootable_89 rfl (by decide) (by decide) [1, 2, 3, 0] rfl ?_
        refine ww_goto (tgt := 4) hx hb dX2_shootable_92 (by decide) ?_
        exact ww_sub (lv1 := [(0, .ref (q 1)), (1, .int (x1)), (2, .int (x2)), (3, .int (x3 + 1))]) [0, 1, 2, 3] rfl (ih _ _ _ h)
      have bk60 : ∀ (x1 : Int32) (x2 : Int32) (x3 : Int32) (x4 : Int32), X2_shootable_b60 (X2_shootable_l4 n) σ x1 x2 x3 x4 = some r → WW p l e (rmc 2 80 0 0) s m args below meth c D vwCl (va_A (WC q cA σ) s.heap.size) 5 0 0 (MQ below (qcW D vwCl (WC q cA σ) (WC q cA σ) (some (.int r)) s.heap.size) args s 0 0 (va_A (WC q cA σ) s.heap.size)) (WC q cA σ) 60 [(0, .ref (q 1)), (1, .int (x1)), (2, .int (x2)), (3, .int (x3)), (4, .int (x4))] [] := by
        intro x1 x2 x3 x4 h
        unfold X2_shootable_b60 at h
        refine ww_aload_n hx hb dX2_shootable_60 rfl 0 rfl ?_
        refine ww_get (C := RX2) (T := TX2) (N := 8) hx hb hown hts hK inA2 1 rfl rfl 0 (by decide) kw_66 rfl rfl dX2_shootable_61 ?_
        refine ww_iload hx hb dX2_shootable_64 4 rfl ?_
        refine ww_aload_n hx hb dX2_shootable_66 rfl 0 rfl ?_
        refine ww_get (C := RX2) (T := TX2) (N := 8) hx hb hown hts hK inA2 1 rfl rfl 0 (by decide) kw_66 rfl rfl dX2_shootable_67 ?_
        refine ww_get (C := RX3) (T := TX3) (N := 9) hx hb hown hts hK inA3 2 rfl rfl 6 (by decide) kw_140 rfl rfl dX2_shootable_70 ?_
        refine ww_iload_n hx hb dX2_shootable_73 rfl 2 rfl ?_
        refine ww_ior hx hb dX2_shootable_74 ?_
        refine ww_callV (ws1 := WC q cA σ) (st1 := [.int (X3_isFree σ x4 ((σ 2 6) ||| x2))]) hx hb hml hown hts hK hN hA (hDD _) (Nat.zero_le _) (Nat.zero_le _) [.int (x4), .int ((σ 2 6) ||| x2)] [] (m_X3_isFree σ x4 ((σ 2 6) ||| x2)) cs_X2_69 rfl (by decide) 2 rfl rfl rfl (Nat.le_of_ble_eq_true rfl) dX2_shootable_75 rfl ?_
        refine ww_eq0 (tgt := 89) hx hb dX2_shootable_78 (by decide) (fun c_5 => ?_) (fun c_5 => ?_)
        · replace h := it_p c_5 h
          exact ww_sub (lv1 := [(0, .ref (q 1)), (1, .int (x1)), (2, .int (x2)), (3, .int (x3))]) [0, 1, 2, 3] rfl (bk89 _ _ _ h)
        · replace h := it_n c_5 h
          refine ww_iload_n hx hb dX2_shootable_81 rfl 2 rfl ?_
          refine ww_iload hx hb dX2_shootable_82 4 rfl ?_
          refine ww_iconst (v := 1) hx hb dX2_shootable_84 (by decide) ?_
          refine ww_callN (ws1 := WC q cA σ) (st1 := [.int (X4_with x2 x4 (1 : Int32))]) hx hb hml hown hts hK hN hA (hDD _) (Nat.zero_le _) (Nat.zero_le _) [.int (x2), .int (x4), .int ((1 : Int32))] [] (m_X4_with σ x2 x4 (1 : Int32)) cs_X2_73 rfl (by decide) rfl (Nat.le_of_ble_eq_true rfl) dX2_shootable_85 rfl ?_
          refine ww_istore_n (i := 2) (lv1 := [(0, .ref (q 1)), (1, .int (x1)), (2, .int (X4_with x2 x4 (1 : Int32))), (3, .int (x3))]) hx hb dX2_shootable_88 rfl (by decide) [1, 2, 0, 3] rfl ?_
          exact ww_sub (lv1 := [(0, .ref (q 1)), (1, .int (x1)), (2, .int (X4_with x2 x4 (1 : Int32))), (3, .int (x3))]) [0, 1, 2, 3] rfl (bk89 _ _ _ h)
      intro x1 x2 x3 h
      rw [X2_shootable_l4] at h
      refine ww_iload_n hx hb dX2_shootable_4 rfl 3 rfl ?_
      refine ww_aload_n hx hb dX2_shootable_5 rfl 0 rfl ?_
      refine ww_get (C := RX2) (T := TX2) (N := 8) hx hb hown hts hK inA2 1 rfl rfl 0 (by decide) kw_66 rfl rfl dX2_shootable_6 ?_
      refine ww_callV (ws1 := WC q cA σ) (st1 := [.int (X3_countOpen σ), .int (x3)]) hx hb hml hown hts hK hN hA (hDD _) (Nat.zero_le _) (Nat.zero_le _) [] [.int (x3)] (m_X3_countOpen σ) cs_X2_50 rfl (by decide) 2 rfl rfl rfl (Nat.le_of_ble_eq_true rfl) dX2_shootable_9 rfl ?_
      refine ww_ge2 (tgt := 95) hx hb dX2_shootable_12 (by decide) (fun c_1 => ?_) (fun c_1 => ?_)
      · replace h := it_p c_1 h
        refine ww_iload_n hx hb dX2_shootable_95 rfl 2 rfl ?_
        obtain rfl := os1 h
        exact ww_iret hx hb hr hlk rfl dX2_shootable_96
      · replace h := it_n c_1 h
        refine ww_aload_n hx hb dX2_shootable_15 rfl 0 rfl ?_
        refine ww_get (C := RX2) (T := TX2) (N := 8) hx hb hown hts hK inA2 1 rfl rfl 3 (by decide) kw_60 rfl rfl dX2_shootable_16 ?_
        refine ww_iload_n hx hb dX2_shootable_19 rfl 3 rfl ?_
        refine ww_callN (ws1 := WC q cA σ) (st1 := [.int (fat σ 12 8 x3)]) hx hb hml hown hts hK hN hA (hDD _) (Nat.zero_le _) (Nat.zero_le _) [.ref (q 12), .int (x3)] [] (m_at (by decide) σ x3) cs_X2_54 rfl (by decide) rfl (Nat.le_of_ble_eq_true rfl) dX2_shootable_20 rfl ?_
        refine ww_istore (i := 4) (lv1 := [(0, .ref (q 1)), (1, .int (x1)), (2, .int (x2)), (3, .int (x3)), (4, .int (fat σ 12 8 x3))]) hx hb dX2_shootable_23 (by decide) [1, 2, 3, 4, 0] rfl ?_
        refine ww_aload_n hx hb dX2_shootable_25 rfl 0 rfl ?_
        refine ww_get (C := RX2) (T := TX2) (N := 8) hx hb hown hts hK inA2 1 rfl rfl 4 (by decide) kw_61 rfl rfl dX2_shootable_26 ?_
        refine ww_iload hx hb dX2_shootable_29 4 rfl ?_
        refine ww_callN (ws1 := WC q cA σ) (st1 := [.int (fat σ 13 8 (fat σ 12 8 x3))]) hx hb hml hown hts hK hN hA (hDD _) (Nat.zero_le _) (Nat.zero_le _) [.ref (q 13), .int (fat σ 12 8 x3)] [] (m_at (by decide) σ (fat σ 12 8 x3)) cs_X2_54 rfl (by decide) rfl (Nat.le_of_ble_eq_true rfl) dX2_shootable_31 rfl ?_
        refine ww_callS (ws1 := WC q cA σ) (st1 := [.int (X2_dayOf (fat σ 13 8 (fat σ 12 8 x3)))]) hx hb hml hown hts hK hN hA (hDD _) (Nat.zero_le _) (Nat.zero_le _) [.int (fat σ 13 8 (fat σ 12 8 x3))] [] (m_X2_dayOf σ (fat σ 13 8 (fat σ 12 8 x3))) cs_X2_58 rfl (by decide) rfl (Nat.le_of_ble_eq_true rfl) dX2_shootable_34 rfl ?_
        refine ww_aload_n hx hb dX2_shootable_37 rfl 0 rfl ?_
        refine ww_get (C := RX2) (T := TX2) (N := 8) hx hb hown hts hK inA2 1 rfl rfl 6 (by decide) kw_54 rfl rfl dX2_shootable_38 ?_
        refine ww_ne2 (tgt := 89) hx hb dX2_shootable_41 (by decide) (fun c_2 => ?_) (fun c_2 => ?_)
        · replace h := it_n c_2 h
          exact ww_sub (lv1 := [(0, .ref (q 1)), (1, .int (x1)), (2, .int (x2)), (3, .int (x3))]) [0, 1, 2, 3] rfl (bk89 _ _ _ h)
        · replace h := it_p c_2 h
          refine ww_iload_n hx hb dX2_shootable_44 rfl 1 rfl ?_
          refine ww_eq0 (tgt := 60) hx hb dX2_shootable_45 (by decide) (fun c_3 => ?_) (fun c_3 => ?_)
          · replace h := it_p c_3 h
            exact ww_sub (lv1 := [(0, .ref (q 1)), (1, .int (x1)), (2, .int (x2)), (3, .int (x3)), (4, .int (fat σ 12 8 x3))]) [0, 1, 2, 3, 4] rfl (bk60 _ _ _ _ h)
          · replace h := it_n c_3 h
            refine ww_aload_n hx hb dX2_shootable_48 rfl 0 rfl ?_
            refine ww_get (C := RX2) (T := TX2) (N := 8) hx hb hown hts hK inA2 1 rfl rfl 0 (by decide) kw_66 rfl rfl dX2_shootable_49 ?_
            refine ww_iload hx hb dX2_shootable_52 4 rfl ?_
            refine ww_callV (ws1 := WC q cA σ) (st1 := [.int (X3_isOutdoors σ (fat σ 12 8 x3))]) hx hb hml hown hts hK hN hA (hDD _) (Nat.zero_le _) (Nat.zero_le _) [.int (fat σ 12 8 x3)] [] (m_X3_isOutdoors σ (fat σ 12 8 x3)) cs_X2_65 rfl (by decide) 2 rfl rfl rfl (Nat.le_of_ble_eq_true rfl) dX2_shootable_54 rfl ?_
            refine ww_ne0 (tgt := 89) hx hb dX2_shootable_57 (by decide) (fun c_4 => ?_) (fun c_4 => ?_)
            · replace h := it_n c_4 h
              exact ww_sub (lv1 := [(0, .ref (q 1)), (1, .int (x1)), (2, .int (x2)), (3, .int (x3))]) [0, 1, 2, 3] rfl (bk89 _ _ _ h)
            · replace h := it_p c_4 h
              exact ww_sub (lv1 := [(0, .ref (q 1)), (1, .int (x1)), (2, .int (x2)), (3, .int (x3)), (4, .int (fat σ 12 8 x3))]) [0, 1, 2, 3, 4] rfl (bk60 _ _ _ _ h)
  refine ww_sub (lv1 := [(0, .ref (q 1)), (1, .int (x1))]) [0, 1] rfl ?_
  refine ww_iconst (v := 0) hx hb dX2_shootable_0 (by decide) ?_
  refine ww_istore_n (i := 2) (lv1 := [(0, .ref (q 1)), (1, .int (x1)), (2, .int ((0 : Int32)))]) hx hb dX2_shootable_1 rfl (by decide) [1, 2, 0] rfl ?_
  refine ww_iconst (v := 0) hx hb dX2_shootable_2 (by decide) ?_
  refine ww_istore_n (i := 3) (lv1 := [(0, .ref (q 1)), (1, .int (x1)), (2, .int ((0 : Int32))), (3, .int ((0 : Int32)))]) hx hb dX2_shootable_3 rfl (by decide) [1, 2, 3, 0] rfl ?_
  exact ww_sub (lv1 := [(0, .ref (q 1)), (1, .int (x1)), (2, .int ((0 : Int32))), (3, .int ((0 : Int32)))]) [0, 1, 2, 3] rfl (lp4 _ _ _ _ h)
set_option maxHeartbeats 4000000 in
set_option maxRecDepth 100000 in
theorem m_X0_lackOf (σ : SS) (x1 x2 : Int32) : Ct l yX0_lackOf cX0_lackOf 3 (some .int) 1 40 D vwCl [(cA, .int)] (WC q cA σ) (WC q cA σ) [.ref (q 3), .int (x1), .int (x2)] (some (.int (X0_lackOf σ x1 x2))) := by
  refine ct_of (by decide +kernel) (Nat.le_of_ble_eq_true rfl) ?_
  intro p e s m args below meth c hx hb hr hlk hml hown hts hK hD hN hA
  have hown : s.vm.findClass RX0 = some m.cls := hown
  have hDD : ∀ τ : SS, va_D (va_A (WC q cA σ) s.heap.size) (WC q cA τ) := fun τ => hD.adr rfl
  obtain ⟨r, h⟩ : ∃ r, X0_lackOf σ x1 x2 = r := ⟨_, rfl⟩
  rw [h]
  unfold X0_lackOf at h
  refine ww_sub (lv1 := [(0, .ref (q 3)), (1, .int (x1)), (2, .int (x2))]) [0, 1, 2] rfl ?_
  refine ww_iconst (v := 0) hx hb dX0_lackOf_0 (by decide) ?_
  refine ww_iload_n hx hb dX0_lackOf_1 rfl 2 rfl ?_
  refine ww_aload_n hx hb dX0_lackOf_2 rfl 0 rfl ?_
  refine ww_get (C := RX0) (T := TX0) (N := 4) hx hb hown hts hK inA0 3 rfl rfl 0 (by decide) kw_159 rfl rfl dX0_lackOf_3 ?_
  refine ww_iload_n hx hb dX0_lackOf_6 rfl 1 rfl ?_
  refine ww_callN (ws1 := WC q cA σ) (st1 := [.int (fat σ 14 4 x1), .int (x2), .int ((0 : Int32))]) hx hb hml hown hts hK hN hA (hDD _) (Nat.zero_le _) (Nat.zero_le _) [.ref (q 14), .int (x1)] [.int (x2), .int ((0 : Int32))] (m_at (by decide) σ x1) cs_X0_15 rfl (by decide) rfl (Nat.le_of_ble_eq_true rfl) dX0_lackOf_7 rfl ?_
  refine ww_isub hx hb dX0_lackOf_10 ?_
  refine ww_max hx hb hml hown hts (Nat.zero_le _) (Nat.zero_le _) kw_160 kw_70 kw_71 kw_72 ⟨Nat.le_of_ble_eq_true rfl, Nat.le_of_ble_eq_true rfl⟩ dX0_lackOf_11 ?_
  obtain rfl := h
  exact ww_iret hx hb hr hlk rfl dX0_lackOf_14
set_option maxHeartbeats 4000000 in
set_option maxRecDepth 100000 in
theorem m_X0_pay (σ : SS) (x1 x2 : Int32) (r : Int32) (σ1 : SS) (h : X0_pay σ x1 x2 = some (r, σ1)) : Ct l yX0_pay cX0_pay 4 (some .int) 2 80 D vwCl [(cA, .int)] (WC q cA σ) (WC q cA σ1) [.ref (q 3), .int (x1), .int (x2)] (some (.int r)) := by
  refine ct_of (by decide +kernel) (Nat.le_of_ble_eq_true rfl) ?_
  intro p e s m args below meth c hx hb hr hlk hml hown hts hK hD hN hA
  have hown : s.vm.findClass RX0 = some m.cls := hown
  have hDD : ∀ τ : SS, va_D (va_A (WC q cA σ) s.heap.size) (WC q cA τ) := fun τ => hD.adr rfl
  unfold X0_pay at h
  refine ww_sub (lv1 := [(0, .ref (q 3)), (1, .int (x1)), (2, .int (x2))]) [0, 1, 2] rfl ?_
  refine ww_aload_n hx hb dX0_pay_0 rfl 0 rfl ?_
  refine ww_iload_n hx hb dX0_pay_1 rfl 1 rfl ?_
  refine ww_iload_n hx hb dX0_pay_2 rfl 2 rfl ?_
  refine ww_callV (ws1 := WC q cA σ) (st1 := [.int (X0_lackOf σ x1 x2)]) hx hb hml hown hts hK hN hA (hDD _) (Nat.zero_le _) (Nat.zero_le _) [.int (x1), .int (x2)] [] (m_X0_lackOf σ x1 x2) cs_X0_25 rfl (by decide) 3 rfl rfl rfl (Nat.le_of_ble_eq_true rfl) dX0_pay_3 rfl ?_
  refine ww_istore_n (i := 3) (lv1 := [(0, .ref (q 3)), (1, .int (x1)), (2, .int (x2)), (3, .int (X0_lackOf σ x1 x2))]) hx hb dX0_pay_6 rfl (by decide) [1, 2, 3, 0] rfl ?_
  refine ww_aload_n hx hb dX0_pay_7 rfl 0 rfl ?_
  refine ww_get (C := RX0) (T := TX0) (N := 4) hx hb hown hts hK inA0 3 rfl rfl 0 (by decide) kw_159 rfl rfl dX0_pay_8 ?_
  refine ww_iload_n hx hb dX0_pay_11 rfl 1 rfl ?_
  refine ww_iload_n hx hb dX0_pay_12 rfl 3 rfl ?_
  refine ww_iload_n hx hb dX0_pay_13 rfl 2 rfl ?_
  refine ww_isub hx hb dX0_pay_14 ?_
  obtain ⟨σ_1, e_1, h⟩ := lt_e h
  refine ww_callN (ws1 := WC q cA σ_1) (st1 := []) hx hb hml hown hts hK hN hA (hDD _) (Nat.zero_le _) (Nat.zero_le _) [.ref (q 14), .int (x1), .int ((X0_lackOf σ x1 x2) - x2)] [] (m_add (by decide) _ _ _ _ e_1) cs_X0_28 rfl (by decide) rfl (Nat.le_of_ble_eq_true rfl) dX0_pay_15 rfl ?_
  refine ww_aload_n hx hb dX0_pay_18 rfl 0 rfl ?_
  refine ww_dup hx hb dX0_pay_19 rfl ?_
  refine ww_get (C := RX0) (T := TX0) (N := 4) hx hb hown hts hK inA0 3 rfl rfl 1 (by decide) kw_168 rfl rfl dX0_pay_20 ?_
  refine ww_iload_n hx hb dX0_pay_23 rfl 3 rfl ?_
  refine ww_isub hx hb dX0_pay_24 ?_
  obtain ⟨σ_2, e_2, h⟩ := lt_e h
  refine ww_put (C := RX0) (T := TX0) (N := 4) (ty := .int) (ws1 := WC q cA (σ_2)) hx hb hown hts hK inA0 tyX0 tyX0_ok nmX0 (hDD _) 3 rfl rfl 1 (by decide) kw_168 rfl rfl rfl rfl rfl (Nat.le_of_ble_eq_true rfl) dX0_pay_25 (e_2 ▸ rfl) ?_
  refine ww_aload_n hx hb dX0_pay_28 rfl 0 rfl ?_
  refine ww_dup hx hb dX0_pay_29 rfl ?_
  refine ww_get (C := RX0) (T := TX0) (N := 4) hx hb hown hts hK inA0 3 rfl rfl 2 (by decide) kw_169 rfl rfl dX0_pay_30 ?_
  refine ww_iload_n hx hb dX0_pay_33 rfl 2 rfl ?_
  refine ww_iadd hx hb dX0_pay_34 ?_
  obtain ⟨σ_3, e_3, h⟩ := lt_e h
  refine ww_put (C := RX0) (T := TX0) (N := 4) (ty := .int) (ws1 := WC q cA (σ_3)) hx hb hown hts hK inA0 tyX0 tyX0_ok nmX0 (hDD _) 3 rfl rfl 2 (by decide) kw_169 rfl rfl rfl rfl rfl (Nat.le_of_ble_eq_true rfl) dX0_pay_35 (e_3 ▸ rfl) ?_
  refine ww_aload_n hx hb dX0_pay_38 rfl 0 rfl ?_
  refine ww_dup hx hb dX0_pay_39 rfl ?_
  refine ww_get (C := RX0) (T := TX0) (N := 4) hx hb hown hts hK inA0 3 rfl rfl 3 (by decide) kw_170 rfl rfl dX0_pay_40 ?_
  refine ww_iload_n hx hb dX0_pay_43 rfl 2 rfl ?_
  refine ww_iadd hx hb dX0_pay_44 ?_
  obtain ⟨σ_4, e_4, h⟩ := lt_e h
  refine ww_put (C := RX0) (T := TX0) (N := 4) (ty := .int) (ws1 := WC q cA (σ_4)) hx hb hown hts hK inA0 tyX0 tyX0_ok nmX0 (hDD _) 3 rfl rfl 3 (by decide) kw_170 rfl rfl rfl rfl rfl (Nat.le_of_ble_eq_true rfl) dX0_pay_45 (e_4 ▸ rfl) ?_
  refine ww_iload_n hx hb dX0_pay_48 rfl 3 rfl ?_
  obtain ⟨rfl, rfl⟩ := os2 h
  exact ww_iret hx hb hr hlk rfl dX0_pay_49
set_option maxHeartbeats 4000000 in
set_option maxRecDepth 100000 in
theorem m_X2_endDay (σ : SS) (x1 : Int32) (σ1 : SS) (h : X2_endDay σ x1 = some σ1) : Ct l yX2_endDay cX2_endDay 3 none 1 40 D vwCl [(cA, .int)] (WC q cA σ) (WC q cA σ1) [.ref (q 1), .int (x1)] none := by
  refine ct_of (by decide +kernel) (Nat.le_of_ble_eq_true rfl) ?_
  intro p e s m args below meth c hx hb hr hlk hml hown hts hK hD hN hA
  have hown : s.vm.findClass RX2 = some m.cls := hown
  have hDD : ∀ τ : SS, va_D (va_A (WC q cA σ) s.heap.size) (WC q cA τ) := fun τ => hD.adr rfl
  unfold X2_endDay at h
  have lp2 : ∀ (n : Nat) (τ : SS) (x1 : Int32) (x2 : Int32), X2_endDay_l2 n τ x1 x2 = some σ1 → WW p l e (rmc 1 40 0 0) s m args below meth c D vwCl (va_A (WC q cA σ) s.heap.size) 3 0 0 (MQ below (qcW D vwCl (WC q cA σ) (WC q cA σ1) none s.heap.size) args s 0 0 (va_A (WC q cA σ) s.heap.size)) (WC q cA τ) 2 [(0, .ref (q 1)), (1, .int (x1)), (2, .int (x2))] [] := by
    intro n
    induction n with
    | zero => intro τ x1 x2 h; rw [X2_endDay_l2] at h; cases h
    | succ n ih =>
      have bk37 : ∀ (τ : SS) (x1 : Int32) (x2 : Int32), X2_endDay_b37 (X2_endDay_l2 n) τ x1 x2 = some σ1 → WW p l e (rmc 1 40 0 0) s m args below meth c D vwCl (va_A (WC q cA σ) s.heap.size) 3 0 0 (MQ below (qcW D vwCl (WC q cA σ) (WC q cA σ1) none s.heap.size) args s 0 0 (va_A (WC q cA σ) s.heap.size)) (WC q cA τ) 37 [(0, .ref (q 1)), (1, .int (x1)), (2, .int (x2))] [] := by
        intro τ x1 x2 h
        unfold X2_endDay_b37 at h
        refine ww_iinc (i := 2) (k := 2) (v := 1) (lv1 := [(0, .ref (q 1)), (1, .int (x1)), (2, .int (x2 + 1))]) hx hb dX2_endDay_37 rfl (by decide) (by decide) [1, 2, 0] rfl ?_
        refine ww_goto (tgt := 2) hx hb dX2_endDay_40 (by decide) ?_
        exact ww_sub (lv1 := [(0, .ref (q 1)), (1, .int (x1)), (2, .int (x2 + 1))]) [0, 1, 2] rfl (ih _ _ _ h)
      intro τ x1 x2 h
      rw [X2_endDay_l2] at h
      refine ww_iload_n hx hb dX2_endDay_2 rfl 2 rfl ?_
      refine ww_aload_n hx hb dX2_endDay_3 rfl 0 rfl ?_
      refine ww_get (C := RX2) (T := TX2) (N := 8) hx hb hown hts hK inA2 1 rfl rfl 0 (by decide) kw_66 rfl rfl dX2_endDay_4 ?_
      refine ww_get (C := RX3) (T := TX3) (N := 9) hx hb hown hts hK inA3 2 rfl rfl 5 (by decide) kw_73 rfl rfl dX2_endDay_7 ?_
      refine ww_ge2 (tgt := 43) hx hb dX2_endDay_10 (by decide) (fun c_1 => ?_) (fun c_1 => ?_)
      · replace h := it_p c_1 h
        refine ww_aload_n hx hb dX2_endDay_43 rfl 0 rfl ?_
        refine ww_get (C := RX2) (T := TX2) (N := 8) hx hb hown hts hK inA2 1 rfl rfl 0 (by decide) kw_66 rfl rfl dX2_endDay_44 ?_
        refine ww_dup hx hb dX2_endDay_47 rfl ?_
        refine ww_get (C := RX3) (T := TX3) (N := 9) hx hb hown hts hK inA3 2 rfl rfl 6 (by decide) kw_140 rfl rfl dX2_endDay_48 ?_
        refine ww_iload_n hx hb dX2_endDay_51 rfl 1 rfl ?_
        refine ww_ior hx hb dX2_endDay_52 ?_
        obtain ⟨σ_2, e_2, h⟩ := lt_e h
        refine ww_put (C := RX3) (T := TX3) (N := 9) (ty := .int) (ws1 := WC q cA (σ_2)) hx hb hown hts hK inA3 tyX3 tyX3_ok nmX3 (hDD _) 2 rfl rfl 6 (by decide) kw_140 rfl rfl rfl rfl rfl (Nat.le_of_ble_eq_true rfl) dX2_endDay_53 (e_2 ▸ rfl) ?_
        refine ww_aload_n hx hb dX2_endDay_56 rfl 0 rfl ?_
        refine ww_dup hx hb dX2_endDay_57 rfl ?_
        refine ww_get (C := RX2) (T := TX2) (N := 8) hx hb hown hts hK inA2 1 rfl rfl 6 (by decide) kw_54 rfl rfl dX2_endDay_58 ?_
        refine ww_iconst (v := 1) hx hb dX2_endDay_61 (by decide) ?_
        refine ww_iadd hx hb dX2_endDay_62 ?_
        obtain ⟨σ_3, e_3, h⟩ := lt_e h
        refine ww_put (C := RX2) (T := TX2) (N := 8) (ty := .int) (ws1 := WC q cA (σ_3)) hx hb hown hts hK inA2 tyX2 tyX2_ok nmX2 (hDD _) 1 rfl rfl 6 (by decide) kw_54 rfl rfl rfl rfl rfl (Nat.le_of_ble_eq_true rfl) dX2_endDay_63 (e_3 ▸ rfl) ?_
        refine ww_aload_n hx hb dX2_endDay_66 rfl 0 rfl ?_
        obtain ⟨σ_4, e_4, h⟩ := ob h
        refine ww_callV (ws1 := WC q cA σ_4) (st1 := []) hx hb hml hown hts hK hN hA (hDD _) (Nat.zero_le _) (Nat.zero_le _) [] [] (m_X2_forget _  _ e_4) cs_X2_87 rfl (by decide) 1 rfl rfl rfl (Nat.le_of_ble_eq_true rfl) dX2_endDay_67 rfl ?_
        obtain rfl := os1 h
        exact ww_vret hx hb hr hlk dX2_endDay_70
      · replace h := it_n c_1 h
        refine ww_iload_n hx hb dX2_endDay_13 rfl 1 rfl ?_
        refine ww_iload_n hx hb dX2_endDay_14 rfl 2 rfl ?_
        refine ww_callN (ws1 := WC q cA τ) (st1 := [.int (X4_isIn x1 x2)]) hx hb hml hown hts hK hN hA (hDD _) (Nat.zero_le _) (Nat.zero_le _) [.int (x1), .int (x2)] [] (m_X4_isIn τ x1 x2) cs_X2_80 rfl (by decide) rfl (Nat.le_of_ble_eq_true rfl) dX2_endDay_15 rfl ?_
        refine ww_eq0 (tgt := 37) hx hb dX2_endDay_18 (by decide) (fun c_5 => ?_) (fun c_5 => ?_)
        · replace h := it_p c_5 h
          exact ww_sub (lv1 := [(0, .ref (q 1)), (1, .int (x1)), (2, .int (x2))]) [0, 1, 2] rfl (bk37 _ _ _ h)
        · replace h := it_n c_5 h
          refine ww_aload_n hx hb dX2_endDay_21 rfl 0 rfl ?_
          refine ww_get (C := RX2) (T := TX2) (N := 8) hx hb hown hts hK inA2 1 rfl rfl 2 (by decide) kw_47 rfl rfl dX2_endDay_22 ?_
          refine ww_iload_n hx hb dX2_endDay_25 rfl 2 rfl ?_
          refine ww_aload_n hx hb dX2_endDay_26 rfl 0 rfl ?_
          refine ww_get (C := RX2) (T := TX2) (N := 8) hx hb hown hts hK inA2 1 rfl rfl 4 (by decide) kw_61 rfl rfl dX2_endDay_27 ?_
          refine ww_iload_n hx hb dX2_endDay_30 rfl 2 rfl ?_
          refine ww_callN (ws1 := WC q cA τ) (st1 := [.int (fat τ 13 8 x2), .int (x2), .ref (q 11)]) hx hb hml hown hts hK hN hA (hDD _) (Nat.zero_le _) (Nat.zero_le _) [.ref (q 13), .int (x2)] [.int (x2), .ref (q 11)] (m_at (by decide) τ x2) cs_X2_54 rfl (by decide) rfl (Nat.le_of_ble_eq_true rfl) dX2_endDay_31 rfl ?_
          obtain ⟨σ_6, e_6, h⟩ := lt_e h
          refine ww_callN (ws1 := WC q cA σ_6) (st1 := []) hx hb hml hown hts hK hN hA (hDD _) (Nat.zero_le _) (Nat.zero_le _) [.ref (q 11), .int (x2), .int (fat τ 13 8 x2)] [] (m_put (by decide) _ _ _ _ e_6) cs_X2_83 rfl (by decide) rfl (Nat.le_of_ble_eq_true rfl) dX2_endDay_34 rfl ?_
          exact ww_sub (lv1 := [(0, .ref (q 1)), (1, .int (x1)), (2, .int (x2))]) [0, 1, 2] rfl (bk37 _ _ _ h)
  refine ww_sub (lv1 := [(0, .ref (q 1)), (1, .int (x1))]) [0, 1] rfl ?_
  refine ww_iconst (v := 0) hx hb dX2_endDay_0 (by decide) ?_
  refine ww_istore_n (i := 2) (lv1 := [(0, .ref (q 1)), (1, .int (x1)), (2, .int ((0 : Int32)))]) hx hb dX2_endDay_1 rfl (by decide) [1, 2, 0] rfl ?_
  exact ww_sub (lv1 := [(0, .ref (q 1)), (1, .int (x1)), (2, .int ((0 : Int32)))]) [0, 1, 2] rfl (lp2 _ _ _ _ h)
set_option maxHeartbeats 4000000 in
set_option maxRecDepth 100000 in
theorem m_X1_appendLoan (σ : SS) (x1 x2 : Int32) (r : Int32) (σ1 : SS) (h : X1_appendLoan σ x1 x2 = some (r, σ1)) : Ct l yX1_appendLoan cX1_appendLoan 3 (some .int) 1 40 D vwCl [(cA, .int)] (WC q cA σ) (WC q cA σ1) [.ref (q 4), .int (x1), .int (x2)] (some (.int r)) := by
  refine ct_of (by decide +kernel) (Nat.le_of_ble_eq_true rfl) ?_
  intro p e s m args below meth c hx hb hr hlk hml hown hts hK hD hN hA
  have hown : s.vm.findClass RX1 = some m.cls := hown
  have hDD : ∀ τ : SS, va_D (va_A (WC q cA σ) s.heap.size) (WC q cA τ) := fun τ => hD.adr rfl
  unfold X1_appendLoan at h
  refine ww_sub (lv1 := [(0, .ref (q 4)), (1, .int (x1)), (2, .int (x2))]) [0, 1, 2] rfl ?_
  refine ww_aload_n hx hb dX1_appendLoan_0 rfl 0 rfl ?_
  refine ww_get (C := RX1) (T := TX1) (N := 10) hx hb hown hts hK inA1 4 rfl rfl 0 (by decide) kw_198 rfl rfl dX1_appendLoan_1 ?_
  refine ww_aload_n hx hb dX1_appendLoan_4 rfl 0 rfl ?_
  refine ww_get (C := RX1) (T := TX1) (N := 10) hx hb hown hts hK inA1 4 rfl rfl 7 (by decide) kw_199 rfl rfl dX1_appendLoan_5 ?_
  refine ww_iload_n hx hb dX1_appendLoan_8 rfl 1 rfl ?_
  obtain ⟨σ_1, e_1, h⟩ := lt_e h
  refine ww_callN (ws1 := WC q cA σ_1) (st1 := []) hx hb hml hown hts hK hN hA (hDD _) (Nat.zero_le _) (Nat.zero_le _) [.ref (q 15), .int (σ 4 7), .int (x1)] [] (m_put (by decide) _ _ _ _ e_1) cs_X1_37 rfl (by decide) rfl (Nat.le_of_ble_eq_true rfl) dX1_appendLoan_9 rfl ?_
  refine ww_aload_n hx hb dX1_appendLoan_12 rfl 0 rfl ?_
  refine ww_get (C := RX1) (T := TX1) (N := 10) hx hb hown hts hK inA1 4 rfl rfl 1 (by decide) kw_200 rfl rfl dX1_appendLoan_13 ?_
  refine ww_aload_n hx hb dX1_appendLoan_16 rfl 0 rfl ?_
  refine ww_get (C := RX1) (T := TX1) (N := 10) hx hb hown hts hK inA1 4 rfl rfl 7 (by decide) kw_199 rfl rfl dX1_appendLoan_17 ?_
  refine ww_iload_n hx hb dX1_appendLoan_20 rfl 2 rfl ?_
  obtain ⟨σ_2, e_2, h⟩ := lt_e h
  refine ww_callN (ws1 := WC q cA σ_2) (st1 := []) hx hb hml hown hts hK hN hA (hDD _) (Nat.zero_le _) (Nat.zero_le _) [.ref (q 16), .int (σ_1 4 7), .int (x2)] [] (m_put (by decide) _ _ _ _ e_2) cs_X1_37 rfl (by decide) rfl (Nat.le_of_ble_eq_true rfl) dX1_appendLoan_21 rfl ?_
  refine ww_aload_n hx hb dX1_appendLoan_24 rfl 0 rfl ?_
  refine ww_dup hx hb dX1_appendLoan_25 rfl ?_
  refine ww_get (C := RX1) (T := TX1) (N := 10) hx hb hown hts hK inA1 4 rfl rfl 7 (by decide) kw_199 rfl rfl dX1_appendLoan_26 ?_
  refine ww_iconst (v := 1) hx hb dX1_appendLoan_29 (by decide) ?_
  refine ww_iadd hx hb dX1_appendLoan_30 ?_
  obtain ⟨σ_3, e_3, h⟩ := lt_e h
  refine ww_put (C := RX1) (T := TX1) (N := 10) (ty := .int) (ws1 := WC q cA (σ_3)) hx hb hown hts hK inA1 tyX1 tyX1_ok nmX1 (hDD _) 4 rfl rfl 7 (by decide) kw_199 rfl rfl rfl rfl rfl (Nat.le_of_ble_eq_true rfl) dX1_appendLoan_31 (e_3 ▸ rfl) ?_
  refine ww_aload_n hx hb dX1_appendLoan_34 rfl 0 rfl ?_
  refine ww_get (C := RX1) (T := TX1) (N := 10) hx hb hown hts hK inA1 4 rfl rfl 7 (by decide) kw_199 rfl rfl dX1_appendLoan_35 ?_
  refine ww_iconst (v := 1) hx hb dX1_appendLoan_38 (by decide) ?_
  refine ww_isub hx hb dX1_appendLoan_39 ?_
  obtain ⟨rfl, rfl⟩ := os2 h
  exact ww_iret hx hb hr hlk rfl dX1_appendLoan_40
set_option maxHeartbeats 4000000 in
set_option maxRecDepth 100000 in
theorem m_X1_percentOf (σ : SS) (x1 : Int32) (r : Int32) (h : X1_percentOf σ x1 = some r) : Ct l yX1_percentOf cX1_percentOf 4 (some .int) 1 40 D vwCl [(cA, .int)] (WC q cA σ) (WC q cA σ) [.ref (q 4), .int (x1)] (some (.int r)) := by
  refine ct_of (by decide +kernel) (Nat.le_of_ble_eq_true rfl) ?_
  intro p e s m args below meth c hx hb hr hlk hml hown hts hK hD hN hA
  have hown : s.vm.findClass RX1 = some m.cls := hown
  have hDD : ∀ τ : SS, va_D (va_A (WC q cA σ) s.heap.size) (WC q cA τ) := fun τ => hD.adr rfl
  unfold X1_percentOf at h
  have lp4 : ∀ (n : Nat) (x1 : Int32) (x2 : Int32) (x3 : Int32), X1_percentOf_l4 n σ x1 x2 x3 = some r → WW p l e (rmc 1 40 0 0) s m args below meth c D vwCl (va_A (WC q cA σ) s.heap.size) 4 0 0 (MQ below (qcW D vwCl (WC q cA σ) (WC q cA σ) (some (.int r)) s.heap.size) args s 0 0 (va_A (WC q cA σ) s.heap.size)) (WC q cA σ) 4 [(0, .ref (q 4)), (1, .int (x1)), (2, .int (x2)), (3, .int (x3))] [] := by
    intro n
    induction n with
    | zero => intro x1 x2 x3 h; rw [X1_percentOf_l4] at h; cases h
    | succ n ih =>
      have bk35 : ∀ (x1 : Int32) (x2 : Int32) (x3 : Int32), X1_percentOf_b35 (X1_percentOf_l4 n) σ x1 x2 x3 = some r → WW p l e (rmc 1 40 0 0) s m args below meth c D vwCl (va_A (WC q cA σ) s.heap.size) 4 0 0 (MQ below (qcW D vwCl (WC q cA σ) (WC q cA σ) (some (.int r)) s.heap.size) args s 0 0 (va_A (WC q cA σ) s.heap.size)) (WC q cA σ) 35 [(0, .ref (q 4)), (1, .int (x1)), (2, .int (x2)), (3, .int (x3))] [] := by
        intro x1 x2 x3 h
        unfold X1_percentOf_b35 at h
        refine ww_iinc (i := 3) (k := 3) (v := 1) (lv1 := [(0, .ref (q 4)), (1, .int (x1)), (2, .int (x2)), (3, .int (x3 + 1))]) hx hb dX1_percentOf_35 rfl (by decide) (by decide) [1, 2, 3, 0] rfl ?_
        refine ww_goto (tgt := 4) hx hb dX1_percentOf_38 (by decide) ?_
        exact ww_sub (lv1 := [(0, .ref (q 4)), (1, .int (x1)), (2, .int (x2)), (3, .int (x3 + 1))]) [0, 1, 2, 3] rfl (ih _ _ _ h)
      intro x1 x2 x3 h
      rw [X1_percentOf_l4] at h
      refine ww_iload_n hx hb dX1_percentOf_4 rfl 3 rfl ?_
      refine ww_aload_n hx hb dX1_percentOf_5 rfl 0 rfl ?_
      refine ww_get (C := RX1) (T := TX1) (N := 10) hx hb hown hts hK inA1 4 rfl rfl 8 (by decide) kw_208 rfl rfl dX1_percentOf_6 ?_
      refine ww_ge2 (tgt := 41) hx hb dX1_percentOf_9 (by decide) (fun c_1 => ?_) (fun c_1 => ?_)
      · replace h := it_p c_1 h
        refine ww_iload_n hx hb dX1_percentOf_41 rfl 2 rfl ?_
        obtain rfl := os1 h
        exact ww_iret hx hb hr hlk rfl dX1_percentOf_42
      · replace h := it_n c_1 h
        refine ww_aload_n hx hb dX1_percentOf_12 rfl 0 rfl ?_
        refine ww_get (C := RX1) (T := TX1) (N := 10) hx hb hown hts hK inA1 4 rfl rfl 2 (by decide) kw_209 rfl rfl dX1_percentOf_13 ?_
        refine ww_iload_n hx hb dX1_percentOf_16 rfl 3 rfl ?_
        refine ww_callN (ws1 := WC q cA σ) (st1 := [.int (fat σ 17 12 x3)]) hx hb hml hown hts hK hN hA (hDD _) (Nat.zero_le _) (Nat.zero_le _) [.ref (q 17), .int (x3)] [] (m_at (by decide) σ x3) cs_X1_44 rfl (by decide) rfl (Nat.le_of_ble_eq_true rfl) dX1_percentOf_17 rfl ?_
        refine ww_iload_n hx hb dX1_percentOf_20 rfl 1 rfl ?_
        refine ww_ne2 (tgt := 35) hx hb dX1_percentOf_21 (by decide) (fun c_2 => ?_) (fun c_2 => ?_)
        · replace h := it_n c_2 h
          exact ww_sub (lv1 := [(0, .ref (q 4)), (1, .int (x1)), (2, .int (x2)), (3, .int (x3))]) [0, 1, 2, 3] rfl (bk35 _ _ _ h)
        · replace h := it_p c_2 h
          refine ww_iload_n hx hb dX1_percentOf_24 rfl 2 rfl ?_
          refine ww_aload_n hx hb dX1_percentOf_25 rfl 0 rfl ?_
          refine ww_get (C := RX1) (T := TX1) (N := 10) hx hb hown hts hK inA1 4 rfl rfl 4 (by decide) kw_210 rfl rfl dX1_percentOf_26 ?_
          refine ww_iload_n hx hb dX1_percentOf_29 rfl 3 rfl ?_
          refine ww_callN (ws1 := WC q cA σ) (st1 := [.int (fat σ 19 12 x3), .int (x2)]) hx hb hml hown hts hK hN hA (hDD _) (Nat.zero_le _) (Nat.zero_le _) [.ref (q 19), .int (x3)] [.int (x2)] (m_at (by decide) σ x3) cs_X1_44 rfl (by decide) rfl (Nat.le_of_ble_eq_true rfl) dX1_percentOf_30 rfl ?_
          refine ww_iadd hx hb dX1_percentOf_33 ?_
          refine ww_istore_n (i := 2) (lv1 := [(0, .ref (q 4)), (1, .int (x1)), (2, .int (x2 + (fat σ 19 12 x3))), (3, .int (x3))]) hx hb dX1_percentOf_34 rfl (by decide) [1, 2, 0, 3] rfl ?_
          exact ww_sub (lv1 := [(0, .ref (q 4)), (1, .int (x1)), (2, .int (x2 + (fat σ 19 12 x3))), (3, .int (x3))]) [0, 1, 2, 3] rfl (bk35 _ _ _ h)
  refine ww_sub (lv1 := [(0, .ref (q 4)), (1, .int (x1))]) [0, 1] rfl ?_
  refine ww_iconst (v := 0) hx hb dX1_percentOf_0 (by decide) ?_
  refine ww_istore_n (i := 2) (lv1 := [(0, .ref (q 4)), (1, .int (x1)), (2, .int ((0 : Int32)))]) hx hb dX1_percentOf_1 rfl (by decide) [1, 2, 0] rfl ?_
  refine ww_iconst (v := 0) hx hb dX1_percentOf_2 (by decide) ?_
  refine ww_istore_n (i := 3) (lv1 := [(0, .ref (q 4)), (1, .int (x1)), (2, .int ((0 : Int32))), (3, .int ((0 : Int32)))]) hx hb dX1_percentOf_3 rfl (by decide) [1, 2, 3, 0] rfl ?_
  exact ww_sub (lv1 := [(0, .ref (q 4)), (1, .int (x1)), (2, .int ((0 : Int32))), (3, .int ((0 : Int32)))]) [0, 1, 2, 3] rfl (lp4 _ _ _ _ h)
set_option maxHeartbeats 4000000 in
set_option maxRecDepth 100000 in
theorem m_X1_appendPart (σ : SS) (x1 x2 x3 : Int32) (r : Int32) (σ1 : SS) (h : X1_appendPart σ x1 x2 x3 = some (r, σ1)) : Ct l yX1_appendPart cX1_appendPart 4 (some .int) 1 40 D vwCl [(cA, .int)] (WC q cA σ) (WC q cA σ1) [.ref (q 4), .int (x1), .int (x2), .int (x3)] (some (.int r)) := by
  refine ct_of (by decide +kernel) (Nat.le_of_ble_eq_true rfl) ?_
  intro p e s m args below meth c hx hb hr hlk hml hown hts hK hD hN hA
  have hown : s.vm.findClass RX1 = some m.cls := hown
  have hDD : ∀ τ : SS, va_D (va_A (WC q cA σ) s.heap.size) (WC q cA τ) := fun τ => hD.adr rfl
  unfold X1_appendPart at h
  refine ww_sub (lv1 := [(0, .ref (q 4)), (1, .int (x1)), (2, .int (x2)), (3, .int (x3))]) [0, 1, 2, 3] rfl ?_
  refine ww_aload_n hx hb dX1_appendPart_0 rfl 0 rfl ?_
  refine ww_get (C := RX1) (T := TX1) (N := 10) hx hb hown hts hK inA1 4 rfl rfl 2 (by decide) kw_209 rfl rfl dX1_appendPart_1 ?_
  refine ww_aload_n hx hb dX1_appendPart_4 rfl 0 rfl ?_
  refine ww_get (C := RX1) (T := TX1) (N := 10) hx hb hown hts hK inA1 4 rfl rfl 8 (by decide) kw_208 rfl rfl dX1_appendPart_5 ?_
  refine ww_iload_n hx hb dX1_appendPart_8 rfl 1 rfl ?_
  obtain ⟨σ_1, e_1, h⟩ := lt_e h
  refine ww_callN (ws1 := WC q cA σ_1) (st1 := []) hx hb hml hown hts hK hN hA (hDD _) (Nat.zero_le _) (Nat.zero_le _) [.ref (q 17), .int (σ 4 8), .int (x1)] [] (m_put (by decide) _ _ _ _ e_1) cs_X1_37 rfl (by decide) rfl (Nat.le_of_ble_eq_true rfl) dX1_appendPart_9 rfl ?_
  refine ww_aload_n hx hb dX1_appendPart_12 rfl 0 rfl ?_
  refine ww_get (C := RX1) (T := TX1) (N := 10) hx hb hown hts hK inA1 4 rfl rfl 3 (by decide) kw_211 rfl rfl dX1_appendPart_13 ?_
  refine ww_aload_n hx hb dX1_appendPart_16 rfl 0 rfl ?_
  refine ww_get (C := RX1) (T := TX1) (N := 10) hx hb hown hts hK inA1 4 rfl rfl 8 (by decide) kw_208 rfl rfl dX1_appendPart_17 ?_
  refine ww_iload_n hx hb dX1_appendPart_20 rfl 2 rfl ?_
  obtain ⟨σ_2, e_2, h⟩ := lt_e h
  refine ww_callN (ws1 := WC q cA σ_2) (st1 := []) hx hb hml hown hts hK hN hA (hDD _) (Nat.zero_le _) (Nat.zero_le _) [.ref (q 18), .int (σ_1 4 8), .int (x2)] [] (m_put (by decide) _ _ _ _ e_2) cs_X1_37 rfl (by decide) rfl (Nat.le_of_ble_eq_true rfl) dX1_appendPart_21 rfl ?_
  refine ww_aload_n hx hb dX1_appendPart_24 rfl 0 rfl ?_
  refine ww_get (C := RX1) (T := TX1) (N := 10) hx hb hown hts hK inA1 4 rfl rfl 4 (by decide) kw_210 rfl rfl dX1_appendPart_25 ?_
  refine ww_aload_n hx hb dX1_appendPart_28 rfl 0 rfl ?_
  refine ww_get (C := RX1) (T := TX1) (N := 10) hx hb hown hts hK inA1 4 rfl rfl 8 (by decide) kw_208 rfl rfl dX1_appendPart_29 ?_
  refine ww_iload_n hx hb dX1_appendPart_32 rfl 3 rfl ?_
  obtain ⟨σ_3, e_3, h⟩ := lt_e h
  refine ww_callN (ws1 := WC q cA σ_3) (st1 := []) hx hb hml hown hts hK hN hA (hDD _) (Nat.zero_le _) (Nat.zero_le _) [.ref (q 19), .int (σ_2 4 8), .int (x3)] [] (m_put (by decide) _ _ _ _ e_3) cs_X1_37 rfl (by decide) rfl (Nat.le_of_ble_eq_true rfl) dX1_appendPart_33 rfl ?_
  refine ww_aload_n hx hb dX1_appendPart_36 rfl 0 rfl ?_
  refine ww_dup hx hb dX1_appendPart_37 rfl ?_
  refine ww_get (C := RX1) (T := TX1) (N := 10) hx hb hown hts hK inA1 4 rfl rfl 8 (by decide) kw_208 rfl rfl dX1_appendPart_38 ?_
  refine ww_iconst (v := 1) hx hb dX1_appendPart_41 (by decide) ?_
  refine ww_iadd hx hb dX1_appendPart_42 ?_
  obtain ⟨σ_4, e_4, h⟩ := lt_e h
  refine ww_put (C := RX1) (T := TX1) (N := 10) (ty := .int) (ws1 := WC q cA (σ_4)) hx hb hown hts hK inA1 tyX1 tyX1_ok nmX1 (hDD _) 4 rfl rfl 8 (by decide) kw_208 rfl rfl rfl rfl rfl (Nat.le_of_ble_eq_true rfl) dX1_appendPart_43 (e_4 ▸ rfl) ?_
  refine ww_aload_n hx hb dX1_appendPart_46 rfl 0 rfl ?_
  refine ww_get (C := RX1) (T := TX1) (N := 10) hx hb hown hts hK inA1 4 rfl rfl 8 (by decide) kw_208 rfl rfl dX1_appendPart_47 ?_
  refine ww_iconst (v := 1) hx hb dX1_appendPart_50 (by decide) ?_
  refine ww_isub hx hb dX1_appendPart_51 ?_
  obtain ⟨rfl, rfl⟩ := os2 h
  exact ww_iret hx hb hr hlk rfl dX1_appendPart_52
set_option maxHeartbeats 4000000 in
set_option maxRecDepth 100000 in
theorem m_X0_payBack (σ : SS) (x1 : Int32) (r : Int32) (σ1 : SS) (h : X0_payBack σ x1 = some (r, σ1)) : Ct l yX0_payBack cX0_payBack 3 (some .int) 1 40 D vwCl [(cA, .int)] (WC q cA σ) (WC q cA σ1) [.ref (q 3), .int (x1)] (some (.int r)) := by
  refine ct_of (by decide +kernel) (Nat.le_of_ble_eq_true rfl) ?_
  intro p e s m args below meth c hx hb hr hlk hml hown hts hK hD hN hA
  have hown : s.vm.findClass RX0 = some m.cls := hown
  have hDD : ∀ τ : SS, va_D (va_A (WC q cA σ) s.heap.size) (WC q cA τ) := fun τ => hD.adr rfl
  unfold X0_payBack at h
  refine ww_sub (lv1 := [(0, .ref (q 3)), (1, .int (x1))]) [0, 1] rfl ?_
  refine ww_iload_n hx hb dX0_payBack_0 rfl 1 rfl ?_
  refine ww_aload_n hx hb dX0_payBack_1 rfl 0 rfl ?_
  refine ww_get (C := RX0) (T := TX0) (N := 4) hx hb hown hts hK inA0 3 rfl rfl 3 (by decide) kw_170 rfl rfl dX0_payBack_2 ?_
  refine ww_min hx hb hml hown hts (Nat.zero_le _) (Nat.zero_le _) kw_221 kw_222 kw_71 kw_223 ⟨Nat.le_of_ble_eq_true rfl, Nat.le_of_ble_eq_true rfl⟩ dX0_payBack_5 ?_
  refine ww_istore_n (i := 2) (lv1 := [(0, .ref (q 3)), (1, .int (x1)), (2, .int (imin x1 (σ 3 3)))]) hx hb dX0_payBack_8 rfl (by decide) [1, 2, 0] rfl ?_
  refine ww_aload_n hx hb dX0_payBack_9 rfl 0 rfl ?_
  refine ww_dup hx hb dX0_payBack_10 rfl ?_
  refine ww_get (C := RX0) (T := TX0) (N := 4) hx hb hown hts hK inA0 3 rfl rfl 3 (by decide) kw_170 rfl rfl dX0_payBack_11 ?_
  refine ww_iload_n hx hb dX0_payBack_14 rfl 2 rfl ?_
  refine ww_isub hx hb dX0_payBack_15 ?_
  obtain ⟨σ_1, e_1, h⟩ := lt_e h
  refine ww_put (C := RX0) (T := TX0) (N := 4) (ty := .int) (ws1 := WC q cA (σ_1)) hx hb hown hts hK inA0 tyX0 tyX0_ok nmX0 (hDD _) 3 rfl rfl 3 (by decide) kw_170 rfl rfl rfl rfl rfl (Nat.le_of_ble_eq_true rfl) dX0_payBack_16 (e_1 ▸ rfl) ?_
  refine ww_iload_n hx hb dX0_payBack_19 rfl 1 rfl ?_
  refine ww_iload_n hx hb dX0_payBack_20 rfl 2 rfl ?_
  refine ww_isub hx hb dX0_payBack_21 ?_
  obtain ⟨rfl, rfl⟩ := os2 h
  exact ww_iret hx hb hr hlk rfl dX0_payBack_22
set_option maxHeartbeats 4000000 in
set_option maxRecDepth 100000 in
theorem m_X1_payBackLoans (σ : SS) (x1 : Int32) (r : Int32) (σ1 : SS) (h : X1_payBackLoans σ x1 = some (r, σ1)) : Ct l yX1_payBackLoans cX1_payBackLoans 5 (some .int) 2 80 D vwCl [(cA, .int)] (WC q cA σ) (WC q cA σ1) [.ref (q 4), .int (x1)] (some (.int r)) := by
  refine ct_of (by decide +kernel) (Nat.le_of_ble_eq_true rfl) ?_
  intro p e s m args below meth c hx hb hr hlk hml hown hts hK hD hN hA
  have hown : s.vm.findClass RX1 = some m.cls := hown
  have hDD : ∀ τ : SS, va_D (va_A (WC q cA σ) s.heap.size) (WC q cA τ) := fun τ => hD.adr rfl
  unfold X1_payBackLoans at h
  have lp4 : ∀ (n : Nat) (τ : SS) (x2 : Int32) (x3 : Int32), X1_payBackLoans_l4 n τ x2 x3 = some (r, σ1) → WW p l e (rmc 2 80 0 0) s m args below meth c D vwCl (va_A (WC q cA σ) s.heap.size) 5 0 0 (MQ below (qcW D vwCl (WC q cA σ) (WC q cA σ1) (some (.int r)) s.heap.size) args s 0 0 (va_A (WC q cA σ) s.heap.size)) (WC q cA τ) 4 [(0, .ref (q 4)), (2, .int (x2)), (3, .int (x3))] [] := by
    intro n
    induction n with
    | zero => intro τ x2 x3 h; rw [X1_payBackLoans_l4] at h; cases h
    | succ n ih =>
      intro τ x2 x3 h
      rw [X1_payBackLoans_l4] at h
      refine ww_iload_n hx hb dX1_payBackLoans_4 rfl 2 rfl ?_
      refine ww_aload_n hx hb dX1_payBackLoans_5 rfl 0 rfl ?_
      refine ww_get (C := RX1) (T := TX1) (N := 10) hx hb hown hts hK inA1 4 rfl rfl 7 (by decide) kw_199 rfl rfl dX1_payBackLoans_6 ?_
      refine ww_ge2 (tgt := 65) hx hb dX1_payBackLoans_9 (by decide) (fun c_1 => ?_) (fun c_1 => ?_)
      · replace h := it_p c_1 h
        refine ww_iload_n hx hb dX1_payBackLoans_65 rfl 1 rfl ?_
        obtain ⟨rfl, rfl⟩ := os2 h
        exact ww_iret hx hb hr hlk rfl dX1_payBackLoans_66
      · replace h := it_n c_1 h
        refine ww_iload_n hx hb dX1_payBackLoans_12 rfl 1 rfl ?_
        refine ww_aload_n hx hb dX1_payBackLoans_13 rfl 0 rfl ?_
        refine ww_get (C := RX1) (T := TX1) (N := 10) hx hb hown hts hK inA1 4 rfl rfl 1 (by decide) kw_200 rfl rfl dX1_payBackLoans_14 ?_
        refine ww_iload_n hx hb dX1_payBackLoans_17 rfl 2 rfl ?_
        refine ww_callN (ws1 := WC q cA τ) (st1 := [.int (fat τ 16 10 x3), .int (x2)]) hx hb hml hown hts hK hN hA (hDD _) (Nat.zero_le _) (Nat.zero_le _) [.ref (q 16), .int (x3)] [.int (x2)] (m_at (by decide) τ x3) cs_X1_44 rfl (by decide) rfl (Nat.le_of_ble_eq_true rfl) dX1_payBackLoans_18 rfl ?_
        refine ww_min hx hb hml hown hts (Nat.zero_le _) (Nat.zero_le _) kw_224 kw_222 kw_71 kw_223 ⟨Nat.le_of_ble_eq_true rfl, Nat.le_of_ble_eq_true rfl⟩ dX1_payBackLoans_21 ?_
        refine ww_istore (i := 4) (lv1 := [(0, .ref (q 4)), (2, .int (x2)), (3, .int (x3)), (4, .int (imin x2 (fat τ 16 10 x3)))]) hx hb dX1_payBackLoans_24 (by decide) [1, 2, 3, 0] rfl ?_
        refine ww_aload_n hx hb dX1_payBackLoans_26 rfl 0 rfl ?_
        refine ww_get (C := RX1) (T := TX1) (N := 10) hx hb hown hts hK inA1 4 rfl rfl 1 (by decide) kw_200 rfl rfl dX1_payBackLoans_27 ?_
        refine ww_iload_n hx hb dX1_payBackLoans_30 rfl 2 rfl ?_
        refine ww_iload hx hb dX1_payBackLoans_31 3 rfl ?_
        refine ww_ineg hx hb dX1_payBackLoans_33 ?_
        obtain ⟨σ_2, e_2, h⟩ := lt_e h
        refine ww_callN (ws1 := WC q cA σ_2) (st1 := []) hx hb hml hown hts hK hN hA (hDD _) (Nat.zero_le _) (Nat.zero_le _) [.ref (q 16), .int (x3), .int (-(imin x2 (fat τ 16 10 x3)))] [] (m_add (by decide) _ _ _ _ e_2) cs_X1_54 rfl (by decide) rfl (Nat.le_of_ble_eq_true rfl) dX1_payBackLoans_34 rfl ?_
        refine ww_aload_n hx hb dX1_payBackLoans_37 rfl 0 rfl ?_
        refine ww_get (C := RX1) (T := TX1) (N := 10) hx hb hown hts hK inA1 4 rfl rfl 6 (by decide) kw_225 rfl rfl dX1_payBackLoans_38 ?_
        refine ww_aload_n hx hb dX1_payBackLoans_41 rfl 0 rfl ?_
        refine ww_get (C := RX1) (T := TX1) (N := 10) hx hb hown hts hK inA1 4 rfl rfl 0 (by decide) kw_198 rfl rfl dX1_payBackLoans_42 ?_
        refine ww_iload_n hx hb dX1_payBackLoans_45 rfl 2 rfl ?_
        refine ww_callN (ws1 := WC q cA σ_2) (st1 := [.int (fat σ_2 15 10 x3), .ref (q 21)]) hx hb hml hown hts hK hN hA (hDD _) (Nat.zero_le _) (Nat.zero_le _) [.ref (q 15), .int (x3)] [.ref (q 21)] (m_at (by decide) σ_2 x3) cs_X1_44 rfl (by decide) rfl (Nat.le_of_ble_eq_true rfl) dX1_payBackLoans_46 rfl ?_
        refine ww_iload hx hb dX1_payBackLoans_49 3 rfl ?_
        obtain ⟨σ_3, e_3, h⟩ := lt_e h
        refine ww_callN (ws1 := WC q cA σ_3) (st1 := []) hx hb hml hown hts hK hN hA (hDD _) (Nat.zero_le _) (Nat.zero_le _) [.ref (q 21), .int (fat σ_2 15 10 x3), .int (imin x2 (fat τ 16 10 x3))] [] (m_add (by decide) _ _ _ _ e_3) cs_X1_54 rfl (by decide) rfl (Nat.le_of_ble_eq_true rfl) dX1_payBackLoans_51 rfl ?_
        refine ww_iload_n hx hb dX1_payBackLoans_54 rfl 1 rfl ?_
        refine ww_iload hx hb dX1_payBackLoans_55 3 rfl ?_
        refine ww_isub hx hb dX1_payBackLoans_57 ?_
        refine ww_istore_n (i := 2) (lv1 := [(0, .ref (q 4)), (2, .int (x2 - (imin x2 (fat τ 16 10 x3)))), (3, .int (x3))]) hx hb dX1_payBackLoans_58 rfl (by decide) [1, 0, 2] rfl ?_
        refine ww_iinc (i := 3) (k := 2) (v := 1) (lv1 := [(0, .ref (q 4)), (2, .int (x2 - (imin x2 (fat τ 16 10 x3)))), (3, .int (x3 + 1))]) hx hb dX1_payBackLoans_59 rfl (by decide) (by decide) [1, 2, 0] rfl ?_
        refine ww_goto (tgt := 4) hx hb dX1_payBackLoans_62 (by decide) ?_
        exact ww_sub (lv1 := [(0, .ref (q 4)), (2, .int (x2 - (imin x2 (fat τ 16 10 x3)))), (3, .int (x3 + 1))]) [0, 1, 2] rfl (ih _ _ _ h)
  refine ww_sub (lv1 := [(0, .ref (q 4)), (1, .int (x1))]) [0, 1] rfl ?_
  refine ww_iload_n hx hb dX1_payBackLoans_0 rfl 1 rfl ?_
  refine ww_istore_n (i := 2) (lv1 := [(0, .ref (q 4)), (2, .int (x1))]) hx hb dX1_payBackLoans_1 rfl (by decide) [1, 0] rfl ?_
  refine ww_iconst (v := 0) hx hb dX1_payBackLoans_2 (by decide) ?_
  refine ww_istore_n (i := 3) (lv1 := [(0, .ref (q 4)), (2, .int (x1)), (3, .int ((0 : Int32)))]) hx hb dX1_payBackLoans_3 rfl (by decide) [1, 2, 0] rfl ?_
  exact ww_sub (lv1 := [(0, .ref (q 4)), (2, .int (x1)), (3, .int ((0 : Int32)))]) [0, 1, 2] rfl (lp4 _ _ _ _ h)
set_option maxHeartbeats 4000000 in
set_option maxRecDepth 100000 in
theorem m_X1_share (σ : SS) (x1 : Int32) (σ1 : SS) (h : X1_share σ x1 = some σ1) : Ct l yX1_share cX1_share 6 none 2 80 D vwCl [(cA, .int)] (WC q cA σ) (WC q cA σ1) [.ref (q 4), .int (x1)] none := by
  refine ct_of (by decide +kernel) (Nat.le_of_ble_eq_true rfl) ?_
  intro p e s m args below meth c hx hb hr hlk hml hown hts hK hD hN hA
  have hown : s.vm.findClass RX1 = some m.cls := hown
  have hDD : ∀ τ : SS, va_D (va_A (WC q cA σ) s.heap.size) (WC q cA τ) := fun τ => hD.adr rfl
  unfold X1_share at h
  have lp4 : ∀ (n : Nat) (τ : SS) (x1 : Int32) (x2 : Int32) (x3 : Int32), X1_share_l4 n τ x1 x2 x3 = some σ1 → WW p l e (rmc 2 80 0 0) s m args below meth c D vwCl (va_A (WC q cA σ) s.heap.size) 6 0 0 (MQ below (qcW D vwCl (WC q cA σ) (WC q cA σ1) none s.heap.size) args s 0 0 (va_A (WC q cA σ) s.heap.size)) (WC q cA τ) 4 [(0, .ref (q 4)), (1, .int (x1)), (2, .int (x2)), (3, .int (x3))] [] := by
    intro n
    induction n with
    | zero => intro τ x1 x2 x3 h; rw [X1_share_l4] at h; cases h
    | succ n ih =>
      have bk115 : ∀ (τ : SS) (x1 : Int32) (x2 : Int32) (x3 : Int32), X1_share_b115 (X1_share_l4 n) τ x1 x2 x3 = some σ1 → WW p l e (rmc 2 80 0 0) s m args below meth c D vwCl (va_A (WC q cA σ) s.heap.size) 6 0 0 (MQ below (qcW D vwCl (WC q cA σ) (WC q cA σ1) none s.heap.size) args s 0 0 (va_A (WC q cA σ) s.heap.size)) (WC q cA τ) 115 [(0, .ref (q 4)), (1, .int (x1)), (2, .int (x2)), (3, .int (x3))] [] := by
        intro τ x1 x2 x3 h
        unfold X1_share_b115 at h
        refine ww_iinc (i := 3) (k := 3) (v := 1) (lv1 := [(0, .ref (q 4)), (1, .int (x1)), (2, .int (x2)), (3, .int (x3 + 1))]) hx hb dX1_share_115 rfl (by decide) (by decide) [1, 2, 3, 0] rfl ?_
        refine ww_goto (tgt := 4) hx hb dX1_share_118 (by decide) ?_
        exact ww_sub (lv1 := [(0, .ref (q 4)), (1, .int (x1)), (2, .int (x2)), (3, .int (x3 + 1))]) [0, 1, 2, 3] rfl (ih _ _ _ _ h)
      have bk41 : ∀ (τ : SS) (x1 : Int32) (x2 : Int32) (x3 : Int32) (x4 : Int32) (y0 : Int32), X1_share_b41 (X1_share_l4 n) τ x1 x2 x3 x4 y0 = some σ1 → WW p l e (rmc 2 80 0 0) s m args below meth c D vwCl (va_A (WC q cA σ) s.heap.size) 6 0 0 (MQ below (qcW D vwCl (WC q cA σ) (WC q cA σ1) none s.heap.size) args s 0 0 (va_A (WC q cA σ) s.heap.size)) (WC q cA τ) 41 [(0, .ref (q 4)), (1, .int (x1)), (2, .int (x2)), (3, .int (x3)), (4, .int (x4))] [.int (y0)] := by
        intro τ x1 x2 x3 x4 y0 h
        unfold X1_share_b41 at h
        refine ww_aload_n hx hb dX1_share_41 rfl 0 rfl ?_
        refine ww_get (C := RX1) (T := TX1) (N := 10) hx hb hown hts hK inA1 4 rfl rfl 4 (by decide) kw_210 rfl rfl dX1_share_42 ?_
        refine ww_iload_n hx hb dX1_share_45 rfl 3 rfl ?_
        refine ww_callN (ws1 := WC q cA τ) (st1 := [.int (fat τ 19 12 x3), .int (y0)]) hx hb hml hown hts hK hN hA (hDD _) (Nat.zero_le _) (Nat.zero_le _) [.ref (q 19), .int (x3)] [.int (y0)] (m_at (by decide) τ x3) cs_X1_44 rfl (by decide) rfl (Nat.le_of_ble_eq_true rfl) dX1_share_46 rfl ?_
        refine ww_imul hx hb dX1_share_49 ?_
        refine ww_bipush (v := 100) hx hb dX1_share_50 (by decide) ?_
        refine ww_idiv hx hb dX1_share_52 (by decide) ?_
        refine ww_istore (i := 5) (lv1 := [(0, .ref (q 4)), (1, .int (x1)), (2, .int (x2)), (3, .int (x3)), (4, .int (x4)), (5, .int ((y0 * (fat τ 19 12 x3)) / (100 : Int32)))]) hx hb dX1_share_53 (by decide) [1, 2, 3, 4, 5, 0] rfl ?_
        refine ww_aload_n hx hb dX1_share_55 rfl 0 rfl ?_
        refine ww_get (C := RX1) (T := TX1) (N := 10) hx hb hown hts hK inA1 4 rfl rfl 5 (by decide) kw_227 rfl rfl dX1_share_56 ?_
        refine ww_iload_n hx hb dX1_share_59 rfl 3 rfl ?_
        refine ww_iload hx hb dX1_share_60 5 rfl ?_
        obtain ⟨σ_4, e_4, h⟩ := lt_e h
        refine ww_callN (ws1 := WC q cA σ_4) (st1 := []) hx hb hml hown hts hK hN hA (hDD _) (Nat.zero_le _) (Nat.zero_le _) [.ref (q 20), .int (x3), .int ((y0 * (fat τ 19 12 x3)) / (100 : Int32))] [] (m_put (by decide) _ _ _ _ e_4) cs_X1_37 rfl (by decide) rfl (Nat.le_of_ble_eq_true rfl) dX1_share_62 rfl ?_
        refine ww_aload_n hx hb dX1_share_65 rfl 0 rfl ?_
        refine ww_get (C := RX1) (T := TX1) (N := 10) hx hb hown hts hK inA1 4 rfl rfl 6 (by decide) kw_225 rfl rfl dX1_share_66 ?_
        refine ww_aload_n hx hb dX1_share_69 rfl 0 rfl ?_
        refine ww_get (C := RX1) (T := TX1) (N := 10) hx hb hown hts hK inA1 4 rfl rfl 3 (by decide) kw_211 rfl rfl dX1_share_70 ?_
        refine ww_iload_n hx hb dX1_share_73 rfl 3 rfl ?_
        refine ww_callN (ws1 := WC q cA σ_4) (st1 := [.int (fat σ_4 18 12 x3), .ref (q 21)]) hx hb hml hown hts hK hN hA (hDD _) (Nat.zero_le _) (Nat.zero_le _) [.ref (q 18), .int (x3)] [.ref (q 21)] (m_at (by decide) σ_4 x3) cs_X1_44 rfl (by decide) rfl (Nat.le_of_ble_eq_true rfl) dX1_share_74 rfl ?_
        refine ww_iload hx hb dX1_share_77 5 rfl ?_
        obtain ⟨σ_5, e_5, h⟩ := lt_e h
        refine ww_callN (ws1 := WC q cA σ_5) (st1 := []) hx hb hml hown hts hK hN hA (hDD _) (Nat.zero_le _) (Nat.zero_le _) [.ref (q 21), .int (fat σ_4 18 12 x3), .int ((y0 * (fat τ 19 12 x3)) / (100 : Int32))] [] (m_add (by decide) _ _ _ _ e_5) cs_X1_54 rfl (by decide) rfl (Nat.le_of_ble_eq_true rfl) dX1_share_79 rfl ?_
        refine ww_iload hx hb dX1_share_82 4 rfl ?_
        refine ww_iconst (v := -1) hx hb dX1_share_84 (by decide) ?_
        refine ww_ne2 (tgt := 96) hx hb dX1_share_85 (by decide) (fun c_6 => ?_) (fun c_6 => ?_)
        · replace h := it_n c_6 h
          refine ww_aload_n hx hb dX1_share_96 rfl 0 rfl ?_
          refine ww_get (C := RX1) (T := TX1) (N := 10) hx hb hown hts hK inA1 4 rfl rfl 6 (by decide) kw_225 rfl rfl dX1_share_97 ?_
          refine ww_aload_n hx hb dX1_share_100 rfl 0 rfl ?_
          refine ww_get (C := RX1) (T := TX1) (N := 10) hx hb hown hts hK inA1 4 rfl rfl 3 (by decide) kw_211 rfl rfl dX1_share_101 ?_
          refine ww_iload hx hb dX1_share_104 4 rfl ?_
          refine ww_callN (ws1 := WC q cA σ_5) (st1 := [.int (fat σ_5 18 12 x4), .ref (q 21)]) hx hb hml hown hts hK hN hA (hDD _) (Nat.zero_le _) (Nat.zero_le _) [.ref (q 18), .int (x4)] [.ref (q 21)] (m_at (by decide) σ_5 x4) cs_X1_44 rfl (by decide) rfl (Nat.le_of_ble_eq_true rfl) dX1_share_106 rfl ?_
          refine ww_iload hx hb dX1_share_109 5 rfl ?_
          refine ww_ineg hx hb dX1_share_111 ?_
          obtain ⟨σ_7, e_7, h⟩ := lt_e h
          refine ww_callN (ws1 := WC q cA σ_7) (st1 := []) hx hb hml hown hts hK hN hA (hDD _) (Nat.zero_le _) (Nat.zero_le _) [.ref (q 21), .int (fat σ_5 18 12 x4), .int (-((y0 * (fat τ 19 12 x3)) / (100 : Int32)))] [] (m_add (by decide) _ _ _ _ e_7) cs_X1_54 rfl (by decide) rfl (Nat.le_of_ble_eq_true rfl) dX1_share_112 rfl ?_
          exact ww_sub (lv1 := [(0, .ref (q 4)), (1, .int (x1)), (2, .int (x2)), (3, .int (x3))]) [0, 1, 2, 3] rfl (bk115 _ _ _ _ h)
        · replace h := it_p c_6 h
          refine ww_iload_n hx hb dX1_share_88 rfl 2 rfl ?_
          refine ww_iload hx hb dX1_share_89 5 rfl ?_
          refine ww_isub hx hb dX1_share_91 ?_
          refine ww_istore_n (i := 2) (lv1 := [(0, .ref (q 4)), (1, .int (x1)), (2, .int (x2 - ((y0 * (fat τ 19 12 x3)) / (100 : Int32)))), (3, .int (x3))]) hx hb dX1_share_92 rfl (by decide) [1, 2, 0, 3] rfl ?_
          refine ww_goto (tgt := 115) hx hb dX1_share_93 (by decide) ?_
          exact ww_sub (lv1 := [(0, .ref (q 4)), (1, .int (x1)), (2, .int (x2 - ((y0 * (fat τ 19 12 x3)) / (100 : Int32)))), (3, .int (x3))]) [0, 1, 2, 3] rfl (bk115 _ _ _ _ h)
      intro τ x1 x2 x3 h
      rw [X1_share_l4] at h
      refine ww_iload_n hx hb dX1_share_4 rfl 3 rfl ?_
      refine ww_aload_n hx hb dX1_share_5 rfl 0 rfl ?_
      refine ww_get (C := RX1) (T := TX1) (N := 10) hx hb hown hts hK inA1 4 rfl rfl 8 (by decide) kw_208 rfl rfl dX1_share_6 ?_
      refine ww_ge2 (tgt := 121) hx hb dX1_share_9 (by decide) (fun c_1 => ?_) (fun c_1 => ?_)
      · replace h := it_p c_1 h
        refine ww_aload_n hx hb dX1_share_121 rfl 0 rfl ?_
        refine ww_dup hx hb dX1_share_122 rfl ?_
        refine ww_get (C := RX1) (T := TX1) (N := 10) hx hb hown hts hK inA1 4 rfl rfl 9 (by decide) kw_226 rfl rfl dX1_share_123 ?_
        refine ww_iload_n hx hb dX1_share_126 rfl 2 rfl ?_
        refine ww_iadd hx hb dX1_share_127 ?_
        obtain ⟨σ_2, e_2, h⟩ := lt_e h
        refine ww_put (C := RX1) (T := TX1) (N := 10) (ty := .int) (ws1 := WC q cA (σ_2)) hx hb hown hts hK inA1 tyX1 tyX1_ok nmX1 (hDD _) 4 rfl rfl 9 (by decide) kw_226 rfl rfl rfl rfl rfl (Nat.le_of_ble_eq_true rfl) dX1_share_128 (e_2 ▸ rfl) ?_
        obtain rfl := os1 h
        exact ww_vret hx hb hr hlk dX1_share_131
      · replace h := it_n c_1 h
        refine ww_aload_n hx hb dX1_share_12 rfl 0 rfl ?_
        refine ww_get (C := RX1) (T := TX1) (N := 10) hx hb hown hts hK inA1 4 rfl rfl 2 (by decide) kw_209 rfl rfl dX1_share_13 ?_
        refine ww_iload_n hx hb dX1_share_16 rfl 3 rfl ?_
        refine ww_callN (ws1 := WC q cA τ) (st1 := [.int (fat τ 17 12 x3)]) hx hb hml hown hts hK hN hA (hDD _) (Nat.zero_le _) (Nat.zero_le _) [.ref (q 17), .int (x3)] [] (m_at (by decide) τ x3) cs_X1_44 rfl (by decide) rfl (Nat.le_of_ble_eq_true rfl) dX1_share_17 rfl ?_
        refine ww_istore (i := 4) (lv1 := [(0, .ref (q 4)), (1, .int (x1)), (2, .int (x2)), (3, .int (x3)), (4, .int (fat τ 17 12 x3))]) hx hb dX1_share_20 (by decide) [1, 2, 3, 4, 0] rfl ?_
        refine ww_iload hx hb dX1_share_22 4 rfl ?_
        refine ww_iconst (v := -1) hx hb dX1_share_24 (by decide) ?_
        refine ww_ne2 (tgt := 32) hx hb dX1_share_25 (by decide) (fun c_3 => ?_) (fun c_3 => ?_)
        · replace h := it_n c_3 h
          refine ww_aload_n hx hb dX1_share_32 rfl 0 rfl ?_
          refine ww_get (C := RX1) (T := TX1) (N := 10) hx hb hown hts hK inA1 4 rfl rfl 5 (by decide) kw_227 rfl rfl dX1_share_33 ?_
          refine ww_iload hx hb dX1_share_36 4 rfl ?_
          refine ww_callN (ws1 := WC q cA τ) (st1 := [.int (fat τ 20 12 (fat τ 17 12 x3))]) hx hb hml hown hts hK hN hA (hDD _) (Nat.zero_le _) (Nat.zero_le _) [.ref (q 20), .int (fat τ 17 12 x3)] [] (m_at (by decide) τ (fat τ 17 12 x3)) cs_X1_44 rfl (by decide) rfl (Nat.le_of_ble_eq_true rfl) dX1_share_38 rfl ?_
          exact ww_sub (lv1 := [(0, .ref (q 4)), (1, .int (x1)), (2, .int (x2)), (3, .int (x3)), (4, .int (fat τ 17 12 x3))]) [0, 1, 2, 3, 4] rfl (bk41 _ _ _ _ _ _ h)
        · replace h := it_p c_3 h
          refine ww_iload_n hx hb dX1_share_28 rfl 1 rfl ?_
          refine ww_goto (tgt := 41) hx hb dX1_share_29 (by decide) ?_
          exact ww_sub (lv1 := [(0, .ref (q 4)), (1, .int (x1)), (2, .int (x2)), (3, .int (x3)), (4, .int (fat τ 17 12 x3))]) [0, 1, 2, 3, 4] rfl (bk41 _ _ _ _ _ _ h)
  refine ww_sub (lv1 := [(0, .ref (q 4)), (1, .int (x1))]) [0, 1] rfl ?_
  refine ww_iload_n hx hb dX1_share_0 rfl 1 rfl ?_
  refine ww_istore_n (i := 2) (lv1 := [(0, .ref (q 4)), (1, .int (x1)), (2, .int (x1))]) hx hb dX1_share_1 rfl (by decide) [1, 2, 0] rfl ?_
  refine ww_iconst (v := 0) hx hb dX1_share_2 (by decide) ?_
  refine ww_istore_n (i := 3) (lv1 := [(0, .ref (q 4)), (1, .int (x1)), (2, .int (x1)), (3, .int ((0 : Int32)))]) hx hb dX1_share_3 rfl (by decide) [1, 2, 3, 0] rfl ?_
  exact ww_sub (lv1 := [(0, .ref (q 4)), (1, .int (x1)), (2, .int (x1)), (3, .int ((0 : Int32)))]) [0, 1, 2, 3] rfl (lp4 _ _ _ _ _ h)
set_option maxHeartbeats 4000000 in
set_option maxRecDepth 100000 in
theorem m_X4_today (σ : SS) : Ct l yX4_today cX4_today 1 (some .int) 0 0 D vwCl [(cA, .int)] (WC q cA σ) (WC q cA σ) [.ref (q 0)] (some (.int (X4_today σ))) := by
  refine ct_of (by decide +kernel) (Nat.le_of_ble_eq_true rfl) ?_
  intro p e s m args below meth c hx hb hr hlk hml hown hts hK hD hN hA
  have hown : s.vm.findClass RX4 = some m.cls := hown
  have hDD : ∀ τ : SS, va_D (va_A (WC q cA σ) s.heap.size) (WC q cA τ) := fun τ => hD.adr rfl
  obtain ⟨r, h⟩ : ∃ r, X4_today σ = r := ⟨_, rfl⟩
  rw [h]
  unfold X4_today at h
  refine ww_sub (lv1 := [(0, .ref (q 0))]) [0] rfl ?_
  refine ww_aload_n hx hb dX4_today_0 rfl 0 rfl ?_
  refine ww_get (C := RX4) (T := TX4) (N := 7) hx hb hown hts hK inA4 0 rfl rfl 1 (by decide) kw_20 rfl rfl dX4_today_1 ?_
  refine ww_get (C := RX2) (T := TX2) (N := 8) hx hb hown hts hK inA2 1 rfl rfl 6 (by decide) kw_184 rfl rfl dX4_today_4 ?_
  obtain rfl := h
  exact ww_iret hx hb hr hlk rfl dX4_today_7
set_option maxHeartbeats 4000000 in
set_option maxRecDepth 100000 in
theorem m_X4_shot (σ : SS) : Ct l yX4_shot cX4_shot 1 (some .int) 0 0 D vwCl [(cA, .int)] (WC q cA σ) (WC q cA σ) [.ref (q 0)] (some (.int (X4_shot σ))) := by
  refine ct_of (by decide +kernel) (Nat.le_of_ble_eq_true rfl) ?_
  intro p e s m args below meth c hx hb hr hlk hml hown hts hK hD hN hA
  have hown : s.vm.findClass RX4 = some m.cls := hown
  have hDD : ∀ τ : SS, va_D (va_A (WC q cA σ) s.heap.size) (WC q cA τ) := fun τ => hD.adr rfl
  obtain ⟨r, h⟩ : ∃ r, X4_shot σ = r := ⟨_, rfl⟩
  rw [h]
  unfold X4_shot at h
  refine ww_sub (lv1 := [(0, .ref (q 0))]) [0] rfl ?_
  refine ww_aload_n hx hb dX4_shot_0 rfl 0 rfl ?_
  refine ww_get (C := RX4) (T := TX4) (N := 7) hx hb hown hts hK inA4 0 rfl rfl 0 (by decide) kw_13 rfl rfl dX4_shot_1 ?_
  refine ww_get (C := RX3) (T := TX3) (N := 9) hx hb hown hts hK inA3 2 rfl rfl 6 (by decide) kw_241 rfl rfl dX4_shot_4 ?_
  obtain rfl := h
  exact ww_iret hx hb hr hlk rfl dX4_shot_7
set_option maxHeartbeats 4000000 in
set_option maxRecDepth 100000 in
theorem m_X4_days (σ : SS) (r : Int32) (σ1 : SS) (h : X4_days σ = some (r, σ1)) : Ct l yX4_days cX4_days 1 (some .int) 22 880 D vwCl [(cA, .int)] (WC q cA σ) (WC q cA σ1) [.ref (q 0)] (some (.int r)) := by
  refine ct_of (by decide +kernel) (Nat.le_of_ble_eq_true rfl) ?_
  intro p e s m args below meth c hx hb hr hlk hml hown hts hK hD hN hA
  have hown : s.vm.findClass RX4 = some m.cls := hown
  have hDD : ∀ τ : SS, va_D (va_A (WC q cA σ) s.heap.size) (WC q cA τ) := fun τ => hD.adr rfl
  unfold X4_days at h
  refine ww_sub (lv1 := [(0, .ref (q 0))]) [0] rfl ?_
  refine ww_aload_n hx hb dX4_days_0 rfl 0 rfl ?_
  refine ww_get (C := RX4) (T := TX4) (N := 7) hx hb hown hts hK inA4 0 rfl rfl 1 (by decide) kw_20 rfl rfl dX4_days_1 ?_
  obtain ⟨σ_1, e_1, h⟩ := ob h
  refine ww_callV (ws1 := WC q cA σ_1) (st1 := []) hx hb hml hown hts hK hN hA (hDD _) (Nat.zero_le _) (Nat.zero_le _) [] [] (m_X2_makePlan _  _ e_1) cs_X4_89 rfl (by decide) 1 rfl rfl rfl (Nat.le_of_ble_eq_true rfl) dX4_days_4 rfl ?_
  refine ww_aload_n hx hb dX4_days_7 rfl 0 rfl ?_
  refine ww_get (C := RX4) (T := TX4) (N := 7) hx hb hown hts hK inA4 0 rfl rfl 1 (by decide) kw_20 rfl rfl dX4_days_8 ?_
  refine ww_get (C := RX2) (T := TX2) (N := 8) hx hb hown hts hK inA2 1 rfl rfl 5 (by decide) kw_242 rfl rfl dX4_days_11 ?_
  obtain ⟨rfl, rfl⟩ := os2 h
  exact ww_iret hx hb hr hlk rfl dX4_days_14
set_option maxHeartbeats 4000000 in
set_option maxRecDepth 100000 in
theorem m_X2_fewestOfAll : ∀ (d : Nat) (σ : SS) (x1 x2 : Int32) (r : Int32) (σ1 : SS) (h : X2_fewestOfAll d σ x1 x2 = some (r, σ1)), Ct l yX2_fewestOfAll cX2_fewestOfAll 5 (some .int) (4 + d) (160 + 40 * d) D vwCl [(cA, .int)] (WC q cA σ) (WC q cA σ1) [.ref (q 1), .int (x1), .int (x2)] (some (.int r)) := by
  intro d
  induction d with
  | zero => intro σ x1 x2 r σ1 h; rw [X2_fewestOfAll] at h; cases h
  | succ d hrec =>
    intro σ x1 x2 r σ1 h
    refine ct_of (by decide +kernel) (Nat.le_of_ble_eq_true rfl) ?_
    intro p e s m args below meth c hx hb hr hlk hml hown hts hK hD hN hA
    have hown : s.vm.findClass RX2 = some m.cls := hown
    have hDD : ∀ τ : SS, va_D (va_A (WC q cA σ) s.heap.size) (WC q cA τ) := fun τ => hD.adr rfl
    rw [X2_fewestOfAll] at h
    have lp29 : ∀ (n : Nat) (τ : SS) (x1 : Int32) (x2 : Int32) (x3 : Int32) (x4 : Int32), X2_fewestOfAll_l29 (X2_fewestOfAll d) n τ x1 x2 x3 x4 = some (r, σ1) → WW p l e (rmc (4 + (d + 1)) (160 + 40 * (d + 1)) 0 0) s m args below meth c D vwCl (va_A (WC q cA σ) s.heap.size) 5 0 0 (MQ below (qcW D vwCl (WC q cA σ) (WC q cA σ1) (some (.int r)) s.heap.size) args s 0 0 (va_A (WC q cA σ) s.heap.size)) (WC q cA τ) 29 [(0, .ref (q 1)), (1, .int (x1)), (2, .int (x2)), (3, .int (x3)), (4, .int (x4))] [] := by
      intro n
      induction n with
      | zero => intro τ x1 x2 x3 x4 h; rw [X2_fewestOfAll_l29] at h; cases h
      | succ n ih =>
        have bk81 : ∀ (τ : SS) (x1 : Int32) (x2 : Int32) (x3 : Int32) (x4 : Int32), X2_fewestOfAll_b81 (X2_fewestOfAll d) (X2_fewestOfAll_l29 (X2_fewestOfAll d) n) τ x1 x2 x3 x4 = some (r, σ1) → WW p l e (rmc (4 + (d + 1)) (160 + 40 * (d + 1)) 0 0) s m args below meth c D vwCl (va_A (WC q cA σ) s.heap.size) 5 0 0 (MQ below (qcW D vwCl (WC q cA σ) (WC q cA σ1) (some (.int r)) s.heap.size) args s 0 0 (va_A (WC q cA σ) s.heap.size)) (WC q cA τ) 81 [(0, .ref (q 1)), (1, .int (x1)), (2, .int (x2)), (3, .int (x3)), (4, .int (x4))] [] := by
          intro τ x1 x2 x3 x4 h
          unfold X2_fewestOfAll_b81 at h
          refine ww_iinc (i := 4) (k := 4) (v := 1) (lv1 := [(0, .ref (q 1)), (1, .int (x1)), (2, .int (x2)), (3, .int (x3)), (4, .int (x4 + 1))]) hx hb dX2_fewestOfAll_81 rfl (by decide) (by decide) [1, 2, 3, 4, 0] rfl ?_
          refine ww_goto (tgt := 29) hx hb dX2_fewestOfAll_84 (by decide) ?_
          exact ww_sub (lv1 := [(0, .ref (q 1)), (1, .int (x1)), (2, .int (x2)), (3, .int (x3)), (4, .int (x4 + 1))]) [0, 1, 2, 3, 4] rfl (ih _ _ _ _ _ h)
        intro τ x1 x2 x3 x4 h
        rw [X2_fewestOfAll_l29] at h
        refine ww_iload hx hb dX2_fewestOfAll_29 4 rfl ?_
        refine ww_aload_n hx hb dX2_fewestOfAll_31 rfl 0 rfl ?_
        refine ww_get (C := RX2) (T := TX2) (N := 8) hx hb hown hts hK inA2 1 rfl rfl 0 (by decide) kw_66 rfl rfl dX2_fewestOfAll_32 ?_
        refine ww_get (C := RX3) (T := TX3) (N := 9) hx hb hown hts hK inA3 2 rfl rfl 5 (by decide) kw_73 rfl rfl dX2_fewestOfAll_35 ?_
        refine ww_ge2 (tgt := 87) hx hb dX2_fewestOfAll_38 (by decide) (fun c_3 => ?_) (fun c_3 => ?_)
        · replace h := it_p c_3 h
          refine ww_iload_n hx hb dX2_fewestOfAll_87 rfl 3 rfl ?_
          obtain ⟨rfl, rfl⟩ := os2 h
          exact ww_iret hx hb hr hlk rfl dX2_fewestOfAll_88
        · replace h := it_n c_3 h
          refine ww_aload_n hx hb dX2_fewestOfAll_41 rfl 0 rfl ?_
          refine ww_get (C := RX2) (T := TX2) (N := 8) hx hb hown hts hK inA2 1 rfl rfl 0 (by decide) kw_66 rfl rfl dX2_fewestOfAll_42 ?_
          refine ww_iload hx hb dX2_fewestOfAll_45 4 rfl ?_
          refine ww_iload_n hx hb dX2_fewestOfAll_47 rfl 2 rfl ?_
          refine ww_callV (ws1 := WC q cA τ) (st1 := [.int (X3_canFollow τ x4 x2)]) hx hb hml hown hts hK hN hA (hDD _) (Nat.zero_le _) (Nat.zero_le _) [.int (x4), .int (x2)] [] (m_X3_canFollow τ x4 x2) cs_X2_97 rfl ⟨by show _ ≤ _ + (_ + 1); omega, by show _ ≤ _ + 40 * (_ + 1); omega⟩ 2 rfl rfl rfl (Nat.le_of_ble_eq_true rfl) dX2_fewestOfAll_48 rfl ?_
          refine ww_eq0 (tgt := 81) hx hb dX2_fewestOfAll_51 (by decide) (fun c_4 => ?_) (fun c_4 => ?_)
          · replace h := it_p c_4 h
            exact ww_sub (lv1 := [(0, .ref (q 1)), (1, .int (x1)), (2, .int (x2)), (3, .int (x3)), (4, .int (x4))]) [0, 1, 2, 3, 4] rfl (bk81 _ _ _ _ _ h)
          · replace h := it_n c_4 h
            refine ww_aload_n hx hb dX2_fewestOfAll_54 rfl 0 rfl ?_
            refine ww_iload hx hb dX2_fewestOfAll_55 4 rfl ?_
            refine ww_iload_n hx hb dX2_fewestOfAll_57 rfl 1 rfl ?_
            refine ww_iload_n hx hb dX2_fewestOfAll_58 rfl 2 rfl ?_
            obtain ⟨σ_5, e_5, h⟩ := ob h
            refine ww_callV (ws1 := WC q cA σ_5) (st1 := []) hx hb hml hown hts hK hN hA (hDD _) (Nat.zero_le _) (Nat.zero_le _) [.int (x4), .int (x1), .int (x2)] [] (m_X2_place _ _ _ _ _ e_5) cs_X2_100 rfl ⟨by show _ ≤ _ + (_ + 1); omega, by show _ ≤ _ + 40 * (_ + 1); omega⟩ 1 rfl rfl rfl (Nat.le_of_ble_eq_true rfl) dX2_fewestOfAll_59 rfl ?_
            refine ww_iload_n hx hb dX2_fewestOfAll_62 rfl 3 rfl ?_
            refine ww_aload_n hx hb dX2_fewestOfAll_63 rfl 0 rfl ?_
            refine ww_iload_n hx hb dX2_fewestOfAll_64 rfl 1 rfl ?_
            refine ww_iconst (v := 1) hx hb dX2_fewestOfAll_65 (by decide) ?_
            refine ww_iadd hx hb dX2_fewestOfAll_66 ?_
            refine ww_iload_n hx hb dX2_fewestOfAll_67 rfl 2 rfl ?_
            refine ww_iload hx hb dX2_fewestOfAll_68 4 rfl ?_
            refine ww_iconst (v := 1) hx hb dX2_fewestOfAll_70 (by decide) ?_
            refine ww_callN (ws1 := WC q cA σ_5) (st1 := [.int (X4_with x2 x4 (1 : Int32)), .int (x1 + (1 : Int32)), .ref (q 1), .int (x3)]) hx hb hml hown hts hK hN hA (hDD _) (Nat.zero_le _) (Nat.zero_le _) [.int (x2), .int (x4), .int ((1 : Int32))] [.int (x1 + (1 : Int32)), .ref (q 1), .int (x3)] (m_X4_with σ_5 x2 x4 (1 : Int32)) cs_X2_73 rfl ⟨by show _ ≤ _ + (_ + 1); omega, by show _ ≤ _ + 40 * (_ + 1); omega⟩ rfl (Nat.le_of_ble_eq_true rfl) dX2_fewestOfAll_71 rfl ?_
            obtain ⟨r_6, σ_6, e_6, h⟩ := ob2 h
            refine ww_callS (ws1 := WC q cA σ_6) (st1 := [.int (r_6), .int (x3)]) hx hb hml hown hts hK hN hA (hDD _) (Nat.zero_le _) (Nat.zero_le _) [.ref (q 1), .int (x1 + (1 : Int32)), .int (X4_with x2 x4 (1 : Int32))] [.int (x3)] (hrec _ _ _ _ _ e_6) cs_X2_46 rfl ⟨by show _ ≤ _ + (_ + 1); omega, by show _ ≤ _ + 40 * (_ + 1); omega⟩ rfl (Nat.le_of_ble_eq_true rfl) dX2_fewestOfAll_74 rfl ?_
            refine ww_min hx hb hml hown hts (Nat.zero_le _) (Nat.zero_le _) kw_246 kw_222 kw_71 kw_223 ⟨Nat.le_of_ble_eq_true rfl, Nat.le_of_ble_eq_true rfl⟩ dX2_fewestOfAll_77 ?_
            refine ww_istore_n (i := 3) (lv1 := [(0, .ref (q 1)), (1, .int (x1)), (2, .int (x2)), (3, .int (imin x3 r_6)), (4, .int (x4))]) hx hb dX2_fewestOfAll_80 rfl (by decide) [1, 2, 3, 0, 4] rfl ?_
            exact ww_sub (lv1 := [(0, .ref (q 1)), (1, .int (x1)), (2, .int (x2)), (3, .int (imin x3 r_6)), (4, .int (x4))]) [0, 1, 2, 3, 4] rfl (bk81 _ _ _ _ _ h)
    have bk17 : ∀ (τ : SS) (x1 : Int32), X2_fewestOfAll_b17 (X2_fewestOfAll d) τ x1 = some (r, σ1) → WW p l e (rmc (4 + (d + 1)) (160 + 40 * (d + 1)) 0 0) s m args below meth c D vwCl (va_A (WC q cA σ) s.heap.size) 5 0 0 (MQ below (qcW D vwCl (WC q cA σ) (WC q cA σ1) (some (.int r)) s.heap.size) args s 0 0 (va_A (WC q cA σ) s.heap.size)) (WC q cA τ) 17 [(0, .ref (q 1)), (1, .int (x1))] [] := by
      intro τ x1 h
      unfold X2_fewestOfAll_b17 at h
      refine ww_aload_n hx hb dX2_fewestOfAll_17 rfl 0 rfl ?_
      refine ww_iload_n hx hb dX2_fewestOfAll_18 rfl 1 rfl ?_
      refine ww_callV (ws1 := WC q cA τ) (st1 := [.int (X2_daysUpTo τ x1)]) hx hb hml hown hts hK hN hA (hDD _) (Nat.zero_le _) (Nat.zero_le _) [.int (x1)] [] (m_X2_daysUpTo τ x1) cs_X2_107 rfl ⟨by show _ ≤ _ + (_ + 1); omega, by show _ ≤ _ + 40 * (_ + 1); omega⟩ 1 rfl rfl rfl (Nat.le_of_ble_eq_true rfl) dX2_fewestOfAll_19 rfl ?_
      obtain ⟨rfl, rfl⟩ := os2 h
      exact ww_iret hx hb hr hlk rfl dX2_fewestOfAll_22
    refine ww_sub (lv1 := [(0, .ref (q 1)), (1, .int (x1)), (2, .int (x2))]) [0, 1, 2] rfl ?_
    refine ww_iload_n hx hb dX2_fewestOfAll_0 rfl 2 rfl ?_
    refine ww_aload_n hx hb dX2_fewestOfAll_1 rfl 0 rfl ?_
    refine ww_get (C := RX2) (T := TX2) (N := 8) hx hb hown hts hK inA2 1 rfl rfl 0 (by decide) kw_66 rfl rfl dX2_fewestOfAll_2 ?_
    refine ww_callV (ws1 := WC q cA σ) (st1 := [.int (X3_everyScene σ), .int (x2)]) hx hb hml hown hts hK hN hA (hDD _) (Nat.zero_le _) (Nat.zero_le _) [] [.int (x2)] (m_X3_everyScene σ) cs_X2_90 rfl ⟨by show _ ≤ _ + (_ + 1); omega, by show _ ≤ _ + 40 * (_ + 1); omega⟩ 2 rfl rfl rfl (Nat.le_of_ble_eq_true rfl) dX2_fewestOfAll_5 rfl ?_
    refine ww_eq2 (tgt := 17) hx hb dX2_fewestOfAll_8 (by decide) (fun c_1 => ?_) (fun c_1 => ?_)
    · replace h := it_p c_1 h
      exact ww_sub (lv1 := [(0, .ref (q 1)), (1, .int (x1))]) [0, 1] rfl (bk17 _ _ h)
    · replace h := it_n c_1 h
      refine ww_iload_n hx hb dX2_fewestOfAll_11 rfl 1 rfl ?_
      refine ww_bipush (v := 8) hx hb dX2_fewestOfAll_12 (by decide) ?_
      refine ww_lt2 (tgt := 23) hx hb dX2_fewestOfAll_14 (by decide) (fun c_2 => ?_) (fun c_2 => ?_)
      · replace h := it_p c_2 h
        refine ww_bipush (v := 9) hx hb dX2_fewestOfAll_23 (by decide) ?_
        refine ww_istore_n (i := 3) (lv1 := [(0, .ref (q 1)), (1, .int (x1)), (2, .int (x2)), (3, .int ((9 : Int32)))]) hx hb dX2_fewestOfAll_25 rfl (by decide) [1, 2, 3, 0] rfl ?_
        refine ww_iconst (v := 0) hx hb dX2_fewestOfAll_26 (by decide) ?_
        refine ww_istore (i := 4) (lv1 := [(0, .ref (q 1)), (1, .int (x1)), (2, .int (x2)), (3, .int ((9 : Int32))), (4, .int ((0 : Int32)))]) hx hb dX2_fewestOfAll_27 (by decide) [1, 2, 3, 4, 0] rfl ?_
        exact ww_sub (lv1 := [(0, .ref (q 1)), (1, .int (x1)), (2, .int (x2)), (3, .int ((9 : Int32))), (4, .int ((0 : Int32)))]) [0, 1, 2, 3, 4] rfl (lp29 _ _ _ _ _ _ h)
      · replace h := it_n c_2 h
        exact ww_sub (lv1 := [(0, .ref (q 1)), (1, .int (x1))]) [0, 1] rfl (bk17 _ _ h)
set_option maxHeartbeats 4000000 in
set_option maxRecDepth 100000 in
theorem m_X2_fewestDays (σ : SS) (r : Int32) (σ1 : SS) (h : X2_fewestDays σ = some (r, σ1)) : Ct l yX2_fewestDays cX2_fewestDays 1 (some .int) 21 840 D vwCl [(cA, .int)] (WC q cA σ) (WC q cA σ1) [.ref (q 1)] (some (.int r)) := by
  refine ct_of (by decide +kernel) (Nat.le_of_ble_eq_true rfl) ?_
  intro p e s m args below meth c hx hb hr hlk hml hown hts hK hD hN hA
  have hown : s.vm.findClass RX2 = some m.cls := hown
  have hDD : ∀ τ : SS, va_D (va_A (WC q cA σ) s.heap.size) (WC q cA τ) := fun τ => hD.adr rfl
  unfold X2_fewestDays at h
  refine ww_sub (lv1 := [(0, .ref (q 1))]) [0] rfl ?_
  refine ww_aload_n hx hb dX2_fewestDays_0 rfl 0 rfl ?_
  refine ww_iconst (v := 0) hx hb dX2_fewestDays_1 (by decide) ?_
  refine ww_aload_n hx hb dX2_fewestDays_2 rfl 0 rfl ?_
  refine ww_get (C := RX2) (T := TX2) (N := 8) hx hb hown hts hK inA2 1 rfl rfl 0 (by decide) kw_66 rfl rfl dX2_fewestDays_3 ?_
  refine ww_get (C := RX3) (T := TX3) (N := 9) hx hb hown hts hK inA3 2 rfl rfl 6 (by decide) kw_140 rfl rfl dX2_fewestDays_6 ?_
  obtain ⟨r_1, σ_1, e_1, h⟩ := ob2 h
  refine ww_callS (ws1 := WC q cA σ_1) (st1 := [.int (r_1)]) hx hb hml hown hts hK hN hA (hDD _) (Nat.zero_le _) (Nat.zero_le _) [.ref (q 1), .int ((0 : Int32)), .int (σ 2 6)] [] (m_X2_fewestOfAll 16 _ _ _ _ _ e_1) cs_X2_46 rfl (by decide) rfl (Nat.le_of_ble_eq_true rfl) dX2_fewestDays_9 rfl ?_
  obtain ⟨rfl, rfl⟩ := os2 h
  exact ww_iret hx hb hr hlk rfl dX2_fewestDays_12
set_option maxHeartbeats 4000000 in
set_option maxRecDepth 100000 in
theorem m_X4_fee (σ : SS) : Ct l yX4_fee cX4_fee 1 (some .int) 0 0 D vwCl [(cA, .int)] (WC q cA σ) (WC q cA σ) [.ref (q 0)] (some (.int (X4_fee σ))) := by
  refine ct_of (by decide +kernel) (Nat.le_of_ble_eq_true rfl) ?_
  intro p e s m args below meth c hx hb hr hlk hml hown hts hK hD hN hA
  have hown : s.vm.findClass RX4 = some m.cls := hown
  have hDD : ∀ τ : SS, va_D (va_A (WC q cA σ) s.heap.size) (WC q cA τ) := fun τ => hD.adr rfl
  obtain ⟨r, h⟩ : ∃ r, X4_fee σ = r := ⟨_, rfl⟩
  rw [h]
  unfold X4_fee at h
  refine ww_sub (lv1 := [(0, .ref (q 0))]) [0] rfl ?_
  refine ww_aload_n hx hb dX4_fee_0 rfl 0 rfl ?_
  refine ww_get (C := RX4) (T := TX4) (N := 7) hx hb hown hts hK inA4 0 rfl rfl 2 (by decide) kw_181 rfl rfl dX4_fee_1 ?_
  refine ww_get (C := RX0) (T := TX0) (N := 4) hx hb hown hts hK inA0 3 rfl rfl 1 (by decide) kw_183 rfl rfl dX4_fee_4 ?_
  obtain rfl := h
  exact ww_iret hx hb hr hlk rfl dX4_fee_7
set_option maxHeartbeats 4000000 in
set_option maxRecDepth 100000 in
theorem m_X4_costs (σ : SS) : Ct l yX4_costs cX4_costs 1 (some .int) 0 0 D vwCl [(cA, .int)] (WC q cA σ) (WC q cA σ) [.ref (q 0)] (some (.int (X4_costs σ))) := by
  refine ct_of (by decide +kernel) (Nat.le_of_ble_eq_true rfl) ?_
  intro p e s m args below meth c hx hb hr hlk hml hown hts hK hD hN hA
  have hown : s.vm.findClass RX4 = some m.cls := hown
  have hDD : ∀ τ : SS, va_D (va_A (WC q cA σ) s.heap.size) (WC q cA τ) := fun τ => hD.adr rfl
  obtain ⟨r, h⟩ : ∃ r, X4_costs σ = r := ⟨_, rfl⟩
  rw [h]
  unfold X4_costs at h
  refine ww_sub (lv1 := [(0, .ref (q 0))]) [0] rfl ?_
  refine ww_aload_n hx hb dX4_costs_0 rfl 0 rfl ?_
  refine ww_get (C := RX4) (T := TX4) (N := 7) hx hb hown hts hK inA4 0 rfl rfl 2 (by decide) kw_181 rfl rfl dX4_costs_1 ?_
  refine ww_get (C := RX0) (T := TX0) (N := 4) hx hb hown hts hK inA0 3 rfl rfl 2 (by decide) kw_254 rfl rfl dX4_costs_4 ?_
  obtain rfl := h
  exact ww_iret hx hb hr hlk rfl dX4_costs_7
set_option maxHeartbeats 4000000 in
set_option maxRecDepth 100000 in
theorem m_X4_open (σ : SS) : Ct l yX4_open cX4_open 1 (some .int) 0 0 D vwCl [(cA, .int)] (WC q cA σ) (WC q cA σ) [.ref (q 0)] (some (.int (X4_open σ))) := by
  refine ct_of (by decide +kernel) (Nat.le_of_ble_eq_true rfl) ?_
  intro p e s m args below meth c hx hb hr hlk hml hown hts hK hD hN hA
  have hown : s.vm.findClass RX4 = some m.cls := hown
  have hDD : ∀ τ : SS, va_D (va_A (WC q cA σ) s.heap.size) (WC q cA τ) := fun τ => hD.adr rfl
  obtain ⟨r, h⟩ : ∃ r, X4_open σ = r := ⟨_, rfl⟩
  rw [h]
  unfold X4_open at h
  refine ww_sub (lv1 := [(0, .ref (q 0))]) [0] rfl ?_
  refine ww_aload_n hx hb dX4_open_0 rfl 0 rfl ?_
  refine ww_get (C := RX4) (T := TX4) (N := 7) hx hb hown hts hK inA4 0 rfl rfl 2 (by decide) kw_181 rfl rfl dX4_open_1 ?_
  refine ww_get (C := RX0) (T := TX0) (N := 4) hx hb hown hts hK inA0 3 rfl rfl 3 (by decide) kw_255 rfl rfl dX4_open_4 ?_
  obtain rfl := h
  exact ww_iret hx hb hr hlk rfl dX4_open_7
set_option maxHeartbeats 4000000 in
set_option maxRecDepth 100000 in
theorem m_X4_house (σ : SS) : Ct l yX4_house cX4_house 1 (some .int) 0 0 D vwCl [(cA, .int)] (WC q cA σ) (WC q cA σ) [.ref (q 0)] (some (.int (X4_house σ))) := by
  refine ct_of (by decide +kernel) (Nat.le_of_ble_eq_true rfl) ?_
  intro p e s m args below meth c hx hb hr hlk hml hown hts hK hD hN hA
  have hown : s.vm.findClass RX4 = some m.cls := hown
  have hDD : ∀ τ : SS, va_D (va_A (WC q cA σ) s.heap.size) (WC q cA τ) := fun τ => hD.adr rfl
  obtain ⟨r, h⟩ : ∃ r, X4_house σ = r := ⟨_, rfl⟩
  rw [h]
  unfold X4_house at h
  refine ww_sub (lv1 := [(0, .ref (q 0))]) [0] rfl ?_
  refine ww_aload_n hx hb dX4_house_0 rfl 0 rfl ?_
  refine ww_get (C := RX4) (T := TX4) (N := 7) hx hb hown hts hK inA4 0 rfl rfl 3 (by decide) kw_201 rfl rfl dX4_house_1 ?_
  refine ww_get (C := RX1) (T := TX1) (N := 10) hx hb hown hts hK inA1 4 rfl rfl 9 (by decide) kw_258 rfl rfl dX4_house_4 ?_
  obtain rfl := h
  exact ww_iret hx hb hr hlk rfl dX4_house_7
end
end
section
theorem zz_tiny : True := trivial
end
