/-! Methods that may throw. -/
def ZZ (A : Nat → Prop) (U : State) : Prop := vx_Zq Bundle.tN "UNASSIGNED_STACK" Bundle.steD A U U.heap ∧ vx_Zq Bundle.tN "SUPPRESSED_SENTINEL" Bundle.listD A U U.heap
def pxW (D : va_G) (cl : List vw_C) (tys : List (ClassId × FieldType)) (ws : va_W) (As : List Value) (sz : Nat) : Array Value → State → Prop := va_Pc As (fun U => U.heap.size = sz ∧ va_P D cl ws U.heap ∧ va_K D cl tys U ∧ va_D (fun _ => True) ws ∧ NWs U ∧ ZZ (va_A ws sz) U)
def qxW (D : va_G) (cl : List vw_C) (ws ws1 : va_W) (r : Int32 ⊕ String) (sz : Nat) : Array Value → State → Outcome → State → Prop := fun _ st oc t => ((∃ v, r = .inl v ∧ oc = .returned (some (.int v))) ∧ va_P D cl ws1 t.heap) ∧ va_F (va_A ws sz) st t
def xcW (D : va_G) (cl : List vw_C) (ws ws1 : va_W) (r : Int32 ⊕ String) (sz : Nat) : String → State → State → Prop := fun E st t => r = .inr E ∧ va_P D cl ws1 t.heap ∧ va_F (va_A ws sz) st t
/-- the method y, in a world ws with the arguments As: it returns v (r = inl v) or throws an E (r = inr E), the world is ws1 -/
def CtX (l : Launch) (y : MethodName) (cc : ByteArray) (maxL : Nat) (ret : Option FieldType) (fr lo : Nat) (D : va_G) (cl : List vw_C) (tys : List (ClassId × FieldType)) (ws ws1 : va_W) (As : List Value) (r : Int32 ⊕ String) : Prop :=
  ∀ sz : Nat, vx_Met l y (.code y cc maxL ret :: wALL) (rmc fr lo 1 6) (pxW D cl tys ws As sz) (qxW D cl ws ws1 r sz) (xcW D cl ws ws1 r sz) 1 6 (va_A ws sz)
theorem ctx_of {l : Launch} {y : MethodName} {cc : ByteArray} {maxL : Nat} {ret : Option FieldType} {fr lo : Nat} {D : va_G} {cl : List vw_C} {tys : List (ClassId × FieldType)} {ws ws1 : va_W} {As : List Value} {r : Int32 ⊕ String} (hy : plainName y.cls = true) (hlen : (lg_sl As).length ≤ maxL)
    (body : ∀ (p : Program) (e : Env) (s : State) (m : MethodId) (args : Array Value) (below : List Frame) (meth : Method) (c : Code), p.tables.exec = Jvm.exec → c.code = cc → meth.sig.returnType = ret → meth.locks = false → c.maxLocals = maxL → s.vm.findClass y.cls = some m.cls → (∀ w ∈ wALL, w.before args s = true) → va_K D cl tys s → va_D (va_A ws s.heap.size) ws → NWs s → (∀ q, s.heap.size ≤ q → va_A ws s.heap.size q) → ZZ (va_A ws s.heap.size) s → (∀ x ∈ c.exceptionTable.toList, False) →
      WW p l e (rmc fr lo 1 6) s m args below meth c D cl (va_A ws s.heap.size) maxL 0 0 (vx_MQ below (qxW D cl ws ws1 r s.heap.size) (xcW D cl ws ws1 r s.heap.size) args s 1 6 (va_A ws s.heap.size)) ws 0 (lv_args 0 As) []) : CtX l y cc maxL ret fr lo D cl tys ws ws1 As r := by
  intro sz
  refine vx_ofW (cc := cc) (maxL := maxL) (ret := ret) hy rfl ?_
  intro p e s m args below meth c s₁ B hml hno hv
  obtain ⟨rfl, hsz, hP, hK, hD0, hN, hZ⟩ := hv
  have hts := atoms_spec (ws := .code y cc maxL ret :: wALL) B.pre
  subst hsz
  have hl := lv_entry As (n := maxL) hlen
  rw [lg_entry_eq]
  exact body p e s m As.toArray below meth c B.exec B.bytes B.returns B.notSynchronized hml (findClass_of_methodNamed B.named) (fun w hw => hts w (List.mem_cons_of_mem _ hw)) hK hD0.self hN (fun q h => Or.inr h) hZ hno s.heap [] _ hP va_S.rf hl
abbrev exN : List String := ["java/lang/RuntimeException", "java/lang/Exception"]
def exB (E : String) : List Cond := [.castable E E, .declares ⟨"java/lang/RuntimeException", "<init>", "()V"⟩, .declares ⟨"java/lang/Exception", "<init>", "()V"⟩, .declares ⟨"java/lang/Throwable", "<init>", "()V"⟩]
/-- what a throw owes to the tables -/
def ekW (own : String) (ik ic : Nat) (E : String) : Prop := (∀ w ∈ (vx_at0 own ic E exN).filter goodWord, w ∈ wALL) ∧ (∀ w ∈ (vx_at0 own ic E exN).filter (fun w => !goodWord w), w ∈ exB E) ∧ (∀ w ∈ Cond.classLink own ik E :: Cond.initialized E :: vx_at0 own ic E exN, vx_ot w = true) ∧ Bundle.fit E = true ∧ E ∈ castL
theorem ek_of {own : String} {ik ic : Nat} {E : String} (h1 : ∀ w ∈ (vx_at0 own ic E exN).filter goodWord, w ∈ lw_tbl) (h2 : ∀ w ∈ (vx_at0 own ic E exN).filter (fun w => !goodWord w), w ∈ exB E) (h3 : ∀ w ∈ Cond.classLink own ik E :: Cond.initialized E :: vx_at0 own ic E exN, vx_ot w = true) (h4 : Bundle.fit E = true) (h5 : E ∈ castL) : ekW own ik ic E :=
  ⟨fun w hw => List.mem_filter.mpr ⟨h1 w hw, (List.mem_filter.mp hw).2⟩, h2, h3, h4, h5⟩
theorem ek_54_IllegalArgumentException : ekW RX4 52 54 "java/lang/IllegalArgumentException" := ek_of (by decide +kernel) (by decide +kernel) (by decide +kernel) (by decide +kernel) (by decide +kernel)
theorem ek_60_IllegalStateException : ekW RX4 58 60 "java/lang/IllegalStateException" := ek_of (by decide +kernel) (by decide +kernel) (by decide +kernel) (by decide +kernel) (by decide +kernel)
theorem ek_70_IndexOutOfBoundsException : ekW RX4 68 70 "java/lang/IndexOutOfBoundsException" := ek_of (by decide +kernel) (by decide +kernel) (by decide +kernel) (by decide +kernel) (by decide +kernel)
section XRS
variable {p : Program} {l : Launch} {e : Env} {R : Room} {s : State} {m : MethodId} {args : Array Value} {below : List Frame} {meth : Method} {c : Code}
variable {D : va_G} {cl : List vw_C} {tys : List (ClassId × FieldType)} {nL : Nat} {ws ws0 : va_W} {cc : ByteArray} {pc : Nat} {lv : List (Nat × Value)} {st : List Value}
theorem ww_xiret (hx : p.tables.exec = Jvm.exec) (hb : c.code = cc) {v : Int32} {r : Int32 ⊕ String} (hr : meth.sig.returnType = some .int) (hlk : meth.locks = false) (hv : Sum.inl v = r) (hd : decode cc pc = .ok (.ireturn, 1)) : WW p l e R s m args below meth c D cl (va_A ws0 s.heap.size) nL 0 0 (vx_MQ below (qxW D cl ws0 ws r s.heap.size) (xcW D cl ws0 ws r s.heap.size) args s 1 6 (va_A ws0 s.heap.size)) ws pc lv [.int v] :=
  fun _ _ _ hP hS _ => W.widen (k := 1) (n := 6) (Nat.zero_le _) (Nat.zero_le _) (vx_ret (W.iret hx hb hr (fun t ht _ => ⟨⟨⟨v, hv.symm, rfl⟩, by rw [ht]; exact hP⟩, hS.F ht⟩) hS.2.2 hd hlk))
theorem ww_xzret (hx : p.tables.exec = Jvm.exec) (hb : c.code = cc) {v : Int32} {r : Int32 ⊕ String} (hr : meth.sig.returnType = some .boolean) (hlk : meth.locks = false) (hz : v &&& 1 = v) (hv : Sum.inl v = r) (hd : decode cc pc = .ok (.ireturn, 1)) : WW p l e R s m args below meth c D cl (va_A ws0 s.heap.size) nL 0 0 (vx_MQ below (qxW D cl ws0 ws r s.heap.size) (xcW D cl ws0 ws r s.heap.size) args s 1 6 (va_A ws0 s.heap.size)) ws pc lv [.int v] :=
  fun _ _ _ hP hS _ => W.widen (k := 1) (n := 6) (Nat.zero_le _) (Nat.zero_le _) (vx_ret (W.zret hx hb hr (isZ_narrow hz) (fun t ht _ => ⟨⟨⟨v, hv.symm, rfl⟩, by rw [ht]; exact hP⟩, hS.F ht⟩) hS.2.2 hd hlk))
theorem ww_throw {ik ic : Nat} (hx : p.tables.exec = Jvm.exec) (hb : c.code = cc) (hl0 : l.stackTraces = false) (hml : c.maxLocals = nL) {own E : String} (hown : s.vm.findClass own = some m.cls) (hts : ∀ w ∈ wALL, w.before args s = true) (hN : NWs s) (hZ : ZZ (va_A ws0 s.heap.size) s) (hlk : meth.locks = false) (hno : ∀ x ∈ c.exceptionTable.toList, False)
    (k1 : Cond.classLink own ik E ∈ wALL) (k2 : Cond.initialized E ∈ wALL) (hek : ekW own ik ic E) (d0 : decode cc pc = .ok (.new ik, 3)) (d3 : decode cc (pc + 3) = .ok (.dup, 1)) (d4 : decode cc (pc + 4) = .ok (.invokespecial ic, 3)) (d7 : decode cc (pc + 7) = .ok (.athrow, 1)) (hR : 5 < R.frames ∧ (st.map fun v => v.category).sum + 81 ≤ R.locals ∧ 1 ≤ R.cells ∧ 6 ≤ R.slots) : WW p l e R s m args below meth c D cl (va_A ws0 s.heap.size) nL 0 0 (vx_MQ below (qxW D cl ws0 ws (.inr E) s.heap.size) (xcW D cl ws0 ws (.inr E) s.heap.size) args s 1 6 (va_A ws0 s.heap.size)) ws pc lv st := by
  intro H locs ls hP hS hl
  obtain ⟨q1, q2, q3, q4, q5⟩ := hek
  refine vx_throw0 (names := exN) hx hb hl0 hown q4 (by decide +kernel) (hts _ k1) (hts _ k2) (vx_hat (fun w hw => hts _ (q1 w hw)) q2 (vx_c (va_Nw.use rfl (hN.2.1 E q5)) (vx_c (va_Nw.use rfl (hN.2.2.2 _ (List.mem_of_getElem? (i := 0) rfl))) (vx_c (va_Nw.use rfl (hN.2.2.2 _ (List.mem_of_getElem? (i := 1) rfl))) (vx_c (va_Nw.use rfl (hN.2.2.2 _ (List.mem_of_getElem? (i := 2) rfl))) vx_n))))) q3 hZ.1 hZ.2 hS (hl.1.trans hml.symm) d0 d3 d4 d7 (fun x h => (hno x h).elim) hR.1 hR.2.1 ?_ ?_ hlk ?_ hS.2.2 (Nat.le_refl _) (Nat.le_refl _)
  · rw [Nat.zero_add]; exact hR.2.2.1
  · rw [Nat.zero_add]; exact hR.2.2.2
  · intro t _ hsz hq
    refine ⟨rfl, hP.kept (fun k q hk => hq q.1 (hP k q hk).lt), Nat.le_trans hS.1 hsz, fun q h1 h2 => ?_⟩
    rw [hq q (Nat.lt_of_lt_of_le h1 hS.1)]
    exact hS.2.1 q h1 h2
end XRS
section
variable {l : Launch} {D : va_G} {q : Nat → Nat} {cA : ClassId}
set_option maxHeartbeats 4000000 in
set_option maxRecDepth 100000 in
theorem m_X4_addScene (hl0 : l.stackTraces = false) (σ : SS) (x1 x2 x3 x4 x5 : Int32) (r : Int32 ⊕ String) (σ1 : SS) (h : X4_addScene σ x1 x2 x3 x4 x5 = some (r, σ1)) : CtX l yX4_addScene cX4_addScene 6 (some .int) 7 280 D vwCl [(cA, .int)] (WC q cA σ) (WC q cA σ1) [.ref (q 0), .int (x1), .int (x2), .int (x3), .int (x4), .int (x5)] r := by
  refine ctx_of (by decide +kernel) (Nat.le_of_ble_eq_true rfl) ?_
  intro p e s m args below meth c hx hb hr hlk hml hown hts hK hD hN hA hZ hno
  have hown : s.vm.findClass RX4 = some m.cls := hown
  have hDD : ∀ τ : SS, va_D (va_A (WC q cA σ) s.heap.size) (WC q cA τ) := fun τ => hD.adr rfl
  unfold X4_addScene at h
  have bk54 : ∀ (τ : SS) , X4_addScene_b54 τ = some (r, σ1) → WW p l e (rmc 7 280 1 6) s m args below meth c D vwCl (va_A (WC q cA σ) s.heap.size) 6 0 0 (vx_MQ below (qxW D vwCl (WC q cA σ) (WC q cA σ1) r s.heap.size) (xcW D vwCl (WC q cA σ) (WC q cA σ1) r s.heap.size) args s 1 6 (va_A (WC q cA σ) s.heap.size)) (WC q cA τ) 54 [] [] := by
    intro τ h
    unfold X4_addScene_b54 at h
    obtain ⟨rfl, rfl⟩ := os2 h
    exact ww_throw (ik := 52) (ic := 54) hx hb hl0 hml hown hts hN hZ hlk hno kw_32 kw_33 ek_54_IllegalArgumentException dX4_addScene_54 dX4_addScene_57 dX4_addScene_58 dX4_addScene_61 (by decide)
  refine ww_sub (lv1 := [(0, .ref (q 0)), (1, .int (x1)), (2, .int (x2)), (3, .int (x3)), (4, .int (x4)), (5, .int (x5))]) [0, 1, 2, 3, 4, 5] rfl ?_
  refine ww_iload_n hx hb dX4_addScene_0 rfl 1 rfl ?_
  refine ww_iconst (v := 1) hx hb dX4_addScene_1 (by decide) ?_
  refine ww_bipush (v := 6) hx hb dX4_addScene_2 (by decide) ?_
  refine ww_callS (ws1 := WC q cA σ) (st1 := [.int (X4_isWithin x1 (1 : Int32) (6 : Int32))]) hx hb hml hown hts hK hN hA (hDD _) (Nat.zero_le _) (Nat.zero_le _) [.int (x1), .int ((1 : Int32)), .int ((6 : Int32))] [] (m_X4_isWithin σ x1 (1 : Int32) (6 : Int32)) cs_X4_42 rfl (by decide) rfl (Nat.le_of_ble_eq_true rfl) dX4_addScene_4 rfl ?_
  refine ww_eq0 (tgt := 54) hx hb dX4_addScene_7 (by decide) (fun c_1 => ?_) (fun c_1 => ?_)
  · replace h := it_p c_1 h
    exact ww_sub (lv1 := []) [] rfl (bk54 _ h)
  · replace h := it_n c_1 h
    refine ww_iload_n hx hb dX4_addScene_10 rfl 2 rfl ?_
    refine ww_iconst (v := 0) hx hb dX4_addScene_11 (by decide) ?_
    refine ww_iconst (v := 3) hx hb dX4_addScene_12 (by decide) ?_
    refine ww_callS (ws1 := WC q cA σ) (st1 := [.int (X4_isWithin x2 (0 : Int32) (3 : Int32))]) hx hb hml hown hts hK hN hA (hDD _) (Nat.zero_le _) (Nat.zero_le _) [.int (x2), .int ((0 : Int32)), .int ((3 : Int32))] [] (m_X4_isWithin σ x2 (0 : Int32) (3 : Int32)) cs_X4_42 rfl (by decide) rfl (Nat.le_of_ble_eq_true rfl) dX4_addScene_13 rfl ?_
    refine ww_eq0 (tgt := 54) hx hb dX4_addScene_16 (by decide) (fun c_2 => ?_) (fun c_2 => ?_)
    · replace h := it_p c_2 h
      exact ww_sub (lv1 := []) [] rfl (bk54 _ h)
    · replace h := it_n c_2 h
      refine ww_iload_n hx hb dX4_addScene_19 rfl 3 rfl ?_
      refine ww_iconst (v := 0) hx hb dX4_addScene_20 (by decide) ?_
      refine ww_bipush (v := 63) hx hb dX4_addScene_21 (by decide) ?_
      refine ww_callS (ws1 := WC q cA σ) (st1 := [.int (X4_isWithin x3 (0 : Int32) (63 : Int32))]) hx hb hml hown hts hK hN hA (hDD _) (Nat.zero_le _) (Nat.zero_le _) [.int (x3), .int ((0 : Int32)), .int ((63 : Int32))] [] (m_X4_isWithin σ x3 (0 : Int32) (63 : Int32)) cs_X4_42 rfl (by decide) rfl (Nat.le_of_ble_eq_true rfl) dX4_addScene_23 rfl ?_
      refine ww_eq0 (tgt := 54) hx hb dX4_addScene_26 (by decide) (fun c_3 => ?_) (fun c_3 => ?_)
      · replace h := it_p c_3 h
        exact ww_sub (lv1 := []) [] rfl (bk54 _ h)
      · replace h := it_n c_3 h
        refine ww_iload hx hb dX4_addScene_29 4 rfl ?_
        refine ww_iconst (v := 0) hx hb dX4_addScene_31 (by decide) ?_
        refine ww_iconst (v := 2) hx hb dX4_addScene_32 (by decide) ?_
        refine ww_callS (ws1 := WC q cA σ) (st1 := [.int (X4_isWithin x4 (0 : Int32) (2 : Int32))]) hx hb hml hown hts hK hN hA (hDD _) (Nat.zero_le _) (Nat.zero_le _) [.int (x4), .int ((0 : Int32)), .int ((2 : Int32))] [] (m_X4_isWithin σ x4 (0 : Int32) (2 : Int32)) cs_X4_42 rfl (by decide) rfl (Nat.le_of_ble_eq_true rfl) dX4_addScene_33 rfl ?_
        refine ww_eq0 (tgt := 54) hx hb dX4_addScene_36 (by decide) (fun c_4 => ?_) (fun c_4 => ?_)
        · replace h := it_p c_4 h
          exact ww_sub (lv1 := []) [] rfl (bk54 _ h)
        · replace h := it_n c_4 h
          refine ww_iload hx hb dX4_addScene_39 5 rfl ?_
          refine ww_aload_n hx hb dX4_addScene_41 rfl 0 rfl ?_
          refine ww_get (C := RX4) (T := TX4) (N := 7) hx hb hown hts hK inA4 0 rfl rfl 0 (by decide) kw_13 rfl rfl dX4_addScene_42 ?_
          refine ww_callV (ws1 := WC q cA σ) (st1 := [.int (X3_everyScene σ), .int (x5)]) hx hb hml hown hts hK hN hA (hDD _) (Nat.zero_le _) (Nat.zero_le _) [] [.int (x5)] (m_X3_everyScene σ) cs_X4_46 rfl (by decide) 2 rfl rfl rfl (Nat.le_of_ble_eq_true rfl) dX4_addScene_45 rfl ?_
          refine ww_iconst (v := -1) hx hb dX4_addScene_48 (by decide) ?_
          refine ww_ixor hx hb dX4_addScene_49 ?_
          refine ww_iand hx hb dX4_addScene_50 ?_
          refine ww_eq0 (tgt := 62) hx hb dX4_addScene_51 (by decide) (fun c_5 => ?_) (fun c_5 => ?_)
          · replace h := it_p c_5 h
            refine ww_aload_n hx hb dX4_addScene_62 rfl 0 rfl ?_
            refine ww_get (C := RX4) (T := TX4) (N := 7) hx hb hown hts hK inA4 0 rfl rfl 0 (by decide) kw_13 rfl rfl dX4_addScene_63 ?_
            refine ww_get (C := RX3) (T := TX3) (N := 9) hx hb hown hts hK inA3 2 rfl rfl 5 (by decide) kw_19 rfl rfl dX4_addScene_66 ?_
            refine ww_bipush (v := 8) hx hb dX4_addScene_69 (by decide) ?_
            refine ww_lt2 (tgt := 82) hx hb dX4_addScene_71 (by decide) (fun c_6 => ?_) (fun c_6 => ?_)
            · replace h := it_p c_6 h
              refine ww_aload_n hx hb dX4_addScene_82 rfl 0 rfl ?_
              refine ww_get (C := RX4) (T := TX4) (N := 7) hx hb hown hts hK inA4 0 rfl rfl 1 (by decide) kw_20 rfl rfl dX4_addScene_83 ?_
              obtain ⟨σ_7, e_7, h⟩ := ob h
              refine ww_callV (ws1 := WC q cA σ_7) (st1 := []) hx hb hml hown hts hK hN hA (hDD _) (Nat.zero_le _) (Nat.zero_le _) [] [] (m_X2_forget _  _ e_7) cs_X4_61 rfl (by decide) 1 rfl rfl rfl (Nat.le_of_ble_eq_true rfl) dX4_addScene_86 rfl ?_
              refine ww_aload_n hx hb dX4_addScene_89 rfl 0 rfl ?_
              refine ww_get (C := RX4) (T := TX4) (N := 7) hx hb hown hts hK inA4 0 rfl rfl 0 (by decide) kw_13 rfl rfl dX4_addScene_90 ?_
              refine ww_iload_n hx hb dX4_addScene_93 rfl 1 rfl ?_
              refine ww_iload_n hx hb dX4_addScene_94 rfl 2 rfl ?_
              refine ww_iload_n hx hb dX4_addScene_95 rfl 3 rfl ?_
              refine ww_iload hx hb dX4_addScene_96 4 rfl ?_
              refine ww_iload hx hb dX4_addScene_98 5 rfl ?_
              obtain ⟨r_8, σ_8, e_8, h⟩ := ob2 h
              refine ww_callV (ws1 := WC q cA σ_8) (st1 := [.int (r_8)]) hx hb hml hown hts hK hN hA (hDD _) (Nat.zero_le _) (Nat.zero_le _) [.int (x1), .int (x2), .int (x3), .int (x4), .int (x5)] [] (m_X3_append _ _ _ _ _ _ _ _ e_8) cs_X4_64 rfl (by decide) 2 rfl rfl rfl (Nat.le_of_ble_eq_true rfl) dX4_addScene_100 rfl ?_
              obtain ⟨rfl, rfl⟩ := os2 h
              exact ww_xiret hx hb hr hlk rfl dX4_addScene_103
            · replace h := it_n c_6 h
              obtain ⟨rfl, rfl⟩ := os2 h
              exact ww_throw (ik := 58) (ic := 60) hx hb hl0 hml hown hts hN hZ hlk hno kw_30 kw_31 ek_60_IllegalStateException dX4_addScene_74 dX4_addScene_77 dX4_addScene_78 dX4_addScene_81 (by decide)
          · replace h := it_n c_5 h
            exact ww_sub (lv1 := []) [] rfl (bk54 _ h)
set_option maxHeartbeats 4000000 in
set_option maxRecDepth 100000 in
theorem m_X4_setOut (hl0 : l.stackTraces = false) (σ : SS) (x1 x2 : Int32) (r : Int32 ⊕ String) (σ1 : SS) (h : X4_setOut σ x1 x2 = some (r, σ1)) : CtX l yX4_setOut cX4_setOut 4 (some .boolean) 7 280 D vwCl [(cA, .int)] (WC q cA σ) (WC q cA σ1) [.ref (q 0), .int (x1), .int (x2)] r := by
  refine ctx_of (by decide +kernel) (Nat.le_of_ble_eq_true rfl) ?_
  intro p e s m args below meth c hx hb hr hlk hml hown hts hK hD hN hA hZ hno
  have hown : s.vm.findClass RX4 = some m.cls := hown
  have hDD : ∀ τ : SS, va_D (va_A (WC q cA σ) s.heap.size) (WC q cA τ) := fun τ => hD.adr rfl
  unfold X4_setOut at h
  refine ww_sub (lv1 := [(0, .ref (q 0)), (1, .int (x1)), (2, .int (x2))]) [0, 1, 2] rfl ?_
  refine ww_iload_n hx hb dX4_setOut_0 rfl 1 rfl ?_
  refine ww_iconst (v := 0) hx hb dX4_setOut_1 (by decide) ?_
  refine ww_iconst (v := 3) hx hb dX4_setOut_2 (by decide) ?_
  refine ww_callS (ws1 := WC q cA σ) (st1 := [.int (X4_isWithin x1 (0 : Int32) (3 : Int32))]) hx hb hml hown hts hK hN hA (hDD _) (Nat.zero_le _) (Nat.zero_le _) [.int (x1), .int ((0 : Int32)), .int ((3 : Int32))] [] (m_X4_isWithin σ x1 (0 : Int32) (3 : Int32)) cs_X4_42 rfl (by decide) rfl (Nat.le_of_ble_eq_true rfl) dX4_setOut_3 rfl ?_
  refine ww_ne0 (tgt := 17) hx hb dX4_setOut_6 (by decide) (fun c_1 => ?_) (fun c_1 => ?_)
  · replace h := it_n c_1 h
    refine ww_aload_n hx hb dX4_setOut_17 rfl 0 rfl ?_
    refine ww_get (C := RX4) (T := TX4) (N := 7) hx hb hown hts hK inA4 0 rfl rfl 0 (by decide) kw_13 rfl rfl dX4_setOut_18 ?_
    refine ww_get (C := RX3) (T := TX3) (N := 9) hx hb hown hts hK inA3 2 rfl rfl 7 (by decide) kw_34 rfl rfl dX4_setOut_21 ?_
    refine ww_iload_n hx hb dX4_setOut_24 rfl 1 rfl ?_
    refine ww_callS (ws1 := WC q cA σ) (st1 := [.int (X4_isIn (σ 2 7) x1)]) hx hb hml hown hts hK hN hA (hDD _) (Nat.zero_le _) (Nat.zero_le _) [.int (σ 2 7), .int (x1)] [] (m_X4_isIn σ (σ 2 7) x1) cs_X4_74 rfl (by decide) rfl (Nat.le_of_ble_eq_true rfl) dX4_setOut_25 rfl ?_
    refine ww_istore_n (i := 3) (lv1 := [(0, .ref (q 0)), (1, .int (x1)), (2, .int (x2)), (3, .int (X4_isIn (σ 2 7) x1))]) hx hb dX4_setOut_28 rfl (by decide) [1, 2, 3, 0] rfl ?_
    refine ww_aload_n hx hb dX4_setOut_29 rfl 0 rfl ?_
    refine ww_get (C := RX4) (T := TX4) (N := 7) hx hb hown hts hK inA4 0 rfl rfl 0 (by decide) kw_13 rfl rfl dX4_setOut_30 ?_
    refine ww_aload_n hx hb dX4_setOut_33 rfl 0 rfl ?_
    refine ww_get (C := RX4) (T := TX4) (N := 7) hx hb hown hts hK inA4 0 rfl rfl 0 (by decide) kw_13 rfl rfl dX4_setOut_34 ?_
    refine ww_get (C := RX3) (T := TX3) (N := 9) hx hb hown hts hK inA3 2 rfl rfl 7 (by decide) kw_34 rfl rfl dX4_setOut_37 ?_
    refine ww_iload_n hx hb dX4_setOut_40 rfl 1 rfl ?_
    refine ww_iload_n hx hb dX4_setOut_41 rfl 2 rfl ?_
    refine ww_callS (ws1 := WC q cA σ) (st1 := [.int (X4_with (σ 2 7) x1 x2), .ref (q 2)]) hx hb hml hown hts hK hN hA (hDD _) (Nat.zero_le _) (Nat.zero_le _) [.int (σ 2 7), .int (x1), .int (x2)] [.ref (q 2)] (m_X4_with σ (σ 2 7) x1 x2) cs_X4_78 rfl (by decide) rfl (Nat.le_of_ble_eq_true rfl) dX4_setOut_42 rfl ?_
    obtain ⟨σ_2, e_2, h⟩ := lt_e h
    refine ww_put (C := RX3) (T := TX3) (N := 9) (ty := .int) (ws1 := WC q cA (σ_2)) hx hb hown hts hK inA3 tyX3 tyX3_ok nmX3 (hDD _) 2 rfl rfl 7 (by decide) kw_34 rfl rfl rfl rfl rfl (Nat.le_of_ble_eq_true rfl) dX4_setOut_45 (e_2 ▸ rfl) ?_
    refine ww_iload_n hx hb dX4_setOut_48 rfl 3 rfl ?_
    obtain ⟨rfl, rfl⟩ := os2 h
    exact ww_xzret hx hb hr hlk (z_X4_isIn (σ 2 7) x1) rfl dX4_setOut_49
  · replace h := it_p c_1 h
    obtain ⟨rfl, rfl⟩ := os2 h
    exact ww_throw (ik := 68) (ic := 70) hx hb hl0 hml hown hts hN hZ hlk hno kw_41 kw_42 ek_70_IndexOutOfBoundsException dX4_setOut_9 dX4_setOut_12 dX4_setOut_13 dX4_setOut_16 (by decide)
set_option maxHeartbeats 4000000 in
set_option maxRecDepth 100000 in
theorem m_X4_setChild (hl0 : l.stackTraces = false) (σ : SS) (x1 x2 : Int32) (r : Int32 ⊕ String) (σ1 : SS) (h : X4_setChild σ x1 x2 = some (r, σ1)) : CtX l yX4_setChild cX4_setChild 4 (some .boolean) 7 280 D vwCl [(cA, .int)] (WC q cA σ) (WC q cA σ1) [.ref (q 0), .int (x1), .int (x2)] r := by
  refine ctx_of (by decide +kernel) (Nat.le_of_ble_eq_true rfl) ?_
  intro p e s m args below meth c hx hb hr hlk hml hown hts hK hD hN hA hZ hno
  have hown : s.vm.findClass RX4 = some m.cls := hown
  have hDD : ∀ τ : SS, va_D (va_A (WC q cA σ) s.heap.size) (WC q cA τ) := fun τ => hD.adr rfl
  unfold X4_setChild at h
  refine ww_sub (lv1 := [(0, .ref (q 0)), (1, .int (x1)), (2, .int (x2))]) [0, 1, 2] rfl ?_
  refine ww_iload_n hx hb dX4_setChild_0 rfl 1 rfl ?_
  refine ww_iconst (v := 0) hx hb dX4_setChild_1 (by decide) ?_
  refine ww_iconst (v := 5) hx hb dX4_setChild_2 (by decide) ?_
  refine ww_callS (ws1 := WC q cA σ) (st1 := [.int (X4_isWithin x1 (0 : Int32) (5 : Int32))]) hx hb hml hown hts hK hN hA (hDD _) (Nat.zero_le _) (Nat.zero_le _) [.int (x1), .int ((0 : Int32)), .int ((5 : Int32))] [] (m_X4_isWithin σ x1 (0 : Int32) (5 : Int32)) cs_X4_42 rfl (by decide) rfl (Nat.le_of_ble_eq_true rfl) dX4_setChild_3 rfl ?_
  refine ww_ne0 (tgt := 17) hx hb dX4_setChild_6 (by decide) (fun c_1 => ?_) (fun c_1 => ?_)
  · replace h := it_n c_1 h
    refine ww_aload_n hx hb dX4_setChild_17 rfl 0 rfl ?_
    refine ww_get (C := RX4) (T := TX4) (N := 7) hx hb hown hts hK inA4 0 rfl rfl 0 (by decide) kw_13 rfl rfl dX4_setChild_18 ?_
    refine ww_get (C := RX3) (T := TX3) (N := 9) hx hb hown hts hK inA3 2 rfl rfl 8 (by decide) kw_43 rfl rfl dX4_setChild_21 ?_
    refine ww_iload_n hx hb dX4_setChild_24 rfl 1 rfl ?_
    refine ww_callS (ws1 := WC q cA σ) (st1 := [.int (X4_isIn (σ 2 8) x1)]) hx hb hml hown hts hK hN hA (hDD _) (Nat.zero_le _) (Nat.zero_le _) [.int (σ 2 8), .int (x1)] [] (m_X4_isIn σ (σ 2 8) x1) cs_X4_74 rfl (by decide) rfl (Nat.le_of_ble_eq_true rfl) dX4_setChild_25 rfl ?_
    refine ww_istore_n (i := 3) (lv1 := [(0, .ref (q 0)), (1, .int (x1)), (2, .int (x2)), (3, .int (X4_isIn (σ 2 8) x1))]) hx hb dX4_setChild_28 rfl (by decide) [1, 2, 3, 0] rfl ?_
    refine ww_iload_n hx hb dX4_setChild_29 rfl 3 rfl ?_
    refine ww_iload_n hx hb dX4_setChild_30 rfl 2 rfl ?_
    refine ww_eq2 (tgt := 60) hx hb dX4_setChild_31 (by decide) (fun c_2 => ?_) (fun c_2 => ?_)
    · replace h := it_p c_2 h
      refine ww_iload_n hx hb dX4_setChild_60 rfl 3 rfl ?_
      obtain ⟨rfl, rfl⟩ := os2 h
      exact ww_xzret hx hb hr hlk (z_X4_isIn (σ 2 8) x1) rfl dX4_setChild_61
    · replace h := it_n c_2 h
      refine ww_aload_n hx hb dX4_setChild_34 rfl 0 rfl ?_
      refine ww_get (C := RX4) (T := TX4) (N := 7) hx hb hown hts hK inA4 0 rfl rfl 1 (by decide) kw_20 rfl rfl dX4_setChild_35 ?_
      obtain ⟨σ_3, e_3, h⟩ := ob h
      refine ww_callV (ws1 := WC q cA σ_3) (st1 := []) hx hb hml hown hts hK hN hA (hDD _) (Nat.zero_le _) (Nat.zero_le _) [] [] (m_X2_forget _  _ e_3) cs_X4_61 rfl (by decide) 1 rfl rfl rfl (Nat.le_of_ble_eq_true rfl) dX4_setChild_38 rfl ?_
      refine ww_aload_n hx hb dX4_setChild_41 rfl 0 rfl ?_
      refine ww_get (C := RX4) (T := TX4) (N := 7) hx hb hown hts hK inA4 0 rfl rfl 0 (by decide) kw_13 rfl rfl dX4_setChild_42 ?_
      refine ww_aload_n hx hb dX4_setChild_45 rfl 0 rfl ?_
      refine ww_get (C := RX4) (T := TX4) (N := 7) hx hb hown hts hK inA4 0 rfl rfl 0 (by decide) kw_13 rfl rfl dX4_setChild_46 ?_
      refine ww_get (C := RX3) (T := TX3) (N := 9) hx hb hown hts hK inA3 2 rfl rfl 8 (by decide) kw_43 rfl rfl dX4_setChild_49 ?_
      refine ww_iload_n hx hb dX4_setChild_52 rfl 1 rfl ?_
      refine ww_iload_n hx hb dX4_setChild_53 rfl 2 rfl ?_
      refine ww_callS (ws1 := WC q cA σ_3) (st1 := [.int (X4_with (σ_3 2 8) x1 x2), .ref (q 2)]) hx hb hml hown hts hK hN hA (hDD _) (Nat.zero_le _) (Nat.zero_le _) [.int (σ_3 2 8), .int (x1), .int (x2)] [.ref (q 2)] (m_X4_with σ_3 (σ_3 2 8) x1 x2) cs_X4_78 rfl (by decide) rfl (Nat.le_of_ble_eq_true rfl) dX4_setChild_54 rfl ?_
      obtain ⟨σ_4, e_4, h⟩ := lt_e h
      refine ww_put (C := RX3) (T := TX3) (N := 9) (ty := .int) (ws1 := WC q cA (σ_4)) hx hb hown hts hK inA3 tyX3 tyX3_ok nmX3 (hDD _) 2 rfl rfl 8 (by decide) kw_43 rfl rfl rfl rfl rfl (Nat.le_of_ble_eq_true rfl) dX4_setChild_57 (e_4 ▸ rfl) ?_
      refine ww_iload_n hx hb dX4_setChild_60 rfl 3 rfl ?_
      obtain ⟨rfl, rfl⟩ := os2 h
      exact ww_xzret hx hb hr hlk (z_X4_isIn (σ 2 8) x1) rfl dX4_setChild_61
  · replace h := it_p c_1 h
    obtain ⟨rfl, rfl⟩ := os2 h
    exact ww_throw (ik := 68) (ic := 70) hx hb hl0 hml hown hts hN hZ hlk hno kw_41 kw_42 ek_70_IndexOutOfBoundsException dX4_setChild_9 dX4_setChild_12 dX4_setChild_13 dX4_setChild_16 (by decide)
set_option maxHeartbeats 4000000 in
set_option maxRecDepth 100000 in
theorem m_X4_setRates (hl0 : l.stackTraces = false) (σ : SS) (x1 x2 : Int32) (r : Int32 ⊕ String) (σ1 : SS) (h : X4_setRates σ x1 x2 = some (r, σ1)) : CtX l yX4_setRates cX4_setRates 4 (some .int) 7 280 D vwCl [(cA, .int)] (WC q cA σ) (WC q cA σ1) [.ref (q 0), .int (x1), .int (x2)] r := by
  refine ctx_of (by decide +kernel) (Nat.le_of_ble_eq_true rfl) ?_
  intro p e s m args below meth c hx hb hr hlk hml hown hts hK hD hN hA hZ hno
  have hown : s.vm.findClass RX4 = some m.cls := hown
  have hDD : ∀ τ : SS, va_D (va_A (WC q cA σ) s.heap.size) (WC q cA τ) := fun τ => hD.adr rfl
  unfold X4_setRates at h
  have bk22 : ∀ (τ : SS) , X4_setRates_b22 τ = some (r, σ1) → WW p l e (rmc 7 280 1 6) s m args below meth c D vwCl (va_A (WC q cA σ) s.heap.size) 4 0 0 (vx_MQ below (qxW D vwCl (WC q cA σ) (WC q cA σ1) r s.heap.size) (xcW D vwCl (WC q cA σ) (WC q cA σ1) r s.heap.size) args s 1 6 (va_A (WC q cA σ) s.heap.size)) (WC q cA τ) 22 [] [] := by
    intro τ h
    unfold X4_setRates_b22 at h
    obtain ⟨rfl, rfl⟩ := os2 h
    exact ww_throw (ik := 52) (ic := 54) hx hb hl0 hml hown hts hN hZ hlk hno kw_32 kw_33 ek_54_IllegalArgumentException dX4_setRates_22 dX4_setRates_25 dX4_setRates_26 dX4_setRates_29 (by decide)
  refine ww_sub (lv1 := [(0, .ref (q 0)), (1, .int (x1)), (2, .int (x2))]) [0, 1, 2] rfl ?_
  refine ww_iload_n hx hb dX4_setRates_0 rfl 1 rfl ?_
  refine ww_iconst (v := 0) hx hb dX4_setRates_1 (by decide) ?_
  refine ww_sipush (v := 1000) hx hb dX4_setRates_2 (by decide) ?_
  refine ww_callS (ws1 := WC q cA σ) (st1 := [.int (X4_isWithin x1 (0 : Int32) (1000 : Int32))]) hx hb hml hown hts hK hN hA (hDD _) (Nat.zero_le _) (Nat.zero_le _) [.int (x1), .int ((0 : Int32)), .int ((1000 : Int32))] [] (m_X4_isWithin σ x1 (0 : Int32) (1000 : Int32)) cs_X4_42 rfl (by decide) rfl (Nat.le_of_ble_eq_true rfl) dX4_setRates_5 rfl ?_
  refine ww_eq0 (tgt := 22) hx hb dX4_setRates_8 (by decide) (fun c_1 => ?_) (fun c_1 => ?_)
  · replace h := it_p c_1 h
    exact ww_sub (lv1 := []) [] rfl (bk22 _ h)
  · replace h := it_n c_1 h
    refine ww_iload_n hx hb dX4_setRates_11 rfl 2 rfl ?_
    refine ww_iconst (v := 0) hx hb dX4_setRates_12 (by decide) ?_
    refine ww_sipush (v := 1000) hx hb dX4_setRates_13 (by decide) ?_
    refine ww_callS (ws1 := WC q cA σ) (st1 := [.int (X4_isWithin x2 (0 : Int32) (1000 : Int32))]) hx hb hml hown hts hK hN hA (hDD _) (Nat.zero_le _) (Nat.zero_le _) [.int (x2), .int ((0 : Int32)), .int ((1000 : Int32))] [] (m_X4_isWithin σ x2 (0 : Int32) (1000 : Int32)) cs_X4_42 rfl (by decide) rfl (Nat.le_of_ble_eq_true rfl) dX4_setRates_16 rfl ?_
    refine ww_ne0 (tgt := 30) hx hb dX4_setRates_19 (by decide) (fun c_2 => ?_) (fun c_2 => ?_)
    · replace h := it_n c_2 h
      refine ww_aload_n hx hb dX4_setRates_30 rfl 0 rfl ?_
      refine ww_get (C := RX4) (T := TX4) (N := 7) hx hb hown hts hK inA4 0 rfl rfl 4 (by decide) kw_44 rfl rfl dX4_setRates_31 ?_
      refine ww_istore_n (i := 3) (lv1 := [(0, .ref (q 0)), (1, .int (x1)), (2, .int (x2)), (3, .int (σ 0 4))]) hx hb dX4_setRates_34 rfl (by decide) [1, 2, 3, 0] rfl ?_
      refine ww_aload_n hx hb dX4_setRates_35 rfl 0 rfl ?_
      refine ww_iload_n hx hb dX4_setRates_36 rfl 1 rfl ?_
      obtain ⟨σ_3, e_3, h⟩ := lt_e h
      refine ww_put (C := RX4) (T := TX4) (N := 7) (ty := .int) (ws1 := WC q cA (σ_3)) hx hb hown hts hK inA4 tyX4 tyX4_ok nmX4 (hDD _) 0 rfl rfl 4 (by decide) kw_44 rfl rfl rfl rfl rfl (Nat.le_of_ble_eq_true rfl) dX4_setRates_37 (e_3 ▸ rfl) ?_
      refine ww_aload_n hx hb dX4_setRates_40 rfl 0 rfl ?_
      refine ww_iload_n hx hb dX4_setRates_41 rfl 2 rfl ?_
      obtain ⟨σ_4, e_4, h⟩ := lt_e h
      refine ww_put (C := RX4) (T := TX4) (N := 7) (ty := .int) (ws1 := WC q cA (σ_4)) hx hb hown hts hK inA4 tyX4 tyX4_ok nmX4 (hDD _) 0 rfl rfl 5 (by decide) kw_45 rfl rfl rfl rfl rfl (Nat.le_of_ble_eq_true rfl) dX4_setRates_42 (e_4 ▸ rfl) ?_
      refine ww_iload_n hx hb dX4_setRates_45 rfl 3 rfl ?_
      obtain ⟨rfl, rfl⟩ := os2 h
      exact ww_xiret hx hb hr hlk rfl dX4_setRates_46
    · replace h := it_p c_2 h
      exact ww_sub (lv1 := []) [] rfl (bk22 _ h)
set_option maxHeartbeats 4000000 in
set_option maxRecDepth 100000 in
theorem m_X4_shoot (hl0 : l.stackTraces = false) (σ : SS) (x1 : Int32) (r : Int32 ⊕ String) (σ1 : SS) (h : X4_shoot σ x1 = some (r, σ1)) : CtX l yX4_shoot cX4_shoot 6 (some .int) 22 880 D vwCl [(cA, .int)] (WC q cA σ) (WC q cA σ1) [.ref (q 0), .int (x1)] r := by
  refine ctx_of (by decide +kernel) (Nat.le_of_ble_eq_true rfl) ?_
  intro p e s m args below meth c hx hb hr hlk hml hown hts hK hD hN hA hZ hno
  have hown : s.vm.findClass RX4 = some m.cls := hown
  have hDD : ∀ τ : SS, va_D (va_A (WC q cA σ) s.heap.size) (WC q cA τ) := fun τ => hD.adr rfl
  unfold X4_shoot at h
  have bk109 : ∀ (τ : SS) , X4_shoot_b109 τ = some (r, σ1) → WW p l e (rmc 22 880 1 6) s m args below meth c D vwCl (va_A (WC q cA σ) s.heap.size) 6 0 0 (vx_MQ below (qxW D vwCl (WC q cA σ) (WC q cA σ1) r s.heap.size) (xcW D vwCl (WC q cA σ) (WC q cA σ1) r s.heap.size) args s 1 6 (va_A (WC q cA σ) s.heap.size)) (WC q cA τ) 109 [] [] := by
    intro τ h
    unfold X4_shoot_b109 at h
    obtain ⟨rfl, rfl⟩ := os2 h
    exact ww_throw (ik := 58) (ic := 60) hx hb hl0 hml hown hts hN hZ hlk hno kw_30 kw_31 ek_60_IllegalStateException dX4_shoot_109 dX4_shoot_112 dX4_shoot_113 dX4_shoot_116 (by decide)
  have bk60 : ∀ (τ : SS) (x2 : Int32) (x3 : Int32) (y0 : Int32), X4_shoot_b60 τ x2 x3 y0 = some (r, σ1) → WW p l e (rmc 22 880 1 6) s m args below meth c D vwCl (va_A (WC q cA σ) s.heap.size) 6 0 0 (vx_MQ below (qxW D vwCl (WC q cA σ) (WC q cA σ1) r s.heap.size) (xcW D vwCl (WC q cA σ) (WC q cA σ1) r s.heap.size) args s 1 6 (va_A (WC q cA σ) s.heap.size)) (WC q cA τ) 60 [(0, .ref (q 0)), (2, .int (x2)), (3, .int (x3))] [.int (y0)] := by
    intro τ x2 x3 y0 h
    unfold X4_shoot_b60 at h
    refine ww_istore (i := 4) (lv1 := [(0, .ref (q 0)), (2, .int (x2)), (3, .int (x3)), (4, .int (y0))]) hx hb dX4_shoot_60 (by decide) [1, 2, 3, 0] rfl ?_
    refine ww_aload_n hx hb dX4_shoot_62 rfl 0 rfl ?_
    refine ww_get (C := RX4) (T := TX4) (N := 7) hx hb hown hts hK inA4 0 rfl rfl 2 (by decide) kw_181 rfl rfl dX4_shoot_63 ?_
    refine ww_iconst (v := 0) hx hb dX4_shoot_66 (by decide) ?_
    refine ww_iload_n hx hb dX4_shoot_67 rfl 2 rfl ?_
    refine ww_callV (ws1 := WC q cA τ) (st1 := [.int (X0_lackOf τ (0 : Int32) x3)]) hx hb hml hown hts hK hN hA (hDD _) (Nat.zero_le _) (Nat.zero_le _) [.int ((0 : Int32)), .int (x3)] [] (m_X0_lackOf τ (0 : Int32) x3) cs_X4_100 rfl (by decide) 3 rfl rfl rfl (Nat.le_of_ble_eq_true rfl) dX4_shoot_68 rfl ?_
    refine ww_aload_n hx hb dX4_shoot_71 rfl 0 rfl ?_
    refine ww_get (C := RX4) (T := TX4) (N := 7) hx hb hown hts hK inA4 0 rfl rfl 2 (by decide) kw_181 rfl rfl dX4_shoot_72 ?_
    refine ww_iconst (v := 1) hx hb dX4_shoot_75 (by decide) ?_
    refine ww_iload hx hb dX4_shoot_76 3 rfl ?_
    refine ww_callV (ws1 := WC q cA τ) (st1 := [.int (X0_lackOf τ (1 : Int32) y0), .int (X0_lackOf τ (0 : Int32) x3)]) hx hb hml hown hts hK hN hA (hDD _) (Nat.zero_le _) (Nat.zero_le _) [.int ((1 : Int32)), .int (y0)] [.int (X0_lackOf τ (0 : Int32) x3)] (m_X0_lackOf τ (1 : Int32) y0) cs_X4_100 rfl (by decide) 3 rfl rfl rfl (Nat.le_of_ble_eq_true rfl) dX4_shoot_78 rfl ?_
    refine ww_iadd hx hb dX4_shoot_81 ?_
    refine ww_istore (i := 5) (lv1 := [(0, .ref (q 0)), (2, .int (x2)), (3, .int (x3)), (4, .int (y0)), (5, .int ((X0_lackOf τ (0 : Int32) x3) + (X0_lackOf τ (1 : Int32) y0)))]) hx hb dX4_shoot_82 (by decide) [1, 2, 3, 4, 0] rfl ?_
    refine ww_iload hx hb dX4_shoot_84 4 rfl ?_
    refine ww_aload_n hx hb dX4_shoot_86 rfl 0 rfl ?_
    refine ww_get (C := RX4) (T := TX4) (N := 7) hx hb hown hts hK inA4 0 rfl rfl 2 (by decide) kw_181 rfl rfl dX4_shoot_87 ?_
    refine ww_get (C := RX0) (T := TX0) (N := 4) hx hb hown hts hK inA0 3 rfl rfl 1 (by decide) kw_183 rfl rfl dX4_shoot_90 ?_
    refine ww_gt2 (tgt := 109) hx hb dX4_shoot_93 (by decide) (fun c_7 => ?_) (fun c_7 => ?_)
    · replace h := it_p c_7 h
      exact ww_sub (lv1 := []) [] rfl (bk109 _ h)
    · replace h := it_n c_7 h
      refine ww_aload_n hx hb dX4_shoot_96 rfl 0 rfl ?_
      refine ww_get (C := RX4) (T := TX4) (N := 7) hx hb hown hts hK inA4 0 rfl rfl 1 (by decide) kw_20 rfl rfl dX4_shoot_97 ?_
      refine ww_get (C := RX2) (T := TX2) (N := 8) hx hb hown hts hK inA2 1 rfl rfl 6 (by decide) kw_184 rfl rfl dX4_shoot_100 ?_
      refine ww_sipush (v := 1000) hx hb dX4_shoot_103 (by decide) ?_
      refine ww_lt2 (tgt := 117) hx hb dX4_shoot_106 (by decide) (fun c_8 => ?_) (fun c_8 => ?_)
      · replace h := it_p c_8 h
        refine ww_aload_n hx hb dX4_shoot_117 rfl 0 rfl ?_
        refine ww_get (C := RX4) (T := TX4) (N := 7) hx hb hown hts hK inA4 0 rfl rfl 2 (by decide) kw_181 rfl rfl dX4_shoot_118 ?_
        refine ww_iconst (v := 0) hx hb dX4_shoot_121 (by decide) ?_
        refine ww_iload_n hx hb dX4_shoot_122 rfl 2 rfl ?_
        obtain ⟨r_9, σ_9, e_9, h⟩ := ob2 h
        refine ww_callV (ws1 := WC q cA σ_9) (st1 := [.int (r_9)]) hx hb hml hown hts hK hN hA (hDD _) (Nat.zero_le _) (Nat.zero_le _) [.int ((0 : Int32)), .int (x3)] [] (m_X0_pay _ _ _ _ _ e_9) cs_X4_110 rfl (by decide) 3 rfl rfl rfl (Nat.le_of_ble_eq_true rfl) dX4_shoot_123 rfl ?_
        refine ww_pop hx hb dX4_shoot_126 rfl ?_
        refine ww_aload_n hx hb dX4_shoot_127 rfl 0 rfl ?_
        refine ww_get (C := RX4) (T := TX4) (N := 7) hx hb hown hts hK inA4 0 rfl rfl 2 (by decide) kw_181 rfl rfl dX4_shoot_128 ?_
        refine ww_iconst (v := 1) hx hb dX4_shoot_131 (by decide) ?_
        refine ww_iload hx hb dX4_shoot_132 3 rfl ?_
        obtain ⟨r_10, σ_10, e_10, h⟩ := ob2 h
        refine ww_callV (ws1 := WC q cA σ_10) (st1 := [.int (r_10)]) hx hb hml hown hts hK hN hA (hDD _) (Nat.zero_le _) (Nat.zero_le _) [.int ((1 : Int32)), .int (y0)] [] (m_X0_pay _ _ _ _ _ e_10) cs_X4_110 rfl (by decide) 3 rfl rfl rfl (Nat.le_of_ble_eq_true rfl) dX4_shoot_134 rfl ?_
        refine ww_pop hx hb dX4_shoot_137 rfl ?_
        refine ww_aload_n hx hb dX4_shoot_138 rfl 0 rfl ?_
        refine ww_get (C := RX4) (T := TX4) (N := 7) hx hb hown hts hK inA4 0 rfl rfl 1 (by decide) kw_20 rfl rfl dX4_shoot_139 ?_
        refine ww_iload_n hx hb dX4_shoot_142 rfl 1 rfl ?_
        obtain ⟨σ_11, e_11, h⟩ := ob h
        refine ww_callV (ws1 := WC q cA σ_11) (st1 := []) hx hb hml hown hts hK hN hA (hDD _) (Nat.zero_le _) (Nat.zero_le _) [.int (x2)] [] (m_X2_endDay _ _ _ e_11) cs_X4_113 rfl (by decide) 1 rfl rfl rfl (Nat.le_of_ble_eq_true rfl) dX4_shoot_143 rfl ?_
        refine ww_iload_n hx hb dX4_shoot_146 rfl 1 rfl ?_
        refine ww_callS (ws1 := WC q cA σ_11) (st1 := [.int (J6_bitCount x2)]) hx hb hml hown hts hK hN hA (hDD _) (Nat.zero_le _) (Nat.zero_le _) [.int (x2)] [] (m_J6_bitCount σ_11 x2) cs_X4_117 rfl (by decide) rfl (Nat.le_of_ble_eq_true rfl) dX4_shoot_147 rfl ?_
        obtain ⟨rfl, rfl⟩ := os2 h
        exact ww_xiret hx hb hr hlk rfl dX4_shoot_150
      · replace h := it_n c_8 h
        exact ww_sub (lv1 := []) [] rfl (bk109 _ h)
  have bk27 : ∀ (τ : SS) (y1 : Int32), X4_shoot_b27 τ y1 = some (r, σ1) → WW p l e (rmc 22 880 1 6) s m args below meth c D vwCl (va_A (WC q cA σ) s.heap.size) 6 0 0 (vx_MQ below (qxW D vwCl (WC q cA σ) (WC q cA σ1) r s.heap.size) (xcW D vwCl (WC q cA σ) (WC q cA σ1) r s.heap.size) args s 1 6 (va_A (WC q cA σ) s.heap.size)) (WC q cA τ) 27 [(0, .ref (q 0))] [.int (y1), .ref (q 1)] := by
    intro τ y1 h
    unfold X4_shoot_b27 at h
    obtain ⟨r_4, e_4, h⟩ := ob h
    refine ww_callV (ws1 := WC q cA τ) (st1 := [.int (r_4)]) hx hb hml hown hts hK hN hA (hDD _) (Nat.zero_le _) (Nat.zero_le _) [.int (y1)] [] (m_X2_shootable _ _ _ e_4) cs_X4_92 rfl (by decide) 1 rfl rfl rfl (Nat.le_of_ble_eq_true rfl) dX4_shoot_27 rfl ?_
    refine ww_istore_n (i := 2) (lv1 := [(0, .ref (q 0)), (2, .int (r_4))]) hx hb dX4_shoot_30 rfl (by decide) [1, 0] rfl ?_
    refine ww_aload_n hx hb dX4_shoot_31 rfl 0 rfl ?_
    refine ww_get (C := RX4) (T := TX4) (N := 7) hx hb hown hts hK inA4 0 rfl rfl 0 (by decide) kw_13 rfl rfl dX4_shoot_32 ?_
    refine ww_iload_n hx hb dX4_shoot_35 rfl 1 rfl ?_
    obtain ⟨r_5, e_5, h⟩ := ob h
    refine ww_callV (ws1 := WC q cA τ) (st1 := [.int (r_5)]) hx hb hml hown hts hK hN hA (hDD _) (Nat.zero_le _) (Nat.zero_le _) [.int (r_4)] [] (m_X3_hoursOf _ _ _ e_5) cs_X4_96 rfl (by decide) 2 rfl rfl rfl (Nat.le_of_ble_eq_true rfl) dX4_shoot_36 rfl ?_
    refine ww_aload_n hx hb dX4_shoot_39 rfl 0 rfl ?_
    refine ww_get (C := RX4) (T := TX4) (N := 7) hx hb hown hts hK inA4 0 rfl rfl 4 (by decide) kw_44 rfl rfl dX4_shoot_40 ?_
    refine ww_imul hx hb dX4_shoot_43 ?_
    refine ww_istore_n (i := 3) (lv1 := [(0, .ref (q 0)), (2, .int (r_4)), (3, .int (r_5 * (τ 0 4)))]) hx hb dX4_shoot_44 rfl (by decide) [1, 2, 0] rfl ?_
    refine ww_aload_n hx hb dX4_shoot_45 rfl 0 rfl ?_
    refine ww_get (C := RX4) (T := TX4) (N := 7) hx hb hown hts hK inA4 0 rfl rfl 6 (by decide) kw_46 rfl rfl dX4_shoot_46 ?_
    refine ww_eq0 (tgt := 59) hx hb dX4_shoot_49 (by decide) (fun c_6 => ?_) (fun c_6 => ?_)
    · replace h := it_p c_6 h
      refine ww_iconst (v := 0) hx hb dX4_shoot_59 (by decide) ?_
      exact ww_sub (lv1 := [(0, .ref (q 0)), (2, .int (r_4)), (3, .int (r_5 * (τ 0 4)))]) [0, 1, 2] rfl (bk60 _ _ _ _ h)
    · replace h := it_n c_6 h
      refine ww_aload_n hx hb dX4_shoot_52 rfl 0 rfl ?_
      refine ww_get (C := RX4) (T := TX4) (N := 7) hx hb hown hts hK inA4 0 rfl rfl 5 (by decide) kw_45 rfl rfl dX4_shoot_53 ?_
      refine ww_goto (tgt := 60) hx hb dX4_shoot_56 (by decide) ?_
      exact ww_sub (lv1 := [(0, .ref (q 0)), (2, .int (r_4)), (3, .int (r_5 * (τ 0 4)))]) [0, 1, 2] rfl (bk60 _ _ _ _ h)
  have bk26 : ∀ (τ : SS) , X4_shoot_b26 τ = some (r, σ1) → WW p l e (rmc 22 880 1 6) s m args below meth c D vwCl (va_A (WC q cA σ) s.heap.size) 6 0 0 (vx_MQ below (qxW D vwCl (WC q cA σ) (WC q cA σ1) r s.heap.size) (xcW D vwCl (WC q cA σ) (WC q cA σ1) r s.heap.size) args s 1 6 (va_A (WC q cA σ) s.heap.size)) (WC q cA τ) 26 [(0, .ref (q 0))] [.ref (q 1)] := by
    intro τ h
    unfold X4_shoot_b26 at h
    refine ww_iconst (v := 0) hx hb dX4_shoot_26 (by decide) ?_
    exact ww_sub (lv1 := [(0, .ref (q 0))]) [0] rfl (bk27 _ _ h)
  refine ww_sub (lv1 := [(0, .ref (q 0)), (1, .int (x1))]) [0, 1] rfl ?_
  refine ww_aload_n hx hb dX4_shoot_0 rfl 0 rfl ?_
  refine ww_get (C := RX4) (T := TX4) (N := 7) hx hb hown hts hK inA4 0 rfl rfl 1 (by decide) kw_20 rfl rfl dX4_shoot_1 ?_
  obtain ⟨σ_1, e_1, h⟩ := ob h
  refine ww_callV (ws1 := WC q cA σ_1) (st1 := []) hx hb hml hown hts hK hN hA (hDD _) (Nat.zero_le _) (Nat.zero_le _) [] [] (m_X2_makePlan _  _ e_1) cs_X4_89 rfl (by decide) 1 rfl rfl rfl (Nat.le_of_ble_eq_true rfl) dX4_shoot_4 rfl ?_
  refine ww_aload_n hx hb dX4_shoot_7 rfl 0 rfl ?_
  refine ww_get (C := RX4) (T := TX4) (N := 7) hx hb hown hts hK inA4 0 rfl rfl 1 (by decide) kw_20 rfl rfl dX4_shoot_8 ?_
  refine ww_iload_n hx hb dX4_shoot_11 rfl 1 rfl ?_
  refine ww_eq0 (tgt := 26) hx hb dX4_shoot_12 (by decide) (fun c_2 => ?_) (fun c_2 => ?_)
  · replace h := it_p c_2 h
    exact ww_sub (lv1 := [(0, .ref (q 0))]) [0] rfl (bk26 _ h)
  · replace h := it_n c_2 h
    refine ww_aload_n hx hb dX4_shoot_15 rfl 0 rfl ?_
    refine ww_get (C := RX4) (T := TX4) (N := 7) hx hb hown hts hK inA4 0 rfl rfl 6 (by decide) kw_46 rfl rfl dX4_shoot_16 ?_
    refine ww_ne0 (tgt := 26) hx hb dX4_shoot_19 (by decide) (fun c_3 => ?_) (fun c_3 => ?_)
    · replace h := it_n c_3 h
      exact ww_sub (lv1 := [(0, .ref (q 0))]) [0] rfl (bk26 _ h)
    · replace h := it_p c_3 h
      refine ww_iconst (v := 1) hx hb dX4_shoot_22 (by decide) ?_
      refine ww_goto (tgt := 27) hx hb dX4_shoot_23 (by decide) ?_
      exact ww_sub (lv1 := [(0, .ref (q 0))]) [0] rfl (bk27 _ _ h)
set_option maxHeartbeats 4000000 in
set_option maxRecDepth 100000 in
theorem m_X4_approve (hl0 : l.stackTraces = false) (σ : SS) (x1 x2 : Int32) (r : Int32 ⊕ String) (σ1 : SS) (h : X4_approve σ x1 x2 = some (r, σ1)) : CtX l yX4_approve cX4_approve 3 (some .int) 7 280 D vwCl [(cA, .int)] (WC q cA σ) (WC q cA σ1) [.ref (q 0), .int (x1), .int (x2)] r := by
  refine ctx_of (by decide +kernel) (Nat.le_of_ble_eq_true rfl) ?_
  intro p e s m args below meth c hx hb hr hlk hml hown hts hK hD hN hA hZ hno
  have hown : s.vm.findClass RX4 = some m.cls := hown
  have hDD : ∀ τ : SS, va_D (va_A (WC q cA σ) s.heap.size) (WC q cA τ) := fun τ => hD.adr rfl
  unfold X4_approve at h
  refine ww_sub (lv1 := [(0, .ref (q 0)), (1, .int (x1)), (2, .int (x2))]) [0, 1, 2] rfl ?_
  refine ww_iload_n hx hb dX4_approve_0 rfl 1 rfl ?_
  refine ww_iconst (v := 0) hx hb dX4_approve_1 (by decide) ?_
  refine ww_iconst (v := 3) hx hb dX4_approve_2 (by decide) ?_
  refine ww_callS (ws1 := WC q cA σ) (st1 := [.int (X4_isWithin x1 (0 : Int32) (3 : Int32))]) hx hb hml hown hts hK hN hA (hDD _) (Nat.zero_le _) (Nat.zero_le _) [.int (x1), .int ((0 : Int32)), .int ((3 : Int32))] [] (m_X4_isWithin σ x1 (0 : Int32) (3 : Int32)) cs_X4_42 rfl (by decide) rfl (Nat.le_of_ble_eq_true rfl) dX4_approve_3 rfl ?_
  refine ww_ne0 (tgt := 17) hx hb dX4_approve_6 (by decide) (fun c_1 => ?_) (fun c_1 => ?_)
  · replace h := it_n c_1 h
    refine ww_iload_n hx hb dX4_approve_17 rfl 2 rfl ?_
    refine ww_iconst (v := 1) hx hb dX4_approve_18 (by decide) ?_
    refine ww_ldc hx hb hown hts kw_194 dX4_approve_19 ?_
    refine ww_callS (ws1 := WC q cA σ) (st1 := [.int (X4_isWithin x2 (1 : Int32) (100000 : Int32))]) hx hb hml hown hts hK hN hA (hDD _) (Nat.zero_le _) (Nat.zero_le _) [.int (x2), .int ((1 : Int32)), .int ((100000 : Int32))] [] (m_X4_isWithin σ x2 (1 : Int32) (100000 : Int32)) cs_X4_42 rfl (by decide) rfl (Nat.le_of_ble_eq_true rfl) dX4_approve_21 rfl ?_
    refine ww_ne0 (tgt := 35) hx hb dX4_approve_24 (by decide) (fun c_2 => ?_) (fun c_2 => ?_)
    · replace h := it_n c_2 h
      refine ww_aload_n hx hb dX4_approve_35 rfl 0 rfl ?_
      refine ww_get (C := RX4) (T := TX4) (N := 7) hx hb hown hts hK inA4 0 rfl rfl 2 (by decide) kw_181 rfl rfl dX4_approve_36 ?_
      refine ww_get (C := RX0) (T := TX0) (N := 4) hx hb hown hts hK inA0 3 rfl rfl 0 (by decide) kw_195 rfl rfl dX4_approve_39 ?_
      refine ww_iload_n hx hb dX4_approve_42 rfl 1 rfl ?_
      refine ww_iload_n hx hb dX4_approve_43 rfl 2 rfl ?_
      obtain ⟨σ_3, e_3, h⟩ := lt_e h
      refine ww_callS (ws1 := WC q cA σ_3) (st1 := []) hx hb hml hown hts hK hN hA (hDD _) (Nat.zero_le _) (Nat.zero_le _) [.ref (q 14), .int (x1), .int (x2)] [] (m_add (by decide) _ _ _ _ e_3) cs_X4_127 rfl (by decide) rfl (Nat.le_of_ble_eq_true rfl) dX4_approve_44 rfl ?_
      refine ww_aload_n hx hb dX4_approve_47 rfl 0 rfl ?_
      refine ww_get (C := RX4) (T := TX4) (N := 7) hx hb hown hts hK inA4 0 rfl rfl 2 (by decide) kw_181 rfl rfl dX4_approve_48 ?_
      refine ww_get (C := RX0) (T := TX0) (N := 4) hx hb hown hts hK inA0 3 rfl rfl 0 (by decide) kw_195 rfl rfl dX4_approve_51 ?_
      refine ww_iload_n hx hb dX4_approve_54 rfl 1 rfl ?_
      refine ww_callS (ws1 := WC q cA σ_3) (st1 := [.int (fat σ_3 14 4 x1)]) hx hb hml hown hts hK hN hA (hDD _) (Nat.zero_le _) (Nat.zero_le _) [.ref (q 14), .int (x1)] [] (m_at (by decide) σ_3 x1) cs_X4_131 rfl (by decide) rfl (Nat.le_of_ble_eq_true rfl) dX4_approve_55 rfl ?_
      obtain ⟨rfl, rfl⟩ := os2 h
      exact ww_xiret hx hb hr hlk rfl dX4_approve_58
    · replace h := it_p c_2 h
      obtain ⟨rfl, rfl⟩ := os2 h
      exact ww_throw (ik := 52) (ic := 54) hx hb hl0 hml hown hts hN hZ hlk hno kw_32 kw_33 ek_54_IllegalArgumentException dX4_approve_27 dX4_approve_30 dX4_approve_31 dX4_approve_34 (by decide)
  · replace h := it_p c_1 h
    obtain ⟨rfl, rfl⟩ := os2 h
    exact ww_throw (ik := 68) (ic := 70) hx hb hl0 hml hown hts hN hZ hlk hno kw_41 kw_42 ek_70_IndexOutOfBoundsException dX4_approve_9 dX4_approve_12 dX4_approve_13 dX4_approve_16 (by decide)
set_option maxHeartbeats 4000000 in
set_option maxRecDepth 100000 in
theorem m_X4_grant (hl0 : l.stackTraces = false) (σ : SS) (x1 : Int32) (r : Int32 ⊕ String) (σ1 : SS) (h : X4_grant σ x1 = some (r, σ1)) : CtX l yX4_grant cX4_grant 2 (some .int) 7 280 D vwCl [(cA, .int)] (WC q cA σ) (WC q cA σ1) [.ref (q 0), .int (x1)] r := by
  refine ctx_of (by decide +kernel) (Nat.le_of_ble_eq_true rfl) ?_
  intro p e s m args below meth c hx hb hr hlk hml hown hts hK hD hN hA hZ hno
  have hown : s.vm.findClass RX4 = some m.cls := hown
  have hDD : ∀ τ : SS, va_D (va_A (WC q cA σ) s.heap.size) (WC q cA τ) := fun τ => hD.adr rfl
  unfold X4_grant at h
  refine ww_sub (lv1 := [(0, .ref (q 0)), (1, .int (x1))]) [0, 1] rfl ?_
  refine ww_iload_n hx hb dX4_grant_0 rfl 1 rfl ?_
  refine ww_iconst (v := 1) hx hb dX4_grant_1 (by decide) ?_
  refine ww_ldc hx hb hown hts kw_194 dX4_grant_2 ?_
  refine ww_callS (ws1 := WC q cA σ) (st1 := [.int (X4_isWithin x1 (1 : Int32) (100000 : Int32))]) hx hb hml hown hts hK hN hA (hDD _) (Nat.zero_le _) (Nat.zero_le _) [.int (x1), .int ((1 : Int32)), .int ((100000 : Int32))] [] (m_X4_isWithin σ x1 (1 : Int32) (100000 : Int32)) cs_X4_42 rfl (by decide) rfl (Nat.le_of_ble_eq_true rfl) dX4_grant_4 rfl ?_
  refine ww_ne0 (tgt := 18) hx hb dX4_grant_7 (by decide) (fun c_1 => ?_) (fun c_1 => ?_)
  · replace h := it_n c_1 h
    refine ww_aload_n hx hb dX4_grant_18 rfl 0 rfl ?_
    refine ww_get (C := RX4) (T := TX4) (N := 7) hx hb hown hts hK inA4 0 rfl rfl 2 (by decide) kw_181 rfl rfl dX4_grant_19 ?_
    refine ww_dup hx hb dX4_grant_22 rfl ?_
    refine ww_get (C := RX0) (T := TX0) (N := 4) hx hb hown hts hK inA0 3 rfl rfl 1 (by decide) kw_183 rfl rfl dX4_grant_23 ?_
    refine ww_iload_n hx hb dX4_grant_26 rfl 1 rfl ?_
    refine ww_iadd hx hb dX4_grant_27 ?_
    obtain ⟨σ_2, e_2, h⟩ := lt_e h
    refine ww_put (C := RX0) (T := TX0) (N := 4) (ty := .int) (ws1 := WC q cA (σ_2)) hx hb hown hts hK inA0 tyX0 tyX0_ok nmX0 (hDD _) 3 rfl rfl 1 (by decide) kw_183 rfl rfl rfl rfl rfl (Nat.le_of_ble_eq_true rfl) dX4_grant_28 (e_2 ▸ rfl) ?_
    refine ww_aload_n hx hb dX4_grant_31 rfl 0 rfl ?_
    refine ww_get (C := RX4) (T := TX4) (N := 7) hx hb hown hts hK inA4 0 rfl rfl 2 (by decide) kw_181 rfl rfl dX4_grant_32 ?_
    refine ww_get (C := RX0) (T := TX0) (N := 4) hx hb hown hts hK inA0 3 rfl rfl 1 (by decide) kw_183 rfl rfl dX4_grant_35 ?_
    obtain ⟨rfl, rfl⟩ := os2 h
    exact ww_xiret hx hb hr hlk rfl dX4_grant_38
  · replace h := it_p c_1 h
    obtain ⟨rfl, rfl⟩ := os2 h
    exact ww_throw (ik := 52) (ic := 54) hx hb hl0 hml hown hts hN hZ hlk hno kw_32 kw_33 ek_54_IllegalArgumentException dX4_grant_10 dX4_grant_13 dX4_grant_14 dX4_grant_17 (by decide)
set_option maxHeartbeats 4000000 in
set_option maxRecDepth 100000 in
theorem m_X4_bill (hl0 : l.stackTraces = false) (σ : SS) (x1 x2 : Int32) (r : Int32 ⊕ String) (σ1 : SS) (h : X4_bill σ x1 x2 = some (r, σ1)) : CtX l yX4_bill cX4_bill 3 (some .int) 7 280 D vwCl [(cA, .int)] (WC q cA σ) (WC q cA σ1) [.ref (q 0), .int (x1), .int (x2)] r := by
  refine ctx_of (by decide +kernel) (Nat.le_of_ble_eq_true rfl) ?_
  intro p e s m args below meth c hx hb hr hlk hml hown hts hK hD hN hA hZ hno
  have hown : s.vm.findClass RX4 = some m.cls := hown
  have hDD : ∀ τ : SS, va_D (va_A (WC q cA σ) s.heap.size) (WC q cA τ) := fun τ => hD.adr rfl
  unfold X4_bill at h
  refine ww_sub (lv1 := [(0, .ref (q 0)), (1, .int (x1)), (2, .int (x2))]) [0, 1, 2] rfl ?_
  refine ww_iload_n hx hb dX4_bill_0 rfl 1 rfl ?_
  refine ww_iconst (v := 0) hx hb dX4_bill_1 (by decide) ?_
  refine ww_iconst (v := 3) hx hb dX4_bill_2 (by decide) ?_
  refine ww_callS (ws1 := WC q cA σ) (st1 := [.int (X4_isWithin x1 (0 : Int32) (3 : Int32))]) hx hb hml hown hts hK hN hA (hDD _) (Nat.zero_le _) (Nat.zero_le _) [.int (x1), .int ((0 : Int32)), .int ((3 : Int32))] [] (m_X4_isWithin σ x1 (0 : Int32) (3 : Int32)) cs_X4_42 rfl (by decide) rfl (Nat.le_of_ble_eq_true rfl) dX4_bill_3 rfl ?_
  refine ww_ne0 (tgt := 17) hx hb dX4_bill_6 (by decide) (fun c_1 => ?_) (fun c_1 => ?_)
  · replace h := it_n c_1 h
    refine ww_iload_n hx hb dX4_bill_17 rfl 2 rfl ?_
    refine ww_iconst (v := 1) hx hb dX4_bill_18 (by decide) ?_
    refine ww_ldc hx hb hown hts kw_194 dX4_bill_19 ?_
    refine ww_callS (ws1 := WC q cA σ) (st1 := [.int (X4_isWithin x2 (1 : Int32) (100000 : Int32))]) hx hb hml hown hts hK hN hA (hDD _) (Nat.zero_le _) (Nat.zero_le _) [.int (x2), .int ((1 : Int32)), .int ((100000 : Int32))] [] (m_X4_isWithin σ x2 (1 : Int32) (100000 : Int32)) cs_X4_42 rfl (by decide) rfl (Nat.le_of_ble_eq_true rfl) dX4_bill_21 rfl ?_
    refine ww_ne0 (tgt := 35) hx hb dX4_bill_24 (by decide) (fun c_2 => ?_) (fun c_2 => ?_)
    · replace h := it_n c_2 h
      refine ww_aload_n hx hb dX4_bill_35 rfl 0 rfl ?_
      refine ww_get (C := RX4) (T := TX4) (N := 7) hx hb hown hts hK inA4 0 rfl rfl 2 (by decide) kw_181 rfl rfl dX4_bill_36 ?_
      refine ww_iload_n hx hb dX4_bill_39 rfl 1 rfl ?_
      refine ww_iload_n hx hb dX4_bill_40 rfl 2 rfl ?_
      refine ww_callV (ws1 := WC q cA σ) (st1 := [.int (X0_lackOf σ x1 x2)]) hx hb hml hown hts hK hN hA (hDD _) (Nat.zero_le _) (Nat.zero_le _) [.int (x1), .int (x2)] [] (m_X0_lackOf σ x1 x2) cs_X4_100 rfl (by decide) 3 rfl rfl rfl (Nat.le_of_ble_eq_true rfl) dX4_bill_41 rfl ?_
      refine ww_aload_n hx hb dX4_bill_44 rfl 0 rfl ?_
      refine ww_get (C := RX4) (T := TX4) (N := 7) hx hb hown hts hK inA4 0 rfl rfl 2 (by decide) kw_181 rfl rfl dX4_bill_45 ?_
      refine ww_get (C := RX0) (T := TX0) (N := 4) hx hb hown hts hK inA0 3 rfl rfl 1 (by decide) kw_183 rfl rfl dX4_bill_48 ?_
      refine ww_le2 (tgt := 62) hx hb dX4_bill_51 (by decide) (fun c_3 => ?_) (fun c_3 => ?_)
      · replace h := it_p c_3 h
        refine ww_aload_n hx hb dX4_bill_62 rfl 0 rfl ?_
        refine ww_get (C := RX4) (T := TX4) (N := 7) hx hb hown hts hK inA4 0 rfl rfl 2 (by decide) kw_181 rfl rfl dX4_bill_63 ?_
        refine ww_iload_n hx hb dX4_bill_66 rfl 1 rfl ?_
        refine ww_iload_n hx hb dX4_bill_67 rfl 2 rfl ?_
        obtain ⟨r_4, σ_4, e_4, h⟩ := ob2 h
        refine ww_callV (ws1 := WC q cA σ_4) (st1 := [.int (r_4)]) hx hb hml hown hts hK hN hA (hDD _) (Nat.zero_le _) (Nat.zero_le _) [.int (x1), .int (x2)] [] (m_X0_pay _ _ _ _ _ e_4) cs_X4_110 rfl (by decide) 3 rfl rfl rfl (Nat.le_of_ble_eq_true rfl) dX4_bill_68 rfl ?_
        obtain ⟨rfl, rfl⟩ := os2 h
        exact ww_xiret hx hb hr hlk rfl dX4_bill_71
      · replace h := it_n c_3 h
        obtain ⟨rfl, rfl⟩ := os2 h
        exact ww_throw (ik := 58) (ic := 60) hx hb hl0 hml hown hts hN hZ hlk hno kw_30 kw_31 ek_60_IllegalStateException dX4_bill_54 dX4_bill_57 dX4_bill_58 dX4_bill_61 (by decide)
    · replace h := it_p c_2 h
      obtain ⟨rfl, rfl⟩ := os2 h
      exact ww_throw (ik := 52) (ic := 54) hx hb hl0 hml hown hts hN hZ hlk hno kw_32 kw_33 ek_54_IllegalArgumentException dX4_bill_27 dX4_bill_30 dX4_bill_31 dX4_bill_34 (by decide)
  · replace h := it_p c_1 h
    obtain ⟨rfl, rfl⟩ := os2 h
    exact ww_throw (ik := 68) (ic := 70) hx hb hl0 hml hown hts hN hZ hlk hno kw_41 kw_42 ek_70_IndexOutOfBoundsException dX4_bill_9 dX4_bill_12 dX4_bill_13 dX4_bill_16 (by decide)
set_option maxHeartbeats 4000000 in
set_option maxRecDepth 100000 in
theorem m_X4_loan (hl0 : l.stackTraces = false) (σ : SS) (x1 x2 : Int32) (r : Int32 ⊕ String) (σ1 : SS) (h : X4_loan σ x1 x2 = some (r, σ1)) : CtX l yX4_loan cX4_loan 3 (some .int) 7 280 D vwCl [(cA, .int)] (WC q cA σ) (WC q cA σ1) [.ref (q 0), .int (x1), .int (x2)] r := by
  refine ctx_of (by decide +kernel) (Nat.le_of_ble_eq_true rfl) ?_
  intro p e s m args below meth c hx hb hr hlk hml hown hts hK hD hN hA hZ hno
  have hown : s.vm.findClass RX4 = some m.cls := hown
  have hDD : ∀ τ : SS, va_D (va_A (WC q cA σ) s.heap.size) (WC q cA τ) := fun τ => hD.adr rfl
  unfold X4_loan at h
  refine ww_sub (lv1 := [(0, .ref (q 0)), (1, .int (x1)), (2, .int (x2))]) [0, 1, 2] rfl ?_
  refine ww_iload_n hx hb dX4_loan_0 rfl 1 rfl ?_
  refine ww_iconst (v := 0) hx hb dX4_loan_1 (by decide) ?_
  refine ww_iconst (v := 5) hx hb dX4_loan_2 (by decide) ?_
  refine ww_callS (ws1 := WC q cA σ) (st1 := [.int (X4_isWithin x1 (0 : Int32) (5 : Int32))]) hx hb hml hown hts hK hN hA (hDD _) (Nat.zero_le _) (Nat.zero_le _) [.int (x1), .int ((0 : Int32)), .int ((5 : Int32))] [] (m_X4_isWithin σ x1 (0 : Int32) (5 : Int32)) cs_X4_42 rfl (by decide) rfl (Nat.le_of_ble_eq_true rfl) dX4_loan_3 rfl ?_
  refine ww_ne0 (tgt := 17) hx hb dX4_loan_6 (by decide) (fun c_1 => ?_) (fun c_1 => ?_)
  · replace h := it_n c_1 h
    refine ww_iload_n hx hb dX4_loan_17 rfl 2 rfl ?_
    refine ww_iconst (v := 1) hx hb dX4_loan_18 (by decide) ?_
    refine ww_ldc hx hb hown hts kw_194 dX4_loan_19 ?_
    refine ww_callS (ws1 := WC q cA σ) (st1 := [.int (X4_isWithin x2 (1 : Int32) (100000 : Int32))]) hx hb hml hown hts hK hN hA (hDD _) (Nat.zero_le _) (Nat.zero_le _) [.int (x2), .int ((1 : Int32)), .int ((100000 : Int32))] [] (m_X4_isWithin σ x2 (1 : Int32) (100000 : Int32)) cs_X4_42 rfl (by decide) rfl (Nat.le_of_ble_eq_true rfl) dX4_loan_21 rfl ?_
    refine ww_ne0 (tgt := 35) hx hb dX4_loan_24 (by decide) (fun c_2 => ?_) (fun c_2 => ?_)
    · replace h := it_n c_2 h
      refine ww_aload_n hx hb dX4_loan_35 rfl 0 rfl ?_
      refine ww_get (C := RX4) (T := TX4) (N := 7) hx hb hown hts hK inA4 0 rfl rfl 3 (by decide) kw_201 rfl rfl dX4_loan_36 ?_
      refine ww_get (C := RX1) (T := TX1) (N := 10) hx hb hown hts hK inA1 4 rfl rfl 7 (by decide) kw_202 rfl rfl dX4_loan_39 ?_
      refine ww_bipush (v := 10) hx hb dX4_loan_42 (by decide) ?_
      refine ww_lt2 (tgt := 55) hx hb dX4_loan_44 (by decide) (fun c_3 => ?_) (fun c_3 => ?_)
      · replace h := it_p c_3 h
        refine ww_aload_n hx hb dX4_loan_55 rfl 0 rfl ?_
        refine ww_get (C := RX4) (T := TX4) (N := 7) hx hb hown hts hK inA4 0 rfl rfl 3 (by decide) kw_201 rfl rfl dX4_loan_56 ?_
        refine ww_iload_n hx hb dX4_loan_59 rfl 1 rfl ?_
        refine ww_iload_n hx hb dX4_loan_60 rfl 2 rfl ?_
        obtain ⟨r_4, σ_4, e_4, h⟩ := ob2 h
        refine ww_callV (ws1 := WC q cA σ_4) (st1 := [.int (r_4)]) hx hb hml hown hts hK hN hA (hDD _) (Nat.zero_le _) (Nat.zero_le _) [.int (x1), .int (x2)] [] (m_X1_appendLoan _ _ _ _ _ e_4) cs_X4_138 rfl (by decide) 4 rfl rfl rfl (Nat.le_of_ble_eq_true rfl) dX4_loan_61 rfl ?_
        obtain ⟨rfl, rfl⟩ := os2 h
        exact ww_xiret hx hb hr hlk rfl dX4_loan_64
      · replace h := it_n c_3 h
        obtain ⟨rfl, rfl⟩ := os2 h
        exact ww_throw (ik := 58) (ic := 60) hx hb hl0 hml hown hts hN hZ hlk hno kw_30 kw_31 ek_60_IllegalStateException dX4_loan_47 dX4_loan_50 dX4_loan_51 dX4_loan_54 (by decide)
    · replace h := it_p c_2 h
      obtain ⟨rfl, rfl⟩ := os2 h
      exact ww_throw (ik := 52) (ic := 54) hx hb hl0 hml hown hts hN hZ hlk hno kw_32 kw_33 ek_54_IllegalArgumentException dX4_loan_27 dX4_loan_30 dX4_loan_31 dX4_loan_34 (by decide)
  · replace h := it_p c_1 h
    obtain ⟨rfl, rfl⟩ := os2 h
    exact ww_throw (ik := 68) (ic := 70) hx hb hl0 hml hown hts hN hZ hlk hno kw_41 kw_42 ek_70_IndexOutOfBoundsException dX4_loan_9 dX4_loan_12 dX4_loan_13 dX4_loan_16 (by decide)
set_option maxHeartbeats 4000000 in
set_option maxRecDepth 100000 in
theorem m_X4_part (hl0 : l.stackTraces = false) (σ : SS) (x1 x2 x3 : Int32) (r : Int32 ⊕ String) (σ1 : SS) (h : X4_part σ x1 x2 x3 = some (r, σ1)) : CtX l yX4_part cX4_part 4 (some .int) 7 280 D vwCl [(cA, .int)] (WC q cA σ) (WC q cA σ1) [.ref (q 0), .int (x1), .int (x2), .int (x3)] r := by
  refine ctx_of (by decide +kernel) (Nat.le_of_ble_eq_true rfl) ?_
  intro p e s m args below meth c hx hb hr hlk hml hown hts hK hD hN hA hZ hno
  have hown : s.vm.findClass RX4 = some m.cls := hown
  have hDD : ∀ τ : SS, va_D (va_A (WC q cA σ) s.heap.size) (WC q cA τ) := fun τ => hD.adr rfl
  unfold X4_part at h
  have bk79 : ∀ (τ : SS) , X4_part_b79 τ = some (r, σ1) → WW p l e (rmc 7 280 1 6) s m args below meth c D vwCl (va_A (WC q cA σ) s.heap.size) 4 0 0 (vx_MQ below (qxW D vwCl (WC q cA σ) (WC q cA σ1) r s.heap.size) (xcW D vwCl (WC q cA σ) (WC q cA σ1) r s.heap.size) args s 1 6 (va_A (WC q cA σ) s.heap.size)) (WC q cA τ) 79 [] [] := by
    intro τ h
    unfold X4_part_b79 at h
    obtain ⟨rfl, rfl⟩ := os2 h
    exact ww_throw (ik := 58) (ic := 60) hx hb hl0 hml hown hts hN hZ hlk hno kw_30 kw_31 ek_60_IllegalStateException dX4_part_79 dX4_part_82 dX4_part_83 dX4_part_86 (by decide)
  have bk26 : ∀ (τ : SS) , X4_part_b26 τ = some (r, σ1) → WW p l e (rmc 7 280 1 6) s m args below meth c D vwCl (va_A (WC q cA σ) s.heap.size) 4 0 0 (vx_MQ below (qxW D vwCl (WC q cA σ) (WC q cA σ1) r s.heap.size) (xcW D vwCl (WC q cA σ) (WC q cA σ1) r s.heap.size) args s 1 6 (va_A (WC q cA σ) s.heap.size)) (WC q cA τ) 26 [] [] := by
    intro τ h
    unfold X4_part_b26 at h
    obtain ⟨rfl, rfl⟩ := os2 h
    exact ww_throw (ik := 68) (ic := 70) hx hb hl0 hml hown hts hN hZ hlk hno kw_41 kw_42 ek_70_IndexOutOfBoundsException dX4_part_26 dX4_part_29 dX4_part_30 dX4_part_33 (by decide)
  refine ww_sub (lv1 := [(0, .ref (q 0)), (1, .int (x1)), (2, .int (x2)), (3, .int (x3))]) [0, 1, 2, 3] rfl ?_
  refine ww_iload_n hx hb dX4_part_0 rfl 1 rfl ?_
  refine ww_iconst (v := -1) hx hb dX4_part_1 (by decide) ?_
  refine ww_aload_n hx hb dX4_part_2 rfl 0 rfl ?_
  refine ww_get (C := RX4) (T := TX4) (N := 7) hx hb hown hts hK inA4 0 rfl rfl 3 (by decide) kw_201 rfl rfl dX4_part_3 ?_
  refine ww_get (C := RX1) (T := TX1) (N := 10) hx hb hown hts hK inA1 4 rfl rfl 8 (by decide) kw_212 rfl rfl dX4_part_6 ?_
  refine ww_iconst (v := 1) hx hb dX4_part_9 (by decide) ?_
  refine ww_isub hx hb dX4_part_10 ?_
  refine ww_callS (ws1 := WC q cA σ) (st1 := [.int (X4_isWithin x1 (-1 : Int32) ((σ 4 8) - (1 : Int32)))]) hx hb hml hown hts hK hN hA (hDD _) (Nat.zero_le _) (Nat.zero_le _) [.int (x1), .int ((-1 : Int32)), .int ((σ 4 8) - (1 : Int32))] [] (m_X4_isWithin σ x1 (-1 : Int32) ((σ 4 8) - (1 : Int32))) cs_X4_42 rfl (by decide) rfl (Nat.le_of_ble_eq_true rfl) dX4_part_11 rfl ?_
  refine ww_eq0 (tgt := 26) hx hb dX4_part_14 (by decide) (fun c_1 => ?_) (fun c_1 => ?_)
  · replace h := it_p c_1 h
    exact ww_sub (lv1 := []) [] rfl (bk26 _ h)
  · replace h := it_n c_1 h
    refine ww_iload_n hx hb dX4_part_17 rfl 2 rfl ?_
    refine ww_iconst (v := 0) hx hb dX4_part_18 (by decide) ?_
    refine ww_iconst (v := 5) hx hb dX4_part_19 (by decide) ?_
    refine ww_callS (ws1 := WC q cA σ) (st1 := [.int (X4_isWithin x2 (0 : Int32) (5 : Int32))]) hx hb hml hown hts hK hN hA (hDD _) (Nat.zero_le _) (Nat.zero_le _) [.int (x2), .int ((0 : Int32)), .int ((5 : Int32))] [] (m_X4_isWithin σ x2 (0 : Int32) (5 : Int32)) cs_X4_42 rfl (by decide) rfl (Nat.le_of_ble_eq_true rfl) dX4_part_20 rfl ?_
    refine ww_ne0 (tgt := 34) hx hb dX4_part_23 (by decide) (fun c_2 => ?_) (fun c_2 => ?_)
    · replace h := it_n c_2 h
      refine ww_iload_n hx hb dX4_part_34 rfl 3 rfl ?_
      refine ww_iconst (v := 1) hx hb dX4_part_35 (by decide) ?_
      refine ww_bipush (v := 100) hx hb dX4_part_36 (by decide) ?_
      refine ww_callS (ws1 := WC q cA σ) (st1 := [.int (X4_isWithin x3 (1 : Int32) (100 : Int32))]) hx hb hml hown hts hK hN hA (hDD _) (Nat.zero_le _) (Nat.zero_le _) [.int (x3), .int ((1 : Int32)), .int ((100 : Int32))] [] (m_X4_isWithin σ x3 (1 : Int32) (100 : Int32)) cs_X4_42 rfl (by decide) rfl (Nat.le_of_ble_eq_true rfl) dX4_part_38 rfl ?_
      refine ww_ne0 (tgt := 52) hx hb dX4_part_41 (by decide) (fun c_3 => ?_) (fun c_3 => ?_)
      · replace h := it_n c_3 h
        refine ww_aload_n hx hb dX4_part_52 rfl 0 rfl ?_
        refine ww_get (C := RX4) (T := TX4) (N := 7) hx hb hown hts hK inA4 0 rfl rfl 3 (by decide) kw_201 rfl rfl dX4_part_53 ?_
        refine ww_get (C := RX1) (T := TX1) (N := 10) hx hb hown hts hK inA1 4 rfl rfl 8 (by decide) kw_212 rfl rfl dX4_part_56 ?_
        refine ww_bipush (v := 12) hx hb dX4_part_59 (by decide) ?_
        refine ww_ge2 (tgt := 79) hx hb dX4_part_61 (by decide) (fun c_4 => ?_) (fun c_4 => ?_)
        · replace h := it_p c_4 h
          exact ww_sub (lv1 := []) [] rfl (bk79 _ h)
        · replace h := it_n c_4 h
          refine ww_aload_n hx hb dX4_part_64 rfl 0 rfl ?_
          refine ww_get (C := RX4) (T := TX4) (N := 7) hx hb hown hts hK inA4 0 rfl rfl 3 (by decide) kw_201 rfl rfl dX4_part_65 ?_
          refine ww_iload_n hx hb dX4_part_68 rfl 1 rfl ?_
          obtain ⟨r_5, e_5, h⟩ := ob h
          refine ww_callV (ws1 := WC q cA σ) (st1 := [.int (r_5)]) hx hb hml hown hts hK hN hA (hDD _) (Nat.zero_le _) (Nat.zero_le _) [.int (x1)] [] (m_X1_percentOf _ _ _ e_5) cs_X4_144 rfl (by decide) 4 rfl rfl rfl (Nat.le_of_ble_eq_true rfl) dX4_part_69 rfl ?_
          refine ww_iload_n hx hb dX4_part_72 rfl 3 rfl ?_
          refine ww_iadd hx hb dX4_part_73 ?_
          refine ww_bipush (v := 100) hx hb dX4_part_74 (by decide) ?_
          refine ww_le2 (tgt := 87) hx hb dX4_part_76 (by decide) (fun c_6 => ?_) (fun c_6 => ?_)
          · replace h := it_p c_6 h
            refine ww_aload_n hx hb dX4_part_87 rfl 0 rfl ?_
            refine ww_get (C := RX4) (T := TX4) (N := 7) hx hb hown hts hK inA4 0 rfl rfl 3 (by decide) kw_201 rfl rfl dX4_part_88 ?_
            refine ww_iload_n hx hb dX4_part_91 rfl 1 rfl ?_
            refine ww_iload_n hx hb dX4_part_92 rfl 2 rfl ?_
            refine ww_iload_n hx hb dX4_part_93 rfl 3 rfl ?_
            obtain ⟨r_7, σ_7, e_7, h⟩ := ob2 h
            refine ww_callV (ws1 := WC q cA σ_7) (st1 := [.int (r_7)]) hx hb hml hown hts hK hN hA (hDD _) (Nat.zero_le _) (Nat.zero_le _) [.int (x1), .int (x2), .int (x3)] [] (m_X1_appendPart _ _ _ _ _ _ e_7) cs_X4_147 rfl (by decide) 4 rfl rfl rfl (Nat.le_of_ble_eq_true rfl) dX4_part_94 rfl ?_
            obtain ⟨rfl, rfl⟩ := os2 h
            exact ww_xiret hx hb hr hlk rfl dX4_part_97
          · replace h := it_n c_6 h
            exact ww_sub (lv1 := []) [] rfl (bk79 _ h)
      · replace h := it_p c_3 h
        obtain ⟨rfl, rfl⟩ := os2 h
        exact ww_throw (ik := 52) (ic := 54) hx hb hl0 hml hown hts hN hZ hlk hno kw_32 kw_33 ek_54_IllegalArgumentException dX4_part_44 dX4_part_47 dX4_part_48 dX4_part_51 (by decide)
    · replace h := it_p c_2 h
      exact ww_sub (lv1 := []) [] rfl (bk26 _ h)
set_option maxHeartbeats 4000000 in
set_option maxRecDepth 100000 in
theorem m_X4_income (hl0 : l.stackTraces = false) (σ : SS) (x1 : Int32) (r : Int32 ⊕ String) (σ1 : SS) (h : X4_income σ x1 = some (r, σ1)) : CtX l yX4_income cX4_income 3 (some .int) 7 280 D vwCl [(cA, .int)] (WC q cA σ) (WC q cA σ1) [.ref (q 0), .int (x1)] r := by
  refine ctx_of (by decide +kernel) (Nat.le_of_ble_eq_true rfl) ?_
  intro p e s m args below meth c hx hb hr hlk hml hown hts hK hD hN hA hZ hno
  have hown : s.vm.findClass RX4 = some m.cls := hown
  have hDD : ∀ τ : SS, va_D (va_A (WC q cA σ) s.heap.size) (WC q cA τ) := fun τ => hD.adr rfl
  unfold X4_income at h
  refine ww_sub (lv1 := [(0, .ref (q 0)), (1, .int (x1))]) [0, 1] rfl ?_
  refine ww_iload_n hx hb dX4_income_0 rfl 1 rfl ?_
  refine ww_iconst (v := 1) hx hb dX4_income_1 (by decide) ?_
  refine ww_ldc hx hb hown hts kw_228 dX4_income_2 ?_
  refine ww_callS (ws1 := WC q cA σ) (st1 := [.int (X4_isWithin x1 (1 : Int32) (1000000 : Int32))]) hx hb hml hown hts hK hN hA (hDD _) (Nat.zero_le _) (Nat.zero_le _) [.int (x1), .int ((1 : Int32)), .int ((1000000 : Int32))] [] (m_X4_isWithin σ x1 (1 : Int32) (1000000 : Int32)) cs_X4_42 rfl (by decide) rfl (Nat.le_of_ble_eq_true rfl) dX4_income_4 rfl ?_
  refine ww_ne0 (tgt := 18) hx hb dX4_income_7 (by decide) (fun c_1 => ?_) (fun c_1 => ?_)
  · replace h := it_n c_1 h
    refine ww_aload_n hx hb dX4_income_18 rfl 0 rfl ?_
    refine ww_get (C := RX4) (T := TX4) (N := 7) hx hb hown hts hK inA4 0 rfl rfl 3 (by decide) kw_201 rfl rfl dX4_income_19 ?_
    refine ww_aload_n hx hb dX4_income_22 rfl 0 rfl ?_
    refine ww_get (C := RX4) (T := TX4) (N := 7) hx hb hown hts hK inA4 0 rfl rfl 2 (by decide) kw_181 rfl rfl dX4_income_23 ?_
    refine ww_iload_n hx hb dX4_income_26 rfl 1 rfl ?_
    obtain ⟨r_2, σ_2, e_2, h⟩ := ob2 h
    refine ww_callV (ws1 := WC q cA σ_2) (st1 := [.int (r_2), .ref (q 4)]) hx hb hml hown hts hK hN hA (hDD _) (Nat.zero_le _) (Nat.zero_le _) [.int (x1)] [.ref (q 4)] (m_X0_payBack _ _ _ _ e_2) cs_X4_152 rfl (by decide) 3 rfl rfl rfl (Nat.le_of_ble_eq_true rfl) dX4_income_27 rfl ?_
    obtain ⟨r_3, σ_3, e_3, h⟩ := ob2 h
    refine ww_callV (ws1 := WC q cA σ_3) (st1 := [.int (r_3)]) hx hb hml hown hts hK hN hA (hDD _) (Nat.zero_le _) (Nat.zero_le _) [.int (r_2)] [] (m_X1_payBackLoans _ _ _ _ e_3) cs_X4_155 rfl (by decide) 4 rfl rfl rfl (Nat.le_of_ble_eq_true rfl) dX4_income_30 rfl ?_
    refine ww_istore_n (i := 2) (lv1 := [(0, .ref (q 0)), (2, .int (r_3))]) hx hb dX4_income_33 rfl (by decide) [1, 0] rfl ?_
    refine ww_aload_n hx hb dX4_income_34 rfl 0 rfl ?_
    refine ww_get (C := RX4) (T := TX4) (N := 7) hx hb hown hts hK inA4 0 rfl rfl 3 (by decide) kw_201 rfl rfl dX4_income_35 ?_
    refine ww_iload_n hx hb dX4_income_38 rfl 1 rfl ?_
    obtain ⟨σ_4, e_4, h⟩ := ob h
    refine ww_callV (ws1 := WC q cA σ_4) (st1 := []) hx hb hml hown hts hK hN hA (hDD _) (Nat.zero_le _) (Nat.zero_le _) [.int (r_3)] [] (m_X1_share _ _ _ e_4) cs_X4_158 rfl (by decide) 4 rfl rfl rfl (Nat.le_of_ble_eq_true rfl) dX4_income_39 rfl ?_
    refine ww_iload_n hx hb dX4_income_42 rfl 1 rfl ?_
    obtain ⟨rfl, rfl⟩ := os2 h
    exact ww_xiret hx hb hr hlk rfl dX4_income_43
  · replace h := it_p c_1 h
    obtain ⟨rfl, rfl⟩ := os2 h
    exact ww_throw (ik := 52) (ic := 54) hx hb hl0 hml hown hts hN hZ hlk hno kw_32 kw_33 ek_54_IllegalArgumentException dX4_income_10 dX4_income_13 dX4_income_14 dX4_income_17 (by decide)
set_option maxHeartbeats 4000000 in
set_option maxRecDepth 100000 in
theorem m_X4_daysByAll (hl0 : l.stackTraces = false) (σ : SS) (r : Int32 ⊕ String) (σ1 : SS) (h : X4_daysByAll σ = some (r, σ1)) : CtX l yX4_daysByAll cX4_daysByAll 1 (some .int) 22 880 D vwCl [(cA, .int)] (WC q cA σ) (WC q cA σ1) [.ref (q 0)] r := by
  refine ctx_of (by decide +kernel) (Nat.le_of_ble_eq_true rfl) ?_
  intro p e s m args below meth c hx hb hr hlk hml hown hts hK hD hN hA hZ hno
  have hown : s.vm.findClass RX4 = some m.cls := hown
  have hDD : ∀ τ : SS, va_D (va_A (WC q cA σ) s.heap.size) (WC q cA τ) := fun τ => hD.adr rfl
  unfold X4_daysByAll at h
  refine ww_sub (lv1 := [(0, .ref (q 0))]) [0] rfl ?_
  refine ww_aload_n hx hb dX4_daysByAll_0 rfl 0 rfl ?_
  refine ww_get (C := RX4) (T := TX4) (N := 7) hx hb hown hts hK inA4 0 rfl rfl 0 (by decide) kw_13 rfl rfl dX4_daysByAll_1 ?_
  refine ww_callV (ws1 := WC q cA σ) (st1 := [.int (X3_countOpen σ)]) hx hb hml hown hts hK hN hA (hDD _) (Nat.zero_le _) (Nat.zero_le _) [] [] (m_X3_countOpen σ) cs_X4_167 rfl (by decide) 2 rfl rfl rfl (Nat.le_of_ble_eq_true rfl) dX4_daysByAll_4 rfl ?_
  refine ww_bipush (v := 6) hx hb dX4_daysByAll_7 (by decide) ?_
  refine ww_le2 (tgt := 20) hx hb dX4_daysByAll_9 (by decide) (fun c_1 => ?_) (fun c_1 => ?_)
  · replace h := it_p c_1 h
    refine ww_aload_n hx hb dX4_daysByAll_20 rfl 0 rfl ?_
    refine ww_get (C := RX4) (T := TX4) (N := 7) hx hb hown hts hK inA4 0 rfl rfl 1 (by decide) kw_20 rfl rfl dX4_daysByAll_21 ?_
    obtain ⟨r_2, σ_2, e_2, h⟩ := ob2 h
    refine ww_callV (ws1 := WC q cA σ_2) (st1 := [.int (r_2)]) hx hb hml hown hts hK hN hA (hDD _) (Nat.zero_le _) (Nat.zero_le _) [] [] (m_X2_fewestDays _  _ _ e_2) cs_X4_170 rfl (by decide) 1 rfl rfl rfl (Nat.le_of_ble_eq_true rfl) dX4_daysByAll_24 rfl ?_
    obtain ⟨rfl, rfl⟩ := os2 h
    exact ww_xiret hx hb hr hlk rfl dX4_daysByAll_27
  · replace h := it_n c_1 h
    obtain ⟨rfl, rfl⟩ := os2 h
    exact ww_throw (ik := 58) (ic := 60) hx hb hl0 hml hown hts hN hZ hlk hno kw_30 kw_31 ek_60_IllegalStateException dX4_daysByAll_12 dX4_daysByAll_15 dX4_daysByAll_16 dX4_daysByAll_19 (by decide)
set_option maxHeartbeats 4000000 in
set_option maxRecDepth 100000 in
theorem m_X4_planned (hl0 : l.stackTraces = false) (σ : SS) (x1 : Int32) (r : Int32 ⊕ String) (σ1 : SS) (h : X4_planned σ x1 = some (r, σ1)) : CtX l yX4_planned cX4_planned 2 (some .int) 22 880 D vwCl [(cA, .int)] (WC q cA σ) (WC q cA σ1) [.ref (q 0), .int (x1)] r := by
  refine ctx_of (by decide +kernel) (Nat.le_of_ble_eq_true rfl) ?_
  intro p e s m args below meth c hx hb hr hlk hml hown hts hK hD hN hA hZ hno
  have hown : s.vm.findClass RX4 = some m.cls := hown
  have hDD : ∀ τ : SS, va_D (va_A (WC q cA σ) s.heap.size) (WC q cA τ) := fun τ => hD.adr rfl
  unfold X4_planned at h
  refine ww_sub (lv1 := [(0, .ref (q 0)), (1, .int (x1))]) [0, 1] rfl ?_
  refine ww_iload_n hx hb dX4_planned_0 rfl 1 rfl ?_
  refine ww_iconst (v := 0) hx hb dX4_planned_1 (by decide) ?_
  refine ww_aload_n hx hb dX4_planned_2 rfl 0 rfl ?_
  refine ww_get (C := RX4) (T := TX4) (N := 7) hx hb hown hts hK inA4 0 rfl rfl 0 (by decide) kw_13 rfl rfl dX4_planned_3 ?_
  refine ww_callV (ws1 := WC q cA σ) (st1 := [.int (X3_countOpen σ), .int ((0 : Int32)), .int (x1)]) hx hb hml hown hts hK hN hA (hDD _) (Nat.zero_le _) (Nat.zero_le _) [] [.int ((0 : Int32)), .int (x1)] (m_X3_countOpen σ) cs_X4_167 rfl (by decide) 2 rfl rfl rfl (Nat.le_of_ble_eq_true rfl) dX4_planned_6 rfl ?_
  refine ww_iconst (v := 1) hx hb dX4_planned_9 (by decide) ?_
  refine ww_isub hx hb dX4_planned_10 ?_
  refine ww_callS (ws1 := WC q cA σ) (st1 := [.int (X4_isWithin x1 (0 : Int32) ((X3_countOpen σ) - (1 : Int32)))]) hx hb hml hown hts hK hN hA (hDD _) (Nat.zero_le _) (Nat.zero_le _) [.int (x1), .int ((0 : Int32)), .int ((X3_countOpen σ) - (1 : Int32))] [] (m_X4_isWithin σ x1 (0 : Int32) ((X3_countOpen σ) - (1 : Int32))) cs_X4_42 rfl (by decide) rfl (Nat.le_of_ble_eq_true rfl) dX4_planned_11 rfl ?_
  refine ww_ne0 (tgt := 25) hx hb dX4_planned_14 (by decide) (fun c_1 => ?_) (fun c_1 => ?_)
  · replace h := it_n c_1 h
    refine ww_aload_n hx hb dX4_planned_25 rfl 0 rfl ?_
    refine ww_get (C := RX4) (T := TX4) (N := 7) hx hb hown hts hK inA4 0 rfl rfl 1 (by decide) kw_20 rfl rfl dX4_planned_26 ?_
    obtain ⟨σ_2, e_2, h⟩ := ob h
    refine ww_callV (ws1 := WC q cA σ_2) (st1 := []) hx hb hml hown hts hK hN hA (hDD _) (Nat.zero_le _) (Nat.zero_le _) [] [] (m_X2_makePlan _  _ e_2) cs_X4_89 rfl (by decide) 1 rfl rfl rfl (Nat.le_of_ble_eq_true rfl) dX4_planned_29 rfl ?_
    refine ww_aload_n hx hb dX4_planned_32 rfl 0 rfl ?_
    refine ww_get (C := RX4) (T := TX4) (N := 7) hx hb hown hts hK inA4 0 rfl rfl 1 (by decide) kw_20 rfl rfl dX4_planned_33 ?_
    refine ww_get (C := RX2) (T := TX2) (N := 8) hx hb hown hts hK inA2 1 rfl rfl 3 (by decide) kw_252 rfl rfl dX4_planned_36 ?_
    refine ww_iload_n hx hb dX4_planned_39 rfl 1 rfl ?_
    refine ww_callS (ws1 := WC q cA σ_2) (st1 := [.int (fat σ_2 12 8 x1)]) hx hb hml hown hts hK hN hA (hDD _) (Nat.zero_le _) (Nat.zero_le _) [.ref (q 12), .int (x1)] [] (m_at (by decide) σ_2 x1) cs_X4_131 rfl (by decide) rfl (Nat.le_of_ble_eq_true rfl) dX4_planned_40 rfl ?_
    obtain ⟨rfl, rfl⟩ := os2 h
    exact ww_xiret hx hb hr hlk rfl dX4_planned_43
  · replace h := it_p c_1 h
    obtain ⟨rfl, rfl⟩ := os2 h
    exact ww_throw (ik := 68) (ic := 70) hx hb hl0 hml hown hts hN hZ hlk hno kw_41 kw_42 ek_70_IndexOutOfBoundsException dX4_planned_17 dX4_planned_20 dX4_planned_21 dX4_planned_24 (by decide)
set_option maxHeartbeats 4000000 in
set_option maxRecDepth 100000 in
theorem m_X4_begins (hl0 : l.stackTraces = false) (σ : SS) (x1 : Int32) (r : Int32 ⊕ String) (σ1 : SS) (h : X4_begins σ x1 = some (r, σ1)) : CtX l yX4_begins cX4_begins 2 (some .int) 22 880 D vwCl [(cA, .int)] (WC q cA σ) (WC q cA σ1) [.ref (q 0), .int (x1)] r := by
  refine ctx_of (by decide +kernel) (Nat.le_of_ble_eq_true rfl) ?_
  intro p e s m args below meth c hx hb hr hlk hml hown hts hK hD hN hA hZ hno
  have hown : s.vm.findClass RX4 = some m.cls := hown
  have hDD : ∀ τ : SS, va_D (va_A (WC q cA σ) s.heap.size) (WC q cA τ) := fun τ => hD.adr rfl
  unfold X4_begins at h
  refine ww_sub (lv1 := [(0, .ref (q 0)), (1, .int (x1))]) [0, 1] rfl ?_
  refine ww_iload_n hx hb dX4_begins_0 rfl 1 rfl ?_
  refine ww_iconst (v := 0) hx hb dX4_begins_1 (by decide) ?_
  refine ww_aload_n hx hb dX4_begins_2 rfl 0 rfl ?_
  refine ww_get (C := RX4) (T := TX4) (N := 7) hx hb hown hts hK inA4 0 rfl rfl 0 (by decide) kw_13 rfl rfl dX4_begins_3 ?_
  refine ww_get (C := RX3) (T := TX3) (N := 9) hx hb hown hts hK inA3 2 rfl rfl 5 (by decide) kw_19 rfl rfl dX4_begins_6 ?_
  refine ww_iconst (v := 1) hx hb dX4_begins_9 (by decide) ?_
  refine ww_isub hx hb dX4_begins_10 ?_
  refine ww_callS (ws1 := WC q cA σ) (st1 := [.int (X4_isWithin x1 (0 : Int32) ((σ 2 5) - (1 : Int32)))]) hx hb hml hown hts hK hN hA (hDD _) (Nat.zero_le _) (Nat.zero_le _) [.int (x1), .int ((0 : Int32)), .int ((σ 2 5) - (1 : Int32))] [] (m_X4_isWithin σ x1 (0 : Int32) ((σ 2 5) - (1 : Int32))) cs_X4_42 rfl (by decide) rfl (Nat.le_of_ble_eq_true rfl) dX4_begins_11 rfl ?_
  refine ww_ne0 (tgt := 25) hx hb dX4_begins_14 (by decide) (fun c_1 => ?_) (fun c_1 => ?_)
  · replace h := it_n c_1 h
    refine ww_aload_n hx hb dX4_begins_25 rfl 0 rfl ?_
    refine ww_get (C := RX4) (T := TX4) (N := 7) hx hb hown hts hK inA4 0 rfl rfl 1 (by decide) kw_20 rfl rfl dX4_begins_26 ?_
    obtain ⟨σ_2, e_2, h⟩ := ob h
    refine ww_callV (ws1 := WC q cA σ_2) (st1 := []) hx hb hml hown hts hK hN hA (hDD _) (Nat.zero_le _) (Nat.zero_le _) [] [] (m_X2_makePlan _  _ e_2) cs_X4_89 rfl (by decide) 1 rfl rfl rfl (Nat.le_of_ble_eq_true rfl) dX4_begins_29 rfl ?_
    refine ww_aload_n hx hb dX4_begins_32 rfl 0 rfl ?_
    refine ww_get (C := RX4) (T := TX4) (N := 7) hx hb hown hts hK inA4 0 rfl rfl 1 (by decide) kw_20 rfl rfl dX4_begins_33 ?_
    refine ww_get (C := RX2) (T := TX2) (N := 8) hx hb hown hts hK inA2 1 rfl rfl 4 (by decide) kw_253 rfl rfl dX4_begins_36 ?_
    refine ww_iload_n hx hb dX4_begins_39 rfl 1 rfl ?_
    refine ww_callS (ws1 := WC q cA σ_2) (st1 := [.int (fat σ_2 13 8 x1)]) hx hb hml hown hts hK hN hA (hDD _) (Nat.zero_le _) (Nat.zero_le _) [.ref (q 13), .int (x1)] [] (m_at (by decide) σ_2 x1) cs_X4_131 rfl (by decide) rfl (Nat.le_of_ble_eq_true rfl) dX4_begins_40 rfl ?_
    obtain ⟨rfl, rfl⟩ := os2 h
    exact ww_xiret hx hb hr hlk rfl dX4_begins_43
  · replace h := it_p c_1 h
    obtain ⟨rfl, rfl⟩ := os2 h
    exact ww_throw (ik := 68) (ic := 70) hx hb hl0 hml hown hts hN hZ hlk hno kw_41 kw_42 ek_70_IndexOutOfBoundsException dX4_begins_17 dX4_begins_20 dX4_begins_21 dX4_begins_24 (by decide)
set_option maxHeartbeats 4000000 in
set_option maxRecDepth 100000 in
theorem m_X4_left (hl0 : l.stackTraces = false) (σ : SS) (x1 : Int32) (r : Int32 ⊕ String) (σ1 : SS) (h : X4_left σ x1 = some (r, σ1)) : CtX l yX4_left cX4_left 2 (some .int) 7 280 D vwCl [(cA, .int)] (WC q cA σ) (WC q cA σ1) [.ref (q 0), .int (x1)] r := by
  refine ctx_of (by decide +kernel) (Nat.le_of_ble_eq_true rfl) ?_
  intro p e s m args below meth c hx hb hr hlk hml hown hts hK hD hN hA hZ hno
  have hown : s.vm.findClass RX4 = some m.cls := hown
  have hDD : ∀ τ : SS, va_D (va_A (WC q cA σ) s.heap.size) (WC q cA τ) := fun τ => hD.adr rfl
  unfold X4_left at h
  refine ww_sub (lv1 := [(0, .ref (q 0)), (1, .int (x1))]) [0, 1] rfl ?_
  refine ww_iload_n hx hb dX4_left_0 rfl 1 rfl ?_
  refine ww_iconst (v := 0) hx hb dX4_left_1 (by decide) ?_
  refine ww_iconst (v := 3) hx hb dX4_left_2 (by decide) ?_
  refine ww_callS (ws1 := WC q cA σ) (st1 := [.int (X4_isWithin x1 (0 : Int32) (3 : Int32))]) hx hb hml hown hts hK hN hA (hDD _) (Nat.zero_le _) (Nat.zero_le _) [.int (x1), .int ((0 : Int32)), .int ((3 : Int32))] [] (m_X4_isWithin σ x1 (0 : Int32) (3 : Int32)) cs_X4_42 rfl (by decide) rfl (Nat.le_of_ble_eq_true rfl) dX4_left_3 rfl ?_
  refine ww_ne0 (tgt := 17) hx hb dX4_left_6 (by decide) (fun c_1 => ?_) (fun c_1 => ?_)
  · replace h := it_n c_1 h
    refine ww_aload_n hx hb dX4_left_17 rfl 0 rfl ?_
    refine ww_get (C := RX4) (T := TX4) (N := 7) hx hb hown hts hK inA4 0 rfl rfl 2 (by decide) kw_181 rfl rfl dX4_left_18 ?_
    refine ww_get (C := RX0) (T := TX0) (N := 4) hx hb hown hts hK inA0 3 rfl rfl 0 (by decide) kw_195 rfl rfl dX4_left_21 ?_
    refine ww_iload_n hx hb dX4_left_24 rfl 1 rfl ?_
    refine ww_callS (ws1 := WC q cA σ) (st1 := [.int (fat σ 14 4 x1)]) hx hb hml hown hts hK hN hA (hDD _) (Nat.zero_le _) (Nat.zero_le _) [.ref (q 14), .int (x1)] [] (m_at (by decide) σ x1) cs_X4_131 rfl (by decide) rfl (Nat.le_of_ble_eq_true rfl) dX4_left_25 rfl ?_
    obtain ⟨rfl, rfl⟩ := os2 h
    exact ww_xiret hx hb hr hlk rfl dX4_left_28
  · replace h := it_p c_1 h
    obtain ⟨rfl, rfl⟩ := os2 h
    exact ww_throw (ik := 68) (ic := 70) hx hb hl0 hml hown hts hN hZ hlk hno kw_41 kw_42 ek_70_IndexOutOfBoundsException dX4_left_9 dX4_left_12 dX4_left_13 dX4_left_16 (by decide)
set_option maxHeartbeats 4000000 in
set_option maxRecDepth 100000 in
theorem m_X4_openOf (hl0 : l.stackTraces = false) (σ : SS) (x1 : Int32) (r : Int32 ⊕ String) (σ1 : SS) (h : X4_openOf σ x1 = some (r, σ1)) : CtX l yX4_openOf cX4_openOf 2 (some .int) 7 280 D vwCl [(cA, .int)] (WC q cA σ) (WC q cA σ1) [.ref (q 0), .int (x1)] r := by
  refine ctx_of (by decide +kernel) (Nat.le_of_ble_eq_true rfl) ?_
  intro p e s m args below meth c hx hb hr hlk hml hown hts hK hD hN hA hZ hno
  have hown : s.vm.findClass RX4 = some m.cls := hown
  have hDD : ∀ τ : SS, va_D (va_A (WC q cA σ) s.heap.size) (WC q cA τ) := fun τ => hD.adr rfl
  unfold X4_openOf at h
  refine ww_sub (lv1 := [(0, .ref (q 0)), (1, .int (x1))]) [0, 1] rfl ?_
  refine ww_iload_n hx hb dX4_openOf_0 rfl 1 rfl ?_
  refine ww_iconst (v := 0) hx hb dX4_openOf_1 (by decide) ?_
  refine ww_aload_n hx hb dX4_openOf_2 rfl 0 rfl ?_
  refine ww_get (C := RX4) (T := TX4) (N := 7) hx hb hown hts hK inA4 0 rfl rfl 3 (by decide) kw_201 rfl rfl dX4_openOf_3 ?_
  refine ww_get (C := RX1) (T := TX1) (N := 10) hx hb hown hts hK inA1 4 rfl rfl 7 (by decide) kw_202 rfl rfl dX4_openOf_6 ?_
  refine ww_iconst (v := 1) hx hb dX4_openOf_9 (by decide) ?_
  refine ww_isub hx hb dX4_openOf_10 ?_
  refine ww_callS (ws1 := WC q cA σ) (st1 := [.int (X4_isWithin x1 (0 : Int32) ((σ 4 7) - (1 : Int32)))]) hx hb hml hown hts hK hN hA (hDD _) (Nat.zero_le _) (Nat.zero_le _) [.int (x1), .int ((0 : Int32)), .int ((σ 4 7) - (1 : Int32))] [] (m_X4_isWithin σ x1 (0 : Int32) ((σ 4 7) - (1 : Int32))) cs_X4_42 rfl (by decide) rfl (Nat.le_of_ble_eq_true rfl) dX4_openOf_11 rfl ?_
  refine ww_ne0 (tgt := 25) hx hb dX4_openOf_14 (by decide) (fun c_1 => ?_) (fun c_1 => ?_)
  · replace h := it_n c_1 h
    refine ww_aload_n hx hb dX4_openOf_25 rfl 0 rfl ?_
    refine ww_get (C := RX4) (T := TX4) (N := 7) hx hb hown hts hK inA4 0 rfl rfl 3 (by decide) kw_201 rfl rfl dX4_openOf_26 ?_
    refine ww_get (C := RX1) (T := TX1) (N := 10) hx hb hown hts hK inA1 4 rfl rfl 1 (by decide) kw_256 rfl rfl dX4_openOf_29 ?_
    refine ww_iload_n hx hb dX4_openOf_32 rfl 1 rfl ?_
    refine ww_callS (ws1 := WC q cA σ) (st1 := [.int (fat σ 16 10 x1)]) hx hb hml hown hts hK hN hA (hDD _) (Nat.zero_le _) (Nat.zero_le _) [.ref (q 16), .int (x1)] [] (m_at (by decide) σ x1) cs_X4_131 rfl (by decide) rfl (Nat.le_of_ble_eq_true rfl) dX4_openOf_33 rfl ?_
    obtain ⟨rfl, rfl⟩ := os2 h
    exact ww_xiret hx hb hr hlk rfl dX4_openOf_36
  · replace h := it_p c_1 h
    obtain ⟨rfl, rfl⟩ := os2 h
    exact ww_throw (ik := 68) (ic := 70) hx hb hl0 hml hown hts hN hZ hlk hno kw_41 kw_42 ek_70_IndexOutOfBoundsException dX4_openOf_17 dX4_openOf_20 dX4_openOf_21 dX4_openOf_24 (by decide)
set_option maxHeartbeats 4000000 in
set_option maxRecDepth 100000 in
theorem m_X4_got (hl0 : l.stackTraces = false) (σ : SS) (x1 : Int32) (r : Int32 ⊕ String) (σ1 : SS) (h : X4_got σ x1 = some (r, σ1)) : CtX l yX4_got cX4_got 2 (some .int) 7 280 D vwCl [(cA, .int)] (WC q cA σ) (WC q cA σ1) [.ref (q 0), .int (x1)] r := by
  refine ctx_of (by decide +kernel) (Nat.le_of_ble_eq_true rfl) ?_
  intro p e s m args below meth c hx hb hr hlk hml hown hts hK hD hN hA hZ hno
  have hown : s.vm.findClass RX4 = some m.cls := hown
  have hDD : ∀ τ : SS, va_D (va_A (WC q cA σ) s.heap.size) (WC q cA τ) := fun τ => hD.adr rfl
  unfold X4_got at h
  refine ww_sub (lv1 := [(0, .ref (q 0)), (1, .int (x1))]) [0, 1] rfl ?_
  refine ww_iload_n hx hb dX4_got_0 rfl 1 rfl ?_
  refine ww_iconst (v := 0) hx hb dX4_got_1 (by decide) ?_
  refine ww_iconst (v := 5) hx hb dX4_got_2 (by decide) ?_
  refine ww_callS (ws1 := WC q cA σ) (st1 := [.int (X4_isWithin x1 (0 : Int32) (5 : Int32))]) hx hb hml hown hts hK hN hA (hDD _) (Nat.zero_le _) (Nat.zero_le _) [.int (x1), .int ((0 : Int32)), .int ((5 : Int32))] [] (m_X4_isWithin σ x1 (0 : Int32) (5 : Int32)) cs_X4_42 rfl (by decide) rfl (Nat.le_of_ble_eq_true rfl) dX4_got_3 rfl ?_
  refine ww_ne0 (tgt := 17) hx hb dX4_got_6 (by decide) (fun c_1 => ?_) (fun c_1 => ?_)
  · replace h := it_n c_1 h
    refine ww_aload_n hx hb dX4_got_17 rfl 0 rfl ?_
    refine ww_get (C := RX4) (T := TX4) (N := 7) hx hb hown hts hK inA4 0 rfl rfl 3 (by decide) kw_201 rfl rfl dX4_got_18 ?_
    refine ww_get (C := RX1) (T := TX1) (N := 10) hx hb hown hts hK inA1 4 rfl rfl 6 (by decide) kw_257 rfl rfl dX4_got_21 ?_
    refine ww_iload_n hx hb dX4_got_24 rfl 1 rfl ?_
    refine ww_callS (ws1 := WC q cA σ) (st1 := [.int (fat σ 21 6 x1)]) hx hb hml hown hts hK hN hA (hDD _) (Nat.zero_le _) (Nat.zero_le _) [.ref (q 21), .int (x1)] [] (m_at (by decide) σ x1) cs_X4_131 rfl (by decide) rfl (Nat.le_of_ble_eq_true rfl) dX4_got_25 rfl ?_
    obtain ⟨rfl, rfl⟩ := os2 h
    exact ww_xiret hx hb hr hlk rfl dX4_got_28
  · replace h := it_p c_1 h
    obtain ⟨rfl, rfl⟩ := os2 h
    exact ww_throw (ik := 68) (ic := 70) hx hb hl0 hml hown hts hN hZ hlk hno kw_41 kw_42 ek_70_IndexOutOfBoundsException dX4_got_9 dX4_got_12 dX4_got_13 dX4_got_16 (by decide)
end
