/-! THE CLAIM OUT OF ONE WALK OF THE LAW'S BODY. Your part is whole_start (and what it stands on); all else here is the same for every law, but numbers. -/
def R_law : String := "ScripthouseLaw"
def lw_P (b : Addr) (xs : List Int32) (args : Array Value) (s : State) : Prop := args = #[.ref b] ∧ s.IntsAt b xs ∧ xs.length ≤ 260 ∧ (Jvm.Cond.and given_1 narrow_1).before args s = true
def lw_Q (_ : Array Value) (s : State) (o : Outcome) (t : State) : Prop := o = .returned (some (.int 1)) ∧ Framed s o t [] 655192 7136123
def lw_Z (below : List Frame) (a : Array Value) (s : State) : State → Prop := fun t => ∃ o, t.status = .running ∧ Ended t below o ∧ lw_Q a s o t
/-- the law's own end, with 1 on the stack, nothing written that was there before, its room as the claim has it -/
theorem lw_ret {p : Program} {l : Launch} {e : Env} {s : State} {m : MethodId} {below : List Frame} {meth : Method} {c : Code} {b : Nat} (hx : p.tables.exec = Jvm.exec) (hb : c.code = code) (hr : meth.sig.returnType = ret) (hlocks : meth.locks = false) {pc : Nat} {H : Heap} {ls : Array Slot} (hdg : decode code pc = .ok (.ireturn, 1)) : W p l e room_1 s m #[Value.ref b] below meth c H [] 655192 7136123 (lw_Z below #[Value.ref b] s) (F0 m pc ls [.int 1]) := by
  intro T hT X
  obtain ⟨fs, hret, hrun, hended, hW, hframe⟩ := X.leave (v := some (.int 1)) (hlocks := hlocks) (fun h => by rw [hr] at h; cases h)
  have hmeth' : T.vm.method? m = some meth := X.method'
  refine ⟨T.setFrames fs, ?_, .returned (some (.int 1)), hrun, hended, rfl, ⟨_, rfl⟩, hW, hframe⟩
  jvm_step X.here [X.here.top, hx, hb, hdg, hmeth', hr, ret, narrow_b1]
  (try refine ⟨rfl, ?_⟩); (try refine ⟨rfl, ?_⟩)
  first | (intro acts; rw [hret _ acts rfl rfl rfl]) | rw [hret _ _ rfl rfl rfl]
  exact Steps.refl _
/-- what holds at the law's entry: the machine, the code, the tables' words (any of lw_tbl by 'hts w (by decide +kernel)'), the script of L ints xs at the cell b, what the Statement gives of the start (any of its parts by flat_of_before) -/
def lw_At (p : Program) (s : State) (m : MethodId) (meth : Method) (c : Code) (b L : Nat) (xs : Nat → Int32) : Prop :=
  p.tables.exec = Jvm.exec ∧ c.code = code ∧ meth.sig.returnType = ret ∧ c.maxLocals = 6 ∧ s.vm.findClass R_law = some m.cls ∧ (∀ w ∈ lw_tbl, w.before #[Value.ref b] s = true) ∧ va_X b L xs s s.heap ∧ b < s.heap.size ∧ meth.locks = false ∧ (Jvm.Cond.and given_1 narrow_1).before #[Value.ref b] s = true


theorem ww_lwret {p : Program} {l : Launch} {e : Env} {s : State} {m : MethodId} {below : List Frame} {meth : Method} {c : Code} {D : va_G} {b : Nat} {cells slots : Nat} {ws : va_W} {pc : Nat} {lv : List (Nat × Value)} (hx : p.tables.exec = Jvm.exec) (hb : c.code = code) (hr : meth.sig.returnType = ret) (hlk : meth.locks = false) (h1 : cells ≤ 655192) (h2 : slots ≤ 7136123) (hd : decode code pc = .ok (.ireturn, 1)) : WW p l e room_1 s m #[Value.ref b] below meth c D vwCl (fun q => s.heap.size ≤ q) 6 cells slots (lw_Z below #[Value.ref b] s) ws pc lv [.int 1] :=
  fun _ _ _ _ hS _ => va_forget (fun q hq => hS.2.2 q hq) (W.widen h1 h2 (lw_ret hx hb hr hlk hd))
theorem tbl1 {w : Cond} {i : Nat} (h : tables_1_1[i]? = some w) : w ∈ lw_tbl := List.mem_append_right _ (List.mem_append_left _ (List.mem_of_getElem? h))
theorem tbl2 {w : Cond} {i : Nat} (h : tables_1_2[i]? = some w) : w ∈ lw_tbl := List.mem_append_right _ (List.mem_append_right _ (List.mem_append_left _ (List.mem_of_getElem? h)))
theorem tbl3 {w : Cond} {i : Nat} (h : tables_1_3[i]? = some w) : w ∈ lw_tbl := List.mem_append_right _ (List.mem_append_right _ (List.mem_append_right _ (List.mem_of_getElem? h)))
set_option maxHeartbeats 4000000 in
set_option maxRecDepth 100000 in
theorem nws_of {s : State} {b : Nat} (hts : ∀ w ∈ lw_tbl, w.before #[Value.ref b] s = true) (hg : (Jvm.Cond.and given_1 narrow_1).before #[Value.ref b] s = true) : NWs s := by
  refine ⟨?_, ?_, ?_, ?_⟩
  · exact List.forall_mem_cons.mpr ⟨va_Nw.of rfl (hts _ (tbl1 (i := 24) rfl)), List.forall_mem_cons.mpr ⟨va_Nw.of rfl (hts _ (tbl1 (i := 30) rfl)), List.forall_mem_cons.mpr ⟨va_Nw.of rfl (hts _ (tbl1 (i := 105) rfl)), List.forall_mem_cons.mpr ⟨va_Nw.of rfl (hts _ (tbl1 (i := 128) rfl)), List.forall_mem_cons.mpr ⟨va_Nw.of rfl (hts _ (tbl2 (i := 74) rfl)), List.forall_mem_cons.mpr ⟨va_Nw.of rfl (hts _ (tbl2 (i := 80) rfl)), List.forall_mem_cons.mpr ⟨va_Nw.of rfl (hts _ (tbl2 (i := 85) rfl)), List.forall_mem_cons.mpr ⟨va_Nw.of rfl (hts _ (tbl2 (i := 92) rfl)), List.forall_mem_cons.mpr ⟨va_Nw.of rfl (hts _ (tbl2 (i := 111) rfl)), List.forall_mem_cons.mpr ⟨va_Nw.of rfl (hts _ (tbl2 (i := 124) rfl)), List.forall_mem_cons.mpr ⟨va_Nw.of rfl (hts _ (tbl2 (i := 47) rfl)), List.forall_mem_cons.mpr ⟨va_Nw.of rfl (hts _ (tbl2 (i := 175) rfl)), List.forall_mem_cons.mpr ⟨va_Nw.of rfl (hts _ (tbl2 (i := 182) rfl)), List.forall_mem_cons.mpr ⟨va_Nw.of rfl (hts _ (tbl3 (i := 37) rfl)), List.forall_mem_cons.mpr ⟨va_Nw.of rfl (hts _ (tbl3 (i := 46) rfl)), List.forall_mem_cons.mpr ⟨va_Nw.of rfl (hts _ (tbl3 (i := 66) rfl)), fun _ h => absurd h List.not_mem_nil⟩⟩⟩⟩⟩⟩⟩⟩⟩⟩⟩⟩⟩⟩⟩⟩
  · exact List.forall_mem_cons.mpr ⟨va_Nw.of rfl (hts _ (tbl1 (i := 203) rfl)), List.forall_mem_cons.mpr ⟨va_Nw.of rfl (hts _ (tbl2 (i := 26) rfl)), List.forall_mem_cons.mpr ⟨va_Nw.of rfl (hts _ (tbl2 (i := 231) rfl)), fun _ h => absurd h List.not_mem_nil⟩⟩⟩
  · have hs := flat_of_before _ hg
    exact List.forall_mem_cons.mpr ⟨List.forall_mem_cons.mpr ⟨fun h => absurd rfl h, List.forall_mem_cons.mpr ⟨fun _ => va_Nc.of (args := #[Value.ref b]) (hs _ (by decide +kernel)), List.forall_mem_cons.mpr ⟨fun _ => va_Nc.of (args := #[Value.ref b]) (hs _ (by decide +kernel)), fun _ h => absurd h List.not_mem_nil⟩⟩⟩, List.forall_mem_cons.mpr ⟨List.forall_mem_cons.mpr ⟨fun _ => va_Nc.of (args := #[Value.ref b]) (hs _ (by decide +kernel)), List.forall_mem_cons.mpr ⟨fun h => absurd rfl h, List.forall_mem_cons.mpr ⟨fun _ => va_Nc.of (args := #[Value.ref b]) (hs _ (by decide +kernel)), fun _ h => absurd h List.not_mem_nil⟩⟩⟩, List.forall_mem_cons.mpr ⟨List.forall_mem_cons.mpr ⟨fun _ => va_Nc.of (args := #[Value.ref b]) (hs _ (by decide +kernel)), List.forall_mem_cons.mpr ⟨fun _ => va_Nc.of (args := #[Value.ref b]) (hs _ (by decide +kernel)), List.forall_mem_cons.mpr ⟨fun h => absurd rfl h, fun _ h => absurd h List.not_mem_nil⟩⟩⟩, fun _ h => absurd h List.not_mem_nil⟩⟩⟩
  · exact List.forall_mem_cons.mpr ⟨va_Nw.of rfl (hts _ (tbl1 (i := 204) rfl)), List.forall_mem_cons.mpr ⟨va_Nw.of rfl (hts _ (tbl1 (i := 206) rfl)), List.forall_mem_cons.mpr ⟨va_Nw.of rfl (hts _ (tbl1 (i := 208) rfl)), fun _ h => absurd h List.not_mem_nil⟩⟩⟩
set_option maxHeartbeats 4000000 in
set_option maxRecDepth 100000 in
theorem zz_of {s : State} {b : Nat} (hts : ∀ w ∈ lw_tbl, w.before #[Value.ref b] s = true) (hg : (Jvm.Cond.and given_1 narrow_1).before #[Value.ref b] s = true) : ZZ (fun q => s.heap.size ≤ q) s := by
  have hs := flat_of_before _ hg
  exact ⟨vx_Zqof (hts (.laysStatic Bundle.tN "UNASSIGNED_STACK" Bundle.steD) (tbl1 (i := 228) rfl)) (hts (.initialized Bundle.tN) (tbl1 (i := 8) rfl)) (hs _ (by decide +kernel)) (fun a h => Nat.not_le.mpr h), vx_Zqof (hts (.laysStatic Bundle.tN "SUPPRESSED_SENTINEL" Bundle.listD) (tbl1 (i := 230) rfl)) (hts (.initialized Bundle.tN) (tbl1 (i := 8) rfl)) (hs _ (by decide +kernel)) (fun a h => Nat.not_le.mpr h)⟩
set_option maxHeartbeats 8000000 in
set_option maxRecDepth 100000 in
theorem law_walk {p : Program} {l : Launch} {e : Env} {s : State} {m : MethodId} {below : List Frame} {meth : Method} {c : Code} {D : va_G} {cA : ClassId} {b L : Nat} {xs : Nat → Int32} (hx : p.tables.exec = Jvm.exec) (hb : c.code = code) (hr : meth.sig.returnType = ret) (hlk : meth.locks = false) (hml : c.maxLocals = 6) (hown : s.vm.findClass RL = some m.cls) (hts : ∀ w ∈ wALL, w.before #[Value.ref b] s = true) (hK : va_K D vwCl [(cA, .int)] s) (hN : NWs s) (hZ : ZZ (fun q : Nat => s.heap.size ≤ q) s) (hX : va_X b L xs s s.heap) (hbl : b < s.heap.size) (hl0 : l.stackTraces = false) (h : L_law xs L = some 1) : WW p l e room_1 s m #[Value.ref b] below meth c D vwCl (fun q : Nat => s.heap.size ≤ q) 6 0 0 (lw_Z below #[Value.ref b] s) [] 0 [(0, .ref b)] [] := by
  have hbA : ¬ (fun q : Nat => s.heap.size ≤ q) b := Nat.not_le.mpr hbl
  have hA : ∀ q : Nat, s.heap.size ≤ q → (fun q : Nat => s.heap.size ≤ q) q := fun _ h => h
  unfold L_law at h
  have bk316 : ∀ (q : Nat → Nat) (hDD : ∀ τ : SS, va_D (fun q : Nat => s.heap.size ≤ q) (WC q cA τ)) (cells slots : Nat) (hc : cells + 125 ≤ 655192) (hs : slots + 750 ≤ 7136123) (τ : SS) , L_law_b316 xs L τ = some 1 → WW p l e room_1 s m #[Value.ref b] below meth c D vwCl (fun q : Nat => s.heap.size ≤ q) 6 cells slots (lw_Z below #[Value.ref b] s) (WC q cA τ) 316 [(2, .ref (q 0))] [] := by
    intro q hDD cells slots hc hs τ h
    unfold L_law_b316 at h
    refine ww_aload_n hx hb dL_law_316 rfl 0 rfl ?_
    refine ww_callV (ws1 := WC q cA τ) (st1 := [.int (X4_shot τ)]) hx hb hml hown hts hK hN hA (hDD _) (by show _ ≤ 655192; omega) (by show _ ≤ 7136123; omega) [] [] (m_X4_shot τ) cs_L_102 rfl ⟨Nat.le_of_ble_eq_true rfl, Nat.le_of_ble_eq_true rfl⟩ 0 rfl rfl rfl (Nat.le_of_ble_eq_true rfl) dL_law_317 rfl ?_
    refine ww_sipush (v := 255) hx hb dL_law_320 (by decide) ?_
    refine ww_ne2 (tgt := 349) hx hb dL_law_323 (by decide) (fun c_28 => ?_) (fun c_28 => ?_)
    · replace h := it_n c_28 h
      refine ww_iconst (v := 0) hx hb dL_law_349 (by decide) ?_
      have h1 := os1 h
      first | (exact absurd h1 (by decide)) | (rw [h1]; exact ww_lwret hx hb hr hlk (by show _ ≤ 655192; omega) (by show _ ≤ 7136123; omega) dL_law_350) | exact ww_lwret hx hb hr hlk (by show _ ≤ 655192; omega) (by show _ ≤ 7136123; omega) dL_law_350
    · replace h := it_p c_28 h
      refine ww_aload_n hx hb dL_law_326 rfl 0 rfl ?_
      obtain ⟨r_29, σ_29, e_29, h⟩ := ob2 h
      refine ww_callV (ws1 := WC q cA σ_29) (st1 := [.int (r_29)]) hx hb hml hown hts hK hN hA (hDD _) (by show _ ≤ 655192; omega) (by show _ ≤ 7136123; omega) [] [] (m_X4_days _  _ _ e_29) cs_L_73 rfl ⟨Nat.le_of_ble_eq_true rfl, Nat.le_of_ble_eq_true rfl⟩ 0 rfl rfl rfl (Nat.le_of_ble_eq_true rfl) dL_law_327 rfl ?_
      refine ww_ne0 (tgt := 349) hx hb dL_law_330 (by decide) (fun c_30 => ?_) (fun c_30 => ?_)
      · replace h := it_n c_30 h
        refine ww_iconst (v := 0) hx hb dL_law_349 (by decide) ?_
        have h1 := os1 h
        first | (exact absurd h1 (by decide)) | (rw [h1]; exact ww_lwret hx hb hr hlk (by show _ ≤ 655192; omega) (by show _ ≤ 7136123; omega) dL_law_350) | exact ww_lwret hx hb hr hlk (by show _ ≤ 655192; omega) (by show _ ≤ 7136123; omega) dL_law_350
      · replace h := it_p c_30 h
        refine ww_aload_n hx hb dL_law_333 rfl 0 rfl ?_
        refine ww_bipush (v := 8) hx hb dL_law_334 (by decide) ?_
        refine ww_iconst (v := 0) hx hb dL_law_336 (by decide) ?_
        refine ww_iconst (v := 0) hx hb dL_law_337 (by decide) ?_
        refine ww_iconst (v := 0) hx hb dL_law_338 (by decide) ?_
        obtain ⟨r_31, σ_31, e_31, h⟩ := ob2 h
        refine ww_callK (w01 := WC q cA σ_31) (st1 := [.int (r_31)]) hx hb hml hown hts hK hN hA hZ [.ref (q 0), .int ((8 : Int32)), .int ((0 : Int32)), .int ((0 : Int32)), .int ((0 : Int32))] [] (m_L_refuses hl0 _ _ _ _ _ _ _ e_31) cs_L_109 rfl ⟨Nat.le_of_ble_eq_true rfl, Nat.le_of_ble_eq_true rfl⟩ ⟨by show _ ≤ 655192; omega, by show _ ≤ 7136123; omega⟩ (hDD _) rfl (Nat.le_of_ble_eq_true rfl) dL_law_339 rfl ?_
        refine ww_eq0 (tgt := 349) hx hb dL_law_342 (by decide) (fun c_32 => ?_) (fun c_32 => ?_)
        · replace h := it_p c_32 h
          refine ww_iconst (v := 0) hx hb dL_law_349 (by decide) ?_
          have h1 := os1 h
          first | (exact absurd h1 (by decide)) | (rw [h1]; exact ww_lwret hx hb hr hlk (by show _ ≤ 655192; omega) (by show _ ≤ 7136123; omega) dL_law_350) | exact ww_lwret hx hb hr hlk (by show _ ≤ 655192; omega) (by show _ ≤ 7136123; omega) dL_law_350
        · replace h := it_n c_32 h
          refine ww_iconst (v := 1) hx hb dL_law_345 (by decide) ?_
          refine ww_goto (tgt := 350) hx hb dL_law_346 (by decide) ?_
          have h1 := os1 h
          first | (exact absurd h1 (by decide)) | (rw [h1]; exact ww_lwret hx hb hr hlk (by show _ ≤ 655192; omega) (by show _ ≤ 7136123; omega) dL_law_350) | exact ww_lwret hx hb hr hlk (by show _ ≤ 655192; omega) (by show _ ≤ 7136123; omega) dL_law_350
  have lp291 : ∀ (n : Nat) (q : Nat → Nat) (hDD : ∀ τ : SS, va_D (fun q : Nat => s.heap.size ≤ q) (WC q cA τ)) (cells slots : Nat) (hc : cells + (125 + n * 1) ≤ 655192) (hs : slots + (750 + n * 6) ≤ 7136123) (τ : SS) (x3 : Int32) (x4 : Int32), L_law_l291 xs L n τ x3 x4 = some 1 → WW p l e room_1 s m #[Value.ref b] below meth c D vwCl (fun q : Nat => s.heap.size ≤ q) 6 cells slots (lw_Z below #[Value.ref b] s) (WC q cA τ) 291 [(2, .ref (q 0)), (3, .int (x3)), (4, .int (x4))] [] := by
    intro n
    induction n with
    | zero => intro q hDD cells slots hc hs τ x3 x4 h; rw [L_law_l291] at h; cases h
    | succ n ih =>
      intro q hDD cells slots hc hs τ x3 x4 h
      rw [L_law_l291] at h
      refine ww_iload hx hb dL_law_291 2 rfl ?_
      refine ww_bipush (v := 30) hx hb dL_law_293 (by decide) ?_
      refine ww_ge2 (tgt := 312) hx hb dL_law_295 (by decide) (fun c_24 => ?_) (fun c_24 => ?_)
      · replace h := it_p c_24 h
        refine ww_iload_n hx hb dL_law_312 rfl 1 rfl ?_
        refine ww_lt0 (tgt := 349) hx hb dL_law_313 (by decide) (fun c_25 => ?_) (fun c_25 => ?_)
        · replace h := it_p c_25 h
          refine ww_iconst (v := 0) hx hb dL_law_349 (by decide) ?_
          have h1 := os1 h
          first | (exact absurd h1 (by decide)) | (rw [h1]; exact ww_lwret hx hb hr hlk (by show _ ≤ 655192; omega) (by show _ ≤ 7136123; omega) dL_law_350) | exact ww_lwret hx hb hr hlk (by show _ ≤ 655192; omega) (by show _ ≤ 7136123; omega) dL_law_350
        · replace h := it_n c_25 h
          exact ww_sub (lv1 := [(2, .ref (q 0))]) [0] rfl (bk316 _ hDD _ _ (by omega) (by omega) _ h)
      · replace h := it_n c_24 h
        refine ww_iload_n hx hb dL_law_298 rfl 1 rfl ?_
        refine ww_aload_n hx hb dL_law_299 rfl 0 rfl ?_
        refine ww_iconst (v := 0) hx hb dL_law_300 (by decide) ?_
        obtain ⟨r_26, σ_26, e_26, h⟩ := obx h
        refine ww_callXI (w01 := WC q cA σ_26) (st1 := [.int (r_26), .int (x3)]) hx hb hml hown hts hK hN hA hZ [.int ((0 : Int32))] [.int (x3)] (m_X4_shoot hl0 _ _ _ _ e_26) cs_L_20 rfl ⟨Nat.le_of_ble_eq_true rfl, Nat.le_of_ble_eq_true rfl⟩ ⟨by show _ ≤ 655192; omega, by show _ ≤ 7136123; omega⟩ (hDD _) 0 rfl rfl rfl (Nat.le_of_ble_eq_true rfl) dL_law_301 rfl ?_
        refine ww_iadd hx hb dL_law_304 ?_
        refine ww_istore_n (i := 3) (lv1 := [(2, .ref (q 0)), (3, .int (x3 + r_26)), (4, .int (x4))]) hx hb dL_law_305 rfl (by decide) [1, 0, 2] rfl ?_
        refine ww_iinc (i := 4) (k := 2) (v := 1) (lv1 := [(2, .ref (q 0)), (3, .int (x3 + r_26)), (4, .int (x4 + 1))]) hx hb dL_law_306 rfl (by decide) (by decide) [1, 2, 0] rfl ?_
        refine ww_goto (tgt := 291) hx hb dL_law_309 (by decide) ?_
        exact ww_sub (lv1 := [(2, .ref (q 0)), (3, .int (x3 + r_26)), (4, .int (x4 + 1))]) [0, 1, 2] rfl (ih _ hDD _ _ (by omega) (by omega) _ _ _ h)
  have lp150 : ∀ (n : Nat) (q : Nat → Nat) (hDD : ∀ τ : SS, va_D (fun q : Nat => s.heap.size ≤ q) (WC q cA τ)) (cells slots : Nat) (hc : cells + (156 + n * 3) ≤ 655192) (hs : slots + (936 + n * 18) ≤ 7136123) (τ : SS) (x3 : Int32) (x4 : Int32), L_law_l150 xs L n τ x3 x4 = some 1 → WW p l e room_1 s m #[Value.ref b] below meth c D vwCl (fun q : Nat => s.heap.size ≤ q) 6 cells slots (lw_Z below #[Value.ref b] s) (WC q cA τ) 150 [(0, .ref b), (2, .ref (q 0)), (3, .int (x3)), (4, .int (x4))] [] := by
    intro n
    induction n with
    | zero => intro q hDD cells slots hc hs τ x3 x4 h; rw [L_law_l150] at h; cases h
    | succ n ih =>
      have bk282 : ∀ (q : Nat → Nat) (hDD : ∀ τ : SS, va_D (fun q : Nat => s.heap.size ≤ q) (WC q cA τ)) (cells slots : Nat) (hc : cells + (156 + n * 3) ≤ 655192) (hs : slots + (936 + n * 18) ≤ 7136123) (τ : SS) (x3 : Int32) (x4 : Int32), L_law_b282 xs L (L_law_l150 xs L n) τ x3 x4 = some 1 → WW p l e room_1 s m #[Value.ref b] below meth c D vwCl (fun q : Nat => s.heap.size ≤ q) 6 cells slots (lw_Z below #[Value.ref b] s) (WC q cA τ) 282 [(0, .ref b), (2, .ref (q 0)), (3, .int (x3)), (4, .int (x4))] [] := by
        intro q hDD cells slots hc hs τ x3 x4 h
        unfold L_law_b282 at h
        refine ww_iinc (i := 4) (k := 3) (v := 1) (lv1 := [(0, .ref b), (2, .ref (q 0)), (3, .int (x3)), (4, .int (x4 + 1))]) hx hb dL_law_282 rfl (by decide) (by decide) [1, 2, 3, 0] rfl ?_
        refine ww_goto (tgt := 150) hx hb dL_law_285 (by decide) ?_
        exact ww_sub (lv1 := [(0, .ref b), (2, .ref (q 0)), (3, .int (x3)), (4, .int (x4 + 1))]) [0, 1, 2, 3] rfl (ih _ hDD _ _ (by omega) (by omega) _ _ _ h)
      have bk255 : ∀ (q : Nat → Nat) (hDD : ∀ τ : SS, va_D (fun q : Nat => s.heap.size ≤ q) (WC q cA τ)) (cells slots : Nat) (hc : cells + (157 + n * 3) ≤ 655192) (hs : slots + (942 + n * 18) ≤ 7136123) (τ : SS) (x3 : Int32) (x4 : Int32), L_law_b255 xs L (L_law_l150 xs L n) τ x3 x4 = some 1 → WW p l e room_1 s m #[Value.ref b] below meth c D vwCl (fun q : Nat => s.heap.size ≤ q) 6 cells slots (lw_Z below #[Value.ref b] s) (WC q cA τ) 255 [(0, .ref b), (2, .ref (q 0)), (3, .int (x3)), (4, .int (x4))] [] := by
        intro q hDD cells slots hc hs τ x3 x4 h
        unfold L_law_b255 at h
        refine ww_aload_n hx hb dL_law_255 rfl 1 rfl ?_
        obtain ⟨r_39, σ_39, e_39, h⟩ := ob2 h
        refine ww_callV (ws1 := WC q cA σ_39) (st1 := [.int (r_39)]) hx hb hml hown hts hK hN hA (hDD _) (by show _ ≤ 655192; omega) (by show _ ≤ 7136123; omega) [] [] (m_X4_days _  _ _ e_39) cs_L_73 rfl ⟨Nat.le_of_ble_eq_true rfl, Nat.le_of_ble_eq_true rfl⟩ 0 rfl rfl rfl (Nat.le_of_ble_eq_true rfl) dL_law_256 rfl ?_
        refine ww_lt0 (tgt := 280) hx hb dL_law_259 (by decide) (fun c_40 => ?_) (fun c_40 => ?_)
        · replace h := it_p c_40 h
          refine ww_iconst (v := 0) hx hb dL_law_280 (by decide) ?_
          have h1 := os1 h
          first | (exact absurd h1 (by decide)) | (rw [h1]; exact ww_lwret hx hb hr hlk (by show _ ≤ 655192; omega) (by show _ ≤ 7136123; omega) dL_law_281) | exact ww_lwret hx hb hr hlk (by show _ ≤ 655192; omega) (by show _ ≤ 7136123; omega) dL_law_281
        · replace h := it_n c_40 h
          refine ww_iload hx hb dL_law_262 3 rfl ?_
          refine ww_bipush (v := 6) hx hb dL_law_264 (by decide) ?_
          refine ww_ge2 (tgt := 282) hx hb dL_law_266 (by decide) (fun c_41 => ?_) (fun c_41 => ?_)
          · replace h := it_p c_41 h
            exact ww_sub (lv1 := [(0, .ref b), (2, .ref (q 0)), (3, .int (x3)), (4, .int (x4))]) [0, 1, 2, 3] rfl (bk282 _ hDD _ _ (by omega) (by omega) _ _ _ h)
          · replace h := it_n c_41 h
            refine ww_aload_n hx hb dL_law_269 rfl 1 rfl ?_
            obtain ⟨r_42, σ_42, e_42, h⟩ := ob2 h
            refine ww_callV (ws1 := WC q cA σ_42) (st1 := [.int (r_42)]) hx hb hml hown hts hK hN hA (hDD _) (by show _ ≤ 655192; omega) (by show _ ≤ 7136123; omega) [] [] (m_X4_days _  _ _ e_42) cs_L_73 rfl ⟨Nat.le_of_ble_eq_true rfl, Nat.le_of_ble_eq_true rfl⟩ 0 rfl rfl rfl (Nat.le_of_ble_eq_true rfl) dL_law_270 rfl ?_
            refine ww_aload_n hx hb dL_law_273 rfl 1 rfl ?_
            obtain ⟨r_43, σ_43, e_43, h⟩ := obx h
            refine ww_callXI (w01 := WC q cA σ_43) (st1 := [.int (r_43), .int (r_42)]) hx hb hml hown hts hK hN hA hZ [] [.int (r_42)] (m_X4_daysByAll hl0 _  _ _ e_43) cs_L_44 rfl ⟨Nat.le_of_ble_eq_true rfl, Nat.le_of_ble_eq_true rfl⟩ ⟨by show _ ≤ 655192; omega, by show _ ≤ 7136123; omega⟩ (hDD _) 0 rfl rfl rfl (Nat.le_of_ble_eq_true rfl) dL_law_274 rfl ?_
            refine ww_eq2 (tgt := 282) hx hb dL_law_277 (by decide) (fun c_44 => ?_) (fun c_44 => ?_)
            · replace h := it_p c_44 h
              exact ww_sub (lv1 := [(0, .ref b), (2, .ref (q 0)), (3, .int (x3)), (4, .int (x4))]) [0, 1, 2, 3] rfl (bk282 _ hDD _ _ (by omega) (by omega) _ _ _ h)
            · replace h := it_n c_44 h
              refine ww_iconst (v := 0) hx hb dL_law_280 (by decide) ?_
              have h1 := os1 h
              first | (exact absurd h1 (by decide)) | (rw [h1]; exact ww_lwret hx hb hr hlk (by show _ ≤ 655192; omega) (by show _ ≤ 7136123; omega) dL_law_281) | exact ww_lwret hx hb hr hlk (by show _ ≤ 655192; omega) (by show _ ≤ 7136123; omega) dL_law_281
      have bk248 : ∀ (q : Nat → Nat) (hDD : ∀ τ : SS, va_D (fun q : Nat => s.heap.size ≤ q) (WC q cA τ)) (cells slots : Nat) (hc : cells + (158 + n * 3) ≤ 655192) (hs : slots + (948 + n * 18) ≤ 7136123) (τ : SS) (x3 : Int32) (x4 : Int32) (y1 : Int32), L_law_b248 xs L (L_law_l150 xs L n) τ x3 x4 y1 = some 1 → WW p l e room_1 s m #[Value.ref b] below meth c D vwCl (fun q : Nat => s.heap.size ≤ q) 6 cells slots (lw_Z below #[Value.ref b] s) (WC q cA τ) 248 [(0, .ref b), (2, .ref (q 0)), (3, .int (x3)), (4, .int (x4))] [.int (y1), .ref (q 0)] := by
        intro q hDD cells slots hc hs τ x3 x4 y1 h
        unfold L_law_b248 at h
        obtain ⟨r_45, σ_45, e_45, h⟩ := obx h
        refine ww_callXI (w01 := WC q cA σ_45) (st1 := [.int (r_45)]) hx hb hml hown hts hK hN hA hZ [.int (y1)] [] (m_X4_shoot hl0 _ _ _ _ e_45) cs_L_20 rfl ⟨Nat.le_of_ble_eq_true rfl, Nat.le_of_ble_eq_true rfl⟩ ⟨by show _ ≤ 655192; omega, by show _ ≤ 7136123; omega⟩ (hDD _) 0 rfl rfl rfl (Nat.le_of_ble_eq_true rfl) dL_law_248 rfl ?_
        refine ww_iconst (v := 1) hx hb dL_law_251 (by decide) ?_
        refine ww_lt2 (tgt := 280) hx hb dL_law_252 (by decide) (fun c_46 => ?_) (fun c_46 => ?_)
        · replace h := it_p c_46 h
          refine ww_iconst (v := 0) hx hb dL_law_280 (by decide) ?_
          have h1 := os1 h
          first | (exact absurd h1 (by decide)) | (rw [h1]; exact ww_lwret hx hb hr hlk (by show _ ≤ 655192; omega) (by show _ ≤ 7136123; omega) dL_law_281) | exact ww_lwret hx hb hr hlk (by show _ ≤ 655192; omega) (by show _ ≤ 7136123; omega) dL_law_281
        · replace h := it_n c_46 h
          exact ww_sub (lv1 := [(0, .ref b), (2, .ref (q 0)), (3, .int (x3)), (4, .int (x4))]) [0, 1, 2, 3] rfl (bk255 _ hDD _ _ (by omega) (by omega) _ _ _ h)
      have bk219 : ∀ (q : Nat → Nat) (hDD : ∀ τ : SS, va_D (fun q : Nat => s.heap.size ≤ q) (WC q cA τ)) (cells slots : Nat) (hc : cells + (159 + n * 3) ≤ 655192) (hs : slots + (954 + n * 18) ≤ 7136123) (τ : SS) (x3 : Int32) (x4 : Int32) (x5 : Int32) (y1 : Int32) (y2 : Int32) (y3 : Int32) (y4 : Int32) (y5 : Int32), L_law_b219 xs L (L_law_l150 xs L n) τ x3 x4 x5 y1 y2 y3 y4 y5 = some 1 → WW p l e room_1 s m #[Value.ref b] below meth c D vwCl (fun q : Nat => s.heap.size ≤ q) 6 cells slots (lw_Z below #[Value.ref b] s) (WC q cA τ) 219 [(0, .ref b), (2, .ref (q 0)), (3, .int (x3)), (4, .int (x4)), (5, .int (x5))] [.int (y5), .int (y4), .int (y3), .int (y2), .int (y1), .ref (q 0)] := by
        intro q hDD cells slots hc hs τ x3 x4 x5 y1 y2 y3 y4 y5 h
        unfold L_law_b219 at h
        obtain ⟨r_35, σ_35, e_35, h⟩ := obx h
        refine ww_callXI (w01 := WC q cA σ_35) (st1 := [.int (r_35)]) hx hb hml hown hts hK hN hA hZ [.int (y1), .int (y2), .int (y3), .int (y4), .int (y5)] [] (m_X4_addScene hl0 _ _ _ _ _ _ _ _ e_35) cs_L_69 rfl ⟨Nat.le_of_ble_eq_true rfl, Nat.le_of_ble_eq_true rfl⟩ ⟨by show _ ≤ 655192; omega, by show _ ≤ 7136123; omega⟩ (hDD _) 0 rfl rfl rfl (Nat.le_of_ble_eq_true rfl) dL_law_219 rfl ?_
        refine ww_iload hx hb dL_law_222 3 rfl ?_
        refine ww_ne2 (tgt := 280) hx hb dL_law_224 (by decide) (fun c_36 => ?_) (fun c_36 => ?_)
        · replace h := it_n c_36 h
          refine ww_iconst (v := 0) hx hb dL_law_280 (by decide) ?_
          have h1 := os1 h
          first | (exact absurd h1 (by decide)) | (rw [h1]; exact ww_lwret hx hb hr hlk (by show _ ≤ 655192; omega) (by show _ ≤ 7136123; omega) dL_law_281) | exact ww_lwret hx hb hr hlk (by show _ ≤ 655192; omega) (by show _ ≤ 7136123; omega) dL_law_281
        · replace h := it_p c_36 h
          refine ww_iload hx hb dL_law_227 3 rfl ?_
          refine ww_iconst (v := 3) hx hb dL_law_229 (by decide) ?_
          refine ww_irem hx hb dL_law_230 (by decide) ?_
          refine ww_iconst (v := 2) hx hb dL_law_231 (by decide) ?_
          refine ww_ne2 (tgt := 255) hx hb dL_law_232 (by decide) (fun c_37 => ?_) (fun c_37 => ?_)
          · replace h := it_n c_37 h
            exact ww_sub (lv1 := [(0, .ref b), (2, .ref (q 0)), (3, .int (x3)), (4, .int (x4))]) [0, 1, 2, 3] rfl (bk255 _ hDD _ _ (by omega) (by omega) _ _ _ h)
          · replace h := it_p c_37 h
            refine ww_aload_n hx hb dL_law_235 rfl 1 rfl ?_
            refine ww_iload hx hb dL_law_236 4 rfl ?_
            refine ww_iconst (v := 2) hx hb dL_law_238 (by decide) ?_
            refine ww_irem hx hb dL_law_239 (by decide) ?_
            refine ww_ne0 (tgt := 247) hx hb dL_law_240 (by decide) (fun c_38 => ?_) (fun c_38 => ?_)
            · replace h := it_n c_38 h
              refine ww_iconst (v := 0) hx hb dL_law_247 (by decide) ?_
              exact ww_sub (lv1 := [(0, .ref b), (2, .ref (q 0)), (3, .int (x3)), (4, .int (x4))]) [0, 1, 2, 3] rfl (bk248 _ hDD _ _ (by omega) (by omega) _ _ _ _ h)
            · replace h := it_p c_38 h
              refine ww_iconst (v := 1) hx hb dL_law_243 (by decide) ?_
              refine ww_goto (tgt := 248) hx hb dL_law_244 (by decide) ?_
              exact ww_sub (lv1 := [(0, .ref b), (2, .ref (q 0)), (3, .int (x3)), (4, .int (x4))]) [0, 1, 2, 3] rfl (bk248 _ hDD _ _ (by omega) (by omega) _ _ _ _ h)
      have bk180 : ∀ (q : Nat → Nat) (hDD : ∀ τ : SS, va_D (fun q : Nat => s.heap.size ≤ q) (WC q cA τ)) (cells slots : Nat) (hc : cells + (159 + n * 3) ≤ 655192) (hs : slots + (954 + n * 18) ≤ 7136123) (τ : SS) (x3 : Int32) (x4 : Int32) (y0 : Int32), L_law_b180 xs L (L_law_l150 xs L n) τ x3 x4 y0 = some 1 → WW p l e room_1 s m #[Value.ref b] below meth c D vwCl (fun q : Nat => s.heap.size ≤ q) 6 cells slots (lw_Z below #[Value.ref b] s) (WC q cA τ) 180 [(0, .ref b), (2, .ref (q 0)), (3, .int (x3)), (4, .int (x4))] [.int (y0)] := by
        intro q hDD cells slots hc hs τ x3 x4 y0 h
        unfold L_law_b180 at h
        refine ww_istore (i := 5) (lv1 := [(0, .ref b), (2, .ref (q 0)), (3, .int (x3)), (4, .int (x4)), (5, .int (y0))]) hx hb dL_law_180 (by decide) [1, 2, 3, 4, 0] rfl ?_
        refine ww_aload_n hx hb dL_law_182 rfl 1 rfl ?_
        refine ww_iconst (v := 1) hx hb dL_law_183 (by decide) ?_
        refine ww_iload hx hb dL_law_184 4 rfl ?_
        refine ww_bipush (v := 6) hx hb dL_law_186 (by decide) ?_
        refine ww_irem hx hb dL_law_188 (by decide) ?_
        refine ww_iadd hx hb dL_law_189 ?_
        refine ww_iload hx hb dL_law_190 4 rfl ?_
        refine ww_iconst (v := 4) hx hb dL_law_192 (by decide) ?_
        refine ww_irem hx hb dL_law_193 (by decide) ?_
        refine ww_iload hx hb dL_law_194 4 rfl ?_
        refine ww_bipush (v := 64) hx hb dL_law_196 (by decide) ?_
        refine ww_irem hx hb dL_law_198 (by decide) ?_
        refine ww_iload hx hb dL_law_199 4 rfl ?_
        refine ww_iconst (v := 3) hx hb dL_law_201 (by decide) ?_
        refine ww_irem hx hb dL_law_202 (by decide) ?_
        refine ww_iload hx hb dL_law_203 3 rfl ?_
        refine ww_ne0 (tgt := 212) hx hb dL_law_205 (by decide) (fun c_33 => ?_) (fun c_33 => ?_)
        · replace h := it_n c_33 h
          refine ww_iload hx hb dL_law_212 4 rfl ?_
          refine ww_iconst (v := 1) hx hb dL_law_214 (by decide) ?_
          refine ww_iload hx hb dL_law_215 3 rfl ?_
          refine ww_ishl hx hb dL_law_217 ?_
          obtain ⟨g_34, h⟩ := og h
          refine ww_irem hx hb dL_law_218 g_34 ?_
          exact ww_sub (lv1 := [(0, .ref b), (2, .ref (q 0)), (3, .int (x3)), (4, .int (x4)), (5, .int (y0))]) [0, 1, 2, 3, 4] rfl (bk219 _ hDD _ _ (by omega) (by omega) _ _ _ _ _ _ _ _ _ h)
        · replace h := it_p c_33 h
          refine ww_iconst (v := 0) hx hb dL_law_208 (by decide) ?_
          refine ww_goto (tgt := 219) hx hb dL_law_209 (by decide) ?_
          exact ww_sub (lv1 := [(0, .ref b), (2, .ref (q 0)), (3, .int (x3)), (4, .int (x4)), (5, .int (y0))]) [0, 1, 2, 3, 4] rfl (bk219 _ hDD _ _ (by omega) (by omega) _ _ _ _ _ _ _ _ _ h)
      intro q hDD cells slots hc hs τ x3 x4 h
      rw [L_law_l150] at h
      refine ww_iload hx hb dL_law_150 3 rfl ?_
      refine ww_bipush (v := 8) hx hb dL_law_152 (by decide) ?_
      refine ww_ge2 (tgt := 288) hx hb dL_law_154 (by decide) (fun c_20 => ?_) (fun c_20 => ?_)
      · replace h := it_p c_20 h
        refine ww_iconst (v := 0) hx hb dL_law_288 (by decide) ?_
        refine ww_istore (i := 4) (lv1 := [(2, .ref (q 0)), (3, .int (x3)), (4, .int ((0 : Int32)))]) hx hb dL_law_289 (by decide) [2, 3, 0] rfl ?_
        exact ww_sub (lv1 := [(2, .ref (q 0)), (3, .int (x3)), (4, .int ((0 : Int32)))]) [0, 1, 2] rfl (lp291 31 _ hDD _ _ (by omega) (by omega) _ _ _ h)
      · replace h := it_n c_20 h
        refine ww_aload_n hx hb dL_law_157 rfl 0 rfl ?_
        refine ww_slen hx hb hX hbl hbA dL_law_158 ?_
        refine ww_ne0 (tgt := 170) hx hb dL_law_159 (by decide) (fun c_21 => ?_) (fun c_21 => ?_)
        · replace h := it_n c_21 h
          refine ww_aload_n hx hb dL_law_170 rfl 0 rfl ?_
          refine ww_iload hx hb dL_law_171 3 rfl ?_
          refine ww_aload_n hx hb dL_law_173 rfl 0 rfl ?_
          refine ww_slen hx hb hX hbl hbA dL_law_174 ?_
          obtain ⟨g_22, h⟩ := og h
          refine ww_irem hx hb dL_law_175 g_22 ?_
          obtain ⟨g_23, h⟩ := og h
          refine ww_sld hx hb hX hbl hbA g_23 dL_law_176 ?_
          refine ww_bipush (v := 8) hx hb dL_law_177 (by decide) ?_
          refine ww_iushr hx hb dL_law_179 ?_
          exact ww_sub (lv1 := [(0, .ref b), (2, .ref (q 0)), (3, .int (x3)), (4, .int (x4))]) [0, 1, 2, 3] rfl (bk180 _ hDD _ _ (by omega) (by omega) _ _ _ _ h)
        · replace h := it_p c_21 h
          refine ww_bipush (v := 71) hx hb dL_law_162 (by decide) ?_
          refine ww_iload hx hb dL_law_164 3 rfl ?_
          refine ww_imul hx hb dL_law_166 ?_
          refine ww_goto (tgt := 180) hx hb dL_law_167 (by decide) ?_
          exact ww_sub (lv1 := [(0, .ref b), (2, .ref (q 0)), (3, .int (x3)), (4, .int (x4))]) [0, 1, 2, 3] rfl (bk180 _ hDD _ _ (by omega) (by omega) _ _ _ _ h)
  have lp24 : ∀ (n : Nat) (q : Nat → Nat) (hDD : ∀ τ : SS, va_D (fun q : Nat => s.heap.size ≤ q) (WC q cA τ)) (cells slots : Nat) (hc : cells + (210 + n * 1) ≤ 655192) (hs : slots + (1316 + n * 6) ≤ 7136123) (τ : SS) (x2 : Int32), L_law_l24 xs L n τ x2 = some 1 → WW p l e room_1 s m #[Value.ref b] below meth c D vwCl (fun q : Nat => s.heap.size ≤ q) 6 cells slots (lw_Z below #[Value.ref b] s) (WC q cA τ) 24 [(0, .ref b), (1, .ref (q 0)), (2, .int (x2))] [] := by
    intro n
    induction n with
    | zero => intro q hDD cells slots hc hs τ x2 h; rw [L_law_l24] at h; cases h
    | succ n ih =>
      have bk54 : ∀ (q : Nat → Nat) (hDD : ∀ τ : SS, va_D (fun q : Nat => s.heap.size ≤ q) (WC q cA τ)) (cells slots : Nat) (hc : cells + (210 + n * 1) ≤ 655192) (hs : slots + (1316 + n * 6) ≤ 7136123) (τ : SS) (x2 : Int32) (y0 : Int32) (y1 : Int32), L_law_b54 xs L (L_law_l24 xs L n) τ x2 y0 y1 = some 1 → WW p l e room_1 s m #[Value.ref b] below meth c D vwCl (fun q : Nat => s.heap.size ≤ q) 6 cells slots (lw_Z below #[Value.ref b] s) (WC q cA τ) 54 [(0, .ref b), (1, .ref (q 0)), (2, .int (x2))] [.int (y1), .int (y0)] := by
        intro q hDD cells slots hc hs τ x2 y0 y1 h
        unfold L_law_b54 at h
        refine ww_eq2 (tgt := 59) hx hb dL_law_54 (by decide) (fun c_47 => ?_) (fun c_47 => ?_)
        · replace h := it_p c_47 h
          refine ww_iinc (i := 2) (k := 2) (v := 1) (lv1 := [(0, .ref b), (1, .ref (q 0)), (2, .int (x2 + 1))]) hx hb dL_law_59 rfl (by decide) (by decide) [1, 2, 0] rfl ?_
          refine ww_goto (tgt := 24) hx hb dL_law_62 (by decide) ?_
          exact ww_sub (lv1 := [(0, .ref b), (1, .ref (q 0)), (2, .int (x2 + 1))]) [0, 1, 2] rfl (ih _ hDD _ _ (by omega) (by omega) _ _ h)
        · replace h := it_n c_47 h
          refine ww_iconst (v := 0) hx hb dL_law_57 (by decide) ?_
          have h1 := os1 h
          first | (exact absurd h1 (by decide)) | (rw [h1]; exact ww_lwret hx hb hr hlk (by show _ ≤ 655192; omega) (by show _ ≤ 7136123; omega) dL_law_58) | exact ww_lwret hx hb hr hlk (by show _ ≤ 655192; omega) (by show _ ≤ 7136123; omega) dL_law_58
      intro q hDD cells slots hc hs τ x2 h
      rw [L_law_l24] at h
      refine ww_iload_n hx hb dL_law_24 rfl 2 rfl ?_
      refine ww_sipush (v := 1001) hx hb dL_law_25 (by decide) ?_
      refine ww_ge2 (tgt := 65) hx hb dL_law_28 (by decide) (fun c_5 => ?_) (fun c_5 => ?_)
      · replace h := it_p c_5 h
        refine ww_aload_n hx hb dL_law_65 rfl 1 rfl ?_
        refine ww_callV (ws1 := WC q cA τ) (st1 := [.int (X4_today τ)]) hx hb hml hown hts hK hN hA (hDD _) (by show _ ≤ 655192; omega) (by show _ ≤ 7136123; omega) [] [] (m_X4_today τ) cs_L_99 rfl ⟨Nat.le_of_ble_eq_true rfl, Nat.le_of_ble_eq_true rfl⟩ 0 rfl rfl rfl (Nat.le_of_ble_eq_true rfl) dL_law_66 rfl ?_
        refine ww_sipush (v := 1000) hx hb dL_law_69 (by decide) ?_
        refine ww_ne2 (tgt := 111) hx hb dL_law_72 (by decide) (fun c_7 => ?_) (fun c_7 => ?_)
        · replace h := it_n c_7 h
          refine ww_iconst (v := 0) hx hb dL_law_111 (by decide) ?_
          have h1 := os1 h
          first | (exact absurd h1 (by decide)) | (rw [h1]; exact ww_lwret hx hb hr hlk (by show _ ≤ 655192; omega) (by show _ ≤ 7136123; omega) dL_law_112) | exact ww_lwret hx hb hr hlk (by show _ ≤ 655192; omega) (by show _ ≤ 7136123; omega) dL_law_112
        · replace h := it_p c_7 h
          refine ww_aload_n hx hb dL_law_75 rfl 1 rfl ?_
          refine ww_iconst (v := 1) hx hb dL_law_76 (by decide) ?_
          refine ww_iconst (v := 0) hx hb dL_law_77 (by decide) ?_
          refine ww_iconst (v := 0) hx hb dL_law_78 (by decide) ?_
          refine ww_iconst (v := 2) hx hb dL_law_79 (by decide) ?_
          refine ww_iconst (v := 0) hx hb dL_law_80 (by decide) ?_
          obtain ⟨r_8, σ_8, e_8, h⟩ := obx h
          refine ww_callXI (w01 := WC q cA σ_8) (st1 := [.int (r_8)]) hx hb hml hown hts hK hN hA hZ [.int ((1 : Int32)), .int ((0 : Int32)), .int ((0 : Int32)), .int ((2 : Int32)), .int ((0 : Int32))] [] (m_X4_addScene hl0 _ _ _ _ _ _ _ _ e_8) cs_L_69 rfl ⟨Nat.le_of_ble_eq_true rfl, Nat.le_of_ble_eq_true rfl⟩ ⟨by show _ ≤ 655192; omega, by show _ ≤ 7136123; omega⟩ (hDD _) 0 rfl rfl rfl (Nat.le_of_ble_eq_true rfl) dL_law_81 rfl ?_
          refine ww_ne0 (tgt := 111) hx hb dL_law_84 (by decide) (fun c_9 => ?_) (fun c_9 => ?_)
          · replace h := it_n c_9 h
            refine ww_iconst (v := 0) hx hb dL_law_111 (by decide) ?_
            have h1 := os1 h
            first | (exact absurd h1 (by decide)) | (rw [h1]; exact ww_lwret hx hb hr hlk (by show _ ≤ 655192; omega) (by show _ ≤ 7136123; omega) dL_law_112) | exact ww_lwret hx hb hr hlk (by show _ ≤ 655192; omega) (by show _ ≤ 7136123; omega) dL_law_112
          · replace h := it_p c_9 h
            refine ww_aload_n hx hb dL_law_87 rfl 1 rfl ?_
            refine ww_iconst (v := 0) hx hb dL_law_88 (by decide) ?_
            obtain ⟨r_10, σ_10, e_10, h⟩ := obx h
            refine ww_callXI (w01 := WC q cA σ_10) (st1 := [.int (r_10)]) hx hb hml hown hts hK hN hA hZ [.int ((0 : Int32))] [] (m_X4_begins hl0 _ _ _ _ e_10) cs_L_51 rfl ⟨Nat.le_of_ble_eq_true rfl, Nat.le_of_ble_eq_true rfl⟩ ⟨by show _ ≤ 655192; omega, by show _ ≤ 7136123; omega⟩ (hDD _) 0 rfl rfl rfl (Nat.le_of_ble_eq_true rfl) dL_law_89 rfl ?_
            refine ww_sipush (v := 24018) hx hb dL_law_92 (by decide) ?_
            refine ww_ne2 (tgt := 111) hx hb dL_law_95 (by decide) (fun c_11 => ?_) (fun c_11 => ?_)
            · replace h := it_n c_11 h
              refine ww_iconst (v := 0) hx hb dL_law_111 (by decide) ?_
              have h1 := os1 h
              first | (exact absurd h1 (by decide)) | (rw [h1]; exact ww_lwret hx hb hr hlk (by show _ ≤ 655192; omega) (by show _ ≤ 7136123; omega) dL_law_112) | exact ww_lwret hx hb hr hlk (by show _ ≤ 655192; omega) (by show _ ≤ 7136123; omega) dL_law_112
            · replace h := it_p c_11 h
              refine ww_aload_n hx hb dL_law_98 rfl 1 rfl ?_
              refine ww_iconst (v := 3) hx hb dL_law_99 (by decide) ?_
              refine ww_iconst (v := 0) hx hb dL_law_100 (by decide) ?_
              refine ww_iconst (v := 0) hx hb dL_law_101 (by decide) ?_
              refine ww_iconst (v := 0) hx hb dL_law_102 (by decide) ?_
              obtain ⟨r_12, σ_12, e_12, h⟩ := ob2 h
              refine ww_callH0 (w01 := WC q cA σ_12) (st1 := [.int (r_12)]) hx hb hml hown hts hK hN hA hZ [.ref (q 0), .int ((3 : Int32)), .int ((0 : Int32)), .int ((0 : Int32)), .int ((0 : Int32))] [] (m_L_act hl0 _ _ _ _ _ _ _ e_12) cs_L_87 rfl ⟨Nat.le_of_ble_eq_true rfl, Nat.le_of_ble_eq_true rfl⟩ ⟨by show _ ≤ 655192; omega, by show _ ≤ 7136123; omega⟩ (hDD _) rfl (Nat.le_of_ble_eq_true rfl) dL_law_103 rfl ?_
              refine ww_bipush (v := (-73)) hx hb dL_law_106 (by decide) ?_
              refine ww_eq2 (tgt := 113) hx hb dL_law_108 (by decide) (fun c_13 => ?_) (fun c_13 => ?_)
              · replace h := it_p c_13 h
                refine ww_sub (lv1 := [(0, .ref b)]) [0] rfl ?_
                refine ww_perm (ws1 := []) [] rfl ?_
                refine ww_mk hx hb hml hown hts hK hN hA (d_nil) kw_385 cs_L_98 ⟨by show _ ≤ 655192; omega, by show _ ≤ 7136123; omega⟩ dL_law_113 dL_law_116 dL_law_117 (by decide) (Nat.le_of_ble_eq_true rfl) (fun q hDD => ?_)
                refine ww_astore_n (i := 2) (lv1 := [(0, .ref b), (2, .ref (q 0))]) hx hb dL_law_120 rfl (by decide) [1, 0] rfl ?_
                refine ww_aload_n hx hb dL_law_121 rfl 1 rfl ?_
                refine ww_iconst (v := 1) hx hb dL_law_122 (by decide) ?_
                refine ww_iconst (v := 1) hx hb dL_law_123 (by decide) ?_
                obtain ⟨r_14, σ_14, e_14, h⟩ := obx h
                refine ww_callXI (w01 := WC q cA σ_14) (st1 := [.int (r_14)]) hx hb hml hown hts hK hN hA hZ [.int ((1 : Int32)), .int ((1 : Int32))] [] (m_X4_setRates hl0 _ _ _ _ _ e_14) cs_L_16 rfl ⟨Nat.le_of_ble_eq_true rfl, Nat.le_of_ble_eq_true rfl⟩ ⟨by show _ ≤ 655192; omega, by show _ ≤ 7136123; omega⟩ (hDD _) 0 rfl rfl rfl (Nat.le_of_ble_eq_true rfl) dL_law_124 rfl ?_
                refine ww_bipush (v := 100) hx hb dL_law_127 (by decide) ?_
                refine ww_ne2 (tgt := 143) hx hb dL_law_129 (by decide) (fun c_15 => ?_) (fun c_15 => ?_)
                · replace h := it_n c_15 h
                  refine ww_iconst (v := 0) hx hb dL_law_143 (by decide) ?_
                  have h1 := os1 h
                  first | (exact absurd h1 (by decide)) | (rw [h1]; exact ww_lwret hx hb hr hlk (by show _ ≤ 655192; omega) (by show _ ≤ 7136123; omega) dL_law_144) | exact ww_lwret hx hb hr hlk (by show _ ≤ 655192; omega) (by show _ ≤ 7136123; omega) dL_law_144
                · replace h := it_p c_15 h
                  refine ww_aload_n hx hb dL_law_132 rfl 1 rfl ?_
                  refine ww_ldc hx hb hown hts kw_408 dL_law_133 ?_
                  obtain ⟨r_16, σ_16, e_16, h⟩ := obx h
                  refine ww_callXI (w01 := WC q cA σ_16) (st1 := [.int (r_16)]) hx hb hml hown hts hK hN hA hZ [.int ((100000 : Int32))] [] (m_X4_grant hl0 _ _ _ _ e_16) cs_L_27 rfl ⟨Nat.le_of_ble_eq_true rfl, Nat.le_of_ble_eq_true rfl⟩ ⟨by show _ ≤ 655192; omega, by show _ ≤ 7136123; omega⟩ (hDD _) 0 rfl rfl rfl (Nat.le_of_ble_eq_true rfl) dL_law_135 rfl ?_
                  refine ww_ldc hx hb hown hts kw_408 dL_law_138 ?_
                  refine ww_eq2 (tgt := 145) hx hb dL_law_140 (by decide) (fun c_17 => ?_) (fun c_17 => ?_)
                  · replace h := it_p c_17 h
                    refine ww_iconst (v := 0) hx hb dL_law_145 (by decide) ?_
                    refine ww_istore_n (i := 3) (lv1 := [(0, .ref b), (2, .ref (q 0)), (3, .int ((0 : Int32)))]) hx hb dL_law_146 rfl (by decide) [1, 2, 0] rfl ?_
                    refine ww_iconst (v := 0) hx hb dL_law_147 (by decide) ?_
                    refine ww_istore (i := 4) (lv1 := [(0, .ref b), (2, .ref (q 0)), (3, .int ((0 : Int32))), (4, .int ((0 : Int32)))]) hx hb dL_law_148 (by decide) [1, 2, 3, 0] rfl ?_
                    exact ww_sub (lv1 := [(0, .ref b), (2, .ref (q 0)), (3, .int ((0 : Int32))), (4, .int ((0 : Int32)))]) [0, 1, 2, 3] rfl (lp150 9 _ hDD _ _ (by omega) (by omega) _ _ _ h)
                  · replace h := it_n c_17 h
                    refine ww_iconst (v := 0) hx hb dL_law_143 (by decide) ?_
                    have h1 := os1 h
                    first | (exact absurd h1 (by decide)) | (rw [h1]; exact ww_lwret hx hb hr hlk (by show _ ≤ 655192; omega) (by show _ ≤ 7136123; omega) dL_law_144) | exact ww_lwret hx hb hr hlk (by show _ ≤ 655192; omega) (by show _ ≤ 7136123; omega) dL_law_144
              · replace h := it_n c_13 h
                refine ww_iconst (v := 0) hx hb dL_law_111 (by decide) ?_
                have h1 := os1 h
                first | (exact absurd h1 (by decide)) | (rw [h1]; exact ww_lwret hx hb hr hlk (by show _ ≤ 655192; omega) (by show _ ≤ 7136123; omega) dL_law_112) | exact ww_lwret hx hb hr hlk (by show _ ≤ 655192; omega) (by show _ ≤ 7136123; omega) dL_law_112
      · replace h := it_n c_5 h
        refine ww_aload_n hx hb dL_law_31 rfl 1 rfl ?_
        refine ww_iconst (v := 3) hx hb dL_law_32 (by decide) ?_
        refine ww_iload_n hx hb dL_law_33 rfl 2 rfl ?_
        refine ww_iconst (v := 2) hx hb dL_law_34 (by decide) ?_
        refine ww_irem hx hb dL_law_35 (by decide) ?_
        refine ww_iconst (v := 0) hx hb dL_law_36 (by decide) ?_
        refine ww_iconst (v := 0) hx hb dL_law_37 (by decide) ?_
        obtain ⟨r_18, σ_18, e_18, h⟩ := ob2 h
        refine ww_callH0 (w01 := WC q cA σ_18) (st1 := [.int (r_18)]) hx hb hml hown hts hK hN hA hZ [.ref (q 0), .int ((3 : Int32)), .int (x2 - x2 / (2 : Int32) * (2 : Int32)), .int ((0 : Int32)), .int ((0 : Int32))] [] (m_L_act hl0 _ _ _ _ _ _ _ e_18) cs_L_87 rfl ⟨Nat.le_of_ble_eq_true rfl, Nat.le_of_ble_eq_true rfl⟩ ⟨by show _ ≤ 655192; omega, by show _ ≤ 7136123; omega⟩ (hDD _) rfl (Nat.le_of_ble_eq_true rfl) dL_law_38 rfl ?_
        refine ww_iload_n hx hb dL_law_41 rfl 2 rfl ?_
        refine ww_sipush (v := 1000) hx hb dL_law_42 (by decide) ?_
        refine ww_ge2 (tgt := 52) hx hb dL_law_45 (by decide) (fun c_19 => ?_) (fun c_19 => ?_)
        · replace h := it_p c_19 h
          refine ww_bipush (v := (-73)) hx hb dL_law_52 (by decide) ?_
          exact ww_sub (lv1 := [(0, .ref b), (1, .ref (q 0)), (2, .int (x2))]) [0, 1, 2] rfl (bk54 _ hDD _ _ (by omega) (by omega) _ _ _ _ h)
        · replace h := it_n c_19 h
          refine ww_iconst (v := 0) hx hb dL_law_48 (by decide) ?_
          refine ww_goto (tgt := 54) hx hb dL_law_49 (by decide) ?_
          exact ww_sub (lv1 := [(0, .ref b), (1, .ref (q 0)), (2, .int (x2))]) [0, 1, 2] rfl (bk54 _ hDD _ _ (by omega) (by omega) _ _ _ _ h)
  refine ww_sub (lv1 := [(0, .ref b)]) [0] rfl ?_
  obtain ⟨r_1, e_1, h⟩ := ob h
  refine ww_callK (w01 := []) (st1 := [.int (r_1)]) hx hb hml hown hts hK hN hA hZ [] [] (m_L_house hl0 _ e_1) cs_L_123 rfl ⟨Nat.le_of_ble_eq_true rfl, Nat.le_of_ble_eq_true rfl⟩ ⟨by show _ ≤ 655192; omega, by show _ ≤ 7136123; omega⟩ d_nil rfl (Nat.le_of_ble_eq_true rfl) dL_law_0 rfl ?_
  refine ww_eq0 (tgt := 12) hx hb dL_law_3 (by decide) (fun c_2 => ?_) (fun c_2 => ?_)
  · replace h := it_p c_2 h
    refine ww_iconst (v := 0) hx hb dL_law_12 (by decide) ?_
    have h1 := os1 h
    first | (exact absurd h1 (by decide)) | (rw [h1]; exact ww_lwret hx hb hr hlk (by show _ ≤ 655192; omega) (by show _ ≤ 7136123; omega) dL_law_13) | exact ww_lwret hx hb hr hlk (by show _ ≤ 655192; omega) (by show _ ≤ 7136123; omega) dL_law_13
  · replace h := it_n c_2 h
    obtain ⟨r_3, e_3, h⟩ := ob h
    refine ww_callK (w01 := []) (st1 := [.int (r_3)]) hx hb hml hown hts hK hN hA hZ [] [] (m_L_plans hl0 _ e_3) cs_L_126 rfl ⟨Nat.le_of_ble_eq_true rfl, Nat.le_of_ble_eq_true rfl⟩ ⟨by show _ ≤ 655192; omega, by show _ ≤ 7136123; omega⟩ d_nil rfl (Nat.le_of_ble_eq_true rfl) dL_law_6 rfl ?_
    refine ww_ne0 (tgt := 14) hx hb dL_law_9 (by decide) (fun c_4 => ?_) (fun c_4 => ?_)
    · replace h := it_n c_4 h
      refine ww_sub (lv1 := [(0, .ref b)]) [0] rfl ?_
      refine ww_perm (ws1 := []) [] rfl ?_
      refine ww_mk hx hb hml hown hts hK hN hA (d_nil) kw_385 cs_L_98 ⟨by show _ ≤ 655192; omega, by show _ ≤ 7136123; omega⟩ dL_law_14 dL_law_17 dL_law_18 (by decide) (Nat.le_of_ble_eq_true rfl) (fun q hDD => ?_)
      refine ww_astore_n (i := 1) (lv1 := [(0, .ref b), (1, .ref (q 0))]) hx hb dL_law_21 rfl (by decide) [1, 0] rfl ?_
      refine ww_iconst (v := 0) hx hb dL_law_22 (by decide) ?_
      refine ww_istore_n (i := 2) (lv1 := [(0, .ref b), (1, .ref (q 0)), (2, .int ((0 : Int32)))]) hx hb dL_law_23 rfl (by decide) [1, 2, 0] rfl ?_
      exact ww_sub (lv1 := [(0, .ref b), (1, .ref (q 0)), (2, .int ((0 : Int32)))]) [0, 1, 2] rfl (lp24 1002 _ hDD _ _ (by omega) (by omega) _ _ h)
    · replace h := it_p c_4 h
      refine ww_iconst (v := 0) hx hb dL_law_12 (by decide) ?_
      have h1 := os1 h
      first | (exact absurd h1 (by decide)) | (rw [h1]; exact ww_lwret hx hb hr hlk (by show _ ≤ 655192; omega) (by show _ ≤ 7136123; omega) dL_law_13) | exact ww_lwret hx hb hr hlk (by show _ ≤ 655192; omega) (by show _ ≤ 7136123; omega) dL_law_13
set_option maxHeartbeats 8000000 in
set_option maxRecDepth 100000 in
theorem whole_start {p : Program} {e : Env} {s : State} {m : MethodId} {below : List Frame} {meth : Method} {c : Code} (l : Launch) (hflags : l.flags = flags0) {b L : Nat} {xs : Nat → Int32} (hL : L ≤ 260) (C0 : lw_At p s m meth c b L xs) : W p l e room_1 s m #[Value.ref b] below meth c s.heap [] 0 0 (lw_Z below #[Value.ref b] s) (entryFrame m ([Value.ref b] : List Value).toArray 6) := by
  obtain ⟨hx, hb, hr, hml, hown0, hts0, hX, hbl, hlk, hgv⟩ := C0
  have hown : s.vm.findClass RL = some m.cls := hown0
  have hts : ∀ w ∈ wALL, w.before #[Value.ref b] s = true := fun w hw => hts0 w (wALL_tbl w hw)
  have hl0 : l.stackTraces = false := by unfold Launch.stackTraces; rw [hflags]; decide +kernel
  have hN : NWs s := nws_of hts0 hgv
  have hZ : ZZ (fun q : Nat => s.heap.size ≤ q) s := zz_of hts0 hgv
  obtain ⟨c0, iS0, hKn0⟩ := u_known (C := RX0) (T := TX0) (N := 4) (n := 4) hts inA0 (hts (.instantiable RX0 4) kw_278)
  obtain ⟨c1, iS1, hKn1⟩ := u_known (C := RX1) (T := TX1) (N := 10) (n := 10) hts inA1 (hts (.instantiable RX1 10) kw_282)
  obtain ⟨c2, iS2, hKn2⟩ := u_known (C := RX2) (T := TX2) (N := 8) (n := 8) hts inA2 (hts (.instantiable RX2 8) kw_273)
  obtain ⟨c3, iS3, hKn3⟩ := u_known (C := RX3) (T := TX3) (N := 9) (n := 9) hts inA3 (hts (.instantiable RX3 9) kw_268)
  obtain ⟨c4, iS4, hKn4⟩ := u_known (C := RX4) (T := TX4) (N := 7) (n := 7) hts inA4 (hts (.instantiable RX4 7) kw_418)
  obtain ⟨D, hKc⟩ : ∃ D : va_G, ∀ (k : Nat) (q : vw_C), vwCl[k]? = some q → u_Kn s q.1 q.2.1 q.2.2 (D.1 k) (D.2 k) := by
    refine ⟨(fun k => if k = 0 then c0 else if k = 1 then c1 else if k = 2 then c2 else if k = 3 then c3 else c4, fun k => if k = 0 then iS0 else if k = 1 then iS1 else if k = 2 then iS2 else if k = 3 then iS3 else iS4), ?_⟩
    intro k q hq
    match k, hq with
    | 0, hq => cases hq; exact hKn0
    | 1, hq => cases hq; exact hKn1
    | 2, hq => cases hq; exact hKn2
    | 3, hq => cases hq; exact hKn3
    | 4, hq => cases hq; exact hKn4
    | k + 5, hq => simp [vwCl] at hq
  obtain ⟨cA, hA1, hA2⟩ := arr_known (hts (.arrayClass .int) kw_263)
  have hK : va_K D vwCl [(cA, .int)] s := ⟨hKc, fun k q h => by
    match k, h with
    | 0, h => cases h; exact ⟨hA1, hA2⟩
    | k + 1, h => simp at h⟩
  have hP : va_P D vwCl [] s.heap := fun k q h => by simp at h
  have hl := lv_entry ([.ref b]) (n := 6) (Nat.le_of_ble_eq_true rfl)
  rw [lg_entry_eq]
  exact law_walk hx hb hr hlk hml hown hts hK hN hZ hX hbl hl0 (hs_law xs L hL) s.heap [] _ hP va_S.rf hl

