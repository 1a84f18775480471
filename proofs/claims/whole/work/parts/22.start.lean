theorem kw_640 : Cond.classLink RL 8 RX4 ∈ wALL := tk1 (i := 15) rfl rfl
theorem kw_641 : Cond.instantiable RX4 7 ∈ wALL := tk1 (i := 16) rfl rfl
theorem kw_642 : Cond.methodLink RL 73 yX4_init ∈ wALL := tk1 (i := 17) rfl rfl
theorem kw_643 : Cond.instanceMethod yX4_init ∈ wALL := tk1 (i := 18) rfl rfl
theorem kw_644 : Cond.code yX4_init cX4_init 1 none ∈ wALL := tk1 (i := 19) rfl rfl
theorem kw_645 : Cond.classLink RL 74 RX5 ∈ wALL := tk3 (i := 156) rfl rfl
theorem kw_646 : Cond.instantiable RX5 36 ∈ wALL := tk3 (i := 157) rfl rfl
theorem kw_647 : Cond.methodLink RL 76 yX5_init ∈ wALL := tk3 (i := 158) rfl rfl
theorem kw_648 : Cond.instanceMethod yX5_init ∈ wALL := tk3 (i := 159) rfl rfl
theorem kw_649 : Cond.code yX5_init cX5_init 1 none ∈ wALL := tk3 (i := 160) rfl rfl
theorem kw_650 : Cond.arrayClass .long ∈ wALL := tk4 (i := 193) rfl rfl
theorem cs_L_73 : csJ RL 73 yX4_init cX4_init 1 := ⟨kw_642, kw_643, kw_4, kw_644, rfl, by decide +kernel⟩
theorem cs_L_76 : csJ RL 76 yX5_init cX5_init 1 := ⟨kw_647, kw_648, kw_262, kw_649, rfl, by decide +kernel⟩
section LLP
variable {p : Program} {l : Launch} {e : Env} {s : State} {m : MethodId} {below : List Frame} {meth : Method} {c : Code} {D : va_G} {q q2 : Nat → Nat} {o : Nat} {cA cL : ClassId} {b L : Nat} {xs : Nat → Int32}
theorem ww_perm {R : Room} {args : Array Value} {cl : List vw_C} {A0 : Nat → Prop} {nL cells slots : Nat} {Q : State → Prop} {ws ws1 : va_W} {pc : Nat} {lv : List (Nat × Value)} {st : List Value} (is : List Nat) (h : is.filterMap (fun i => ws[i]?) = ws1) (kk : WW p l e R s m args below meth c D cl A0 nL cells slots Q ws1 pc lv st) : WW p l e R s m args below meth c D cl A0 nL cells slots Q ws pc lv st := fun H locs ls hP hS hl => kk H locs ls (hP.sub is h) hS hl
theorem ww_newal {R : Room} {args : Array Value} {cl : List vw_C} {tys : List (ClassId × FieldType)} {A0 : Nat → Prop} {nL cells slots : Nat} {Q : State → Prop} {ws : va_W} {cc : ByteArray} {pc : Nat} {lv : List (Nat × Value)} {st : List Value} (hx : p.tables.exec = Jvm.exec) (hb : c.code = cc) (hts : ∀ w ∈ wALL, w.before args s = true) (hK : va_K D cl tys s) (hA : ∀ q, s.heap.size ≤ q → A0 q) (hD : va_D A0 ws) {cA : ClassId} (ht : tys[1]? = some (cA, .long)) (k : Cond.arrayClass .long ∈ wALL) {n : Int32} (N : Nat) (hn : ¬ n < 0) (hN : n.toNatClampNeg = N) (hbytes : N * componentBytes .long ≤ 536870912) (hc : cells + 1 ≤ R.cells) (hs : slots + N ≤ R.slots) (hd : decode cc pc = .ok (.newarray .long, 2)) (w1 : Nat → va_W) (hw : ∀ q : Nat, ws ++ [(q, .inl (cA, N, .inr (.inl (fun _ => 0))))] = w1 q)
    (kk : ∀ q : Nat, va_D A0 (w1 q) → WW p l e R s m args below meth c D cl A0 nL (cells + 1) (slots + N) Q (w1 q) (pc + 2) lv (.ref q :: st)) : WW p l e R s m args below meth c D cl A0 nL cells slots Q ws pc lv (.int n :: st) := by
  intro H locs ls hP hS hl
  refine va_newa hx hb (atype := .long) (hts _ k) rfl hK hP hD hS hA (a0 := (N, .inr (.inl (fun _ => 0)))) (fun cA => rfl) hn hN hbytes hc hs hd (fun q cA1 H1 hK1 hP1 hD1 hS1 => ?_)
  have e1 : va_RA s cA1 .long := (hK1.2 tys.length (cA1, .long) (by rw [List.getElem?_append_right (Nat.le_refl _), Nat.sub_self]; rfl)).2
  have e2 : va_RA s cA .long := (hK.2 1 _ ht).2
  have e3 : cA1 = cA := Option.some.inj (e1.symm.trans e2)
  subst e3
  exact kk q (hw q ▸ hD1) H1 locs ls (hw q ▸ hP1) hS1 hl
theorem ww_lwret {cells slots : Nat} {ws : va_W} {pc : Nat} {lv : List (Nat × Value)} (hx : p.tables.exec = Jvm.exec) (hb : c.code = code) (hr : meth.sig.returnType = ret) (hlk : meth.locks = false) (h1 : cells ≤ 661869) (h2 : slots ≤ 7110496) (hd : decode code pc = .ok (.ireturn, 1)) : WW p l e room_1 s m #[Value.ref b] below meth c D vwCl (fun q => s.heap.size ≤ q) 7 cells slots (lw_Z below #[Value.ref b] s) ws pc lv [.int 1] :=
  fun _ _ _ _ hS _ => va_forget (fun q hq => hS.2.2 q hq) (W.widen h1 h2 (lw_ret hx hb hr hlk hd))
theorem and31 (x : Int32) : ∃ t : Nat, t < 32 ∧ (x &&& 31).toInt = (t : Int) := by
  refine ⟨x.toBitVec.toNat % 32, Nat.mod_lt _ (by decide), ?_⟩
  have h1 : (x &&& 31).toBitVec = x.toBitVec &&& 31#32 := rfl
  have h2 : (x &&& 31).toBitVec.toNat = x.toBitVec.toNat % 32 := by
    rw [h1, BitVec.toNat_and]
    show x.toBitVec.toNat &&& (2 ^ 5 - 1) = _
    rw [Nat.and_two_pow_sub_one_eq_mod]
  have h3 := Nat.mod_lt x.toBitVec.toNat (show 32 > 0 by decide)
  show (x &&& 31).toBitVec.toInt = _
  rw [BitVec.toInt_eq_toNat_of_lt (by omega), h2]
set_option maxHeartbeats 4000000 in
set_option maxRecDepth 100000 in
theorem law_loop (hL : L ≤ 3072) (C : LC p l s m meth c D q q2 o cA cL b L xs) : ∀ (n j : Nat), j ≤ 512 → 513 ≤ j + n → ∀ (x4 : Int32), x4 = nI (6 * j) → ∀ (σ τ : SS) (f : Nat → Int64), Rel j σ τ → LW p l e s m below meth c D q q2 o cA cL b (60 + j) (1000 + 6 * j) σ τ f 23 x4 := by
  intro n
  induction n with
  | zero => intro j h1 h2; omega
  | succ n ih =>
    intro j hj hn x4 ex σ τ f R
    obtain ⟨hx, hb, hr, hlk, hml, hown, hts, hK, hN, hZ, hX, hbl, hDD, hl0⟩ := id C
    have hbA : ¬ (fun q : Nat => s.heap.size ≤ q) b := Nat.not_le.mpr hbl
    refine ww_iload hx hb dL_law_23 4 rfl ?_
    refine ww_aload_n hx hb dL_law_25 rfl 0 rfl ?_
    refine ww_slen hx hb hX hbl hbA dL_law_26 ?_
    refine ww_bipush (v := 6) hx hb dL_law_27 (by decide) ?_
    refine ww_isub hx hb dL_law_29 ?_
    have e6 : (6 : Int32) = nI 6 := rfl
    have hLi : (Int32.ofNat L - 6).toInt = (L : Int) - 6 := by
      rw [show Int32.ofNat L = nI L from rfl, e6]
      exact pk_sub_toInt (by omega) (by omega)
    have hx4 : x4.toInt = ((6 * j : Nat) : Int) := by rw [ex]; exact nI_toInt (by omega)
    refine ww_gt2 (tgt := 1440) hx hb dL_law_30 (by decide) (fun c_1 => ?_) (fun c_1 => ?_)
    · refine ww_iconst (v := 1) hx hb dL_law_1440 (by decide) ?_
      exact ww_lwret hx hb hr hlk (by omega) (by omega) dL_law_1441
    · rw [Int32.lt_iff_toInt_lt, hLi, hx4] at c_1
      have hjL : 6 * j + 6 ≤ L := by omega
      have hin : ∀ (t : Nat) (z : Int32), z = nI t → t < 6 → vp_in (x4 + z) L := by
        intro t z hz ht
        rw [ex, hz, nI_add]
        exact vp_in_nI (by omega) (by omega)
      have h0 : vp_in x4 L := by rw [ex]; exact vp_in_nI (by omega) (by omega)
      have h1 : vp_in (x4 + 1) L := hin 1 1 rfl (by omega)
      have h2 : vp_in (x4 + 2) L := hin 2 2 rfl (by omega)
      have h3 : vp_in (x4 + 3) L := hin 3 3 rfl (by omega)
      have h4 : vp_in (x4 + 4) L := hin 4 4 rfl (by omega)
      have h5 : vp_in (x4 + 5) L := hin 5 5 rfl (by omega)
      have hcs : 60 + j + 1 ≤ room_1.cells ∧ 1000 + 6 * j + 6 ≤ room_1.slots := ⟨by show _ ≤ 661869; omega, by show _ ≤ 7110496; omega⟩
      have kk : ∀ (σ1 τ1 : SS) (f1 : Nat → Int64), Rel (j + 1) σ1 τ1 → LW p l e s m below meth c D q q2 o cA cL b (60 + j + 1) (1000 + 6 * j + 6) σ1 τ1 f1 1434 x4 := by
        intro σ1 τ1 f1 R1
        refine ww_iinc (i := 4) (k := 4) (v := 6) (lv1 := [(0, .ref b), (1, .ref (q 0)), (2, .ref (q2 0)), (3, .ref o), (4, .int (x4 + 6))]) hx hb dL_law_1434 rfl (by decide) (by decide) [1, 2, 3, 4, 0] rfl ?_
        refine ww_goto (tgt := 23) hx hb dL_law_1437 (by decide) ?_
        exact ih (j + 1) (by omega) (by omega) (x4 + 6) (by rw [ex, e6, nI_add]; rfl) σ1 τ1 f1 R1
      refine ww_aload_n hx hb dL_law_33 rfl 0 rfl ?_
      refine ww_iload hx hb dL_law_34 4 rfl ?_
      refine ww_sld hx hb hX hbl hbA h0 dL_law_36 ?_
      refine ww_bipush (v := 31) hx hb dL_law_37 (by decide) ?_
      refine ww_iand hx hb dL_law_39 ?_
      have hj5 : j < 512 := by omega
      obtain ⟨t, ht32, ht⟩ := and31 (xs (Int32.toNatClampNeg x4))
      rcases (show t = 0 ∨ t = 1 ∨ t = 2 ∨ t = 3 ∨ t = 4 ∨ t = 5 ∨ t = 6 ∨ t = 7 ∨ t = 8 ∨ t = 9 ∨ t = 10 ∨ t = 11 ∨ t = 12 ∨ t = 13 ∨ t = 14 ∨ t = 15 ∨ t = 16 ∨ t = 17 ∨ t = 18 ∨ t = 19 ∨ t = 20 ∨ t = 21 ∨ t = 22 ∨ t = 23 ∨ t = 24 ∨ 25 ≤ t by omega) with rfl | rfl | rfl | rfl | rfl | rfl | rfl | rfl | rfl | rfl | rfl | rfl | rfl | rfl | rfl | rfl | rfl | rfl | rfl | rfl | rfl | rfl | rfl | rfl | rfl | ht25
      · exact ww_tabI (off := 116) (tgt := 156) hx hb dL_law_40 (by rw [ht]; decide) (by rw [ht]; decide) (by rw [ht]; rfl) (by decide) (lc_0 C hcs h1 h2 h3 h4 h5 f hj5 R kk)
      · exact ww_tabI (off := 220) (tgt := 260) hx hb dL_law_40 (by rw [ht]; decide) (by rw [ht]; decide) (by rw [ht]; rfl) (by decide) (lc_1 C hcs h1 h2 h3 h4 h5 f hj5 R kk)
      · exact ww_tabI (off := 311) (tgt := 351) hx hb dL_law_40 (by rw [ht]; decide) (by rw [ht]; decide) (by rw [ht]; rfl) (by decide) (lc_2 C hcs h1 h2 h3 h4 h5 f hj5 R kk)
      · exact ww_tabI (off := 402) (tgt := 442) hx hb dL_law_40 (by rw [ht]; decide) (by rw [ht]; decide) (by rw [ht]; rfl) (by decide) (lc_3 C hcs h1 h2 h3 h4 h5 f hj5 R kk)
      · exact ww_tabI (off := 470) (tgt := 510) hx hb dL_law_40 (by rw [ht]; decide) (by rw [ht]; decide) (by rw [ht]; rfl) (by decide) (lc_4 C hcs h1 h2 h3 h4 h5 f hj5 R kk)
      · exact ww_tabI (off := 511) (tgt := 551) hx hb dL_law_40 (by rw [ht]; decide) (by rw [ht]; decide) (by rw [ht]; rfl) (by decide) (lc_5 C hcs h1 h2 h3 h4 h5 f hj5 R kk)
      · exact ww_tabI (off := 583) (tgt := 623) hx hb dL_law_40 (by rw [ht]; decide) (by rw [ht]; decide) (by rw [ht]; rfl) (by decide) (lc_6 C hcs h1 h2 h3 h4 h5 f hj5 R kk)
      · exact ww_tabI (off := 651) (tgt := 691) hx hb dL_law_40 (by rw [ht]; decide) (by rw [ht]; decide) (by rw [ht]; rfl) (by decide) (lc_7 C hcs h1 h2 h3 h4 h5 f hj5 R kk)
      · exact ww_tabI (off := 707) (tgt := 747) hx hb dL_law_40 (by rw [ht]; decide) (by rw [ht]; decide) (by rw [ht]; rfl) (by decide) (lc_8 C hcs h1 h2 h3 h4 h5 f hj5 R kk)
      · exact ww_tabI (off := 775) (tgt := 815) hx hb dL_law_40 (by rw [ht]; decide) (by rw [ht]; decide) (by rw [ht]; rfl) (by decide) (lc_9 C hcs h1 h2 h3 h4 h5 f hj5 R kk)
      · exact ww_tabI (off := 843) (tgt := 883) hx hb dL_law_40 (by rw [ht]; decide) (by rw [ht]; decide) (by rw [ht]; rfl) (by decide) (lc_10 C hcs h1 h2 h3 h4 h5 f hj5 R kk)
      · exact ww_tabI (off := 923) (tgt := 963) hx hb dL_law_40 (by rw [ht]; decide) (by rw [ht]; decide) (by rw [ht]; rfl) (by decide) (lc_11 C hcs h1 h2 h3 h4 h5 f hj5 R kk)
      · exact ww_tabI (off := 979) (tgt := 1019) hx hb dL_law_40 (by rw [ht]; decide) (by rw [ht]; decide) (by rw [ht]; rfl) (by decide) (lc_12 C hcs h1 h2 h3 h4 h5 f hj5 R kk)
      · exact ww_tabI (off := 992) (tgt := 1032) hx hb dL_law_40 (by rw [ht]; decide) (by rw [ht]; decide) (by rw [ht]; rfl) (by decide) (lc_13 C hcs h1 h2 h3 h4 h5 f hj5 R kk)
      · exact ww_tabI (off := 1005) (tgt := 1045) hx hb dL_law_40 (by rw [ht]; decide) (by rw [ht]; decide) (by rw [ht]; rfl) (by decide) (lc_14 C hcs h1 h2 h3 h4 h5 f hj5 R kk)
      · exact ww_tabI (off := 1018) (tgt := 1058) hx hb dL_law_40 (by rw [ht]; decide) (by rw [ht]; decide) (by rw [ht]; rfl) (by decide) (lc_15 C hcs h1 h2 h3 h4 h5 f hj5 R kk)
      · exact ww_tabI (off := 1062) (tgt := 1102) hx hb dL_law_40 (by rw [ht]; decide) (by rw [ht]; decide) (by rw [ht]; rfl) (by decide) (lc_16 C hcs h1 h2 h3 h4 h5 f hj5 R kk)
      · exact ww_tabI (off := 1118) (tgt := 1158) hx hb dL_law_40 (by rw [ht]; decide) (by rw [ht]; decide) (by rw [ht]; rfl) (by decide) (lc_17 C hcs h1 h2 h3 h4 h5 f hj5 R kk)
      · exact ww_tabI (off := 1174) (tgt := 1214) hx hb dL_law_40 (by rw [ht]; decide) (by rw [ht]; decide) (by rw [ht]; rfl) (by decide) (lc_18 C hcs h1 h2 h3 h4 h5 f hj5 R kk)
      · exact ww_tabI (off := 1230) (tgt := 1270) hx hb dL_law_40 (by rw [ht]; decide) (by rw [ht]; decide) (by rw [ht]; rfl) (by decide) (lc_19 C hcs h1 h2 h3 h4 h5 f hj5 R kk)
      · exact ww_tabI (off := 1243) (tgt := 1283) hx hb dL_law_40 (by rw [ht]; decide) (by rw [ht]; decide) (by rw [ht]; rfl) (by decide) (lc_20 C hcs h1 h2 h3 h4 h5 f hj5 R kk)
      · exact ww_tabI (off := 1256) (tgt := 1296) hx hb dL_law_40 (by rw [ht]; decide) (by rw [ht]; decide) (by rw [ht]; rfl) (by decide) (lc_21 C hcs h1 h2 h3 h4 h5 f hj5 R kk)
      · exact ww_tabI (off := 1269) (tgt := 1309) hx hb dL_law_40 (by rw [ht]; decide) (by rw [ht]; decide) (by rw [ht]; rfl) (by decide) (lc_22 C hcs h1 h2 h3 h4 h5 f hj5 R kk)
      · exact ww_tabI (off := 1325) (tgt := 1365) hx hb dL_law_40 (by rw [ht]; decide) (by rw [ht]; decide) (by rw [ht]; rfl) (by decide) (lc_23 C hcs h1 h2 h3 h4 h5 f hj5 R kk)
      · exact ww_tabI (off := 1381) (tgt := 1421) hx hb dL_law_40 (by rw [ht]; decide) (by rw [ht]; decide) (by rw [ht]; rfl) (by decide) (lc_24 C hcs h1 h2 h3 h4 h5 f hj5 R kk)
      · exact ww_tabO (tgt := 1434) hx hb dL_law_40 (Or.inr (by rw [ht]; omega)) (by decide) (ww_widen (by omega) (by omega) (kk σ τ f (rel_up R)))
end LLP
theorem tbl2 {w : Cond} {i : Nat} (h : tables_1_2[i]? = some w) : w ∈ lw_tbl := List.mem_append_right _ (List.mem_append_right _ (List.mem_append_left _ (List.mem_of_getElem? h)))
theorem tbl1 {w : Cond} {i : Nat} (h : tables_1_1[i]? = some w) : w ∈ lw_tbl := List.mem_append_right _ (List.mem_append_left _ (List.mem_of_getElem? h))
theorem tbl3 {w : Cond} {i : Nat} (h : tables_1_3[i]? = some w) : w ∈ lw_tbl := List.mem_append_right _ (List.mem_append_right _ (List.mem_append_right _ (List.mem_append_left _ (List.mem_of_getElem? h))))
theorem tbl4 {w : Cond} {i : Nat} (h : tables_1_4[i]? = some w) : w ∈ lw_tbl := List.mem_append_right _ (List.mem_append_right _ (List.mem_append_right _ (List.mem_append_right _ (List.mem_of_getElem? h))))
set_option maxHeartbeats 4000000 in
set_option maxRecDepth 100000 in
theorem nws_of {s : State} {b : Nat} (hts : ∀ w ∈ lw_tbl, w.before #[Value.ref b] s = true) (hg : (Jvm.Cond.and given_1 narrow_1).before #[Value.ref b] s = true) : NWs s := by
  refine ⟨?_, ?_, ?_, ?_⟩
  · exact List.forall_mem_cons.mpr ⟨va_Nw.of rfl (hts _ (tbl1 (i := 25) rfl)), List.forall_mem_cons.mpr ⟨va_Nw.of rfl (hts _ (tbl1 (i := 31) rfl)), List.forall_mem_cons.mpr ⟨va_Nw.of rfl (hts _ (tbl1 (i := 106) rfl)), List.forall_mem_cons.mpr ⟨va_Nw.of rfl (hts _ (tbl1 (i := 129) rfl)), List.forall_mem_cons.mpr ⟨va_Nw.of rfl (hts _ (tbl1 (i := 226) rfl)), List.forall_mem_cons.mpr ⟨va_Nw.of rfl (hts _ (tbl1 (i := 232) rfl)), List.forall_mem_cons.mpr ⟨va_Nw.of rfl (hts _ (tbl1 (i := 239) rfl)), List.forall_mem_cons.mpr ⟨va_Nw.of rfl (hts _ (tbl2 (i := 6) rfl)), List.forall_mem_cons.mpr ⟨va_Nw.of rfl (hts _ (tbl2 (i := 25) rfl)), List.forall_mem_cons.mpr ⟨va_Nw.of rfl (hts _ (tbl2 (i := 38) rfl)), List.forall_mem_cons.mpr ⟨va_Nw.of rfl (hts _ (tbl2 (i := 180) rfl)), List.forall_mem_cons.mpr ⟨va_Nw.of rfl (hts _ (tbl3 (i := 11) rfl)), List.forall_mem_cons.mpr ⟨va_Nw.of rfl (hts _ (tbl3 (i := 18) rfl)), List.forall_mem_cons.mpr ⟨va_Nw.of rfl (hts _ (tbl3 (i := 63) rfl)), List.forall_mem_cons.mpr ⟨va_Nw.of rfl (hts _ (tbl3 (i := 75) rfl)), List.forall_mem_cons.mpr ⟨va_Nw.of rfl (hts _ (tbl3 (i := 100) rfl)), fun _ h => absurd h List.not_mem_nil⟩⟩⟩⟩⟩⟩⟩⟩⟩⟩⟩⟩⟩⟩⟩⟩
  · exact List.forall_mem_cons.mpr ⟨va_Nw.of rfl (hts _ (tbl2 (i := 96) rfl)), List.forall_mem_cons.mpr ⟨va_Nw.of rfl (hts _ (tbl2 (i := 159) rfl)), List.forall_mem_cons.mpr ⟨va_Nw.of rfl (hts _ (tbl2 (i := 191) rfl)), fun _ h => absurd h List.not_mem_nil⟩⟩⟩
  · have hs := flat_of_before _ hg
    exact List.forall_mem_cons.mpr ⟨List.forall_mem_cons.mpr ⟨fun h => absurd rfl h, List.forall_mem_cons.mpr ⟨fun _ => va_Nc.of (args := #[Value.ref b]) (hs _ (by decide +kernel)), List.forall_mem_cons.mpr ⟨fun _ => va_Nc.of (args := #[Value.ref b]) (hs _ (by decide +kernel)), fun _ h => absurd h List.not_mem_nil⟩⟩⟩, List.forall_mem_cons.mpr ⟨List.forall_mem_cons.mpr ⟨fun _ => va_Nc.of (args := #[Value.ref b]) (hs _ (by decide +kernel)), List.forall_mem_cons.mpr ⟨fun h => absurd rfl h, List.forall_mem_cons.mpr ⟨fun _ => va_Nc.of (args := #[Value.ref b]) (hs _ (by decide +kernel)), fun _ h => absurd h List.not_mem_nil⟩⟩⟩, List.forall_mem_cons.mpr ⟨List.forall_mem_cons.mpr ⟨fun _ => va_Nc.of (args := #[Value.ref b]) (hs _ (by decide +kernel)), List.forall_mem_cons.mpr ⟨fun _ => va_Nc.of (args := #[Value.ref b]) (hs _ (by decide +kernel)), List.forall_mem_cons.mpr ⟨fun h => absurd rfl h, fun _ h => absurd h List.not_mem_nil⟩⟩⟩, fun _ h => absurd h List.not_mem_nil⟩⟩⟩
  · exact List.forall_mem_cons.mpr ⟨va_Nw.of rfl (hts _ (tbl2 (i := 97) rfl)), List.forall_mem_cons.mpr ⟨va_Nw.of rfl (hts _ (tbl2 (i := 99) rfl)), List.forall_mem_cons.mpr ⟨va_Nw.of rfl (hts _ (tbl2 (i := 101) rfl)), fun _ h => absurd h List.not_mem_nil⟩⟩⟩
set_option maxHeartbeats 4000000 in
set_option maxRecDepth 100000 in
theorem zz_of {s : State} {b : Nat} (hts : ∀ w ∈ lw_tbl, w.before #[Value.ref b] s = true) (hg : (Jvm.Cond.and given_1 narrow_1).before #[Value.ref b] s = true) : ZZ (fun q => s.heap.size ≤ q) s := by
  have hs := flat_of_before _ hg
  exact ⟨vx_Zqof (hts (.laysStatic Bundle.tN "UNASSIGNED_STACK" Bundle.steD) (tbl2 (i := 121) rfl)) (hts (.initialized Bundle.tN) (tbl1 (i := 7) rfl)) (hs _ (by decide +kernel)) (fun a h => Nat.not_le.mpr h), vx_Zqof (hts (.laysStatic Bundle.tN "SUPPRESSED_SENTINEL" Bundle.listD) (tbl2 (i := 123) rfl)) (hts (.initialized Bundle.tN) (tbl1 (i := 7) rfl)) (hs _ (by decide +kernel)) (fun a h => Nat.not_le.mpr h)⟩
set_option maxHeartbeats 8000000 in
set_option maxRecDepth 100000 in
theorem whole_start {p : Program} {e : Env} {s : State} {m : MethodId} {below : List Frame} {meth : Method} {c : Code} (l : Launch) (hflags : l.flags = flags0) {b L : Nat} {xs : Nat → Int32} (hL : L ≤ 3072) (C0 : lw_At p s m meth c b L xs) : W p l e room_1 s m #[Value.ref b] below meth c s.heap [] 0 0 (lw_Z below #[Value.ref b] s) (entryFrame m ([Value.ref b] : List Value).toArray 7) := by
  obtain ⟨hx, hb, hr, hml, hown0, hts0, hX, hbl, hlk, hgv⟩ := C0
  have hown : s.vm.findClass RL = some m.cls := hown0
  have hts : ∀ w ∈ wALL, w.before #[Value.ref b] s = true := fun w hw => hts0 w (wALL_tbl w hw)
  have hl0 : l.stackTraces = false := by unfold Launch.stackTraces; rw [hflags]; decide +kernel
  have hN : NWs s := nws_of hts0 hgv
  have hZ : ZZ (fun q => s.heap.size ≤ q) s := zz_of hts0 hgv
  have hA : ∀ q : Nat, s.heap.size ≤ q → (fun q : Nat => s.heap.size ≤ q) q := fun _ h => h
  obtain ⟨c0, iS0, hKn0⟩ := u_known (C := RX0) (T := TX0) (N := 4) (n := 4) hts inA0 (hts (.instantiable RX0 4) kw_373)
  obtain ⟨c1, iS1, hKn1⟩ := u_known (C := RX1) (T := TX1) (N := 10) (n := 10) hts inA1 (hts (.instantiable RX1 10) kw_377)
  obtain ⟨c2, iS2, hKn2⟩ := u_known (C := RX2) (T := TX2) (N := 8) (n := 8) hts inA2 (hts (.instantiable RX2 8) kw_368)
  obtain ⟨c3, iS3, hKn3⟩ := u_known (C := RX3) (T := TX3) (N := 9) (n := 9) hts inA3 (hts (.instantiable RX3 9) kw_363)
  obtain ⟨c4, iS4, hKn4⟩ := u_known (C := RX4) (T := TX4) (N := 7) (n := 7) hts inA4 (hts (.instantiable RX4 7) kw_641)
  obtain ⟨c5, iS5, hKn5⟩ := u_known (C := RX5) (T := TX5) (N := 36) (n := 36) hts inA5 (hts (.instantiable RX5 36) kw_646)
  obtain ⟨D, hKc⟩ : ∃ D : va_G, ∀ (k : Nat) (q : vw_C), vwCl[k]? = some q → u_Kn s q.1 q.2.1 q.2.2 (D.1 k) (D.2 k) := by
    refine ⟨(fun k => if k = 0 then c0 else if k = 1 then c1 else if k = 2 then c2 else if k = 3 then c3 else if k = 4 then c4 else c5, fun k => if k = 0 then iS0 else if k = 1 then iS1 else if k = 2 then iS2 else if k = 3 then iS3 else if k = 4 then iS4 else iS5), ?_⟩
    intro k q hq
    match k, hq with
    | 0, hq => cases hq; exact hKn0
    | 1, hq => cases hq; exact hKn1
    | 2, hq => cases hq; exact hKn2
    | 3, hq => cases hq; exact hKn3
    | 4, hq => cases hq; exact hKn4
    | 5, hq => cases hq; exact hKn5
    | k + 6, hq => simp [vwCl] at hq
  obtain ⟨cA, hA1, hA2⟩ := arr_known (hts (.arrayClass .int) kw_358)
  obtain ⟨cL, hB1, hB2⟩ := arr_knownL (hts (.arrayClass .long) kw_650)
  have hK : va_K D vwCl [(cA, .int), (cL, .long)] s := ⟨hKc, fun k q h => by
    match k, h with
    | 0, h => cases h; exact ⟨hA1, hA2⟩
    | 1, h => cases h; exact ⟨hB1, hB2⟩
    | k + 2, h => simp at h⟩
  have hK1 : va_K D vwCl [(cA, .int)] s := hK.sub [0] rfl
  have hD : va_D (fun q : Nat => s.heap.size ≤ q) [] := ⟨fun i j p q h => by simp at h, fun k q h => by simp at h⟩
  have hP : va_P D vwCl [] s.heap := fun k q h => by simp at h
  have hl := lv_entry ([.ref b]) (n := 7) (Nat.le_of_ble_eq_true rfl)
  rw [lg_entry_eq]
  suffices K : WW p l e room_1 s m #[Value.ref b] below meth c D vwCl (fun q => s.heap.size ≤ q) 7 0 0 (lw_Z below #[Value.ref b] s) [] 0 [(0, .ref b)] [] from K s.heap [] _ hP va_S.rf hl
  refine ww_new (C := RX4) (T := TX4) (N := 7) hx hb hown hts hK hA hD inA4 tyX4 tyX4_ok kw_640 kw_641 kw_4 rfl [.null, .null, .null, .null, .int 0, .int 0, .int 0] (by decide +kernel) (Nat.le_of_ble_eq_true rfl) (Nat.le_of_ble_eq_true rfl) dL_law_0 (fun hc => [(hc, .inr (4, [.null, .null, .null, .null, .int 0, .int 0, .int 0]))]) (fun _ => rfl) (fun hc hD => ?_)
  refine ww_dup hx hb dL_law_3 rfl ?_
  refine ww_callJ hx hb hml hown hts hK1 hN hA [] (m_X4_init hc) cs_L_73 (by decide) ⟨Nat.le_of_ble_eq_true rfl, Nat.le_of_ble_eq_true rfl⟩ rfl hD (Nat.le_of_ble_eq_true rfl) dL_law_4 (fun w1 hw1 hD => ?_)
  obtain ⟨ac0, ac1, ac2, ac3, ac4, ac5, ac6, ac7, ac8, ac9, ac10, ac11, ac12, ac13, ac14, ac15, ac16, ac17, ac18, ac19, ac20, rfl⟩ := hw1
  refine ww_eq (ws1 := [(hc, .inr (4, [.ref ac1, .ref ac0, .ref ac11, .ref ac13, .int 100, .int 50, .int 0])), (ac0, .inr (2, [.ref ac1, .ref ac7, .ref ac8, .ref ac9, .ref ac10, .int 0, .int 0, .int 0])), (ac1, .inr (3, [.ref ac2, .ref ac3, .ref ac4, .ref ac5, .ref ac6, .int 0, .int 0, .int 0, .int 0])), (ac2, .inl (cA, 8, .inl (fun _ => 0))), (ac3, .inl (cA, 8, .inl (fun _ => 0))), (ac4, .inl (cA, 8, .inl (fun _ => 0))), (ac5, .inl (cA, 8, .inl (fun _ => 0))), (ac6, .inl (cA, 8, .inl (fun _ => 0))), (ac7, .inl (cA, 8, .inl (fun _ => 0))), (ac8, .inl (cA, 8, .inl (fun _ => 0))), (ac9, .inl (cA, 8, .inl (fun _ => 0))), (ac10, .inl (cA, 8, .inl (fun _ => 0))), (ac11, .inr (0, [.ref ac12, .int 0, .int 0, .int 0])), (ac12, .inl (cA, 4, .inl (fun _ => 0))), (ac13, .inr (1, [.ref ac14, .ref ac15, .ref ac16, .ref ac17, .ref ac18, .ref ac19, .ref ac20, .int 0, .int 0, .int 0])), (ac14, .inl (cA, 10, .inl (fun _ => 0))), (ac15, .inl (cA, 10, .inl (fun _ => 0))), (ac16, .inl (cA, 12, .inl (fun _ => 0))), (ac17, .inl (cA, 12, .inl (fun _ => 0))), (ac18, .inl (cA, 12, .inl (fun _ => 0))), (ac19, .inl (cA, 12, .inl (fun _ => 0))), (ac20, .inl (cA, 6, .inl (fun _ => 0)))]) rfl ?_
  have hD : va_D _ [(hc, .inr (4, [.ref ac1, .ref ac0, .ref ac11, .ref ac13, .int 100, .int 50, .int 0])), (ac0, .inr (2, [.ref ac1, .ref ac7, .ref ac8, .ref ac9, .ref ac10, .int 0, .int 0, .int 0])), (ac1, .inr (3, [.ref ac2, .ref ac3, .ref ac4, .ref ac5, .ref ac6, .int 0, .int 0, .int 0, .int 0])), (ac2, .inl (cA, 8, .inl (fun _ => 0))), (ac3, .inl (cA, 8, .inl (fun _ => 0))), (ac4, .inl (cA, 8, .inl (fun _ => 0))), (ac5, .inl (cA, 8, .inl (fun _ => 0))), (ac6, .inl (cA, 8, .inl (fun _ => 0))), (ac7, .inl (cA, 8, .inl (fun _ => 0))), (ac8, .inl (cA, 8, .inl (fun _ => 0))), (ac9, .inl (cA, 8, .inl (fun _ => 0))), (ac10, .inl (cA, 8, .inl (fun _ => 0))), (ac11, .inr (0, [.ref ac12, .int 0, .int 0, .int 0])), (ac12, .inl (cA, 4, .inl (fun _ => 0))), (ac13, .inr (1, [.ref ac14, .ref ac15, .ref ac16, .ref ac17, .ref ac18, .ref ac19, .ref ac20, .int 0, .int 0, .int 0])), (ac14, .inl (cA, 10, .inl (fun _ => 0))), (ac15, .inl (cA, 10, .inl (fun _ => 0))), (ac16, .inl (cA, 12, .inl (fun _ => 0))), (ac17, .inl (cA, 12, .inl (fun _ => 0))), (ac18, .inl (cA, 12, .inl (fun _ => 0))), (ac19, .inl (cA, 12, .inl (fun _ => 0))), (ac20, .inl (cA, 6, .inl (fun _ => 0)))] := hD
  refine ww_astore_n (i := 1) (lv1 := [(0, .ref b), (1, .ref hc)]) hx hb dL_law_7 rfl (by decide) [1, 0] rfl ?_
  refine ww_new (C := RX5) (T := TX5) (N := 36) hx hb hown hts hK hA hD inA5 tyX5 tyX5_ok kw_645 kw_646 kw_262 rfl [.int 0, .null, .null, .null, .null, .null, .int 0, .null, .int 0, .int 0, .int 0, .int 0, .int 0, .int 0, .null, .null, .int 0, .int 0, .int 0, .null, .null, .null, .int 0, .int 0, .int 0, .int 0, .null, .null, .int 0, .null, .null, .null, .null, .null, .int 0, .int 0] (by decide +kernel) (Nat.le_of_ble_eq_true rfl) (Nat.le_of_ble_eq_true rfl) dL_law_8 (fun hr_ => [(hc, .inr (4, [.ref ac1, .ref ac0, .ref ac11, .ref ac13, .int 100, .int 50, .int 0])), (ac0, .inr (2, [.ref ac1, .ref ac7, .ref ac8, .ref ac9, .ref ac10, .int 0, .int 0, .int 0])), (ac1, .inr (3, [.ref ac2, .ref ac3, .ref ac4, .ref ac5, .ref ac6, .int 0, .int 0, .int 0, .int 0])), (ac2, .inl (cA, 8, .inl (fun _ => 0))), (ac3, .inl (cA, 8, .inl (fun _ => 0))), (ac4, .inl (cA, 8, .inl (fun _ => 0))), (ac5, .inl (cA, 8, .inl (fun _ => 0))), (ac6, .inl (cA, 8, .inl (fun _ => 0))), (ac7, .inl (cA, 8, .inl (fun _ => 0))), (ac8, .inl (cA, 8, .inl (fun _ => 0))), (ac9, .inl (cA, 8, .inl (fun _ => 0))), (ac10, .inl (cA, 8, .inl (fun _ => 0))), (ac11, .inr (0, [.ref ac12, .int 0, .int 0, .int 0])), (ac12, .inl (cA, 4, .inl (fun _ => 0))), (ac13, .inr (1, [.ref ac14, .ref ac15, .ref ac16, .ref ac17, .ref ac18, .ref ac19, .ref ac20, .int 0, .int 0, .int 0])), (ac14, .inl (cA, 10, .inl (fun _ => 0))), (ac15, .inl (cA, 10, .inl (fun _ => 0))), (ac16, .inl (cA, 12, .inl (fun _ => 0))), (ac17, .inl (cA, 12, .inl (fun _ => 0))), (ac18, .inl (cA, 12, .inl (fun _ => 0))), (ac19, .inl (cA, 12, .inl (fun _ => 0))), (ac20, .inl (cA, 6, .inl (fun _ => 0))), (hr_, .inr (5, [.int 0, .null, .null, .null, .null, .null, .int 0, .null, .int 0, .int 0, .int 0, .int 0, .int 0, .int 0, .null, .null, .int 0, .int 0, .int 0, .null, .null, .null, .int 0, .int 0, .int 0, .int 0, .null, .null, .int 0, .null, .null, .null, .null, .null, .int 0, .int 0]))]) (fun _ => rfl) (fun hr_ hD => ?_)
  refine ww_dup hx hb dL_law_11 rfl ?_
  refine ww_callJ hx hb hml hown hts hK1 hN hA [(hc, .inr (4, [.ref ac1, .ref ac0, .ref ac11, .ref ac13, .int 100, .int 50, .int 0])), (ac0, .inr (2, [.ref ac1, .ref ac7, .ref ac8, .ref ac9, .ref ac10, .int 0, .int 0, .int 0])), (ac1, .inr (3, [.ref ac2, .ref ac3, .ref ac4, .ref ac5, .ref ac6, .int 0, .int 0, .int 0, .int 0])), (ac2, .inl (cA, 8, .inl (fun _ => 0))), (ac3, .inl (cA, 8, .inl (fun _ => 0))), (ac4, .inl (cA, 8, .inl (fun _ => 0))), (ac5, .inl (cA, 8, .inl (fun _ => 0))), (ac6, .inl (cA, 8, .inl (fun _ => 0))), (ac7, .inl (cA, 8, .inl (fun _ => 0))), (ac8, .inl (cA, 8, .inl (fun _ => 0))), (ac9, .inl (cA, 8, .inl (fun _ => 0))), (ac10, .inl (cA, 8, .inl (fun _ => 0))), (ac11, .inr (0, [.ref ac12, .int 0, .int 0, .int 0])), (ac12, .inl (cA, 4, .inl (fun _ => 0))), (ac13, .inr (1, [.ref ac14, .ref ac15, .ref ac16, .ref ac17, .ref ac18, .ref ac19, .ref ac20, .int 0, .int 0, .int 0])), (ac14, .inl (cA, 10, .inl (fun _ => 0))), (ac15, .inl (cA, 10, .inl (fun _ => 0))), (ac16, .inl (cA, 12, .inl (fun _ => 0))), (ac17, .inl (cA, 12, .inl (fun _ => 0))), (ac18, .inl (cA, 12, .inl (fun _ => 0))), (ac19, .inl (cA, 12, .inl (fun _ => 0))), (ac20, .inl (cA, 6, .inl (fun _ => 0)))] (m_X5_init hr_) cs_L_76 (by decide) ⟨Nat.le_of_ble_eq_true rfl, Nat.le_of_ble_eq_true rfl⟩ rfl hD (Nat.le_of_ble_eq_true rfl) dL_law_12 (fun w1 hw1 hD => ?_)
  obtain ⟨ar0, ar1, ar2, ar3, ar4, ar5, ar6, ar7, ar8, ar9, ar10, ar11, ar12, ar13, ar14, ar15, ar16, ar17, rfl⟩ := hw1
  refine ww_eq (ws1 := [(hc, .inr (4, [.ref ac1, .ref ac0, .ref ac11, .ref ac13, .int 100, .int 50, .int 0])), (ac0, .inr (2, [.ref ac1, .ref ac7, .ref ac8, .ref ac9, .ref ac10, .int 0, .int 0, .int 0])), (ac1, .inr (3, [.ref ac2, .ref ac3, .ref ac4, .ref ac5, .ref ac6, .int 0, .int 0, .int 0, .int 0])), (ac2, .inl (cA, 8, .inl (fun _ => 0))), (ac3, .inl (cA, 8, .inl (fun _ => 0))), (ac4, .inl (cA, 8, .inl (fun _ => 0))), (ac5, .inl (cA, 8, .inl (fun _ => 0))), (ac6, .inl (cA, 8, .inl (fun _ => 0))), (ac7, .inl (cA, 8, .inl (fun _ => 0))), (ac8, .inl (cA, 8, .inl (fun _ => 0))), (ac9, .inl (cA, 8, .inl (fun _ => 0))), (ac10, .inl (cA, 8, .inl (fun _ => 0))), (ac11, .inr (0, [.ref ac12, .int 0, .int 0, .int 0])), (ac12, .inl (cA, 4, .inl (fun _ => 0))), (ac13, .inr (1, [.ref ac14, .ref ac15, .ref ac16, .ref ac17, .ref ac18, .ref ac19, .ref ac20, .int 0, .int 0, .int 0])), (ac14, .inl (cA, 10, .inl (fun _ => 0))), (ac15, .inl (cA, 10, .inl (fun _ => 0))), (ac16, .inl (cA, 12, .inl (fun _ => 0))), (ac17, .inl (cA, 12, .inl (fun _ => 0))), (ac18, .inl (cA, 12, .inl (fun _ => 0))), (ac19, .inl (cA, 12, .inl (fun _ => 0))), (ac20, .inl (cA, 6, .inl (fun _ => 0))), (hr_, .inr (5, [.int 0, .ref ar0, .ref ar1, .ref ar2, .ref ar3, .ref ar4, .int 0, .ref ar5, .int 0, .int 0, .int 0, .int 100, .int 50, .int 0, .ref ar6, .ref ar7, .int 0, .int 0, .int 0, .ref ar8, .ref ar9, .ref ar10, .int 0, .int 0, .int 0, .int 0, .ref ar11, .ref ar12, .int 0, .ref ar13, .ref ar14, .ref ar15, .ref ar16, .ref ar17, .int 0, .int 0])), (ar0, .inl (cA, 8, .inl (fun _ => 0))), (ar1, .inl (cA, 8, .inl (fun _ => 0))), (ar2, .inl (cA, 8, .inl (fun _ => 0))), (ar3, .inl (cA, 8, .inl (fun _ => 0))), (ar4, .inl (cA, 8, .inl (fun _ => 0))), (ar5, .inl (cA, 8, .inl (fun _ => 0))), (ar6, .inl (cA, 8, .inl (fun _ => 0))), (ar7, .inl (cA, 8, .inl (fun _ => 0))), (ar8, .inl (cA, 9, .inl (fun _ => 0))), (ar9, .inl (cA, 9, .inl (fun _ => 0))), (ar10, .inl (cA, 4, .inl (fun _ => 0))), (ar11, .inl (cA, 10, .inl (fun _ => 0))), (ar12, .inl (cA, 10, .inl (fun _ => 0))), (ar13, .inl (cA, 12, .inl (fun _ => 0))), (ar14, .inl (cA, 12, .inl (fun _ => 0))), (ar15, .inl (cA, 12, .inl (fun _ => 0))), (ar16, .inl (cA, 12, .inl (fun _ => 0))), (ar17, .inl (cA, 6, .inl (fun _ => 0)))]) rfl ?_
  have hD : va_D _ [(hc, .inr (4, [.ref ac1, .ref ac0, .ref ac11, .ref ac13, .int 100, .int 50, .int 0])), (ac0, .inr (2, [.ref ac1, .ref ac7, .ref ac8, .ref ac9, .ref ac10, .int 0, .int 0, .int 0])), (ac1, .inr (3, [.ref ac2, .ref ac3, .ref ac4, .ref ac5, .ref ac6, .int 0, .int 0, .int 0, .int 0])), (ac2, .inl (cA, 8, .inl (fun _ => 0))), (ac3, .inl (cA, 8, .inl (fun _ => 0))), (ac4, .inl (cA, 8, .inl (fun _ => 0))), (ac5, .inl (cA, 8, .inl (fun _ => 0))), (ac6, .inl (cA, 8, .inl (fun _ => 0))), (ac7, .inl (cA, 8, .inl (fun _ => 0))), (ac8, .inl (cA, 8, .inl (fun _ => 0))), (ac9, .inl (cA, 8, .inl (fun _ => 0))), (ac10, .inl (cA, 8, .inl (fun _ => 0))), (ac11, .inr (0, [.ref ac12, .int 0, .int 0, .int 0])), (ac12, .inl (cA, 4, .inl (fun _ => 0))), (ac13, .inr (1, [.ref ac14, .ref ac15, .ref ac16, .ref ac17, .ref ac18, .ref ac19, .ref ac20, .int 0, .int 0, .int 0])), (ac14, .inl (cA, 10, .inl (fun _ => 0))), (ac15, .inl (cA, 10, .inl (fun _ => 0))), (ac16, .inl (cA, 12, .inl (fun _ => 0))), (ac17, .inl (cA, 12, .inl (fun _ => 0))), (ac18, .inl (cA, 12, .inl (fun _ => 0))), (ac19, .inl (cA, 12, .inl (fun _ => 0))), (ac20, .inl (cA, 6, .inl (fun _ => 0))), (hr_, .inr (5, [.int 0, .ref ar0, .ref ar1, .ref ar2, .ref ar3, .ref ar4, .int 0, .ref ar5, .int 0, .int 0, .int 0, .int 100, .int 50, .int 0, .ref ar6, .ref ar7, .int 0, .int 0, .int 0, .ref ar8, .ref ar9, .ref ar10, .int 0, .int 0, .int 0, .int 0, .ref ar11, .ref ar12, .int 0, .ref ar13, .ref ar14, .ref ar15, .ref ar16, .ref ar17, .int 0, .int 0])), (ar0, .inl (cA, 8, .inl (fun _ => 0))), (ar1, .inl (cA, 8, .inl (fun _ => 0))), (ar2, .inl (cA, 8, .inl (fun _ => 0))), (ar3, .inl (cA, 8, .inl (fun _ => 0))), (ar4, .inl (cA, 8, .inl (fun _ => 0))), (ar5, .inl (cA, 8, .inl (fun _ => 0))), (ar6, .inl (cA, 8, .inl (fun _ => 0))), (ar7, .inl (cA, 8, .inl (fun _ => 0))), (ar8, .inl (cA, 9, .inl (fun _ => 0))), (ar9, .inl (cA, 9, .inl (fun _ => 0))), (ar10, .inl (cA, 4, .inl (fun _ => 0))), (ar11, .inl (cA, 10, .inl (fun _ => 0))), (ar12, .inl (cA, 10, .inl (fun _ => 0))), (ar13, .inl (cA, 12, .inl (fun _ => 0))), (ar14, .inl (cA, 12, .inl (fun _ => 0))), (ar15, .inl (cA, 12, .inl (fun _ => 0))), (ar16, .inl (cA, 12, .inl (fun _ => 0))), (ar17, .inl (cA, 6, .inl (fun _ => 0)))] := hD
  refine ww_astore_n (i := 2) (lv1 := [(0, .ref b), (1, .ref hc), (2, .ref hr_)]) hx hb dL_law_15 rfl (by decide) [1, 2, 0] rfl ?_
  refine ww_iconst (v := 1) hx hb dL_law_16 (by decide) ?_
  refine ww_newal hx hb hts hK hA hD rfl kw_650 1 (by decide) (by decide) (Nat.le_of_ble_eq_true rfl) (Nat.le_of_ble_eq_true rfl) (Nat.le_of_ble_eq_true rfl) dL_law_17 (fun o => [(hc, .inr (4, [.ref ac1, .ref ac0, .ref ac11, .ref ac13, .int 100, .int 50, .int 0])), (ac0, .inr (2, [.ref ac1, .ref ac7, .ref ac8, .ref ac9, .ref ac10, .int 0, .int 0, .int 0])), (ac1, .inr (3, [.ref ac2, .ref ac3, .ref ac4, .ref ac5, .ref ac6, .int 0, .int 0, .int 0, .int 0])), (ac2, .inl (cA, 8, .inl (fun _ => 0))), (ac3, .inl (cA, 8, .inl (fun _ => 0))), (ac4, .inl (cA, 8, .inl (fun _ => 0))), (ac5, .inl (cA, 8, .inl (fun _ => 0))), (ac6, .inl (cA, 8, .inl (fun _ => 0))), (ac7, .inl (cA, 8, .inl (fun _ => 0))), (ac8, .inl (cA, 8, .inl (fun _ => 0))), (ac9, .inl (cA, 8, .inl (fun _ => 0))), (ac10, .inl (cA, 8, .inl (fun _ => 0))), (ac11, .inr (0, [.ref ac12, .int 0, .int 0, .int 0])), (ac12, .inl (cA, 4, .inl (fun _ => 0))), (ac13, .inr (1, [.ref ac14, .ref ac15, .ref ac16, .ref ac17, .ref ac18, .ref ac19, .ref ac20, .int 0, .int 0, .int 0])), (ac14, .inl (cA, 10, .inl (fun _ => 0))), (ac15, .inl (cA, 10, .inl (fun _ => 0))), (ac16, .inl (cA, 12, .inl (fun _ => 0))), (ac17, .inl (cA, 12, .inl (fun _ => 0))), (ac18, .inl (cA, 12, .inl (fun _ => 0))), (ac19, .inl (cA, 12, .inl (fun _ => 0))), (ac20, .inl (cA, 6, .inl (fun _ => 0))), (hr_, .inr (5, [.int 0, .ref ar0, .ref ar1, .ref ar2, .ref ar3, .ref ar4, .int 0, .ref ar5, .int 0, .int 0, .int 0, .int 100, .int 50, .int 0, .ref ar6, .ref ar7, .int 0, .int 0, .int 0, .ref ar8, .ref ar9, .ref ar10, .int 0, .int 0, .int 0, .int 0, .ref ar11, .ref ar12, .int 0, .ref ar13, .ref ar14, .ref ar15, .ref ar16, .ref ar17, .int 0, .int 0])), (ar0, .inl (cA, 8, .inl (fun _ => 0))), (ar1, .inl (cA, 8, .inl (fun _ => 0))), (ar2, .inl (cA, 8, .inl (fun _ => 0))), (ar3, .inl (cA, 8, .inl (fun _ => 0))), (ar4, .inl (cA, 8, .inl (fun _ => 0))), (ar5, .inl (cA, 8, .inl (fun _ => 0))), (ar6, .inl (cA, 8, .inl (fun _ => 0))), (ar7, .inl (cA, 8, .inl (fun _ => 0))), (ar8, .inl (cA, 9, .inl (fun _ => 0))), (ar9, .inl (cA, 9, .inl (fun _ => 0))), (ar10, .inl (cA, 4, .inl (fun _ => 0))), (ar11, .inl (cA, 10, .inl (fun _ => 0))), (ar12, .inl (cA, 10, .inl (fun _ => 0))), (ar13, .inl (cA, 12, .inl (fun _ => 0))), (ar14, .inl (cA, 12, .inl (fun _ => 0))), (ar15, .inl (cA, 12, .inl (fun _ => 0))), (ar16, .inl (cA, 12, .inl (fun _ => 0))), (ar17, .inl (cA, 6, .inl (fun _ => 0))), (o, .inl (cL, 1, .inr (.inl (fun _ => 0))))]) (fun _ => rfl) (fun o hD => ?_)
  refine ww_astore_n (i := 3) (lv1 := [(0, .ref b), (1, .ref hc), (2, .ref hr_), (3, .ref o)]) hx hb dL_law_19 rfl (by decide) [1, 2, 3, 0] rfl ?_
  refine ww_iconst (v := 0) hx hb dL_law_20 (by decide) ?_
  refine ww_istore (i := 4) (lv1 := [(0, .ref b), (1, .ref hc), (2, .ref hr_), (3, .ref o), (4, .int 0)]) hx hb dL_law_21 (by decide) [1, 2, 3, 4, 0] rfl ?_
  obtain ⟨q, hq⟩ : ∃ z : Nat → Nat, z = (fun k => ([hc, ac0, ac1, ac11, ac13, ac2, ac3, ac4, ac5, ac6, ac7, ac8, ac9, ac10, ac12, ac14, ac15, ac16, ac17, ac18, ac19, ac20] : List Nat).getD k 0) := ⟨_, rfl⟩
  obtain ⟨q2, hq2⟩ : ∃ z : Nat → Nat, z = (fun k => ([hr_, ar0, ar1, ar2, ar3, ar4, ar5, ar6, ar7, ar8, ar9, ar10, ar11, ar12, ar13, ar14, ar15, ar16, ar17] : List Nat).getD k 0) := ⟨_, rfl⟩
  have hD1 : va_D (fun q => s.heap.size ≤ q) (WR q2 cA sR0 ++ (WO o cL (fun _ => 0) ++ WC q cA sC0)) := hD.sub [22, 23, 24, 25, 26, 27, 28, 29, 30, 31, 32, 33, 34, 35, 36, 37, 38, 39, 40, 41, 0, 1, 2, 12, 14, 3, 4, 5, 6, 7, 8, 9, 10, 11, 13, 15, 16, 17, 18, 19, 20, 21] (by decide +kernel) (by subst hq; subst hq2; rfl)
  refine ww_perm (ws1 := WR q2 cA sR0 ++ (WO o cL (fun _ => 0) ++ WC q cA sC0)) [22, 23, 24, 25, 26, 27, 28, 29, 30, 31, 32, 33, 34, 35, 36, 37, 38, 39, 40, 41, 0, 1, 2, 12, 14, 3, 4, 5, 6, 7, 8, 9, 10, 11, 13, 15, 16, 17, 18, 19, 20, 21] (by subst hq; subst hq2; rfl) ?_
  have e1 : hc = q 0 := by subst hq; rfl
  have e2 : hr_ = q2 0 := by subst hq2; rfl
  rw [e1, e2]
  have C : LC p l s m meth c D q q2 o cA cL b L xs := ⟨hx, hb, hr, hlk, hml, hown, hts, hK, hN, hZ, hX, hbl, fun τ σ f => hD1.adr rfl, hl0⟩
  refine ww_widen (k := 60 + 0) (n := 1000 + 6 * 0) (Nat.le_of_ble_eq_true rfl) (Nat.le_of_ble_eq_true rfl) ?_
  exact law_loop hL C 513 0 (Nat.zero_le _) (Nat.le_refl _) 0 rfl _ _ _ rel0

