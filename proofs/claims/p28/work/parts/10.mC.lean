/-- the class's rows of numbers, with their lengths -/
def rowL : List (Nat × Nat) := [(5, 8), (6, 8), (7, 8), (8, 8), (9, 8), (10, 8), (11, 8), (12, 8), (13, 8), (14, 4), (15, 10), (16, 10), (17, 12), (18, 12), (19, 12), (20, 12), (21, 6)]
theorem rowL_at {q : Nat → Nat} {cA : ClassId} {k n : Nat} (h : (k, n) ∈ rowL) (σ : SS) : (WC q cA σ)[k]? = some (q k, .inl (cA, n, .inl (σ k))) ∧ (∀ f : Nat → Int32, (WC q cA σ).set k (q k, .inl (cA, n, .inl f)) = WC q cA (sst σ k f)) ∧ n < 2 ^ 31 := by
  simp only [rowL, List.mem_cons, Prod.mk.injEq, List.not_mem_nil, or_false] at h
  rcases h with ⟨rfl, rfl⟩ | ⟨rfl, rfl⟩ | ⟨rfl, rfl⟩ | ⟨rfl, rfl⟩ | ⟨rfl, rfl⟩ | ⟨rfl, rfl⟩ | ⟨rfl, rfl⟩ | ⟨rfl, rfl⟩ | ⟨rfl, rfl⟩ | ⟨rfl, rfl⟩ | ⟨rfl, rfl⟩ | ⟨rfl, rfl⟩ | ⟨rfl, rfl⟩ | ⟨rfl, rfl⟩ | ⟨rfl, rfl⟩ | ⟨rfl, rfl⟩ | ⟨rfl, rfl⟩ <;> exact ⟨rfl, fun _ => rfl, by decide⟩
theorem in_of {i : Int32} {n : Nat} (hn : n < 2 ^ 31) (h1 : ¬ i < 0) (h2 : ¬ Int32.ofNat n ≤ i) : vp_in i n := by
  rw [vp_in_iff]
  have e := nI_toInt hn
  simp only [nI] at e
  rw [Int32.lt_iff_toInt_lt, Int32.toInt_zero] at h1
  rw [Int32.le_iff_toInt_le, e] at h2
  omega
section
variable {l : Launch} {D : va_G} {q : Nat → Nat} {cA : ClassId}
set_option maxHeartbeats 4000000 in
set_option maxRecDepth 100000 in
theorem m_at {k n : Nat} (hk : (k, n) ∈ rowL) (σ : SS) (x1 : Int32) : Ct l yX4_at cX4_at 2 (some .int) 0 0 D vwCl [(cA, .int)] (WC q cA σ) (WC q cA σ) [.ref (q k), .int x1] (some (.int (fat σ k n x1))) := by
  obtain ⟨hk1, hk2, hn⟩ := rowL_at (q := q) (cA := cA) hk σ
  obtain ⟨r, h⟩ : ∃ r, fat σ k n x1 = r := ⟨_, rfl⟩
  rw [h]
  unfold fat at h
  refine ct_of (by decide +kernel) (Nat.le_of_ble_eq_true rfl) ?_
  intro p e s m args below meth c hx hb hr hlk hml hown hts hK hD hN hA
  have hown : s.vm.findClass RX4 = some m.cls := hown
  refine ww_sub (lv1 := [(0, .ref (q k)), (1, .int x1)]) [0, 1] rfl ?_
  refine ww_iload_n hx hb dX4_at_0 rfl 1 rfl ?_
  refine ww_lt0 (tgt := 16) hx hb dX4_at_1 (by decide) (fun c_1 => ?_) (fun c_1 => ?_)
  · replace h := it_p c_1 h
    obtain rfl := h
    refine ww_iconst (v := 0) hx hb dX4_at_16 (by decide) ?_
    exact ww_iret hx hb hr hlk rfl dX4_at_17
  · replace h := it_n c_1 h
    refine ww_iload_n hx hb dX4_at_4 rfl 1 rfl ?_
    refine ww_aload_n hx hb dX4_at_5 rfl 0 rfl ?_
    refine ww_alen (v := Int32.ofNat n) hx hb hown hts hK k 0 hk1 rfl rfl dX4_at_6 ?_
    refine ww_ge2 (tgt := 16) hx hb dX4_at_7 (by decide) (fun c_2 => ?_) (fun c_2 => ?_)
    · replace h := it_p c_2 h
      obtain rfl := h
      refine ww_iconst (v := 0) hx hb dX4_at_16 (by decide) ?_
      exact ww_iret hx hb hr hlk rfl dX4_at_17
    · replace h := it_n c_2 h
      obtain rfl := h
      refine ww_aload_n hx hb dX4_at_10 rfl 0 rfl ?_
      refine ww_iload_n hx hb dX4_at_11 rfl 1 rfl ?_
      refine ww_iald hx hb hown hts hK k 0 hk1 rfl (in_of hn c_1 c_2) dX4_at_12 ?_
      refine ww_goto (tgt := 17) hx hb dX4_at_13 (by decide) ?_
      exact ww_iret hx hb hr hlk rfl dX4_at_17
set_option maxHeartbeats 4000000 in
set_option maxRecDepth 100000 in
theorem m_put {k n : Nat} (hk : (k, n) ∈ rowL) (σ : SS) (x1 x2 : Int32) (σ1 : SS) (h : fput σ k n x1 x2 = σ1) : Ct l yX4_put cX4_put 3 none 0 0 D vwCl [(cA, .int)] (WC q cA σ) (WC q cA σ1) [.ref (q k), .int x1, .int x2] none := by
  obtain ⟨hk1, hk2, hn⟩ := rowL_at (q := q) (cA := cA) hk σ
  unfold fput at h
  refine ct_of (by decide +kernel) (Nat.le_of_ble_eq_true rfl) ?_
  intro p e s m args below meth c hx hb hr hlk hml hown hts hK hD hN hA
  have hown : s.vm.findClass RX4 = some m.cls := hown
  refine ww_sub (lv1 := [(0, .ref (q k)), (1, .int x1), (2, .int x2)]) [0, 1, 2] rfl ?_
  refine ww_iload_n hx hb dX4_put_0 rfl 1 rfl ?_
  refine ww_lt0 (tgt := 14) hx hb dX4_put_1 (by decide) (fun c_1 => ?_) (fun c_1 => ?_)
  · replace h := it_p c_1 h
    obtain rfl := h
    exact ww_vret hx hb hr hlk dX4_put_14
  · replace h := it_n c_1 h
    refine ww_iload_n hx hb dX4_put_4 rfl 1 rfl ?_
    refine ww_aload_n hx hb dX4_put_5 rfl 0 rfl ?_
    refine ww_alen (v := Int32.ofNat n) hx hb hown hts hK k 0 hk1 rfl rfl dX4_put_6 ?_
    refine ww_ge2 (tgt := 14) hx hb dX4_put_7 (by decide) (fun c_2 => ?_) (fun c_2 => ?_)
    · replace h := it_p c_2 h
      obtain rfl := h
      exact ww_vret hx hb hr hlk dX4_put_14
    · replace h := it_n c_2 h
      obtain rfl := h
      refine ww_aload_n hx hb dX4_put_10 rfl 0 rfl ?_
      refine ww_iload_n hx hb dX4_put_11 rfl 1 rfl ?_
      refine ww_iload_n hx hb dX4_put_12 rfl 2 rfl ?_
      refine ww_iast (ws1 := WC q cA (wr σ k x1.toNatClampNeg x2)) hx hb hown hts hK hD k 0 hk1 rfl (in_of hn c_1 c_2) dX4_put_13 (hk2 _) ?_
      exact ww_vret hx hb hr hlk dX4_put_14
set_option maxHeartbeats 4000000 in
set_option maxRecDepth 100000 in
theorem m_add {k n : Nat} (hk : (k, n) ∈ rowL) (σ : SS) (x1 x2 : Int32) (σ1 : SS) (h : fadd σ k n x1 x2 = σ1) : Ct l yX4_add cX4_add 3 none 1 40 D vwCl [(cA, .int)] (WC q cA σ) (WC q cA σ1) [.ref (q k), .int x1, .int x2] none := by
  refine ct_of (by decide +kernel) (Nat.le_of_ble_eq_true rfl) ?_
  intro p e s m args below meth c hx hb hr hlk hml hown hts hK hD hN hA
  have hown : s.vm.findClass RX4 = some m.cls := hown
  have hDD : ∀ τ : SS, va_D (va_A (WC q cA σ) s.heap.size) (WC q cA τ) := fun τ => hD.adr rfl
  refine ww_sub (lv1 := [(0, .ref (q k)), (1, .int x1), (2, .int x2)]) [0, 1, 2] rfl ?_
  refine ww_aload_n hx hb dX4_add_0 rfl 0 rfl ?_
  refine ww_iload_n hx hb dX4_add_1 rfl 1 rfl ?_
  refine ww_aload_n hx hb dX4_add_2 rfl 0 rfl ?_
  refine ww_iload_n hx hb dX4_add_3 rfl 1 rfl ?_
  refine ww_callS (ws1 := WC q cA σ) (st1 := [.int (fat σ k n x1), .int x1, .ref (q k)]) hx hb hml hown hts hK hN hA (hDD _) (Nat.zero_le _) (Nat.zero_le _) [.ref (q k), .int x1] [.int x1, .ref (q k)] (m_at hk σ x1) cs_X4_131 rfl (by decide) rfl (Nat.le_of_ble_eq_true rfl) dX4_add_4 rfl ?_
  refine ww_iload_n hx hb dX4_add_7 rfl 2 rfl ?_
  refine ww_iadd hx hb dX4_add_8 ?_
  refine ww_callS (ws1 := WC q cA σ1) (st1 := []) hx hb hml hown hts hK hN hA (hDD _) (Nat.zero_le _) (Nat.zero_le _) [.ref (q k), .int x1, .int (fat σ k n x1 + x2)] [] (m_put hk σ x1 (fat σ k n x1 + x2) σ1 h) cs_X4_194 rfl (by decide) rfl (Nat.le_of_ble_eq_true rfl) dX4_add_9 rfl ?_
  exact ww_vret hx hb hr hlk dX4_add_12
end
section
variable {l : Launch} {D : va_G} {q : Nat → Nat} {cA : ClassId}
set_option maxHeartbeats 4000000 in
set_option maxRecDepth 100000 in
theorem m_X4_isWithin (σ : SS) (x0 x1 x2 : Int32) : Ct l yX4_isWithin cX4_isWithin 3 (some .boolean) 0 0 D vwCl [(cA, .int)] (WC q cA σ) (WC q cA σ) [.int (x0), .int (x1), .int (x2)] (some (.int (X4_isWithin x0 x1 x2))) := by
  refine ct_of (by decide +kernel) (Nat.le_of_ble_eq_true rfl) ?_
  intro p e s m args below meth c hx hb hr hlk hml hown hts hK hD hN hA
  have hown : s.vm.findClass RX4 = some m.cls := hown
  have hDD : ∀ τ : SS, va_D (va_A (WC q cA σ) s.heap.size) (WC q cA τ) := fun τ => hD.adr rfl
  obtain ⟨r, h⟩ : ∃ r, X4_isWithin x0 x1 x2 = r := ⟨_, rfl⟩
  rw [h]
  unfold X4_isWithin at h
  refine ww_sub (lv1 := [(0, .int (x0)), (1, .int (x1)), (2, .int (x2))]) [0, 1, 2] rfl ?_
  refine ww_iload_n hx hb dX4_isWithin_0 rfl 0 rfl ?_
  refine ww_iload_n hx hb dX4_isWithin_1 rfl 1 rfl ?_
  refine ww_lt2 (tgt := 14) hx hb dX4_isWithin_2 (by decide) (fun c_1 => ?_) (fun c_1 => ?_)
  · replace h := it_p c_1 h
    refine ww_iconst (v := 0) hx hb dX4_isWithin_14 (by decide) ?_
    obtain rfl := h
    exact ww_zret hx hb hr hlk (by decide) rfl dX4_isWithin_15
  · replace h := it_n c_1 h
    refine ww_iload_n hx hb dX4_isWithin_5 rfl 0 rfl ?_
    refine ww_iload_n hx hb dX4_isWithin_6 rfl 2 rfl ?_
    refine ww_gt2 (tgt := 14) hx hb dX4_isWithin_7 (by decide) (fun c_2 => ?_) (fun c_2 => ?_)
    · replace h := it_p c_2 h
      refine ww_iconst (v := 0) hx hb dX4_isWithin_14 (by decide) ?_
      obtain rfl := h
      exact ww_zret hx hb hr hlk (by decide) rfl dX4_isWithin_15
    · replace h := it_n c_2 h
      refine ww_iconst (v := 1) hx hb dX4_isWithin_10 (by decide) ?_
      refine ww_goto (tgt := 15) hx hb dX4_isWithin_11 (by decide) ?_
      obtain rfl := h
      exact ww_zret hx hb hr hlk (by decide) rfl dX4_isWithin_15
set_option maxHeartbeats 4000000 in
set_option maxRecDepth 100000 in
theorem m_X3_everyScene (σ : SS) : Ct l yX3_everyScene cX3_everyScene 1 (some .int) 0 0 D vwCl [(cA, .int)] (WC q cA σ) (WC q cA σ) [.ref (q 2)] (some (.int (X3_everyScene σ))) := by
  refine ct_of (by decide +kernel) (Nat.le_of_ble_eq_true rfl) ?_
  intro p e s m args below meth c hx hb hr hlk hml hown hts hK hD hN hA
  have hown : s.vm.findClass RX3 = some m.cls := hown
  have hDD : ∀ τ : SS, va_D (va_A (WC q cA σ) s.heap.size) (WC q cA τ) := fun τ => hD.adr rfl
  obtain ⟨r, h⟩ : ∃ r, X3_everyScene σ = r := ⟨_, rfl⟩
  rw [h]
  unfold X3_everyScene at h
  refine ww_sub (lv1 := [(0, .ref (q 2))]) [0] rfl ?_
  refine ww_iconst (v := 1) hx hb dX3_everyScene_0 (by decide) ?_
  refine ww_aload_n hx hb dX3_everyScene_1 rfl 0 rfl ?_
  refine ww_get (C := RX3) (T := TX3) (N := 9) hx hb hown hts hK inA3 2 rfl rfl 5 (by decide) kw_0 rfl rfl dX3_everyScene_2 ?_
  refine ww_ishl hx hb dX3_everyScene_5 ?_
  refine ww_iconst (v := 1) hx hb dX3_everyScene_6 (by decide) ?_
  refine ww_isub hx hb dX3_everyScene_7 ?_
  obtain rfl := h
  exact ww_iret hx hb hr hlk rfl dX3_everyScene_8
set_option maxHeartbeats 4000000 in
set_option maxRecDepth 100000 in
theorem m_X2_forget (σ : SS) (σ1 : SS) (h : X2_forget σ = some σ1) : Ct l yX2_forget cX2_forget 1 none 0 0 D vwCl [(cA, .int)] (WC q cA σ) (WC q cA σ1) [.ref (q 1)] none := by
  refine ct_of (by decide +kernel) (Nat.le_of_ble_eq_true rfl) ?_
  intro p e s m args below meth c hx hb hr hlk hml hown hts hK hD hN hA
  have hown : s.vm.findClass RX2 = some m.cls := hown
  have hDD : ∀ τ : SS, va_D (va_A (WC q cA σ) s.heap.size) (WC q cA τ) := fun τ => hD.adr rfl
  unfold X2_forget at h
  refine ww_sub (lv1 := [(0, .ref (q 1))]) [0] rfl ?_
  refine ww_aload_n hx hb dX2_forget_0 rfl 0 rfl ?_
  refine ww_iconst (v := 0) hx hb dX2_forget_1 (by decide) ?_
  obtain ⟨σ_1, e_1, h⟩ := lt_e h
  refine ww_put (C := RX2) (T := TX2) (N := 8) (ty := .boolean) (ws1 := WC q cA (σ_1)) hx hb hown hts hK inA2 tyX2 tyX2_ok nmX2 (hDD _) 1 rfl rfl 7 (by decide) kw_1 rfl rfl rfl (isZ_narrow (by decide)) (isZ_fits (by decide)) (Nat.le_of_ble_eq_true rfl) dX2_forget_2 (e_1 ▸ rfl) ?_
  obtain rfl := os1 h
  exact ww_vret hx hb hr hlk dX2_forget_5
set_option maxHeartbeats 4000000 in
set_option maxRecDepth 100000 in
theorem m_X3_append (σ : SS) (x1 x2 x3 x4 x5 : Int32) (r : Int32) (σ1 : SS) (h : X3_append σ x1 x2 x3 x4 x5 = some (r, σ1)) : Ct l yX3_append cX3_append 6 (some .int) 1 40 D vwCl [(cA, .int)] (WC q cA σ) (WC q cA σ1) [.ref (q 2), .int (x1), .int (x2), .int (x3), .int (x4), .int (x5)] (some (.int r)) := by
  refine ct_of (by decide +kernel) (Nat.le_of_ble_eq_true rfl) ?_
  intro p e s m args below meth c hx hb hr hlk hml hown hts hK hD hN hA
  have hown : s.vm.findClass RX3 = some m.cls := hown
  have hDD : ∀ τ : SS, va_D (va_A (WC q cA σ) s.heap.size) (WC q cA τ) := fun τ => hD.adr rfl
  unfold X3_append at h
  refine ww_sub (lv1 := [(0, .ref (q 2)), (1, .int (x1)), (2, .int (x2)), (3, .int (x3)), (4, .int (x4)), (5, .int (x5))]) [0, 1, 2, 3, 4, 5] rfl ?_
  refine ww_aload_n hx hb dX3_append_0 rfl 0 rfl ?_
  refine ww_get (C := RX3) (T := TX3) (N := 9) hx hb hown hts hK inA3 2 rfl rfl 0 (by decide) kw_2 rfl rfl dX3_append_1 ?_
  refine ww_aload_n hx hb dX3_append_4 rfl 0 rfl ?_
  refine ww_get (C := RX3) (T := TX3) (N := 9) hx hb hown hts hK inA3 2 rfl rfl 5 (by decide) kw_0 rfl rfl dX3_append_5 ?_
  refine ww_iload_n hx hb dX3_append_8 rfl 1 rfl ?_
  obtain ⟨σ_1, e_1, h⟩ := lt_e h
  refine ww_callN (ws1 := WC q cA σ_1) (st1 := []) hx hb hml hown hts hK hN hA (hDD _) (Nat.zero_le _) (Nat.zero_le _) [.ref (q 5), .int (σ 2 5), .int (x1)] [] (m_put (by decide) _ _ _ _ e_1) cs_X3_31 rfl (by decide) rfl (Nat.le_of_ble_eq_true rfl) dX3_append_9 rfl ?_
  refine ww_aload_n hx hb dX3_append_12 rfl 0 rfl ?_
  refine ww_get (C := RX3) (T := TX3) (N := 9) hx hb hown hts hK inA3 2 rfl rfl 1 (by decide) kw_6 rfl rfl dX3_append_13 ?_
  refine ww_aload_n hx hb dX3_append_16 rfl 0 rfl ?_
  refine ww_get (C := RX3) (T := TX3) (N := 9) hx hb hown hts hK inA3 2 rfl rfl 5 (by decide) kw_0 rfl rfl dX3_append_17 ?_
  refine ww_iload_n hx hb dX3_append_20 rfl 2 rfl ?_
  obtain ⟨σ_2, e_2, h⟩ := lt_e h
  refine ww_callN (ws1 := WC q cA σ_2) (st1 := []) hx hb hml hown hts hK hN hA (hDD _) (Nat.zero_le _) (Nat.zero_le _) [.ref (q 6), .int (σ_1 2 5), .int (x2)] [] (m_put (by decide) _ _ _ _ e_2) cs_X3_31 rfl (by decide) rfl (Nat.le_of_ble_eq_true rfl) dX3_append_21 rfl ?_
  refine ww_aload_n hx hb dX3_append_24 rfl 0 rfl ?_
  refine ww_get (C := RX3) (T := TX3) (N := 9) hx hb hown hts hK inA3 2 rfl rfl 2 (by decide) kw_7 rfl rfl dX3_append_25 ?_
  refine ww_aload_n hx hb dX3_append_28 rfl 0 rfl ?_
  refine ww_get (C := RX3) (T := TX3) (N := 9) hx hb hown hts hK inA3 2 rfl rfl 5 (by decide) kw_0 rfl rfl dX3_append_29 ?_
  refine ww_iload_n hx hb dX3_append_32 rfl 3 rfl ?_
  obtain ⟨σ_3, e_3, h⟩ := lt_e h
  refine ww_callN (ws1 := WC q cA σ_3) (st1 := []) hx hb hml hown hts hK hN hA (hDD _) (Nat.zero_le _) (Nat.zero_le _) [.ref (q 7), .int (σ_2 2 5), .int (x3)] [] (m_put (by decide) _ _ _ _ e_3) cs_X3_31 rfl (by decide) rfl (Nat.le_of_ble_eq_true rfl) dX3_append_33 rfl ?_
  refine ww_aload_n hx hb dX3_append_36 rfl 0 rfl ?_
  refine ww_get (C := RX3) (T := TX3) (N := 9) hx hb hown hts hK inA3 2 rfl rfl 3 (by decide) kw_8 rfl rfl dX3_append_37 ?_
  refine ww_aload_n hx hb dX3_append_40 rfl 0 rfl ?_
  refine ww_get (C := RX3) (T := TX3) (N := 9) hx hb hown hts hK inA3 2 rfl rfl 5 (by decide) kw_0 rfl rfl dX3_append_41 ?_
  refine ww_iload hx hb dX3_append_44 4 rfl ?_
  obtain ⟨σ_4, e_4, h⟩ := lt_e h
  refine ww_callN (ws1 := WC q cA σ_4) (st1 := []) hx hb hml hown hts hK hN hA (hDD _) (Nat.zero_le _) (Nat.zero_le _) [.ref (q 8), .int (σ_3 2 5), .int (x4)] [] (m_put (by decide) _ _ _ _ e_4) cs_X3_31 rfl (by decide) rfl (Nat.le_of_ble_eq_true rfl) dX3_append_46 rfl ?_
  refine ww_aload_n hx hb dX3_append_49 rfl 0 rfl ?_
  refine ww_get (C := RX3) (T := TX3) (N := 9) hx hb hown hts hK inA3 2 rfl rfl 4 (by decide) kw_9 rfl rfl dX3_append_50 ?_
  refine ww_aload_n hx hb dX3_append_53 rfl 0 rfl ?_
  refine ww_get (C := RX3) (T := TX3) (N := 9) hx hb hown hts hK inA3 2 rfl rfl 5 (by decide) kw_0 rfl rfl dX3_append_54 ?_
  refine ww_iload hx hb dX3_append_57 5 rfl ?_
  obtain ⟨σ_5, e_5, h⟩ := lt_e h
  refine ww_callN (ws1 := WC q cA σ_5) (st1 := []) hx hb hml hown hts hK hN hA (hDD _) (Nat.zero_le _) (Nat.zero_le _) [.ref (q 9), .int (σ_4 2 5), .int (x5)] [] (m_put (by decide) _ _ _ _ e_5) cs_X3_31 rfl (by decide) rfl (Nat.le_of_ble_eq_true rfl) dX3_append_59 rfl ?_
  refine ww_aload_n hx hb dX3_append_62 rfl 0 rfl ?_
  refine ww_dup hx hb dX3_append_63 rfl ?_
  refine ww_get (C := RX3) (T := TX3) (N := 9) hx hb hown hts hK inA3 2 rfl rfl 5 (by decide) kw_0 rfl rfl dX3_append_64 ?_
  refine ww_iconst (v := 1) hx hb dX3_append_67 (by decide) ?_
  refine ww_iadd hx hb dX3_append_68 ?_
  obtain ⟨σ_6, e_6, h⟩ := lt_e h
  refine ww_put (C := RX3) (T := TX3) (N := 9) (ty := .int) (ws1 := WC q cA (σ_6)) hx hb hown hts hK inA3 tyX3 tyX3_ok nmX3 (hDD _) 2 rfl rfl 5 (by decide) kw_0 rfl rfl rfl rfl rfl (Nat.le_of_ble_eq_true rfl) dX3_append_69 (e_6 ▸ rfl) ?_
  refine ww_aload_n hx hb dX3_append_72 rfl 0 rfl ?_
  refine ww_get (C := RX3) (T := TX3) (N := 9) hx hb hown hts hK inA3 2 rfl rfl 5 (by decide) kw_0 rfl rfl dX3_append_73 ?_
  refine ww_iconst (v := 1) hx hb dX3_append_76 (by decide) ?_
  refine ww_isub hx hb dX3_append_77 ?_
  obtain ⟨rfl, rfl⟩ := os2 h
  exact ww_iret hx hb hr hlk rfl dX3_append_78
set_option maxHeartbeats 4000000 in
set_option maxRecDepth 100000 in
theorem m_X4_isIn (σ : SS) (x0 x1 : Int32) : Ct l yX4_isIn cX4_isIn 2 (some .boolean) 0 0 D vwCl [(cA, .int)] (WC q cA σ) (WC q cA σ) [.int (x0), .int (x1)] (some (.int (X4_isIn x0 x1))) := by
  refine ct_of (by decide +kernel) (Nat.le_of_ble_eq_true rfl) ?_
  intro p e s m args below meth c hx hb hr hlk hml hown hts hK hD hN hA
  have hown : s.vm.findClass RX4 = some m.cls := hown
  have hDD : ∀ τ : SS, va_D (va_A (WC q cA σ) s.heap.size) (WC q cA τ) := fun τ => hD.adr rfl
  obtain ⟨r, h⟩ : ∃ r, X4_isIn x0 x1 = r := ⟨_, rfl⟩
  rw [h]
  unfold X4_isIn at h
  refine ww_sub (lv1 := [(0, .int (x0)), (1, .int (x1))]) [0, 1] rfl ?_
  refine ww_iload_n hx hb dX4_isIn_0 rfl 0 rfl ?_
  refine ww_iload_n hx hb dX4_isIn_1 rfl 1 rfl ?_
  refine ww_ishr hx hb dX4_isIn_2 ?_
  refine ww_iconst (v := 1) hx hb dX4_isIn_3 (by decide) ?_
  refine ww_iand hx hb dX4_isIn_4 ?_
  refine ww_eq0 (tgt := 12) hx hb dX4_isIn_5 (by decide) (fun c_1 => ?_) (fun c_1 => ?_)
  · replace h := it_p c_1 h
    refine ww_iconst (v := 0) hx hb dX4_isIn_12 (by decide) ?_
    obtain rfl := h
    exact ww_zret hx hb hr hlk (by decide) rfl dX4_isIn_13
  · replace h := it_n c_1 h
    refine ww_iconst (v := 1) hx hb dX4_isIn_8 (by decide) ?_
    refine ww_goto (tgt := 13) hx hb dX4_isIn_9 (by decide) ?_
    obtain rfl := h
    exact ww_zret hx hb hr hlk (by decide) rfl dX4_isIn_13
set_option maxHeartbeats 4000000 in
set_option maxRecDepth 100000 in
theorem m_X4_with (σ : SS) (x0 x1 x2 : Int32) : Ct l yX4_with cX4_with 3 (some .int) 0 0 D vwCl [(cA, .int)] (WC q cA σ) (WC q cA σ) [.int (x0), .int (x1), .int (x2)] (some (.int (X4_with x0 x1 x2))) := by
  refine ct_of (by decide +kernel) (Nat.le_of_ble_eq_true rfl) ?_
  intro p e s m args below meth c hx hb hr hlk hml hown hts hK hD hN hA
  have hown : s.vm.findClass RX4 = some m.cls := hown
  have hDD : ∀ τ : SS, va_D (va_A (WC q cA σ) s.heap.size) (WC q cA τ) := fun τ => hD.adr rfl
  obtain ⟨r, h⟩ : ∃ r, X4_with x0 x1 x2 = r := ⟨_, rfl⟩
  rw [h]
  unfold X4_with at h
  refine ww_sub (lv1 := [(0, .int (x0)), (1, .int (x1)), (2, .int (x2))]) [0, 1, 2] rfl ?_
  refine ww_iload_n hx hb dX4_with_0 rfl 2 rfl ?_
  refine ww_eq0 (tgt := 12) hx hb dX4_with_1 (by decide) (fun c_1 => ?_) (fun c_1 => ?_)
  · replace h := it_p c_1 h
    refine ww_iload_n hx hb dX4_with_12 rfl 0 rfl ?_
    refine ww_iconst (v := 1) hx hb dX4_with_13 (by decide) ?_
    refine ww_iload_n hx hb dX4_with_14 rfl 1 rfl ?_
    refine ww_ishl hx hb dX4_with_15 ?_
    refine ww_iconst (v := -1) hx hb dX4_with_16 (by decide) ?_
    refine ww_ixor hx hb dX4_with_17 ?_
    refine ww_iand hx hb dX4_with_18 ?_
    obtain rfl := h
    exact ww_iret hx hb hr hlk rfl dX4_with_19
  · replace h := it_n c_1 h
    refine ww_iload_n hx hb dX4_with_4 rfl 0 rfl ?_
    refine ww_iconst (v := 1) hx hb dX4_with_5 (by decide) ?_
    refine ww_iload_n hx hb dX4_with_6 rfl 1 rfl ?_
    refine ww_ishl hx hb dX4_with_7 ?_
    refine ww_ior hx hb dX4_with_8 ?_
    refine ww_goto (tgt := 19) hx hb dX4_with_9 (by decide) ?_
    obtain rfl := h
    exact ww_iret hx hb hr hlk rfl dX4_with_19
set_option maxHeartbeats 4000000 in
set_option maxRecDepth 100000 in
theorem m_X4_hold (σ : SS) (x1 : Int32) (r : Int32) (σ1 : SS) (h : X4_hold σ x1 = some (r, σ1)) : Ct l yX4_hold cX4_hold 3 (some .boolean) 0 0 D vwCl [(cA, .int)] (WC q cA σ) (WC q cA σ1) [.ref (q 0), .int (x1)] (some (.int r)) := by
  refine ct_of (by decide +kernel) (Nat.le_of_ble_eq_true rfl) ?_
  intro p e s m args below meth c hx hb hr hlk hml hown hts hK hD hN hA
  have hown : s.vm.findClass RX4 = some m.cls := hown
  have hDD : ∀ τ : SS, va_D (va_A (WC q cA σ) s.heap.size) (WC q cA τ) := fun τ => hD.adr rfl
  unfold X4_hold at h
  refine ww_sub (lv1 := [(0, .ref (q 0)), (1, .int (x1))]) [0, 1] rfl ?_
  refine ww_aload_n hx hb dX4_hold_0 rfl 0 rfl ?_
  refine ww_get (C := RX4) (T := TX4) (N := 7) hx hb hown hts hK inA4 0 rfl rfl 6 (by decide) kw_46 rfl rfl dX4_hold_1 ?_
  refine ww_istore_n (i := 2) (lv1 := [(0, .ref (q 0)), (1, .int (x1)), (2, .int (σ 0 6))]) hx hb dX4_hold_4 rfl (by decide) [1, 2, 0] rfl ?_
  refine ww_aload_n hx hb dX4_hold_5 rfl 0 rfl ?_
  refine ww_iload_n hx hb dX4_hold_6 rfl 1 rfl ?_
  obtain ⟨g_1, h⟩ := og h
  obtain ⟨σ_2, e_2, h⟩ := lt_e h
  refine ww_put (C := RX4) (T := TX4) (N := 7) (ty := .boolean) (ws1 := WC q cA (σ_2)) hx hb hown hts hK inA4 tyX4 tyX4_ok nmX4 (hDD _) 0 rfl rfl 6 (by decide) kw_46 rfl rfl rfl (isZ_narrow g_1) (isZ_fits g_1) (Nat.le_of_ble_eq_true rfl) dX4_hold_7 (e_2 ▸ rfl) ?_
  refine ww_iload_n hx hb dX4_hold_10 rfl 2 rfl ?_
  obtain ⟨g_3, h⟩ := og h
  obtain ⟨rfl, rfl⟩ := os2 h
  exact ww_zret hx hb hr hlk g_3 rfl dX4_hold_11
set_option maxHeartbeats 4000000 in
set_option maxRecDepth 100000 in
theorem m_X2_dayOf (σ : SS) (x0 : Int32) : Ct l yX2_dayOf cX2_dayOf 1 (some .int) 0 0 D vwCl [(cA, .int)] (WC q cA σ) (WC q cA σ) [.int (x0)] (some (.int (X2_dayOf x0))) := by
  refine ct_of (by decide +kernel) (Nat.le_of_ble_eq_true rfl) ?_
  intro p e s m args below meth c hx hb hr hlk hml hown hts hK hD hN hA
  have hown : s.vm.findClass RX2 = some m.cls := hown
  have hDD : ∀ τ : SS, va_D (va_A (WC q cA σ) s.heap.size) (WC q cA τ) := fun τ => hD.adr rfl
  obtain ⟨r, h⟩ : ∃ r, X2_dayOf x0 = r := ⟨_, rfl⟩
  rw [h]
  unfold X2_dayOf at h
  refine ww_sub (lv1 := [(0, .int (x0))]) [0] rfl ?_
  refine ww_iload_n hx hb dX2_dayOf_0 rfl 0 rfl ?_
  refine ww_bipush (v := 24) hx hb dX2_dayOf_1 (by decide) ?_
  refine ww_idiv hx hb dX2_dayOf_3 (by decide) ?_
  obtain rfl := h
  exact ww_iret hx hb hr hlk rfl dX2_dayOf_4
set_option maxHeartbeats 4000000 in
set_option maxRecDepth 100000 in
theorem m_X2_daysUpTo (σ : SS) (x1 : Int32) : Ct l yX2_daysUpTo cX2_daysUpTo 2 (some .int) 1 40 D vwCl [(cA, .int)] (WC q cA σ) (WC q cA σ) [.ref (q 1), .int (x1)] (some (.int (X2_daysUpTo σ x1))) := by
  refine ct_of (by decide +kernel) (Nat.le_of_ble_eq_true rfl) ?_
  intro p e s m args below meth c hx hb hr hlk hml hown hts hK hD hN hA
  have hown : s.vm.findClass RX2 = some m.cls := hown
  have hDD : ∀ τ : SS, va_D (va_A (WC q cA σ) s.heap.size) (WC q cA τ) := fun τ => hD.adr rfl
  obtain ⟨r, h⟩ : ∃ r, X2_daysUpTo σ x1 = r := ⟨_, rfl⟩
  rw [h]
  unfold X2_daysUpTo at h
  refine ww_sub (lv1 := [(0, .ref (q 1)), (1, .int (x1))]) [0, 1] rfl ?_
  refine ww_iload_n hx hb dX2_daysUpTo_0 rfl 1 rfl ?_
  refine ww_ne0 (tgt := 8) hx hb dX2_daysUpTo_1 (by decide) (fun c_1 => ?_) (fun c_1 => ?_)
  · replace h := it_n c_1 h
    refine ww_aload_n hx hb dX2_daysUpTo_8 rfl 0 rfl ?_
    refine ww_get (C := RX2) (T := TX2) (N := 8) hx hb hown hts hK inA2 1 rfl rfl 2 (by decide) kw_47 rfl rfl dX2_daysUpTo_9 ?_
    refine ww_aload_n hx hb dX2_daysUpTo_12 rfl 0 rfl ?_
    refine ww_get (C := RX2) (T := TX2) (N := 8) hx hb hown hts hK inA2 1 rfl rfl 1 (by decide) kw_48 rfl rfl dX2_daysUpTo_13 ?_
    refine ww_iload_n hx hb dX2_daysUpTo_16 rfl 1 rfl ?_
    refine ww_iconst (v := 1) hx hb dX2_daysUpTo_17 (by decide) ?_
    refine ww_isub hx hb dX2_daysUpTo_18 ?_
    refine ww_callN (ws1 := WC q cA σ) (st1 := [.int (fat σ 10 8 (x1 - (1 : Int32))), .ref (q 11)]) hx hb hml hown hts hK hN hA (hDD _) (Nat.zero_le _) (Nat.zero_le _) [.ref (q 10), .int (x1 - (1 : Int32))] [.ref (q 11)] (m_at (by decide) σ (x1 - (1 : Int32))) cs_X2_54 rfl (by decide) rfl (Nat.le_of_ble_eq_true rfl) dX2_daysUpTo_19 rfl ?_
    refine ww_callN (ws1 := WC q cA σ) (st1 := [.int (fat σ 11 8 (fat σ 10 8 (x1 - (1 : Int32))))]) hx hb hml hown hts hK hN hA (hDD _) (Nat.zero_le _) (Nat.zero_le _) [.ref (q 11), .int (fat σ 10 8 (x1 - (1 : Int32)))] [] (m_at (by decide) σ (fat σ 10 8 (x1 - (1 : Int32)))) cs_X2_54 rfl (by decide) rfl (Nat.le_of_ble_eq_true rfl) dX2_daysUpTo_22 rfl ?_
    refine ww_callS (ws1 := WC q cA σ) (st1 := [.int (X2_dayOf (fat σ 11 8 (fat σ 10 8 (x1 - (1 : Int32)))))]) hx hb hml hown hts hK hN hA (hDD _) (Nat.zero_le _) (Nat.zero_le _) [.int (fat σ 11 8 (fat σ 10 8 (x1 - (1 : Int32))))] [] (m_X2_dayOf σ (fat σ 11 8 (fat σ 10 8 (x1 - (1 : Int32))))) cs_X2_58 rfl (by decide) rfl (Nat.le_of_ble_eq_true rfl) dX2_daysUpTo_25 rfl ?_
    refine ww_aload_n hx hb dX2_daysUpTo_28 rfl 0 rfl ?_
    refine ww_get (C := RX2) (T := TX2) (N := 8) hx hb hown hts hK inA2 1 rfl rfl 6 (by decide) kw_54 rfl rfl dX2_daysUpTo_29 ?_
    refine ww_isub hx hb dX2_daysUpTo_32 ?_
    refine ww_iconst (v := 1) hx hb dX2_daysUpTo_33 (by decide) ?_
    refine ww_iadd hx hb dX2_daysUpTo_34 ?_
    obtain rfl := h
    exact ww_iret hx hb hr hlk rfl dX2_daysUpTo_35
  · replace h := it_p c_1 h
    refine ww_iconst (v := 0) hx hb dX2_daysUpTo_4 (by decide) ?_
    refine ww_goto (tgt := 35) hx hb dX2_daysUpTo_5 (by decide) ?_
    obtain rfl := h
    exact ww_iret hx hb hr hlk rfl dX2_daysUpTo_35
set_option maxHeartbeats 4000000 in
set_option maxRecDepth 100000 in
theorem m_X2_keepIfBetter (σ : SS) (x1 : Int32) (σ1 : SS) (h : X2_keepIfBetter σ x1 = some σ1) : Ct l yX2_keepIfBetter cX2_keepIfBetter 3 none 2 80 D vwCl [(cA, .int)] (WC q cA σ) (WC q cA σ1) [.ref (q 1), .int (x1)] none := by
  refine ct_of (by decide +kernel) (Nat.le_of_ble_eq_true rfl) ?_
  intro p e s m args below meth c hx hb hr hlk hml hown hts hK hD hN hA
  have hown : s.vm.findClass RX2 = some m.cls := hown
  have hDD : ∀ τ : SS, va_D (va_A (WC q cA σ) s.heap.size) (WC q cA τ) := fun τ => hD.adr rfl
  unfold X2_keepIfBetter at h
  have lp24 : ∀ (n : Nat) (τ : SS) (x2 : Int32), X2_keepIfBetter_l24 n τ x2 = some σ1 → WW p l e (rmc 2 80 0 0) s m args below meth c D vwCl (va_A (WC q cA σ) s.heap.size) 3 0 0 (MQ below (qcW D vwCl (WC q cA σ) (WC q cA σ1) none s.heap.size) args s 0 0 (va_A (WC q cA σ) s.heap.size)) (WC q cA τ) 24 [(0, .ref (q 1)), (2, .int (x2))] [] := by
    intro n
    induction n with
    | zero => intro τ x2 h; rw [X2_keepIfBetter_l24] at h; cases h
    | succ n ih =>
      intro τ x2 h
      rw [X2_keepIfBetter_l24] at h
      refine ww_iload_n hx hb dX2_keepIfBetter_24 rfl 1 rfl ?_
      refine ww_bipush (v := 8) hx hb dX2_keepIfBetter_25 (by decide) ?_
      refine ww_ge2 (tgt := 68) hx hb dX2_keepIfBetter_27 (by decide) (fun c_3 => ?_) (fun c_3 => ?_)
      · replace h := it_p c_3 h
        obtain rfl := os1 h
        exact ww_vret hx hb hr hlk dX2_keepIfBetter_68
      · replace h := it_n c_3 h
        refine ww_aload_n hx hb dX2_keepIfBetter_30 rfl 0 rfl ?_
        refine ww_get (C := RX2) (T := TX2) (N := 8) hx hb hown hts hK inA2 1 rfl rfl 3 (by decide) kw_60 rfl rfl dX2_keepIfBetter_31 ?_
        refine ww_iload_n hx hb dX2_keepIfBetter_34 rfl 1 rfl ?_
        refine ww_aload_n hx hb dX2_keepIfBetter_35 rfl 0 rfl ?_
        refine ww_get (C := RX2) (T := TX2) (N := 8) hx hb hown hts hK inA2 1 rfl rfl 1 (by decide) kw_48 rfl rfl dX2_keepIfBetter_36 ?_
        refine ww_iload_n hx hb dX2_keepIfBetter_39 rfl 1 rfl ?_
        refine ww_callN (ws1 := WC q cA τ) (st1 := [.int (fat τ 10 8 x2), .int (x2), .ref (q 12)]) hx hb hml hown hts hK hN hA (hDD _) (Nat.zero_le _) (Nat.zero_le _) [.ref (q 10), .int (x2)] [.int (x2), .ref (q 12)] (m_at (by decide) τ x2) cs_X2_54 rfl (by decide) rfl (Nat.le_of_ble_eq_true rfl) dX2_keepIfBetter_40 rfl ?_
        obtain ⟨σ_4, e_4, h⟩ := lt_e h
        refine ww_callN (ws1 := WC q cA σ_4) (st1 := []) hx hb hml hown hts hK hN hA (hDD _) (Nat.zero_le _) (Nat.zero_le _) [.ref (q 12), .int (x2), .int (fat τ 10 8 x2)] [] (m_put (by decide) _ _ _ _ e_4) cs_X2_83 rfl (by decide) rfl (Nat.le_of_ble_eq_true rfl) dX2_keepIfBetter_43 rfl ?_
        refine ww_aload_n hx hb dX2_keepIfBetter_46 rfl 0 rfl ?_
        refine ww_get (C := RX2) (T := TX2) (N := 8) hx hb hown hts hK inA2 1 rfl rfl 4 (by decide) kw_61 rfl rfl dX2_keepIfBetter_47 ?_
        refine ww_iload_n hx hb dX2_keepIfBetter_50 rfl 1 rfl ?_
        refine ww_aload_n hx hb dX2_keepIfBetter_51 rfl 0 rfl ?_
        refine ww_get (C := RX2) (T := TX2) (N := 8) hx hb hown hts hK inA2 1 rfl rfl 2 (by decide) kw_47 rfl rfl dX2_keepIfBetter_52 ?_
        refine ww_iload_n hx hb dX2_keepIfBetter_55 rfl 1 rfl ?_
        refine ww_callN (ws1 := WC q cA σ_4) (st1 := [.int (fat σ_4 11 8 x2), .int (x2), .ref (q 13)]) hx hb hml hown hts hK hN hA (hDD _) (Nat.zero_le _) (Nat.zero_le _) [.ref (q 11), .int (x2)] [.int (x2), .ref (q 13)] (m_at (by decide) σ_4 x2) cs_X2_54 rfl (by decide) rfl (Nat.le_of_ble_eq_true rfl) dX2_keepIfBetter_56 rfl ?_
        obtain ⟨σ_5, e_5, h⟩ := lt_e h
        refine ww_callN (ws1 := WC q cA σ_5) (st1 := []) hx hb hml hown hts hK hN hA (hDD _) (Nat.zero_le _) (Nat.zero_le _) [.ref (q 13), .int (x2), .int (fat σ_4 11 8 x2)] [] (m_put (by decide) _ _ _ _ e_5) cs_X2_83 rfl (by decide) rfl (Nat.le_of_ble_eq_true rfl) dX2_keepIfBetter_59 rfl ?_
        refine ww_iinc (i := 2) (k := 1) (v := 1) (lv1 := [(0, .ref (q 1)), (2, .int (x2 + 1))]) hx hb dX2_keepIfBetter_62 rfl (by decide) (by decide) [1, 0] rfl ?_
        refine ww_goto (tgt := 24) hx hb dX2_keepIfBetter_65 (by decide) ?_
        exact ww_sub (lv1 := [(0, .ref (q 1)), (2, .int (x2 + 1))]) [0, 1] rfl (ih _ _ h)
  refine ww_sub (lv1 := [(0, .ref (q 1)), (1, .int (x1))]) [0, 1] rfl ?_
  refine ww_aload_n hx hb dX2_keepIfBetter_0 rfl 0 rfl ?_
  refine ww_iload_n hx hb dX2_keepIfBetter_1 rfl 1 rfl ?_
  refine ww_callV (ws1 := WC q cA σ) (st1 := [.int (X2_daysUpTo σ x1)]) hx hb hml hown hts hK hN hA (hDD _) (Nat.zero_le _) (Nat.zero_le _) [.int (x1)] [] (m_X2_daysUpTo σ x1) cs_X2_107 rfl (by decide) 1 rfl rfl rfl (Nat.le_of_ble_eq_true rfl) dX2_keepIfBetter_2 rfl ?_
  refine ww_aload_n hx hb dX2_keepIfBetter_5 rfl 0 rfl ?_
  refine ww_get (C := RX2) (T := TX2) (N := 8) hx hb hown hts hK inA2 1 rfl rfl 5 (by decide) kw_59 rfl rfl dX2_keepIfBetter_6 ?_
  refine ww_lt2 (tgt := 13) hx hb dX2_keepIfBetter_9 (by decide) (fun c_1 => ?_) (fun c_1 => ?_)
  · replace h := it_p c_1 h
    refine ww_aload_n hx hb dX2_keepIfBetter_13 rfl 0 rfl ?_
    refine ww_aload_n hx hb dX2_keepIfBetter_14 rfl 0 rfl ?_
    refine ww_iload_n hx hb dX2_keepIfBetter_15 rfl 1 rfl ?_
    refine ww_callV (ws1 := WC q cA σ) (st1 := [.int (X2_daysUpTo σ x1), .ref (q 1)]) hx hb hml hown hts hK hN hA (hDD _) (Nat.zero_le _) (Nat.zero_le _) [.int (x1)] [.ref (q 1)] (m_X2_daysUpTo σ x1) cs_X2_107 rfl (by decide) 1 rfl rfl rfl (Nat.le_of_ble_eq_true rfl) dX2_keepIfBetter_16 rfl ?_
    obtain ⟨σ_2, e_2, h⟩ := lt_e h
    refine ww_put (C := RX2) (T := TX2) (N := 8) (ty := .int) (ws1 := WC q cA (σ_2)) hx hb hown hts hK inA2 tyX2 tyX2_ok nmX2 (hDD _) 1 rfl rfl 5 (by decide) kw_59 rfl rfl rfl rfl rfl (Nat.le_of_ble_eq_true rfl) dX2_keepIfBetter_19 (e_2 ▸ rfl) ?_
    refine ww_iconst (v := 0) hx hb dX2_keepIfBetter_22 (by decide) ?_
    refine ww_istore_n (i := 2) (lv1 := [(0, .ref (q 1)), (2, .int ((0 : Int32)))]) hx hb dX2_keepIfBetter_23 rfl (by decide) [1, 0] rfl ?_
    exact ww_sub (lv1 := [(0, .ref (q 1)), (2, .int ((0 : Int32)))]) [0, 1] rfl (lp24 _ _ _ h)
  · replace h := it_n c_1 h
    obtain rfl := os1 h
    exact ww_vret hx hb hr hlk dX2_keepIfBetter_12
set_option maxHeartbeats 4000000 in
set_option maxRecDepth 100000 in
theorem m_X3_isFree (σ : SS) (x1 x2 : Int32) : Ct l yX3_isFree cX3_isFree 3 (some .boolean) 1 40 D vwCl [(cA, .int)] (WC q cA σ) (WC q cA σ) [.ref (q 2), .int (x1), .int (x2)] (some (.int (X3_isFree σ x1 x2))) := by
  refine ct_of (by decide +kernel) (Nat.le_of_ble_eq_true rfl) ?_
  intro p e s m args below meth c hx hb hr hlk hml hown hts hK hD hN hA
  have hown : s.vm.findClass RX3 = some m.cls := hown
  have hDD : ∀ τ : SS, va_D (va_A (WC q cA σ) s.heap.size) (WC q cA τ) := fun τ => hD.adr rfl
  obtain ⟨r, h⟩ : ∃ r, X3_isFree σ x1 x2 = r := ⟨_, rfl⟩
  rw [h]
  unfold X3_isFree at h
  refine ww_sub (lv1 := [(0, .ref (q 2)), (1, .int (x1)), (2, .int (x2))]) [0, 1, 2] rfl ?_
  refine ww_aload_n hx hb dX3_isFree_0 rfl 0 rfl ?_
  refine ww_get (C := RX3) (T := TX3) (N := 9) hx hb hown hts hK inA3 2 rfl rfl 4 (by decide) kw_9 rfl rfl dX3_isFree_1 ?_
  refine ww_iload_n hx hb dX3_isFree_4 rfl 1 rfl ?_
  refine ww_callN (ws1 := WC q cA σ) (st1 := [.int (fat σ 9 8 x1)]) hx hb hml hown hts hK hN hA (hDD _) (Nat.zero_le _) (Nat.zero_le _) [.ref (q 9), .int (x1)] [] (m_at (by decide) σ x1) cs_X3_48 rfl (by decide) rfl (Nat.le_of_ble_eq_true rfl) dX3_isFree_5 rfl ?_
  refine ww_iload_n hx hb dX3_isFree_8 rfl 2 rfl ?_
  refine ww_iconst (v := -1) hx hb dX3_isFree_9 (by decide) ?_
  refine ww_ixor hx hb dX3_isFree_10 ?_
  refine ww_iand hx hb dX3_isFree_11 ?_
  refine ww_ne0 (tgt := 19) hx hb dX3_isFree_12 (by decide) (fun c_1 => ?_) (fun c_1 => ?_)
  · replace h := it_n c_1 h
    refine ww_iconst (v := 0) hx hb dX3_isFree_19 (by decide) ?_
    obtain rfl := h
    exact ww_zret hx hb hr hlk (by decide) rfl dX3_isFree_20
  · replace h := it_p c_1 h
    refine ww_iconst (v := 1) hx hb dX3_isFree_15 (by decide) ?_
    refine ww_goto (tgt := 20) hx hb dX3_isFree_16 (by decide) ?_
    obtain rfl := h
    exact ww_zret hx hb hr hlk (by decide) rfl dX3_isFree_20
set_option maxHeartbeats 4000000 in
set_option maxRecDepth 100000 in
theorem m_X3_canFollow (σ : SS) (x1 x2 : Int32) : Ct l yX3_canFollow cX3_canFollow 3 (some .boolean) 2 80 D vwCl [(cA, .int)] (WC q cA σ) (WC q cA σ) [.ref (q 2), .int (x1), .int (x2)] (some (.int (X3_canFollow σ x1 x2))) := by
  refine ct_of (by decide +kernel) (Nat.le_of_ble_eq_true rfl) ?_
  intro p e s m args below meth c hx hb hr hlk hml hown hts hK hD hN hA
  have hown : s.vm.findClass RX3 = some m.cls := hown
  have hDD : ∀ τ : SS, va_D (va_A (WC q cA σ) s.heap.size) (WC q cA τ) := fun τ => hD.adr rfl
  obtain ⟨r, h⟩ : ∃ r, X3_canFollow σ x1 x2 = r := ⟨_, rfl⟩
  rw [h]
  unfold X3_canFollow at h
  refine ww_sub (lv1 := [(0, .ref (q 2)), (1, .int (x1)), (2, .int (x2))]) [0, 1, 2] rfl ?_
  refine ww_iload_n hx hb dX3_canFollow_0 rfl 2 rfl ?_
  refine ww_iload_n hx hb dX3_canFollow_1 rfl 1 rfl ?_
  refine ww_callN (ws1 := WC q cA σ) (st1 := [.int (X4_isIn x2 x1)]) hx hb hml hown hts hK hN hA (hDD _) (Nat.zero_le _) (Nat.zero_le _) [.int (x2), .int (x1)] [] (m_X4_isIn σ x2 x1) cs_X3_44 rfl (by decide) rfl (Nat.le_of_ble_eq_true rfl) dX3_canFollow_2 rfl ?_
  refine ww_ne0 (tgt := 21) hx hb dX3_canFollow_5 (by decide) (fun c_1 => ?_) (fun c_1 => ?_)
  · replace h := it_n c_1 h
    refine ww_iconst (v := 0) hx hb dX3_canFollow_21 (by decide) ?_
    obtain rfl := h
    exact ww_zret hx hb hr hlk (by decide) rfl dX3_canFollow_22
  · replace h := it_p c_1 h
    refine ww_aload_n hx hb dX3_canFollow_8 rfl 0 rfl ?_
    refine ww_iload_n hx hb dX3_canFollow_9 rfl 1 rfl ?_
    refine ww_iload_n hx hb dX3_canFollow_10 rfl 2 rfl ?_
    refine ww_callV (ws1 := WC q cA σ) (st1 := [.int (X3_isFree σ x1 x2)]) hx hb hml hown hts hK hN hA (hDD _) (Nat.zero_le _) (Nat.zero_le _) [.int (x1), .int (x2)] [] (m_X3_isFree σ x1 x2) cs_X3_52 rfl (by decide) 2 rfl rfl rfl (Nat.le_of_ble_eq_true rfl) dX3_canFollow_11 rfl ?_
    refine ww_eq0 (tgt := 21) hx hb dX3_canFollow_14 (by decide) (fun c_2 => ?_) (fun c_2 => ?_)
    · replace h := it_p c_2 h
      refine ww_iconst (v := 0) hx hb dX3_canFollow_21 (by decide) ?_
      obtain rfl := h
      exact ww_zret hx hb hr hlk (by decide) rfl dX3_canFollow_22
    · replace h := it_n c_2 h
      refine ww_iconst (v := 1) hx hb dX3_canFollow_17 (by decide) ?_
      refine ww_goto (tgt := 22) hx hb dX3_canFollow_18 (by decide) ?_
      obtain rfl := h
      exact ww_zret hx hb hr hlk (by decide) rfl dX3_canFollow_22
set_option maxHeartbeats 4000000 in
set_option maxRecDepth 100000 in
theorem m_X2_startOf (σ : SS) (x0 : Int32) : Ct l yX2_startOf cX2_startOf 1 (some .int) 0 0 D vwCl [(cA, .int)] (WC q cA σ) (WC q cA σ) [.int (x0)] (some (.int (X2_startOf x0))) := by
  refine ct_of (by decide +kernel) (Nat.le_of_ble_eq_true rfl) ?_
  intro p e s m args below meth c hx hb hr hlk hml hown hts hK hD hN hA
  have hown : s.vm.findClass RX2 = some m.cls := hown
  have hDD : ∀ τ : SS, va_D (va_A (WC q cA σ) s.heap.size) (WC q cA τ) := fun τ => hD.adr rfl
  obtain ⟨r, h⟩ : ∃ r, X2_startOf x0 = r := ⟨_, rfl⟩
  rw [h]
  unfold X2_startOf at h
  refine ww_sub (lv1 := [(0, .int (x0))]) [0] rfl ?_
  refine ww_bipush (v := 24) hx hb dX2_startOf_0 (by decide) ?_
  refine ww_iload_n hx hb dX2_startOf_2 rfl 0 rfl ?_
  refine ww_imul hx hb dX2_startOf_3 ?_
  refine ww_bipush (v := 8) hx hb dX2_startOf_4 (by decide) ?_
  refine ww_iadd hx hb dX2_startOf_6 ?_
  obtain rfl := h
  exact ww_iret hx hb hr hlk rfl dX2_startOf_7
set_option maxHeartbeats 4000000 in
set_option maxRecDepth 100000 in
theorem m_X2_endOf (σ : SS) (x1 : Int32) : Ct l yX2_endOf cX2_endOf 2 (some .int) 1 40 D vwCl [(cA, .int)] (WC q cA σ) (WC q cA σ) [.ref (q 1), .int (x1)] (some (.int (X2_endOf σ x1))) := by
  refine ct_of (by decide +kernel) (Nat.le_of_ble_eq_true rfl) ?_
  intro p e s m args below meth c hx hb hr hlk hml hown hts hK hD hN hA
  have hown : s.vm.findClass RX2 = some m.cls := hown
  have hDD : ∀ τ : SS, va_D (va_A (WC q cA σ) s.heap.size) (WC q cA τ) := fun τ => hD.adr rfl
  obtain ⟨r, h⟩ : ∃ r, X2_endOf σ x1 = r := ⟨_, rfl⟩
  rw [h]
  unfold X2_endOf at h
  refine ww_sub (lv1 := [(0, .ref (q 1)), (1, .int (x1))]) [0, 1] rfl ?_
  refine ww_aload_n hx hb dX2_endOf_0 rfl 0 rfl ?_
  refine ww_get (C := RX2) (T := TX2) (N := 8) hx hb hown hts hK inA2 1 rfl rfl 2 (by decide) kw_47 rfl rfl dX2_endOf_1 ?_
  refine ww_iload_n hx hb dX2_endOf_4 rfl 1 rfl ?_
  refine ww_callN (ws1 := WC q cA σ) (st1 := [.int (fat σ 11 8 x1)]) hx hb hml hown hts hK hN hA (hDD _) (Nat.zero_le _) (Nat.zero_le _) [.ref (q 11), .int (x1)] [] (m_at (by decide) σ x1) cs_X2_54 rfl (by decide) rfl (Nat.le_of_ble_eq_true rfl) dX2_endOf_5 rfl ?_
  refine ww_aload_n hx hb dX2_endOf_8 rfl 0 rfl ?_
  refine ww_get (C := RX2) (T := TX2) (N := 8) hx hb hown hts hK inA2 1 rfl rfl 0 (by decide) kw_66 rfl rfl dX2_endOf_9 ?_
  refine ww_get (C := RX3) (T := TX3) (N := 9) hx hb hown hts hK inA3 2 rfl rfl 0 (by decide) kw_67 rfl rfl dX2_endOf_12 ?_
  refine ww_iload_n hx hb dX2_endOf_15 rfl 1 rfl ?_
  refine ww_callN (ws1 := WC q cA σ) (st1 := [.int (fat σ 5 8 x1), .int (fat σ 11 8 x1)]) hx hb hml hown hts hK hN hA (hDD _) (Nat.zero_le _) (Nat.zero_le _) [.ref (q 5), .int (x1)] [.int (fat σ 11 8 x1)] (m_at (by decide) σ x1) cs_X2_54 rfl (by decide) rfl (Nat.le_of_ble_eq_true rfl) dX2_endOf_16 rfl ?_
  refine ww_iadd hx hb dX2_endOf_19 ?_
  obtain rfl := h
  exact ww_iret hx hb hr hlk rfl dX2_endOf_20
set_option maxHeartbeats 4000000 in
set_option maxRecDepth 100000 in
theorem m_X2_beginFrom (σ : SS) (x1 x2 x3 x4 : Int32) (r : Int32) (h : X2_beginFrom σ x1 x2 x3 x4 = some r) : Ct l yX2_beginFrom cX2_beginFrom 8 (some .int) 2 80 D vwCl [(cA, .int)] (WC q cA σ) (WC q cA σ) [.ref (q 1), .int (x1), .int (x2), .int (x3), .int (x4)] (some (.int r)) := by
  refine ct_of (by decide +kernel) (Nat.le_of_ble_eq_true rfl) ?_
  intro p e s m args below meth c hx hb hr hlk hml hown hts hK hD hN hA
  have hown : s.vm.findClass RX2 = some m.cls := hown
  have hDD : ∀ τ : SS, va_D (va_A (WC q cA σ) s.heap.size) (WC q cA τ) := fun τ => hD.adr rfl
  unfold X2_beginFrom at h
  have lp40 : ∀ (n : Nat) (x2 : Int32) (x3 : Int32) (x4 : Int32) (x6 : Int32) (x7 : Int32), X2_beginFrom_l40 n σ x2 x3 x4 x6 x7 = some r → WW p l e (rmc 2 80 0 0) s m args below meth c D vwCl (va_A (WC q cA σ) s.heap.size) 8 0 0 (MQ below (qcW D vwCl (WC q cA σ) (WC q cA σ) (some (.int r)) s.heap.size) args s 0 0 (va_A (WC q cA σ) s.heap.size)) (WC q cA σ) 40 [(0, .ref (q 1)), (2, .int (x2)), (3, .int (x3)), (4, .int (x4)), (6, .int (x6)), (7, .int (x7))] [] := by
    intro n
    induction n with
    | zero => intro x2 x3 x4 x6 x7 h; rw [X2_beginFrom_l40] at h; cases h
    | succ n ih =>
      have bk121 : ∀ (x2 : Int32) (x3 : Int32) (x4 : Int32) (x6 : Int32) (x7 : Int32), X2_beginFrom_b121 (X2_beginFrom_l40 n) σ x2 x3 x4 x6 x7 = some r → WW p l e (rmc 2 80 0 0) s m args below meth c D vwCl (va_A (WC q cA σ) s.heap.size) 8 0 0 (MQ below (qcW D vwCl (WC q cA σ) (WC q cA σ) (some (.int r)) s.heap.size) args s 0 0 (va_A (WC q cA σ) s.heap.size)) (WC q cA σ) 121 [(0, .ref (q 1)), (2, .int (x2)), (3, .int (x3)), (4, .int (x4)), (6, .int (x6)), (7, .int (x7))] [] := by
        intro x2 x3 x4 x6 x7 h
        unfold X2_beginFrom_b121 at h
        refine ww_iinc (i := 7) (k := 5) (v := 1) (lv1 := [(0, .ref (q 1)), (2, .int (x2)), (3, .int (x3)), (4, .int (x4)), (6, .int (x6)), (7, .int (x7 + 1))]) hx hb dX2_beginFrom_121 rfl (by decide) (by decide) [1, 2, 3, 4, 5, 0] rfl ?_
        refine ww_goto (tgt := 40) hx hb dX2_beginFrom_124 (by decide) ?_
        exact ww_sub (lv1 := [(0, .ref (q 1)), (2, .int (x2)), (3, .int (x3)), (4, .int (x4)), (6, .int (x6)), (7, .int (x7 + 1))]) [0, 1, 2, 3, 4, 5] rfl (ih _ _ _ _ _ h)
      intro x2 x3 x4 x6 x7 h
      rw [X2_beginFrom_l40] at h
      refine ww_iload hx hb dX2_beginFrom_40 5 rfl ?_
      refine ww_aload_n hx hb dX2_beginFrom_42 rfl 0 rfl ?_
      refine ww_get (C := RX2) (T := TX2) (N := 8) hx hb hown hts hK inA2 1 rfl rfl 0 (by decide) kw_66 rfl rfl dX2_beginFrom_43 ?_
      refine ww_get (C := RX3) (T := TX3) (N := 9) hx hb hown hts hK inA3 2 rfl rfl 5 (by decide) kw_73 rfl rfl dX2_beginFrom_46 ?_
      refine ww_ge2 (tgt := 127) hx hb dX2_beginFrom_49 (by decide) (fun c_2 => ?_) (fun c_2 => ?_)
      · replace h := it_p c_2 h
        refine ww_iload hx hb dX2_beginFrom_127 4 rfl ?_
        obtain rfl := os1 h
        exact ww_iret hx hb hr hlk rfl dX2_beginFrom_129
      · replace h := it_n c_2 h
        refine ww_iload hx hb dX2_beginFrom_52 3 rfl ?_
        refine ww_iload hx hb dX2_beginFrom_54 5 rfl ?_
        refine ww_callN (ws1 := WC q cA σ) (st1 := [.int (X4_isIn x4 x7)]) hx hb hml hown hts hK hN hA (hDD _) (Nat.zero_le _) (Nat.zero_le _) [.int (x4), .int (x7)] [] (m_X4_isIn σ x4 x7) cs_X2_80 rfl (by decide) rfl (Nat.le_of_ble_eq_true rfl) dX2_beginFrom_56 rfl ?_
        refine ww_eq0 (tgt := 121) hx hb dX2_beginFrom_59 (by decide) (fun c_3 => ?_) (fun c_3 => ?_)
        · replace h := it_p c_3 h
          exact ww_sub (lv1 := [(0, .ref (q 1)), (2, .int (x2)), (3, .int (x3)), (4, .int (x4)), (6, .int (x6)), (7, .int (x7))]) [0, 1, 2, 3, 4, 5] rfl (bk121 _ _ _ _ _ h)
        · replace h := it_n c_3 h
          refine ww_aload_n hx hb dX2_beginFrom_62 rfl 0 rfl ?_
          refine ww_get (C := RX2) (T := TX2) (N := 8) hx hb hown hts hK inA2 1 rfl rfl 0 (by decide) kw_66 rfl rfl dX2_beginFrom_63 ?_
          refine ww_get (C := RX3) (T := TX3) (N := 9) hx hb hown hts hK inA3 2 rfl rfl 2 (by decide) kw_74 rfl rfl dX2_beginFrom_66 ?_
          refine ww_iload hx hb dX2_beginFrom_69 5 rfl ?_
          refine ww_callN (ws1 := WC q cA σ) (st1 := [.int (fat σ 7 8 x7)]) hx hb hml hown hts hK hN hA (hDD _) (Nat.zero_le _) (Nat.zero_le _) [.ref (q 7), .int (x7)] [] (m_at (by decide) σ x7) cs_X2_54 rfl (by decide) rfl (Nat.le_of_ble_eq_true rfl) dX2_beginFrom_71 rfl ?_
          refine ww_aload_n hx hb dX2_beginFrom_74 rfl 0 rfl ?_
          refine ww_get (C := RX2) (T := TX2) (N := 8) hx hb hown hts hK inA2 1 rfl rfl 0 (by decide) kw_66 rfl rfl dX2_beginFrom_75 ?_
          refine ww_get (C := RX3) (T := TX3) (N := 9) hx hb hown hts hK inA3 2 rfl rfl 2 (by decide) kw_74 rfl rfl dX2_beginFrom_78 ?_
          refine ww_iload_n hx hb dX2_beginFrom_81 rfl 1 rfl ?_
          refine ww_callN (ws1 := WC q cA σ) (st1 := [.int (fat σ 7 8 x2), .int (fat σ 7 8 x7)]) hx hb hml hown hts hK hN hA (hDD _) (Nat.zero_le _) (Nat.zero_le _) [.ref (q 7), .int (x2)] [.int (fat σ 7 8 x7)] (m_at (by decide) σ x2) cs_X2_54 rfl (by decide) rfl (Nat.le_of_ble_eq_true rfl) dX2_beginFrom_82 rfl ?_
          refine ww_iand hx hb dX2_beginFrom_85 ?_
          refine ww_eq0 (tgt := 121) hx hb dX2_beginFrom_86 (by decide) (fun c_4 => ?_) (fun c_4 => ?_)
          · replace h := it_p c_4 h
            exact ww_sub (lv1 := [(0, .ref (q 1)), (2, .int (x2)), (3, .int (x3)), (4, .int (x4)), (6, .int (x6)), (7, .int (x7))]) [0, 1, 2, 3, 4, 5] rfl (bk121 _ _ _ _ _ h)
          · replace h := it_n c_4 h
            refine ww_aload_n hx hb dX2_beginFrom_89 rfl 0 rfl ?_
            refine ww_get (C := RX2) (T := TX2) (N := 8) hx hb hown hts hK inA2 1 rfl rfl 2 (by decide) kw_47 rfl rfl dX2_beginFrom_90 ?_
            refine ww_iload hx hb dX2_beginFrom_93 5 rfl ?_
            refine ww_callN (ws1 := WC q cA σ) (st1 := [.int (fat σ 11 8 x7)]) hx hb hml hown hts hK hN hA (hDD _) (Nat.zero_le _) (Nat.zero_le _) [.ref (q 11), .int (x7)] [] (m_at (by decide) σ x7) cs_X2_54 rfl (by decide) rfl (Nat.le_of_ble_eq_true rfl) dX2_beginFrom_95 rfl ?_
            refine ww_callS (ws1 := WC q cA σ) (st1 := [.int (X2_dayOf (fat σ 11 8 x7))]) hx hb hml hown hts hK hN hA (hDD _) (Nat.zero_le _) (Nat.zero_le _) [.int (fat σ 11 8 x7)] [] (m_X2_dayOf σ (fat σ 11 8 x7)) cs_X2_58 rfl (by decide) rfl (Nat.le_of_ble_eq_true rfl) dX2_beginFrom_98 rfl ?_
            refine ww_iload_n hx hb dX2_beginFrom_101 rfl 2 rfl ?_
            refine ww_ge2 (tgt := 121) hx hb dX2_beginFrom_102 (by decide) (fun c_5 => ?_) (fun c_5 => ?_)
            · replace h := it_p c_5 h
              exact ww_sub (lv1 := [(0, .ref (q 1)), (2, .int (x2)), (3, .int (x3)), (4, .int (x4)), (6, .int (x6)), (7, .int (x7))]) [0, 1, 2, 3, 4, 5] rfl (bk121 _ _ _ _ _ h)
            · replace h := it_n c_5 h
              refine ww_iload hx hb dX2_beginFrom_105 4 rfl ?_
              refine ww_aload_n hx hb dX2_beginFrom_107 rfl 0 rfl ?_
              refine ww_iload hx hb dX2_beginFrom_108 5 rfl ?_
              refine ww_callV (ws1 := WC q cA σ) (st1 := [.int (X2_endOf σ x7), .int (x6)]) hx hb hml hown hts hK hN hA (hDD _) (Nat.zero_le _) (Nat.zero_le _) [.int (x7)] [.int (x6)] (m_X2_endOf σ x7) cs_X2_124 rfl (by decide) 1 rfl rfl rfl (Nat.le_of_ble_eq_true rfl) dX2_beginFrom_110 rfl ?_
              refine ww_bipush (v := 11) hx hb dX2_beginFrom_113 (by decide) ?_
              refine ww_iadd hx hb dX2_beginFrom_115 ?_
              refine ww_max hx hb hml hown hts (Nat.zero_le _) (Nat.zero_le _) kw_69 kw_70 kw_71 kw_72 ⟨Nat.le_of_ble_eq_true rfl, Nat.le_of_ble_eq_true rfl⟩ dX2_beginFrom_116 ?_
              refine ww_istore (i := 6) (lv1 := [(0, .ref (q 1)), (2, .int (x2)), (3, .int (x3)), (4, .int (x4)), (6, .int (imax x6 ((X2_endOf σ x7) + (11 : Int32)))), (7, .int (x7))]) hx hb dX2_beginFrom_119 (by decide) [1, 2, 3, 4, 0, 5] rfl ?_
              exact ww_sub (lv1 := [(0, .ref (q 1)), (2, .int (x2)), (3, .int (x3)), (4, .int (x4)), (6, .int (imax x6 ((X2_endOf σ x7) + (11 : Int32)))), (7, .int (x7))]) [0, 1, 2, 3, 4, 5] rfl (bk121 _ _ _ _ _ h)
  have bk26 : ∀ (x1 : Int32) (x2 : Int32) (x3 : Int32) (x4 : Int32) (y0 : Int32) (y1 : Int32), X2_beginFrom_b26 σ x1 x2 x3 x4 y0 y1 = some r → WW p l e (rmc 2 80 0 0) s m args below meth c D vwCl (va_A (WC q cA σ) s.heap.size) 8 0 0 (MQ below (qcW D vwCl (WC q cA σ) (WC q cA σ) (some (.int r)) s.heap.size) args s 0 0 (va_A (WC q cA σ) s.heap.size)) (WC q cA σ) 26 [(0, .ref (q 1)), (1, .int (x1)), (2, .int (x2)), (3, .int (x3)), (4, .int (x4))] [.int (y1), .int (y0)] := by
    intro x1 x2 x3 x4 y0 y1 h
    unfold X2_beginFrom_b26 at h
    refine ww_iadd hx hb dX2_beginFrom_26 ?_
    refine ww_istore (i := 5) (lv1 := [(0, .ref (q 1)), (1, .int (x1)), (2, .int (x2)), (3, .int (x3)), (4, .int (x4)), (5, .int (y0 + y1))]) hx hb dX2_beginFrom_27 (by decide) [1, 2, 3, 4, 5, 0] rfl ?_
    refine ww_iload_n hx hb dX2_beginFrom_29 rfl 1 rfl ?_
    refine ww_iload hx hb dX2_beginFrom_30 5 rfl ?_
    refine ww_max hx hb hml hown hts (Nat.zero_le _) (Nat.zero_le _) kw_69 kw_70 kw_71 kw_72 ⟨Nat.le_of_ble_eq_true rfl, Nat.le_of_ble_eq_true rfl⟩ dX2_beginFrom_32 ?_
    refine ww_istore (i := 6) (lv1 := [(0, .ref (q 1)), (2, .int (x2)), (3, .int (x3)), (4, .int (x4)), (6, .int (imax x1 (y0 + y1)))]) hx hb dX2_beginFrom_35 (by decide) [1, 3, 4, 5, 0] rfl ?_
    refine ww_iconst (v := 0) hx hb dX2_beginFrom_37 (by decide) ?_
    refine ww_istore (i := 7) (lv1 := [(0, .ref (q 1)), (2, .int (x2)), (3, .int (x3)), (4, .int (x4)), (6, .int (imax x1 (y0 + y1))), (7, .int ((0 : Int32)))]) hx hb dX2_beginFrom_38 (by decide) [1, 2, 3, 4, 5, 0] rfl ?_
    exact ww_sub (lv1 := [(0, .ref (q 1)), (2, .int (x2)), (3, .int (x3)), (4, .int (x4)), (6, .int (imax x1 (y0 + y1))), (7, .int ((0 : Int32)))]) [0, 1, 2, 3, 4, 5] rfl (lp40 _ _ _ _ _ _ h)
  refine ww_sub (lv1 := [(0, .ref (q 1)), (1, .int (x1)), (2, .int (x2)), (3, .int (x3)), (4, .int (x4))]) [0, 1, 2, 3, 4] rfl ?_
  refine ww_bipush (v := 24) hx hb dX2_beginFrom_0 (by decide) ?_
  refine ww_iload_n hx hb dX2_beginFrom_2 rfl 3 rfl ?_
  refine ww_imul hx hb dX2_beginFrom_3 ?_
  refine ww_aload_n hx hb dX2_beginFrom_4 rfl 0 rfl ?_
  refine ww_get (C := RX2) (T := TX2) (N := 8) hx hb hown hts hK inA2 1 rfl rfl 0 (by decide) kw_66 rfl rfl dX2_beginFrom_5 ?_
  refine ww_get (C := RX3) (T := TX3) (N := 9) hx hb hown hts hK inA3 2 rfl rfl 3 (by decide) kw_68 rfl rfl dX2_beginFrom_8 ?_
  refine ww_iload_n hx hb dX2_beginFrom_11 rfl 2 rfl ?_
  refine ww_callN (ws1 := WC q cA σ) (st1 := [.int (fat σ 8 8 x2), .int ((24 : Int32) * x3)]) hx hb hml hown hts hK hN hA (hDD _) (Nat.zero_le _) (Nat.zero_le _) [.ref (q 8), .int (x2)] [.int ((24 : Int32) * x3)] (m_at (by decide) σ x2) cs_X2_54 rfl (by decide) rfl (Nat.le_of_ble_eq_true rfl) dX2_beginFrom_12 rfl ?_
  refine ww_iconst (v := 2) hx hb dX2_beginFrom_15 (by decide) ?_
  refine ww_ne2 (tgt := 24) hx hb dX2_beginFrom_16 (by decide) (fun c_1 => ?_) (fun c_1 => ?_)
  · replace h := it_n c_1 h
    refine ww_bipush (v := 8) hx hb dX2_beginFrom_24 (by decide) ?_
    exact ww_sub (lv1 := [(0, .ref (q 1)), (1, .int (x1)), (2, .int (x2)), (3, .int (x3)), (4, .int (x4))]) [0, 1, 2, 3, 4] rfl (bk26 _ _ _ _ _ _ h)
  · replace h := it_p c_1 h
    refine ww_bipush (v := 18) hx hb dX2_beginFrom_19 (by decide) ?_
    refine ww_goto (tgt := 26) hx hb dX2_beginFrom_21 (by decide) ?_
    exact ww_sub (lv1 := [(0, .ref (q 1)), (1, .int (x1)), (2, .int (x2)), (3, .int (x3)), (4, .int (x4))]) [0, 1, 2, 3, 4] rfl (bk26 _ _ _ _ _ _ h)
set_option maxHeartbeats 4000000 in
set_option maxRecDepth 100000 in
theorem m_X2_endsInTime (σ : SS) (x1 x2 x3 : Int32) : Ct l yX2_endsInTime cX2_endsInTime 5 (some .boolean) 1 40 D vwCl [(cA, .int)] (WC q cA σ) (WC q cA σ) [.ref (q 1), .int (x1), .int (x2), .int (x3)] (some (.int (X2_endsInTime σ x1 x2 x3))) := by
  refine ct_of (by decide +kernel) (Nat.le_of_ble_eq_true rfl) ?_
  intro p e s m args below meth c hx hb hr hlk hml hown hts hK hD hN hA
  have hown : s.vm.findClass RX2 = some m.cls := hown
  have hDD : ∀ τ : SS, va_D (va_A (WC q cA σ) s.heap.size) (WC q cA τ) := fun τ => hD.adr rfl
  obtain ⟨r, h⟩ : ∃ r, X2_endsInTime σ x1 x2 x3 = r := ⟨_, rfl⟩
  rw [h]
  unfold X2_endsInTime at h
  have bk22 : ∀ (x1 : Int32) (x2 : Int32) (x3 : Int32) (y0 : Int32), X2_endsInTime_b22 σ x1 x2 x3 y0 = r → WW p l e (rmc 1 40 0 0) s m args below meth c D vwCl (va_A (WC q cA σ) s.heap.size) 5 0 0 (MQ below (qcW D vwCl (WC q cA σ) (WC q cA σ) (some (.int r)) s.heap.size) args s 0 0 (va_A (WC q cA σ) s.heap.size)) (WC q cA σ) 22 [(0, .ref (q 1)), (1, .int (x1)), (2, .int (x2)), (3, .int (x3))] [.int (y0)] := by
    intro x1 x2 x3 y0 h
    unfold X2_endsInTime_b22 at h
    refine ww_istore (i := 4) (lv1 := [(0, .ref (q 1)), (1, .int (x1)), (2, .int (x2)), (3, .int (x3)), (4, .int (y0))]) hx hb dX2_endsInTime_22 (by decide) [1, 2, 3, 4, 0] rfl ?_
    refine ww_iload_n hx hb dX2_endsInTime_24 rfl 2 rfl ?_
    refine ww_aload_n hx hb dX2_endsInTime_25 rfl 0 rfl ?_
    refine ww_get (C := RX2) (T := TX2) (N := 8) hx hb hown hts hK inA2 1 rfl rfl 0 (by decide) kw_66 rfl rfl dX2_endsInTime_26 ?_
    refine ww_get (C := RX3) (T := TX3) (N := 9) hx hb hown hts hK inA3 2 rfl rfl 0 (by decide) kw_67 rfl rfl dX2_endsInTime_29 ?_
    refine ww_iload_n hx hb dX2_endsInTime_32 rfl 1 rfl ?_
    refine ww_callN (ws1 := WC q cA σ) (st1 := [.int (fat σ 5 8 x1), .int (x2)]) hx hb hml hown hts hK hN hA (hDD _) (Nat.zero_le _) (Nat.zero_le _) [.ref (q 5), .int (x1)] [.int (x2)] (m_at (by decide) σ x1) cs_X2_54 rfl (by decide) rfl (Nat.le_of_ble_eq_true rfl) dX2_endsInTime_33 rfl ?_
    refine ww_iadd hx hb dX2_endsInTime_36 ?_
    refine ww_bipush (v := 24) hx hb dX2_endsInTime_37 (by decide) ?_
    refine ww_iload_n hx hb dX2_endsInTime_39 rfl 3 rfl ?_
    refine ww_imul hx hb dX2_endsInTime_40 ?_
    refine ww_iload hx hb dX2_endsInTime_41 4 rfl ?_
    refine ww_iadd hx hb dX2_endsInTime_43 ?_
    refine ww_gt2 (tgt := 51) hx hb dX2_endsInTime_44 (by decide) (fun c_2 => ?_) (fun c_2 => ?_)
    · replace h := it_p c_2 h
      refine ww_iconst (v := 0) hx hb dX2_endsInTime_51 (by decide) ?_
      obtain rfl := h
      exact ww_zret hx hb hr hlk (by decide) rfl dX2_endsInTime_52
    · replace h := it_n c_2 h
      refine ww_iconst (v := 1) hx hb dX2_endsInTime_47 (by decide) ?_
      refine ww_goto (tgt := 52) hx hb dX2_endsInTime_48 (by decide) ?_
      obtain rfl := h
      exact ww_zret hx hb hr hlk (by decide) rfl dX2_endsInTime_52
  refine ww_sub (lv1 := [(0, .ref (q 1)), (1, .int (x1)), (2, .int (x2)), (3, .int (x3))]) [0, 1, 2, 3] rfl ?_
  refine ww_aload_n hx hb dX2_endsInTime_0 rfl 0 rfl ?_
  refine ww_get (C := RX2) (T := TX2) (N := 8) hx hb hown hts hK inA2 1 rfl rfl 0 (by decide) kw_66 rfl rfl dX2_endsInTime_1 ?_
  refine ww_get (C := RX3) (T := TX3) (N := 9) hx hb hown hts hK inA3 2 rfl rfl 3 (by decide) kw_68 rfl rfl dX2_endsInTime_4 ?_
  refine ww_iload_n hx hb dX2_endsInTime_7 rfl 1 rfl ?_
  refine ww_callN (ws1 := WC q cA σ) (st1 := [.int (fat σ 8 8 x1)]) hx hb hml hown hts hK hN hA (hDD _) (Nat.zero_le _) (Nat.zero_le _) [.ref (q 8), .int (x1)] [] (m_at (by decide) σ x1) cs_X2_54 rfl (by decide) rfl (Nat.le_of_ble_eq_true rfl) dX2_endsInTime_8 rfl ?_
  refine ww_iconst (v := 1) hx hb dX2_endsInTime_11 (by decide) ?_
  refine ww_ne2 (tgt := 20) hx hb dX2_endsInTime_12 (by decide) (fun c_1 => ?_) (fun c_1 => ?_)
  · replace h := it_n c_1 h
    refine ww_bipush (v := 24) hx hb dX2_endsInTime_20 (by decide) ?_
    exact ww_sub (lv1 := [(0, .ref (q 1)), (1, .int (x1)), (2, .int (x2)), (3, .int (x3))]) [0, 1, 2, 3] rfl (bk22 _ _ _ _ h)
  · replace h := it_p c_1 h
    refine ww_bipush (v := 18) hx hb dX2_endsInTime_15 (by decide) ?_
    refine ww_goto (tgt := 22) hx hb dX2_endsInTime_17 (by decide) ?_
    exact ww_sub (lv1 := [(0, .ref (q 1)), (1, .int (x1)), (2, .int (x2)), (3, .int (x3))]) [0, 1, 2, 3] rfl (bk22 _ _ _ _ h)
set_option maxHeartbeats 4000000 in
set_option maxRecDepth 100000 in
theorem m_X2_placedOn (σ : SS) (x1 x2 : Int32) (r : Int32) (h : X2_placedOn σ x1 x2 = some r) : Ct l yX2_placedOn cX2_placedOn 5 (some .int) 1 40 D vwCl [(cA, .int)] (WC q cA σ) (WC q cA σ) [.ref (q 1), .int (x1), .int (x2)] (some (.int r)) := by
  refine ct_of (by decide +kernel) (Nat.le_of_ble_eq_true rfl) ?_
  intro p e s m args below meth c hx hb hr hlk hml hown hts hK hD hN hA
  have hown : s.vm.findClass RX2 = some m.cls := hown
  have hDD : ∀ τ : SS, va_D (va_A (WC q cA σ) s.heap.size) (WC q cA τ) := fun τ => hD.adr rfl
  unfold X2_placedOn at h
  have lp5 : ∀ (n : Nat) (x1 : Int32) (x2 : Int32) (x3 : Int32) (x4 : Int32), X2_placedOn_l5 n σ x1 x2 x3 x4 = some r → WW p l e (rmc 1 40 0 0) s m args below meth c D vwCl (va_A (WC q cA σ) s.heap.size) 5 0 0 (MQ below (qcW D vwCl (WC q cA σ) (WC q cA σ) (some (.int r)) s.heap.size) args s 0 0 (va_A (WC q cA σ) s.heap.size)) (WC q cA σ) 5 [(0, .ref (q 1)), (1, .int (x1)), (2, .int (x2)), (3, .int (x3)), (4, .int (x4))] [] := by
    intro n
    induction n with
    | zero => intro x1 x2 x3 x4 h; rw [X2_placedOn_l5] at h; cases h
    | succ n ih =>
      have bk50 : ∀ (x1 : Int32) (x2 : Int32) (x3 : Int32) (x4 : Int32), X2_placedOn_b50 (X2_placedOn_l5 n) σ x1 x2 x3 x4 = some r → WW p l e (rmc 1 40 0 0) s m args below meth c D vwCl (va_A (WC q cA σ) s.heap.size) 5 0 0 (MQ below (qcW D vwCl (WC q cA σ) (WC q cA σ) (some (.int r)) s.heap.size) args s 0 0 (va_A (WC q cA σ) s.heap.size)) (WC q cA σ) 50 [(0, .ref (q 1)), (1, .int (x1)), (2, .int (x2)), (3, .int (x3)), (4, .int (x4))] [] := by
        intro x1 x2 x3 x4 h
        unfold X2_placedOn_b50 at h
        refine ww_iinc (i := 4) (k := 4) (v := 1) (lv1 := [(0, .ref (q 1)), (1, .int (x1)), (2, .int (x2)), (3, .int (x3)), (4, .int (x4 + 1))]) hx hb dX2_placedOn_50 rfl (by decide) (by decide) [1, 2, 3, 4, 0] rfl ?_
        refine ww_goto (tgt := 5) hx hb dX2_placedOn_53 (by decide) ?_
        exact ww_sub (lv1 := [(0, .ref (q 1)), (1, .int (x1)), (2, .int (x2)), (3, .int (x3)), (4, .int (x4 + 1))]) [0, 1, 2, 3, 4] rfl (ih _ _ _ _ h)
      intro x1 x2 x3 x4 h
      rw [X2_placedOn_l5] at h
      refine ww_iload hx hb dX2_placedOn_5 4 rfl ?_
      refine ww_aload_n hx hb dX2_placedOn_7 rfl 0 rfl ?_
      refine ww_get (C := RX2) (T := TX2) (N := 8) hx hb hown hts hK inA2 1 rfl rfl 0 (by decide) kw_66 rfl rfl dX2_placedOn_8 ?_
      refine ww_get (C := RX3) (T := TX3) (N := 9) hx hb hown hts hK inA3 2 rfl rfl 5 (by decide) kw_73 rfl rfl dX2_placedOn_11 ?_
      refine ww_ge2 (tgt := 56) hx hb dX2_placedOn_14 (by decide) (fun c_1 => ?_) (fun c_1 => ?_)
      · replace h := it_p c_1 h
        refine ww_iload_n hx hb dX2_placedOn_56 rfl 3 rfl ?_
        obtain rfl := os1 h
        exact ww_iret hx hb hr hlk rfl dX2_placedOn_57
      · replace h := it_n c_1 h
        refine ww_iload_n hx hb dX2_placedOn_17 rfl 2 rfl ?_
        refine ww_iload hx hb dX2_placedOn_18 4 rfl ?_
        refine ww_callN (ws1 := WC q cA σ) (st1 := [.int (X4_isIn x2 x4)]) hx hb hml hown hts hK hN hA (hDD _) (Nat.zero_le _) (Nat.zero_le _) [.int (x2), .int (x4)] [] (m_X4_isIn σ x2 x4) cs_X2_80 rfl (by decide) rfl (Nat.le_of_ble_eq_true rfl) dX2_placedOn_20 rfl ?_
        refine ww_eq0 (tgt := 50) hx hb dX2_placedOn_23 (by decide) (fun c_2 => ?_) (fun c_2 => ?_)
        · replace h := it_p c_2 h
          exact ww_sub (lv1 := [(0, .ref (q 1)), (1, .int (x1)), (2, .int (x2)), (3, .int (x3)), (4, .int (x4))]) [0, 1, 2, 3, 4] rfl (bk50 _ _ _ _ h)
        · replace h := it_n c_2 h
          refine ww_aload_n hx hb dX2_placedOn_26 rfl 0 rfl ?_
          refine ww_get (C := RX2) (T := TX2) (N := 8) hx hb hown hts hK inA2 1 rfl rfl 2 (by decide) kw_47 rfl rfl dX2_placedOn_27 ?_
          refine ww_iload hx hb dX2_placedOn_30 4 rfl ?_
          refine ww_callN (ws1 := WC q cA σ) (st1 := [.int (fat σ 11 8 x4)]) hx hb hml hown hts hK hN hA (hDD _) (Nat.zero_le _) (Nat.zero_le _) [.ref (q 11), .int (x4)] [] (m_at (by decide) σ x4) cs_X2_54 rfl (by decide) rfl (Nat.le_of_ble_eq_true rfl) dX2_placedOn_32 rfl ?_
          refine ww_callS (ws1 := WC q cA σ) (st1 := [.int (X2_dayOf (fat σ 11 8 x4))]) hx hb hml hown hts hK hN hA (hDD _) (Nat.zero_le _) (Nat.zero_le _) [.int (fat σ 11 8 x4)] [] (m_X2_dayOf σ (fat σ 11 8 x4)) cs_X2_58 rfl (by decide) rfl (Nat.le_of_ble_eq_true rfl) dX2_placedOn_35 rfl ?_
          refine ww_iload_n hx hb dX2_placedOn_38 rfl 1 rfl ?_
          refine ww_ne2 (tgt := 50) hx hb dX2_placedOn_39 (by decide) (fun c_3 => ?_) (fun c_3 => ?_)
          · replace h := it_n c_3 h
            exact ww_sub (lv1 := [(0, .ref (q 1)), (1, .int (x1)), (2, .int (x2)), (3, .int (x3)), (4, .int (x4))]) [0, 1, 2, 3, 4] rfl (bk50 _ _ _ _ h)
          · replace h := it_p c_3 h
            refine ww_iload_n hx hb dX2_placedOn_42 rfl 3 rfl ?_
            refine ww_iload hx hb dX2_placedOn_43 4 rfl ?_
            refine ww_iconst (v := 1) hx hb dX2_placedOn_45 (by decide) ?_
            refine ww_callN (ws1 := WC q cA σ) (st1 := [.int (X4_with x3 x4 (1 : Int32))]) hx hb hml hown hts hK hN hA (hDD _) (Nat.zero_le _) (Nat.zero_le _) [.int (x3), .int (x4), .int ((1 : Int32))] [] (m_X4_with σ x3 x4 (1 : Int32)) cs_X2_73 rfl (by decide) rfl (Nat.le_of_ble_eq_true rfl) dX2_placedOn_46 rfl ?_
            refine ww_istore_n (i := 3) (lv1 := [(0, .ref (q 1)), (1, .int (x1)), (2, .int (x2)), (3, .int (X4_with x3 x4 (1 : Int32))), (4, .int (x4))]) hx hb dX2_placedOn_49 rfl (by decide) [1, 2, 3, 0, 4] rfl ?_
            exact ww_sub (lv1 := [(0, .ref (q 1)), (1, .int (x1)), (2, .int (x2)), (3, .int (X4_with x3 x4 (1 : Int32))), (4, .int (x4))]) [0, 1, 2, 3, 4] rfl (bk50 _ _ _ _ h)
  refine ww_sub (lv1 := [(0, .ref (q 1)), (1, .int (x1)), (2, .int (x2))]) [0, 1, 2] rfl ?_
  refine ww_iconst (v := 0) hx hb dX2_placedOn_0 (by decide) ?_
  refine ww_istore_n (i := 3) (lv1 := [(0, .ref (q 1)), (1, .int (x1)), (2, .int (x2)), (3, .int ((0 : Int32)))]) hx hb dX2_placedOn_1 rfl (by decide) [1, 2, 3, 0] rfl ?_
  refine ww_iconst (v := 0) hx hb dX2_placedOn_2 (by decide) ?_
  refine ww_istore (i := 4) (lv1 := [(0, .ref (q 1)), (1, .int (x1)), (2, .int (x2)), (3, .int ((0 : Int32))), (4, .int ((0 : Int32)))]) hx hb dX2_placedOn_3 (by decide) [1, 2, 3, 4, 0] rfl ?_
  exact ww_sub (lv1 := [(0, .ref (q 1)), (1, .int (x1)), (2, .int (x2)), (3, .int ((0 : Int32))), (4, .int ((0 : Int32)))]) [0, 1, 2, 3, 4] rfl (lp5 _ _ _ _ _ h)
set_option maxHeartbeats 4000000 in
set_option maxRecDepth 100000 in
theorem m_X2_hoursFor (σ : SS) (x1 x2 : Int32) (r : Int32) (h : X2_hoursFor σ x1 x2 = some r) : Ct l yX2_hoursFor cX2_hoursFor 5 (some .int) 1 40 D vwCl [(cA, .int)] (WC q cA σ) (WC q cA σ) [.ref (q 1), .int (x1), .int (x2)] (some (.int r)) := by
  refine ct_of (by decide +kernel) (Nat.le_of_ble_eq_true rfl) ?_
  intro p e s m args below meth c hx hb hr hlk hml hown hts hK hD hN hA
  have hown : s.vm.findClass RX2 = some m.cls := hown
  have hDD : ∀ τ : SS, va_D (va_A (WC q cA σ) s.heap.size) (WC q cA τ) := fun τ => hD.adr rfl
  unfold X2_hoursFor at h
  have lp5 : ∀ (n : Nat) (x1 : Int32) (x2 : Int32) (x3 : Int32) (x4 : Int32), X2_hoursFor_l5 n σ x1 x2 x3 x4 = some r → WW p l e (rmc 1 40 0 0) s m args below meth c D vwCl (va_A (WC q cA σ) s.heap.size) 5 0 0 (MQ below (qcW D vwCl (WC q cA σ) (WC q cA σ) (some (.int r)) s.heap.size) args s 0 0 (va_A (WC q cA σ) s.heap.size)) (WC q cA σ) 5 [(0, .ref (q 1)), (1, .int (x1)), (2, .int (x2)), (3, .int (x3)), (4, .int (x4))] [] := by
    intro n
    induction n with
    | zero => intro x1 x2 x3 x4 h; rw [X2_hoursFor_l5] at h; cases h
    | succ n ih =>
      have bk60 : ∀ (x1 : Int32) (x2 : Int32) (x3 : Int32) (x4 : Int32), X2_hoursFor_b60 (X2_hoursFor_l5 n) σ x1 x2 x3 x4 = some r → WW p l e (rmc 1 40 0 0) s m args below meth c D vwCl (va_A (WC q cA σ) s.heap.size) 5 0 0 (MQ below (qcW D vwCl (WC q cA σ) (WC q cA σ) (some (.int r)) s.heap.size) args s 0 0 (va_A (WC q cA σ) s.heap.size)) (WC q cA σ) 60 [(0, .ref (q 1)), (1, .int (x1)), (2, .int (x2)), (3, .int (x3)), (4, .int (x4))] [] := by
        intro x1 x2 x3 x4 h
        unfold X2_hoursFor_b60 at h
        refine ww_iinc (i := 4) (k := 4) (v := 1) (lv1 := [(0, .ref (q 1)), (1, .int (x1)), (2, .int (x2)), (3, .int (x3)), (4, .int (x4 + 1))]) hx hb dX2_hoursFor_60 rfl (by decide) (by decide) [1, 2, 3, 4, 0] rfl ?_
        refine ww_goto (tgt := 5) hx hb dX2_hoursFor_63 (by decide) ?_
        exact ww_sub (lv1 := [(0, .ref (q 1)), (1, .int (x1)), (2, .int (x2)), (3, .int (x3)), (4, .int (x4 + 1))]) [0, 1, 2, 3, 4] rfl (ih _ _ _ _ h)
      intro x1 x2 x3 x4 h
      rw [X2_hoursFor_l5] at h
      refine ww_iload hx hb dX2_hoursFor_5 4 rfl ?_
      refine ww_aload_n hx hb dX2_hoursFor_7 rfl 0 rfl ?_
      refine ww_get (C := RX2) (T := TX2) (N := 8) hx hb hown hts hK inA2 1 rfl rfl 0 (by decide) kw_66 rfl rfl dX2_hoursFor_8 ?_
      refine ww_get (C := RX3) (T := TX3) (N := 9) hx hb hown hts hK inA3 2 rfl rfl 5 (by decide) kw_73 rfl rfl dX2_hoursFor_11 ?_
      refine ww_ge2 (tgt := 66) hx hb dX2_hoursFor_14 (by decide) (fun c_1 => ?_) (fun c_1 => ?_)
      · replace h := it_p c_1 h
        refine ww_iload_n hx hb dX2_hoursFor_66 rfl 3 rfl ?_
        obtain rfl := os1 h
        exact ww_iret hx hb hr hlk rfl dX2_hoursFor_67
      · replace h := it_n c_1 h
        refine ww_iload_n hx hb dX2_hoursFor_17 rfl 2 rfl ?_
        refine ww_iload hx hb dX2_hoursFor_18 4 rfl ?_
        refine ww_callN (ws1 := WC q cA σ) (st1 := [.int (X4_isIn x2 x4)]) hx hb hml hown hts hK hN hA (hDD _) (Nat.zero_le _) (Nat.zero_le _) [.int (x2), .int (x4)] [] (m_X4_isIn σ x2 x4) cs_X2_80 rfl (by decide) rfl (Nat.le_of_ble_eq_true rfl) dX2_hoursFor_20 rfl ?_
        refine ww_eq0 (tgt := 60) hx hb dX2_hoursFor_23 (by decide) (fun c_2 => ?_) (fun c_2 => ?_)
        · replace h := it_p c_2 h
          exact ww_sub (lv1 := [(0, .ref (q 1)), (1, .int (x1)), (2, .int (x2)), (3, .int (x3)), (4, .int (x4))]) [0, 1, 2, 3, 4] rfl (bk60 _ _ _ _ h)
        · replace h := it_n c_2 h
          refine ww_aload_n hx hb dX2_hoursFor_26 rfl 0 rfl ?_
          refine ww_get (C := RX2) (T := TX2) (N := 8) hx hb hown hts hK inA2 1 rfl rfl 0 (by decide) kw_66 rfl rfl dX2_hoursFor_27 ?_
          refine ww_get (C := RX3) (T := TX3) (N := 9) hx hb hown hts hK inA3 2 rfl rfl 2 (by decide) kw_74 rfl rfl dX2_hoursFor_30 ?_
          refine ww_iload hx hb dX2_hoursFor_33 4 rfl ?_
          refine ww_callN (ws1 := WC q cA σ) (st1 := [.int (fat σ 7 8 x4)]) hx hb hml hown hts hK hN hA (hDD _) (Nat.zero_le _) (Nat.zero_le _) [.ref (q 7), .int (x4)] [] (m_at (by decide) σ x4) cs_X2_54 rfl (by decide) rfl (Nat.le_of_ble_eq_true rfl) dX2_hoursFor_35 rfl ?_
          refine ww_iload_n hx hb dX2_hoursFor_38 rfl 1 rfl ?_
          refine ww_callN (ws1 := WC q cA σ) (st1 := [.int (X4_isIn (fat σ 7 8 x4) x1)]) hx hb hml hown hts hK hN hA (hDD _) (Nat.zero_le _) (Nat.zero_le _) [.int (fat σ 7 8 x4), .int (x1)] [] (m_X4_isIn σ (fat σ 7 8 x4) x1) cs_X2_80 rfl (by decide) rfl (Nat.le_of_ble_eq_true rfl) dX2_hoursFor_39 rfl ?_
          refine ww_eq0 (tgt := 60) hx hb dX2_hoursFor_42 (by decide) (fun c_3 => ?_) (fun c_3 => ?_)
          · replace h := it_p c_3 h
            exact ww_sub (lv1 := [(0, .ref (q 1)), (1, .int (x1)), (2, .int (x2)), (3, .int (x3)), (4, .int (x4))]) [0, 1, 2, 3, 4] rfl (bk60 _ _ _ _ h)
          · replace h := it_n c_3 h
            refine ww_iload_n hx hb dX2_hoursFor_45 rfl 3 rfl ?_
            refine ww_aload_n hx hb dX2_hoursFor_46 rfl 0 rfl ?_
            refine ww_get (C := RX2) (T := TX2) (N := 8) hx hb hown hts hK inA2 1 rfl rfl 0 (by decide) kw_66 rfl rfl dX2_hoursFor_47 ?_
            refine ww_get (C := RX3) (T := TX3) (N := 9) hx hb hown hts hK inA3 2 rfl rfl 0 (by decide) kw_67 rfl rfl dX2_hoursFor_50 ?_
            refine ww_iload hx hb dX2_hoursFor_53 4 rfl ?_
            refine ww_callN (ws1 := WC q cA σ) (st1 := [.int (fat σ 5 8 x4), .int (x3)]) hx hb hml hown hts hK hN hA (hDD _) (Nat.zero_le _) (Nat.zero_le _) [.ref (q 5), .int (x4)] [.int (x3)] (m_at (by decide) σ x4) cs_X2_54 rfl (by decide) rfl (Nat.le_of_ble_eq_true rfl) dX2_hoursFor_55 rfl ?_
            refine ww_iadd hx hb dX2_hoursFor_58 ?_
            refine ww_istore_n (i := 3) (lv1 := [(0, .ref (q 1)), (1, .int (x1)), (2, .int (x2)), (3, .int (x3 + (fat σ 5 8 x4))), (4, .int (x4))]) hx hb dX2_hoursFor_59 rfl (by decide) [1, 2, 3, 0, 4] rfl ?_
            exact ww_sub (lv1 := [(0, .ref (q 1)), (1, .int (x1)), (2, .int (x2)), (3, .int (x3 + (fat σ 5 8 x4))), (4, .int (x4))]) [0, 1, 2, 3, 4] rfl (bk60 _ _ _ _ h)
  refine ww_sub (lv1 := [(0, .ref (q 1)), (1, .int (x1)), (2, .int (x2))]) [0, 1, 2] rfl ?_
  refine ww_iconst (v := 0) hx hb dX2_hoursFor_0 (by decide) ?_
  refine ww_istore_n (i := 3) (lv1 := [(0, .ref (q 1)), (1, .int (x1)), (2, .int (x2)), (3, .int ((0 : Int32)))]) hx hb dX2_hoursFor_1 rfl (by decide) [1, 2, 3, 0] rfl ?_
  refine ww_iconst (v := 0) hx hb dX2_hoursFor_2 (by decide) ?_
  refine ww_istore (i := 4) (lv1 := [(0, .ref (q 1)), (1, .int (x1)), (2, .int (x2)), (3, .int ((0 : Int32))), (4, .int ((0 : Int32)))]) hx hb dX2_hoursFor_3 (by decide) [1, 2, 3, 4, 0] rfl ?_
  exact ww_sub (lv1 := [(0, .ref (q 1)), (1, .int (x1)), (2, .int (x2)), (3, .int ((0 : Int32))), (4, .int ((0 : Int32)))]) [0, 1, 2, 3, 4] rfl (lp5 _ _ _ _ _ h)
set_option maxHeartbeats 4000000 in
set_option maxRecDepth 100000 in
theorem m_X2_isFitForChildren (σ : SS) (x1 x2 x3 : Int32) (r : Int32) (h : X2_isFitForChildren σ x1 x2 x3 = some r) : Ct l yX2_isFitForChildren cX2_isFitForChildren 6 (some .boolean) 2 80 D vwCl [(cA, .int)] (WC q cA σ) (WC q cA σ) [.ref (q 1), .int (x1), .int (x2), .int (x3)] (some (.int r)) := by
  refine ct_of (by decide +kernel) (Nat.le_of_ble_eq_true rfl) ?_
  intro p e s m args below meth c hx hb hr hlk hml hown hts hK hD hN hA
  have hown : s.vm.findClass RX2 = some m.cls := hown
  have hDD : ∀ τ : SS, va_D (va_A (WC q cA σ) s.heap.size) (WC q cA τ) := fun τ => hD.adr rfl
  unfold X2_isFitForChildren at h
  have lp24 : ∀ (n : Nat) (x1 : Int32) (x2 : Int32) (x3 : Int32) (x4 : Int32) (x5 : Int32), X2_isFitForChildren_l24 n σ x1 x2 x3 x4 x5 = some r → WW p l e (rmc 2 80 0 0) s m args below meth c D vwCl (va_A (WC q cA σ) s.heap.size) 6 0 0 (MQ below (qcW D vwCl (WC q cA σ) (WC q cA σ) (some (.int r)) s.heap.size) args s 0 0 (va_A (WC q cA σ) s.heap.size)) (WC q cA σ) 24 [(0, .ref (q 1)), (1, .int (x1)), (2, .int (x2)), (3, .int (x3)), (4, .int (x4)), (5, .int (x5))] [] := by
    intro n
    induction n with
    | zero => intro x1 x2 x3 x4 x5 h; rw [X2_isFitForChildren_l24] at h; cases h
    | succ n ih =>
      have bk72 : ∀ (x1 : Int32) (x2 : Int32) (x3 : Int32) (x4 : Int32) (x5 : Int32), X2_isFitForChildren_b72 (X2_isFitForChildren_l24 n) σ x1 x2 x3 x4 x5 = some r → WW p l e (rmc 2 80 0 0) s m args below meth c D vwCl (va_A (WC q cA σ) s.heap.size) 6 0 0 (MQ below (qcW D vwCl (WC q cA σ) (WC q cA σ) (some (.int r)) s.heap.size) args s 0 0 (va_A (WC q cA σ) s.heap.size)) (WC q cA σ) 72 [(0, .ref (q 1)), (1, .int (x1)), (2, .int (x2)), (3, .int (x3)), (4, .int (x4)), (5, .int (x5))] [] := by
        intro x1 x2 x3 x4 x5 h
        unfold X2_isFitForChildren_b72 at h
        refine ww_iinc (i := 5) (k := 5) (v := 1) (lv1 := [(0, .ref (q 1)), (1, .int (x1)), (2, .int (x2)), (3, .int (x3)), (4, .int (x4)), (5, .int (x5 + 1))]) hx hb dX2_isFitForChildren_72 rfl (by decide) (by decide) [1, 2, 3, 4, 5, 0] rfl ?_
        refine ww_goto (tgt := 24) hx hb dX2_isFitForChildren_75 (by decide) ?_
        exact ww_sub (lv1 := [(0, .ref (q 1)), (1, .int (x1)), (2, .int (x2)), (3, .int (x3)), (4, .int (x4)), (5, .int (x5 + 1))]) [0, 1, 2, 3, 4, 5] rfl (ih _ _ _ _ _ h)
      intro x1 x2 x3 x4 x5 h
      rw [X2_isFitForChildren_l24] at h
      refine ww_iload hx hb dX2_isFitForChildren_24 5 rfl ?_
      refine ww_bipush (v := 6) hx hb dX2_isFitForChildren_26 (by decide) ?_
      refine ww_ge2 (tgt := 78) hx hb dX2_isFitForChildren_28 (by decide) (fun c_1 => ?_) (fun c_1 => ?_)
      · replace h := it_p c_1 h
        refine ww_iconst (v := 1) hx hb dX2_isFitForChildren_78 (by decide) ?_
        obtain rfl := os1 h
        exact ww_zret hx hb hr hlk (by decide) rfl dX2_isFitForChildren_79
      · replace h := it_n c_1 h
        refine ww_iload hx hb dX2_isFitForChildren_31 4 rfl ?_
        refine ww_iload hx hb dX2_isFitForChildren_33 5 rfl ?_
        refine ww_callN (ws1 := WC q cA σ) (st1 := [.int (X4_isIn x4 x5)]) hx hb hml hown hts hK hN hA (hDD _) (Nat.zero_le _) (Nat.zero_le _) [.int (x4), .int (x5)] [] (m_X4_isIn σ x4 x5) cs_X2_80 rfl (by decide) rfl (Nat.le_of_ble_eq_true rfl) dX2_isFitForChildren_35 rfl ?_
        refine ww_eq0 (tgt := 72) hx hb dX2_isFitForChildren_38 (by decide) (fun c_2 => ?_) (fun c_2 => ?_)
        · replace h := it_p c_2 h
          exact ww_sub (lv1 := [(0, .ref (q 1)), (1, .int (x1)), (2, .int (x2)), (3, .int (x3)), (4, .int (x4)), (5, .int (x5))]) [0, 1, 2, 3, 4, 5] rfl (bk72 _ _ _ _ _ h)
        · replace h := it_n c_2 h
          refine ww_aload_n hx hb dX2_isFitForChildren_41 rfl 0 rfl ?_
          refine ww_iload hx hb dX2_isFitForChildren_42 5 rfl ?_
          refine ww_aload_n hx hb dX2_isFitForChildren_44 rfl 0 rfl ?_
          refine ww_iload_n hx hb dX2_isFitForChildren_45 rfl 2 rfl ?_
          refine ww_iload_n hx hb dX2_isFitForChildren_46 rfl 3 rfl ?_
          obtain ⟨r_3, e_3, h⟩ := ob h
          refine ww_callV (ws1 := WC q cA σ) (st1 := [.int (r_3), .int (x5), .ref (q 1)]) hx hb hml hown hts hK hN hA (hDD _) (Nat.zero_le _) (Nat.zero_le _) [.int (x2), .int (x3)] [.int (x5), .ref (q 1)] (m_X2_placedOn _ _ _ _ e_3) cs_X2_142 rfl (by decide) 1 rfl rfl rfl (Nat.le_of_ble_eq_true rfl) dX2_isFitForChildren_47 rfl ?_
          obtain ⟨r_4, e_4, h⟩ := ob h
          refine ww_callV (ws1 := WC q cA σ) (st1 := [.int (r_4)]) hx hb hml hown hts hK hN hA (hDD _) (Nat.zero_le _) (Nat.zero_le _) [.int (x5), .int (r_3)] [] (m_X2_hoursFor _ _ _ _ e_4) cs_X2_139 rfl (by decide) 1 rfl rfl rfl (Nat.le_of_ble_eq_true rfl) dX2_isFitForChildren_50 rfl ?_
          refine ww_aload_n hx hb dX2_isFitForChildren_53 rfl 0 rfl ?_
          refine ww_get (C := RX2) (T := TX2) (N := 8) hx hb hown hts hK inA2 1 rfl rfl 0 (by decide) kw_66 rfl rfl dX2_isFitForChildren_54 ?_
          refine ww_get (C := RX3) (T := TX3) (N := 9) hx hb hown hts hK inA3 2 rfl rfl 0 (by decide) kw_67 rfl rfl dX2_isFitForChildren_57 ?_
          refine ww_iload_n hx hb dX2_isFitForChildren_60 rfl 1 rfl ?_
          refine ww_callN (ws1 := WC q cA σ) (st1 := [.int (fat σ 5 8 x1), .int (r_4)]) hx hb hml hown hts hK hN hA (hDD _) (Nat.zero_le _) (Nat.zero_le _) [.ref (q 5), .int (x1)] [.int (r_4)] (m_at (by decide) σ x1) cs_X2_54 rfl (by decide) rfl (Nat.le_of_ble_eq_true rfl) dX2_isFitForChildren_61 rfl ?_
          refine ww_iadd hx hb dX2_isFitForChildren_64 ?_
          refine ww_bipush (v := 6) hx hb dX2_isFitForChildren_65 (by decide) ?_
          refine ww_le2 (tgt := 72) hx hb dX2_isFitForChildren_67 (by decide) (fun c_5 => ?_) (fun c_5 => ?_)
          · replace h := it_p c_5 h
            exact ww_sub (lv1 := [(0, .ref (q 1)), (1, .int (x1)), (2, .int (x2)), (3, .int (x3)), (4, .int (x4)), (5, .int (x5))]) [0, 1, 2, 3, 4, 5] rfl (bk72 _ _ _ _ _ h)
          · replace h := it_n c_5 h
            refine ww_iconst (v := 0) hx hb dX2_isFitForChildren_70 (by decide) ?_
            obtain rfl := os1 h
            exact ww_zret hx hb hr hlk (by decide) rfl dX2_isFitForChildren_71
  refine ww_sub (lv1 := [(0, .ref (q 1)), (1, .int (x1)), (2, .int (x2)), (3, .int (x3))]) [0, 1, 2, 3] rfl ?_
  refine ww_aload_n hx hb dX2_isFitForChildren_0 rfl 0 rfl ?_
  refine ww_get (C := RX2) (T := TX2) (N := 8) hx hb hown hts hK inA2 1 rfl rfl 0 (by decide) kw_66 rfl rfl dX2_isFitForChildren_1 ?_
  refine ww_get (C := RX3) (T := TX3) (N := 9) hx hb hown hts hK inA3 2 rfl rfl 8 (by decide) kw_79 rfl rfl dX2_isFitForChildren_4 ?_
  refine ww_aload_n hx hb dX2_isFitForChildren_7 rfl 0 rfl ?_
  refine ww_get (C := RX2) (T := TX2) (N := 8) hx hb hown hts hK inA2 1 rfl rfl 0 (by decide) kw_66 rfl rfl dX2_isFitForChildren_8 ?_
  refine ww_get (C := RX3) (T := TX3) (N := 9) hx hb hown hts hK inA3 2 rfl rfl 2 (by decide) kw_74 rfl rfl dX2_isFitForChildren_11 ?_
  refine ww_iload_n hx hb dX2_isFitForChildren_14 rfl 1 rfl ?_
  refine ww_callN (ws1 := WC q cA σ) (st1 := [.int (fat σ 7 8 x1), .int (σ 2 8)]) hx hb hml hown hts hK hN hA (hDD _) (Nat.zero_le _) (Nat.zero_le _) [.ref (q 7), .int (x1)] [.int (σ 2 8)] (m_at (by decide) σ x1) cs_X2_54 rfl (by decide) rfl (Nat.le_of_ble_eq_true rfl) dX2_isFitForChildren_15 rfl ?_
  refine ww_iand hx hb dX2_isFitForChildren_18 ?_
  refine ww_istore (i := 4) (lv1 := [(0, .ref (q 1)), (1, .int (x1)), (2, .int (x2)), (3, .int (x3)), (4, .int ((σ 2 8) &&& (fat σ 7 8 x1)))]) hx hb dX2_isFitForChildren_19 (by decide) [1, 2, 3, 4, 0] rfl ?_
  refine ww_iconst (v := 0) hx hb dX2_isFitForChildren_21 (by decide) ?_
  refine ww_istore (i := 5) (lv1 := [(0, .ref (q 1)), (1, .int (x1)), (2, .int (x2)), (3, .int (x3)), (4, .int ((σ 2 8) &&& (fat σ 7 8 x1))), (5, .int ((0 : Int32)))]) hx hb dX2_isFitForChildren_22 (by decide) [1, 2, 3, 4, 5, 0] rfl ?_
  exact ww_sub (lv1 := [(0, .ref (q 1)), (1, .int (x1)), (2, .int (x2)), (3, .int (x3)), (4, .int ((σ 2 8) &&& (fat σ 7 8 x1))), (5, .int ((0 : Int32)))]) [0, 1, 2, 3, 4, 5] rfl (lp24 _ _ _ _ _ _ h)
set_option maxHeartbeats 4000000 in
set_option maxRecDepth 100000 in
theorem m_X2_place (σ : SS) (x1 x2 x3 : Int32) (σ1 : SS) (h : X2_place σ x1 x2 x3 = some σ1) : Ct l yX2_place cX2_place 7 none 3 120 D vwCl [(cA, .int)] (WC q cA σ) (WC q cA σ1) [.ref (q 1), .int (x1), .int (x2), .int (x3)] none := by
  refine ct_of (by decide +kernel) (Nat.le_of_ble_eq_true rfl) ?_
  intro p e s m args below meth c hx hb hr hlk hml hown hts hK hD hN hA
  have hown : s.vm.findClass RX2 = some m.cls := hown
  have hDD : ∀ τ : SS, va_D (va_A (WC q cA σ) s.heap.size) (WC q cA τ) := fun τ => hD.adr rfl
  unfold X2_place at h
  have bk136 : ∀ (τ : SS) (x1 : Int32) (x2 : Int32) (x5 : Int32), X2_place_b136 τ x1 x2 x5 = some σ1 → WW p l e (rmc 3 120 0 0) s m args below meth c D vwCl (va_A (WC q cA σ) s.heap.size) 7 0 0 (MQ below (qcW D vwCl (WC q cA σ) (WC q cA σ1) none s.heap.size) args s 0 0 (va_A (WC q cA σ) s.heap.size)) (WC q cA τ) 136 [(0, .ref (q 1)), (1, .int (x1)), (2, .int (x2)), (5, .int (x5))] [] := by
    intro τ x1 x2 x5 h
    unfold X2_place_b136 at h
    refine ww_aload_n hx hb dX2_place_136 rfl 0 rfl ?_
    refine ww_get (C := RX2) (T := TX2) (N := 8) hx hb hown hts hK inA2 1 rfl rfl 1 (by decide) kw_48 rfl rfl dX2_place_137 ?_
    refine ww_iload_n hx hb dX2_place_140 rfl 2 rfl ?_
    refine ww_iload_n hx hb dX2_place_141 rfl 1 rfl ?_
    obtain ⟨σ_7, e_7, h⟩ := lt_e h
    refine ww_callN (ws1 := WC q cA σ_7) (st1 := []) hx hb hml hown hts hK hN hA (hDD _) (Nat.zero_le _) (Nat.zero_le _) [.ref (q 10), .int (x2), .int (x1)] [] (m_put (by decide) _ _ _ _ e_7) cs_X2_83 rfl (by decide) rfl (Nat.le_of_ble_eq_true rfl) dX2_place_142 rfl ?_
    refine ww_aload_n hx hb dX2_place_145 rfl 0 rfl ?_
    refine ww_get (C := RX2) (T := TX2) (N := 8) hx hb hown hts hK inA2 1 rfl rfl 2 (by decide) kw_47 rfl rfl dX2_place_146 ?_
    refine ww_iload_n hx hb dX2_place_149 rfl 1 rfl ?_
    refine ww_iload hx hb dX2_place_150 3 rfl ?_
    obtain ⟨σ_8, e_8, h⟩ := lt_e h
    refine ww_callN (ws1 := WC q cA σ_8) (st1 := []) hx hb hml hown hts hK hN hA (hDD _) (Nat.zero_le _) (Nat.zero_le _) [.ref (q 11), .int (x1), .int (x5)] [] (m_put (by decide) _ _ _ _ e_8) cs_X2_83 rfl (by decide) rfl (Nat.le_of_ble_eq_true rfl) dX2_place_152 rfl ?_
    obtain rfl := os1 h
    exact ww_vret hx hb hr hlk dX2_place_155
  have bk118 : ∀ (τ : SS) (x1 : Int32) (x2 : Int32) (x3 : Int32) (x4 : Int32), X2_place_b118 τ x1 x2 x3 x4 = some σ1 → WW p l e (rmc 3 120 0 0) s m args below meth c D vwCl (va_A (WC q cA σ) s.heap.size) 7 0 0 (MQ below (qcW D vwCl (WC q cA σ) (WC q cA σ1) none s.heap.size) args s 0 0 (va_A (WC q cA σ) s.heap.size)) (WC q cA τ) 118 [(0, .ref (q 1)), (1, .int (x1)), (2, .int (x2)), (3, .int (x3)), (4, .int (x4))] [] := by
    intro τ x1 x2 x3 x4 h
    unfold X2_place_b118 at h
    refine ww_iinc (i := 4) (k := 4) (v := 1) (lv1 := [(0, .ref (q 1)), (1, .int (x1)), (2, .int (x2)), (3, .int (x3)), (4, .int (x4 + 1))]) hx hb dX2_place_118 rfl (by decide) (by decide) [1, 2, 3, 4, 0] rfl ?_
    refine ww_aload_n hx hb dX2_place_121 rfl 0 rfl ?_
    refine ww_iload hx hb dX2_place_122 4 rfl ?_
    refine ww_callS (ws1 := WC q cA τ) (st1 := [.int (X2_startOf (x4 + 1)), .ref (q 1)]) hx hb hml hown hts hK hN hA (hDD _) (Nat.zero_le _) (Nat.zero_le _) [.int (x4 + 1)] [.ref (q 1)] (m_X2_startOf τ (x4 + 1)) cs_X2_151 rfl (by decide) rfl (Nat.le_of_ble_eq_true rfl) dX2_place_124 rfl ?_
    refine ww_iload_n hx hb dX2_place_127 rfl 1 rfl ?_
    refine ww_iload hx hb dX2_place_128 4 rfl ?_
    refine ww_iload_n hx hb dX2_place_130 rfl 3 rfl ?_
    obtain ⟨r_9, e_9, h⟩ := ob h
    refine ww_callV (ws1 := WC q cA τ) (st1 := [.int (r_9)]) hx hb hml hown hts hK hN hA (hDD _) (Nat.zero_le _) (Nat.zero_le _) [.int (X2_startOf (x4 + 1)), .int (x1), .int (x4 + 1), .int (x3)] [] (m_X2_beginFrom _ _ _ _ _ _ e_9) cs_X2_157 rfl (by decide) 1 rfl rfl rfl (Nat.le_of_ble_eq_true rfl) dX2_place_131 rfl ?_
    refine ww_istore (i := 5) (lv1 := [(0, .ref (q 1)), (1, .int (x1)), (2, .int (x2)), (5, .int (r_9))]) hx hb dX2_place_134 (by decide) [1, 2, 3, 0] rfl ?_
    exact ww_sub (lv1 := [(0, .ref (q 1)), (1, .int (x1)), (2, .int (x2)), (5, .int (r_9))]) [0, 1, 2, 3] rfl (bk136 _ _ _ _ h)
  have bk83 : ∀ (τ : SS) (x1 : Int32) (x2 : Int32) (x3 : Int32) (x4 : Int32) (x5 : Int32), X2_place_b83 τ x1 x2 x3 x4 x5 = some σ1 → WW p l e (rmc 3 120 0 0) s m args below meth c D vwCl (va_A (WC q cA σ) s.heap.size) 7 0 0 (MQ below (qcW D vwCl (WC q cA σ) (WC q cA σ1) none s.heap.size) args s 0 0 (va_A (WC q cA σ) s.heap.size)) (WC q cA τ) 83 [(0, .ref (q 1)), (1, .int (x1)), (2, .int (x2)), (3, .int (x3)), (4, .int (x4)), (5, .int (x5))] [] := by
    intro τ x1 x2 x3 x4 x5 h
    unfold X2_place_b83 at h
    refine ww_aload_n hx hb dX2_place_83 rfl 0 rfl ?_
    refine ww_iload hx hb dX2_place_84 5 rfl ?_
    refine ww_iload_n hx hb dX2_place_86 rfl 1 rfl ?_
    refine ww_iload hx hb dX2_place_87 4 rfl ?_
    refine ww_iload_n hx hb dX2_place_89 rfl 3 rfl ?_
    obtain ⟨r_3, e_3, h⟩ := ob h
    refine ww_callV (ws1 := WC q cA τ) (st1 := [.int (r_3)]) hx hb hml hown hts hK hN hA (hDD _) (Nat.zero_le _) (Nat.zero_le _) [.int (x5), .int (x1), .int (x4), .int (x3)] [] (m_X2_beginFrom _ _ _ _ _ _ e_3) cs_X2_157 rfl (by decide) 1 rfl rfl rfl (Nat.le_of_ble_eq_true rfl) dX2_place_90 rfl ?_
    refine ww_istore (i := 5) (lv1 := [(0, .ref (q 1)), (1, .int (x1)), (2, .int (x2)), (3, .int (x3)), (4, .int (x4)), (5, .int (r_3))]) hx hb dX2_place_93 (by decide) [1, 2, 3, 4, 5, 0] rfl ?_
    refine ww_aload_n hx hb dX2_place_95 rfl 0 rfl ?_
    refine ww_iload_n hx hb dX2_place_96 rfl 1 rfl ?_
    refine ww_iload hx hb dX2_place_97 5 rfl ?_
    refine ww_iload hx hb dX2_place_99 4 rfl ?_
    refine ww_callV (ws1 := WC q cA τ) (st1 := [.int (X2_endsInTime τ x1 r_3 x4)]) hx hb hml hown hts hK hN hA (hDD _) (Nat.zero_le _) (Nat.zero_le _) [.int (x1), .int (r_3), .int (x4)] [] (m_X2_endsInTime τ x1 r_3 x4) cs_X2_161 rfl (by decide) 1 rfl rfl rfl (Nat.le_of_ble_eq_true rfl) dX2_place_101 rfl ?_
    refine ww_eq0 (tgt := 118) hx hb dX2_place_104 (by decide) (fun c_4 => ?_) (fun c_4 => ?_)
    · replace h := it_p c_4 h
      exact ww_sub (lv1 := [(0, .ref (q 1)), (1, .int (x1)), (2, .int (x2)), (3, .int (x3)), (4, .int (x4))]) [0, 1, 2, 3, 4] rfl (bk118 _ _ _ _ _ h)
    · replace h := it_n c_4 h
      refine ww_aload_n hx hb dX2_place_107 rfl 0 rfl ?_
      refine ww_iload_n hx hb dX2_place_108 rfl 1 rfl ?_
      refine ww_iload hx hb dX2_place_109 4 rfl ?_
      refine ww_iload_n hx hb dX2_place_111 rfl 3 rfl ?_
      obtain ⟨r_5, e_5, h⟩ := ob h
      refine ww_callV (ws1 := WC q cA τ) (st1 := [.int (r_5)]) hx hb hml hown hts hK hN hA (hDD _) (Nat.zero_le _) (Nat.zero_le _) [.int (x1), .int (x4), .int (x3)] [] (m_X2_isFitForChildren _ _ _ _ _ e_5) cs_X2_164 rfl (by decide) 1 rfl rfl rfl (Nat.le_of_ble_eq_true rfl) dX2_place_112 rfl ?_
      refine ww_ne0 (tgt := 136) hx hb dX2_place_115 (by decide) (fun c_6 => ?_) (fun c_6 => ?_)
      · replace h := it_n c_6 h
        exact ww_sub (lv1 := [(0, .ref (q 1)), (1, .int (x1)), (2, .int (x2)), (5, .int (r_3))]) [0, 1, 2, 5] rfl (bk136 _ _ _ _ h)
      · replace h := it_p c_6 h
        exact ww_sub (lv1 := [(0, .ref (q 1)), (1, .int (x1)), (2, .int (x2)), (3, .int (x3)), (4, .int (x4))]) [0, 1, 2, 3, 4] rfl (bk118 _ _ _ _ _ h)
  have bk80 : ∀ (τ : SS) (x1 : Int32) (x2 : Int32) (x3 : Int32) (x4 : Int32) (y0 : Int32) (y1 : Int32), X2_place_b80 τ x1 x2 x3 x4 y0 y1 = some σ1 → WW p l e (rmc 3 120 0 0) s m args below meth c D vwCl (va_A (WC q cA σ) s.heap.size) 7 0 0 (MQ below (qcW D vwCl (WC q cA σ) (WC q cA σ1) none s.heap.size) args s 0 0 (va_A (WC q cA σ) s.heap.size)) (WC q cA τ) 80 [(0, .ref (q 1)), (1, .int (x1)), (2, .int (x2)), (3, .int (x3)), (4, .int (x4))] [.int (y1), .int (y0)] := by
    intro τ x1 x2 x3 x4 y0 y1 h
    unfold X2_place_b80 at h
    refine ww_iadd hx hb dX2_place_80 ?_
    refine ww_istore (i := 5) (lv1 := [(0, .ref (q 1)), (1, .int (x1)), (2, .int (x2)), (3, .int (x3)), (4, .int (x4)), (5, .int (y0 + y1))]) hx hb dX2_place_81 (by decide) [1, 2, 3, 4, 5, 0] rfl ?_
    exact ww_sub (lv1 := [(0, .ref (q 1)), (1, .int (x1)), (2, .int (x2)), (3, .int (x3)), (4, .int (x4)), (5, .int (y0 + y1))]) [0, 1, 2, 3, 4, 5] rfl (bk83 _ _ _ _ _ _ h)
  refine ww_sub (lv1 := [(0, .ref (q 1)), (1, .int (x1)), (2, .int (x2)), (3, .int (x3))]) [0, 1, 2, 3] rfl ?_
  refine ww_aload_n hx hb dX2_place_0 rfl 0 rfl ?_
  refine ww_get (C := RX2) (T := TX2) (N := 8) hx hb hown hts hK inA2 1 rfl rfl 6 (by decide) kw_54 rfl rfl dX2_place_1 ?_
  refine ww_istore (i := 4) (lv1 := [(0, .ref (q 1)), (1, .int (x1)), (2, .int (x2)), (3, .int (x3)), (4, .int (σ 1 6))]) hx hb dX2_place_4 (by decide) [1, 2, 3, 4, 0] rfl ?_
  refine ww_iload hx hb dX2_place_6 4 rfl ?_
  refine ww_callS (ws1 := WC q cA σ) (st1 := [.int (X2_startOf (σ 1 6))]) hx hb hml hown hts hK hN hA (hDD _) (Nat.zero_le _) (Nat.zero_le _) [.int (σ 1 6)] [] (m_X2_startOf σ (σ 1 6)) cs_X2_151 rfl (by decide) rfl (Nat.le_of_ble_eq_true rfl) dX2_place_8 rfl ?_
  refine ww_istore (i := 5) (lv1 := [(0, .ref (q 1)), (1, .int (x1)), (2, .int (x2)), (3, .int (x3)), (4, .int (σ 1 6)), (5, .int (X2_startOf (σ 1 6)))]) hx hb dX2_place_11 (by decide) [1, 2, 3, 4, 5, 0] rfl ?_
  refine ww_iload_n hx hb dX2_place_13 rfl 2 rfl ?_
  refine ww_le0 (tgt := 83) hx hb dX2_place_14 (by decide) (fun c_1 => ?_) (fun c_1 => ?_)
  · replace h := it_p c_1 h
    exact ww_sub (lv1 := [(0, .ref (q 1)), (1, .int (x1)), (2, .int (x2)), (3, .int (x3)), (4, .int (σ 1 6)), (5, .int (X2_startOf (σ 1 6)))]) [0, 1, 2, 3, 4, 5] rfl (bk83 _ _ _ _ _ _ h)
  · replace h := it_n c_1 h
    refine ww_aload_n hx hb dX2_place_17 rfl 0 rfl ?_
    refine ww_get (C := RX2) (T := TX2) (N := 8) hx hb hown hts hK inA2 1 rfl rfl 1 (by decide) kw_48 rfl rfl dX2_place_18 ?_
    refine ww_iload_n hx hb dX2_place_21 rfl 2 rfl ?_
    refine ww_iconst (v := 1) hx hb dX2_place_22 (by decide) ?_
    refine ww_isub hx hb dX2_place_23 ?_
    refine ww_callN (ws1 := WC q cA σ) (st1 := [.int (fat σ 10 8 (x2 - (1 : Int32)))]) hx hb hml hown hts hK hN hA (hDD _) (Nat.zero_le _) (Nat.zero_le _) [.ref (q 10), .int (x2 - (1 : Int32))] [] (m_at (by decide) σ (x2 - (1 : Int32))) cs_X2_54 rfl (by decide) rfl (Nat.le_of_ble_eq_true rfl) dX2_place_24 rfl ?_
    refine ww_istore (i := 6) (lv1 := [(0, .ref (q 1)), (1, .int (x1)), (2, .int (x2)), (3, .int (x3)), (6, .int (fat σ 10 8 (x2 - (1 : Int32))))]) hx hb dX2_place_27 (by decide) [1, 2, 3, 4, 0] rfl ?_
    refine ww_aload_n hx hb dX2_place_29 rfl 0 rfl ?_
    refine ww_get (C := RX2) (T := TX2) (N := 8) hx hb hown hts hK inA2 1 rfl rfl 2 (by decide) kw_47 rfl rfl dX2_place_30 ?_
    refine ww_iload hx hb dX2_place_33 4 rfl ?_
    refine ww_callN (ws1 := WC q cA σ) (st1 := [.int (fat σ 11 8 (fat σ 10 8 (x2 - (1 : Int32))))]) hx hb hml hown hts hK hN hA (hDD _) (Nat.zero_le _) (Nat.zero_le _) [.ref (q 11), .int (fat σ 10 8 (x2 - (1 : Int32)))] [] (m_at (by decide) σ (fat σ 10 8 (x2 - (1 : Int32)))) cs_X2_54 rfl (by decide) rfl (Nat.le_of_ble_eq_true rfl) dX2_place_35 rfl ?_
    refine ww_callS (ws1 := WC q cA σ) (st1 := [.int (X2_dayOf (fat σ 11 8 (fat σ 10 8 (x2 - (1 : Int32)))))]) hx hb hml hown hts hK hN hA (hDD _) (Nat.zero_le _) (Nat.zero_le _) [.int (fat σ 11 8 (fat σ 10 8 (x2 - (1 : Int32))))] [] (m_X2_dayOf σ (fat σ 11 8 (fat σ 10 8 (x2 - (1 : Int32))))) cs_X2_58 rfl (by decide) rfl (Nat.le_of_ble_eq_true rfl) dX2_place_38 rfl ?_
    refine ww_istore (i := 4) (lv1 := [(0, .ref (q 1)), (1, .int (x1)), (2, .int (x2)), (3, .int (x3)), (4, .int (X2_dayOf (fat σ 11 8 (fat σ 10 8 (x2 - (1 : Int32)))))), (6, .int (fat σ 10 8 (x2 - (1 : Int32))))]) hx hb dX2_place_41 (by decide) [1, 2, 3, 4, 0, 5] rfl ?_
    refine ww_aload_n hx hb dX2_place_43 rfl 0 rfl ?_
    refine ww_iload hx hb dX2_place_44 5 rfl ?_
    refine ww_callV (ws1 := WC q cA σ) (st1 := [.int (X2_endOf σ (fat σ 10 8 (x2 - (1 : Int32))))]) hx hb hml hown hts hK hN hA (hDD _) (Nat.zero_le _) (Nat.zero_le _) [.int (fat σ 10 8 (x2 - (1 : Int32)))] [] (m_X2_endOf σ (fat σ 10 8 (x2 - (1 : Int32)))) cs_X2_124 rfl (by decide) 1 rfl rfl rfl (Nat.le_of_ble_eq_true rfl) dX2_place_46 rfl ?_
    refine ww_aload_n hx hb dX2_place_49 rfl 0 rfl ?_
    refine ww_get (C := RX2) (T := TX2) (N := 8) hx hb hown hts hK inA2 1 rfl rfl 0 (by decide) kw_66 rfl rfl dX2_place_50 ?_
    refine ww_get (C := RX3) (T := TX3) (N := 9) hx hb hown hts hK inA3 2 rfl rfl 1 (by decide) kw_91 rfl rfl dX2_place_53 ?_
    refine ww_iload hx hb dX2_place_56 5 rfl ?_
    refine ww_callN (ws1 := WC q cA σ) (st1 := [.int (fat σ 6 8 (fat σ 10 8 (x2 - (1 : Int32)))), .int (X2_endOf σ (fat σ 10 8 (x2 - (1 : Int32))))]) hx hb hml hown hts hK hN hA (hDD _) (Nat.zero_le _) (Nat.zero_le _) [.ref (q 6), .int (fat σ 10 8 (x2 - (1 : Int32)))] [.int (X2_endOf σ (fat σ 10 8 (x2 - (1 : Int32))))] (m_at (by decide) σ (fat σ 10 8 (x2 - (1 : Int32)))) cs_X2_54 rfl (by decide) rfl (Nat.le_of_ble_eq_true rfl) dX2_place_58 rfl ?_
    refine ww_aload_n hx hb dX2_place_61 rfl 0 rfl ?_
    refine ww_get (C := RX2) (T := TX2) (N := 8) hx hb hown hts hK inA2 1 rfl rfl 0 (by decide) kw_66 rfl rfl dX2_place_62 ?_
    refine ww_get (C := RX3) (T := TX3) (N := 9) hx hb hown hts hK inA3 2 rfl rfl 1 (by decide) kw_91 rfl rfl dX2_place_65 ?_
    refine ww_iload_n hx hb dX2_place_68 rfl 1 rfl ?_
    refine ww_callN (ws1 := WC q cA σ) (st1 := [.int (fat σ 6 8 x1), .int (fat σ 6 8 (fat σ 10 8 (x2 - (1 : Int32)))), .int (X2_endOf σ (fat σ 10 8 (x2 - (1 : Int32))))]) hx hb hml hown hts hK hN hA (hDD _) (Nat.zero_le _) (Nat.zero_le _) [.ref (q 6), .int (x1)] [.int (fat σ 6 8 (fat σ 10 8 (x2 - (1 : Int32)))), .int (X2_endOf σ (fat σ 10 8 (x2 - (1 : Int32))))] (m_at (by decide) σ x1) cs_X2_54 rfl (by decide) rfl (Nat.le_of_ble_eq_true rfl) dX2_place_69 rfl ?_
    refine ww_ne2 (tgt := 79) hx hb dX2_place_72 (by decide) (fun c_2 => ?_) (fun c_2 => ?_)
    · replace h := it_n c_2 h
      refine ww_iconst (v := 1) hx hb dX2_place_79 (by decide) ?_
      exact ww_sub (lv1 := [(0, .ref (q 1)), (1, .int (x1)), (2, .int (x2)), (3, .int (x3)), (4, .int (X2_dayOf (fat σ 11 8 (fat σ 10 8 (x2 - (1 : Int32))))))]) [0, 1, 2, 3, 4] rfl (bk80 _ _ _ _ _ _ _ h)
    · replace h := it_p c_2 h
      refine ww_iconst (v := 0) hx hb dX2_place_75 (by decide) ?_
      refine ww_goto (tgt := 80) hx hb dX2_place_76 (by decide) ?_
      exact ww_sub (lv1 := [(0, .ref (q 1)), (1, .int (x1)), (2, .int (x2)), (3, .int (x3)), (4, .int (X2_dayOf (fat σ 11 8 (fat σ 10 8 (x2 - (1 : Int32))))))]) [0, 1, 2, 3, 4] rfl (bk80 _ _ _ _ _ _ _ h)
set_option maxHeartbeats 4000000 in
set_option maxRecDepth 100000 in
theorem m_X3_hoursOf (σ : SS) (x1 : Int32) (r : Int32) (h : X3_hoursOf σ x1 = some r) : Ct l yX3_hoursOf cX3_hoursOf 4 (some .int) 1 40 D vwCl [(cA, .int)] (WC q cA σ) (WC q cA σ) [.ref (q 2), .int (x1)] (some (.int r)) := by
  refine ct_of (by decide +kernel) (Nat.le_of_ble_eq_true rfl) ?_
  intro p e s m args below meth c hx hb hr hlk hml hown hts hK hD hN hA
  have hown : s.vm.findClass RX3 = some m.cls := hown
  have hDD : ∀ τ : SS, va_D (va_A (WC q cA σ) s.heap.size) (WC q cA τ) := fun τ => hD.adr rfl
  unfold X3_hoursOf at h
  have lp4 : ∀ (n : Nat) (x1 : Int32) (x2 : Int32) (x3 : Int32), X3_hoursOf_l4 n σ x1 x2 x3 = some r → WW p l e (rmc 1 40 0 0) s m args below meth c D vwCl (va_A (WC q cA σ) s.heap.size) 4 0 0 (MQ below (qcW D vwCl (WC q cA σ) (WC q cA σ) (some (.int r)) s.heap.size) args s 0 0 (va_A (WC q cA σ) s.heap.size)) (WC q cA σ) 4 [(0, .ref (q 2)), (1, .int (x1)), (2, .int (x2)), (3, .int (x3))] [] := by
    intro n
    induction n with
    | zero => intro x1 x2 x3 h; rw [X3_hoursOf_l4] at h; cases h
    | succ n ih =>
      have bk31 : ∀ (x1 : Int32) (x2 : Int32) (x3 : Int32), X3_hoursOf_b31 (X3_hoursOf_l4 n) σ x1 x2 x3 = some r → WW p l e (rmc 1 40 0 0) s m args below meth c D vwCl (va_A (WC q cA σ) s.heap.size) 4 0 0 (MQ below (qcW D vwCl (WC q cA σ) (WC q cA σ) (some (.int r)) s.heap.size) args s 0 0 (va_A (WC q cA σ) s.heap.size)) (WC q cA σ) 31 [(0, .ref (q 2)), (1, .int (x1)), (2, .int (x2)), (3, .int (x3))] [] := by
        intro x1 x2 x3 h
        unfold X3_hoursOf_b31 at h
        refine ww_iinc (i := 3) (k := 3) (v := 1) (lv1 := [(0, .ref (q 2)), (1, .int (x1)), (2, .int (x2)), (3, .int (x3 + 1))]) hx hb dX3_hoursOf_31 rfl (by decide) (by decide) [1, 2, 3, 0] rfl ?_
        refine ww_goto (tgt := 4) hx hb dX3_hoursOf_34 (by decide) ?_
        exact ww_sub (lv1 := [(0, .ref (q 2)), (1, .int (x1)), (2, .int (x2)), (3, .int (x3 + 1))]) [0, 1, 2, 3] rfl (ih _ _ _ h)
      intro x1 x2 x3 h
      rw [X3_hoursOf_l4] at h
      refine ww_iload_n hx hb dX3_hoursOf_4 rfl 3 rfl ?_
      refine ww_aload_n hx hb dX3_hoursOf_5 rfl 0 rfl ?_
      refine ww_get (C := RX3) (T := TX3) (N := 9) hx hb hown hts hK inA3 2 rfl rfl 5 (by decide) kw_0 rfl rfl dX3_hoursOf_6 ?_
      refine ww_ge2 (tgt := 37) hx hb dX3_hoursOf_9 (by decide) (fun c_1 => ?_) (fun c_1 => ?_)
      · replace h := it_p c_1 h
        refine ww_iload_n hx hb dX3_hoursOf_37 rfl 2 rfl ?_
        obtain rfl := os1 h
        exact ww_iret hx hb hr hlk rfl dX3_hoursOf_38
      · replace h := it_n c_1 h
        refine ww_iload_n hx hb dX3_hoursOf_12 rfl 1 rfl ?_
        refine ww_iload_n hx hb dX3_hoursOf_13 rfl 3 rfl ?_
        refine ww_callN (ws1 := WC q cA σ) (st1 := [.int (X4_isIn x1 x3)]) hx hb hml hown hts hK hN hA (hDD _) (Nat.zero_le _) (Nat.zero_le _) [.int (x1), .int (x3)] [] (m_X4_isIn σ x1 x3) cs_X3_44 rfl (by decide) rfl (Nat.le_of_ble_eq_true rfl) dX3_hoursOf_14 rfl ?_
        refine ww_eq0 (tgt := 31) hx hb dX3_hoursOf_17 (by decide) (fun c_2 => ?_) (fun c_2 => ?_)
        · replace h := it_p c_2 h
          exact ww_sub (lv1 := [(0, .ref (q 2)), (1, .int (x1)), (2, .int (x2)), (3, .int (x3))]) [0, 1, 2, 3] rfl (bk31 _ _ _ h)
        · replace h := it_n c_2 h
          refine ww_iload_n hx hb dX3_hoursOf_20 rfl 2 rfl ?_
          refine ww_aload_n hx hb dX3_hoursOf_21 rfl 0 rfl ?_
          refine ww_get (C := RX3) (T := TX3) (N := 9) hx hb hown hts hK inA3 2 rfl rfl 0 (by decide) kw_2 rfl rfl dX3_hoursOf_22 ?_
          refine ww_iload_n hx hb dX3_hoursOf_25 rfl 3 rfl ?_
          refine ww_callN (ws1 := WC q cA σ) (st1 := [.int (fat σ 5 8 x3), .int (x2)]) hx hb hml hown hts hK hN hA (hDD _) (Nat.zero_le _) (Nat.zero_le _) [.ref (q 5), .int (x3)] [.int (x2)] (m_at (by decide) σ x3) cs_X3_48 rfl (by decide) rfl (Nat.le_of_ble_eq_true rfl) dX3_hoursOf_26 rfl ?_
          refine ww_iadd hx hb dX3_hoursOf_29 ?_
          refine ww_istore_n (i := 2) (lv1 := [(0, .ref (q 2)), (1, .int (x1)), (2, .int (x2 + (fat σ 5 8 x3))), (3, .int (x3))]) hx hb dX3_hoursOf_30 rfl (by decide) [1, 2, 0, 3] rfl ?_
          exact ww_sub (lv1 := [(0, .ref (q 2)), (1, .int (x1)), (2, .int (x2 + (fat σ 5 8 x3))), (3, .int (x3))]) [0, 1, 2, 3] rfl (bk31 _ _ _ h)
  refine ww_sub (lv1 := [(0, .ref (q 2)), (1, .int (x1))]) [0, 1] rfl ?_
  refine ww_iconst (v := 0) hx hb dX3_hoursOf_0 (by decide) ?_
  refine ww_istore_n (i := 2) (lv1 := [(0, .ref (q 2)), (1, .int (x1)), (2, .int ((0 : Int32)))]) hx hb dX3_hoursOf_1 rfl (by decide) [1, 2, 0] rfl ?_
  refine ww_iconst (v := 0) hx hb dX3_hoursOf_2 (by decide) ?_
  refine ww_istore_n (i := 3) (lv1 := [(0, .ref (q 2)), (1, .int (x1)), (2, .int ((0 : Int32))), (3, .int ((0 : Int32)))]) hx hb dX3_hoursOf_3 rfl (by decide) [1, 2, 3, 0] rfl ?_
  exact ww_sub (lv1 := [(0, .ref (q 2)), (1, .int (x1)), (2, .int ((0 : Int32))), (3, .int ((0 : Int32)))]) [0, 1, 2, 3] rfl (lp4 _ _ _ _ h)
set_option maxHeartbeats 4000000 in
set_option maxRecDepth 100000 in
theorem m_X2_hoursIn (σ : SS) (x1 x2 : Int32) (r : Int32) (h : X2_hoursIn σ x1 x2 = some r) : Ct l yX2_hoursIn cX2_hoursIn 5 (some .int) 1 40 D vwCl [(cA, .int)] (WC q cA σ) (WC q cA σ) [.ref (q 1), .int (x1), .int (x2)] (some (.int r)) := by
  refine ct_of (by decide +kernel) (Nat.le_of_ble_eq_true rfl) ?_
  intro p e s m args below meth c hx hb hr hlk hml hown hts hK hD hN hA
  have hown : s.vm.findClass RX2 = some m.cls := hown
  have hDD : ∀ τ : SS, va_D (va_A (WC q cA σ) s.heap.size) (WC q cA τ) := fun τ => hD.adr rfl
  unfold X2_hoursIn at h
  have lp5 : ∀ (n : Nat) (x1 : Int32) (x2 : Int32) (x3 : Int32) (x4 : Int32), X2_hoursIn_l5 n σ x1 x2 x3 x4 = some r → WW p l e (rmc 1 40 0 0) s m args below meth c D vwCl (va_A (WC q cA σ) s.heap.size) 5 0 0 (MQ below (qcW D vwCl (WC q cA σ) (WC q cA σ) (some (.int r)) s.heap.size) args s 0 0 (va_A (WC q cA σ) s.heap.size)) (WC q cA σ) 5 [(0, .ref (q 1)), (1, .int (x1)), (2, .int (x2)), (3, .int (x3)), (4, .int (x4))] [] := by
    intro n
    induction n with
    | zero => intro x1 x2 x3 x4 h; rw [X2_hoursIn_l5] at h; cases h
    | succ n ih =>
      have bk57 : ∀ (x1 : Int32) (x2 : Int32) (x3 : Int32) (x4 : Int32), X2_hoursIn_b57 (X2_hoursIn_l5 n) σ x1 x2 x3 x4 = some r → WW p l e (rmc 1 40 0 0) s m args below meth c D vwCl (va_A (WC q cA σ) s.heap.size) 5 0 0 (MQ below (qcW D vwCl (WC q cA σ) (WC q cA σ) (some (.int r)) s.heap.size) args s 0 0 (va_A (WC q cA σ) s.heap.size)) (WC q cA σ) 57 [(0, .ref (q 1)), (1, .int (x1)), (2, .int (x2)), (3, .int (x3)), (4, .int (x4))] [] := by
        intro x1 x2 x3 x4 h
        unfold X2_hoursIn_b57 at h
        refine ww_iinc (i := 4) (k := 4) (v := 1) (lv1 := [(0, .ref (q 1)), (1, .int (x1)), (2, .int (x2)), (3, .int (x3)), (4, .int (x4 + 1))]) hx hb dX2_hoursIn_57 rfl (by decide) (by decide) [1, 2, 3, 4, 0] rfl ?_
        refine ww_goto (tgt := 5) hx hb dX2_hoursIn_60 (by decide) ?_
        exact ww_sub (lv1 := [(0, .ref (q 1)), (1, .int (x1)), (2, .int (x2)), (3, .int (x3)), (4, .int (x4 + 1))]) [0, 1, 2, 3, 4] rfl (ih _ _ _ _ h)
      intro x1 x2 x3 x4 h
      rw [X2_hoursIn_l5] at h
      refine ww_iload hx hb dX2_hoursIn_5 4 rfl ?_
      refine ww_aload_n hx hb dX2_hoursIn_7 rfl 0 rfl ?_
      refine ww_get (C := RX2) (T := TX2) (N := 8) hx hb hown hts hK inA2 1 rfl rfl 0 (by decide) kw_66 rfl rfl dX2_hoursIn_8 ?_
      refine ww_get (C := RX3) (T := TX3) (N := 9) hx hb hown hts hK inA3 2 rfl rfl 5 (by decide) kw_73 rfl rfl dX2_hoursIn_11 ?_
      refine ww_ge2 (tgt := 63) hx hb dX2_hoursIn_14 (by decide) (fun c_1 => ?_) (fun c_1 => ?_)
      · replace h := it_p c_1 h
        refine ww_iload_n hx hb dX2_hoursIn_63 rfl 3 rfl ?_
        obtain rfl := os1 h
        exact ww_iret hx hb hr hlk rfl dX2_hoursIn_64
      · replace h := it_n c_1 h
        refine ww_iload_n hx hb dX2_hoursIn_17 rfl 1 rfl ?_
        refine ww_iload hx hb dX2_hoursIn_18 4 rfl ?_
        refine ww_callN (ws1 := WC q cA σ) (st1 := [.int (X4_isIn x1 x4)]) hx hb hml hown hts hK hN hA (hDD _) (Nat.zero_le _) (Nat.zero_le _) [.int (x1), .int (x4)] [] (m_X4_isIn σ x1 x4) cs_X2_80 rfl (by decide) rfl (Nat.le_of_ble_eq_true rfl) dX2_hoursIn_20 rfl ?_
        refine ww_eq0 (tgt := 57) hx hb dX2_hoursIn_23 (by decide) (fun c_2 => ?_) (fun c_2 => ?_)
        · replace h := it_p c_2 h
          exact ww_sub (lv1 := [(0, .ref (q 1)), (1, .int (x1)), (2, .int (x2)), (3, .int (x3)), (4, .int (x4))]) [0, 1, 2, 3, 4] rfl (bk57 _ _ _ _ h)
        · replace h := it_n c_2 h
          refine ww_aload_n hx hb dX2_hoursIn_26 rfl 0 rfl ?_
          refine ww_get (C := RX2) (T := TX2) (N := 8) hx hb hown hts hK inA2 1 rfl rfl 0 (by decide) kw_66 rfl rfl dX2_hoursIn_27 ?_
          refine ww_get (C := RX3) (T := TX3) (N := 9) hx hb hown hts hK inA3 2 rfl rfl 3 (by decide) kw_68 rfl rfl dX2_hoursIn_30 ?_
          refine ww_iload hx hb dX2_hoursIn_33 4 rfl ?_
          refine ww_callN (ws1 := WC q cA σ) (st1 := [.int (fat σ 8 8 x4)]) hx hb hml hown hts hK hN hA (hDD _) (Nat.zero_le _) (Nat.zero_le _) [.ref (q 8), .int (x4)] [] (m_at (by decide) σ x4) cs_X2_54 rfl (by decide) rfl (Nat.le_of_ble_eq_true rfl) dX2_hoursIn_35 rfl ?_
          refine ww_iload_n hx hb dX2_hoursIn_38 rfl 2 rfl ?_
          refine ww_ne2 (tgt := 57) hx hb dX2_hoursIn_39 (by decide) (fun c_3 => ?_) (fun c_3 => ?_)
          · replace h := it_n c_3 h
            exact ww_sub (lv1 := [(0, .ref (q 1)), (1, .int (x1)), (2, .int (x2)), (3, .int (x3)), (4, .int (x4))]) [0, 1, 2, 3, 4] rfl (bk57 _ _ _ _ h)
          · replace h := it_p c_3 h
            refine ww_iload_n hx hb dX2_hoursIn_42 rfl 3 rfl ?_
            refine ww_aload_n hx hb dX2_hoursIn_43 rfl 0 rfl ?_
            refine ww_get (C := RX2) (T := TX2) (N := 8) hx hb hown hts hK inA2 1 rfl rfl 0 (by decide) kw_66 rfl rfl dX2_hoursIn_44 ?_
            refine ww_get (C := RX3) (T := TX3) (N := 9) hx hb hown hts hK inA3 2 rfl rfl 0 (by decide) kw_67 rfl rfl dX2_hoursIn_47 ?_
            refine ww_iload hx hb dX2_hoursIn_50 4 rfl ?_
            refine ww_callN (ws1 := WC q cA σ) (st1 := [.int (fat σ 5 8 x4), .int (x3)]) hx hb hml hown hts hK hN hA (hDD _) (Nat.zero_le _) (Nat.zero_le _) [.ref (q 5), .int (x4)] [.int (x3)] (m_at (by decide) σ x4) cs_X2_54 rfl (by decide) rfl (Nat.le_of_ble_eq_true rfl) dX2_hoursIn_52 rfl ?_
            refine ww_iadd hx hb dX2_hoursIn_55 ?_
            refine ww_istore_n (i := 3) (lv1 := [(0, .ref (q 1)), (1, .int (x1)), (2, .int (x2)), (3, .int (x3 + (fat σ 5 8 x4))), (4, .int (x4))]) hx hb dX2_hoursIn_56 rfl (by decide) [1, 2, 3, 0, 4] rfl ?_
            exact ww_sub (lv1 := [(0, .ref (q 1)), (1, .int (x1)), (2, .int (x2)), (3, .int (x3 + (fat σ 5 8 x4))), (4, .int (x4))]) [0, 1, 2, 3, 4] rfl (bk57 _ _ _ _ h)
  refine ww_sub (lv1 := [(0, .ref (q 1)), (1, .int (x1)), (2, .int (x2))]) [0, 1, 2] rfl ?_
  refine ww_iconst (v := 0) hx hb dX2_hoursIn_0 (by decide) ?_
  refine ww_istore_n (i := 3) (lv1 := [(0, .ref (q 1)), (1, .int (x1)), (2, .int (x2)), (3, .int ((0 : Int32)))]) hx hb dX2_hoursIn_1 rfl (by decide) [1, 2, 3, 0] rfl ?_
  refine ww_iconst (v := 0) hx hb dX2_hoursIn_2 (by decide) ?_
  refine ww_istore (i := 4) (lv1 := [(0, .ref (q 1)), (1, .int (x1)), (2, .int (x2)), (3, .int ((0 : Int32))), (4, .int ((0 : Int32)))]) hx hb dX2_hoursIn_3 (by decide) [1, 2, 3, 4, 0] rfl ?_
  exact ww_sub (lv1 := [(0, .ref (q 1)), (1, .int (x1)), (2, .int (x2)), (3, .int ((0 : Int32))), (4, .int ((0 : Int32)))]) [0, 1, 2, 3, 4] rfl (lp5 _ _ _ _ _ h)
set_option maxHeartbeats 4000000 in
set_option maxRecDepth 100000 in
theorem m_X2_hasRoom (σ : SS) (x1 x2 x3 : Int32) (r : Int32) (h : X2_hasRoom σ x1 x2 x3 = some r) : Ct l yX2_hasRoom cX2_hasRoom 5 (some .boolean) 2 80 D vwCl [(cA, .int)] (WC q cA σ) (WC q cA σ) [.ref (q 1), .int (x1), .int (x2), .int (x3)] (some (.int r)) := by
  refine ct_of (by decide +kernel) (Nat.le_of_ble_eq_true rfl) ?_
  intro p e s m args below meth c hx hb hr hlk hml hown hts hK hD hN hA
  have hown : s.vm.findClass RX2 = some m.cls := hown
  have hDD : ∀ τ : SS, va_D (va_A (WC q cA σ) s.heap.size) (WC q cA τ) := fun τ => hD.adr rfl
  unfold X2_hasRoom at h
  refine ww_sub (lv1 := [(0, .ref (q 1)), (1, .int (x1)), (2, .int (x2)), (3, .int (x3))]) [0, 1, 2, 3] rfl ?_
  refine ww_aload_n hx hb dX2_hasRoom_0 rfl 0 rfl ?_
  refine ww_iload_n hx hb dX2_hasRoom_1 rfl 2 rfl ?_
  refine ww_callV (ws1 := WC q cA σ) (st1 := [.int (X2_endOf σ x2)]) hx hb hml hown hts hK hN hA (hDD _) (Nat.zero_le _) (Nat.zero_le _) [.int (x2)] [] (m_X2_endOf σ x2) cs_X2_124 rfl (by decide) 1 rfl rfl rfl (Nat.le_of_ble_eq_true rfl) dX2_hasRoom_2 rfl ?_
  refine ww_bipush (v := 24) hx hb dX2_hasRoom_5 (by decide) ?_
  refine ww_aload_n hx hb dX2_hasRoom_7 rfl 0 rfl ?_
  refine ww_get (C := RX2) (T := TX2) (N := 8) hx hb hown hts hK inA2 1 rfl rfl 2 (by decide) kw_47 rfl rfl dX2_hasRoom_8 ?_
  refine ww_iload_n hx hb dX2_hasRoom_11 rfl 2 rfl ?_
  refine ww_callN (ws1 := WC q cA σ) (st1 := [.int (fat σ 11 8 x2), .int ((24 : Int32)), .int (X2_endOf σ x2)]) hx hb hml hown hts hK hN hA (hDD _) (Nat.zero_le _) (Nat.zero_le _) [.ref (q 11), .int (x2)] [.int ((24 : Int32)), .int (X2_endOf σ x2)] (m_at (by decide) σ x2) cs_X2_54 rfl (by decide) rfl (Nat.le_of_ble_eq_true rfl) dX2_hasRoom_12 rfl ?_
  refine ww_callS (ws1 := WC q cA σ) (st1 := [.int (X2_dayOf (fat σ 11 8 x2)), .int ((24 : Int32)), .int (X2_endOf σ x2)]) hx hb hml hown hts hK hN hA (hDD _) (Nat.zero_le _) (Nat.zero_le _) [.int (fat σ 11 8 x2)] [.int ((24 : Int32)), .int (X2_endOf σ x2)] (m_X2_dayOf σ (fat σ 11 8 x2)) cs_X2_58 rfl (by decide) rfl (Nat.le_of_ble_eq_true rfl) dX2_hasRoom_15 rfl ?_
  refine ww_imul hx hb dX2_hasRoom_18 ?_
  refine ww_isub hx hb dX2_hasRoom_19 ?_
  refine ww_istore (i := 4) (lv1 := [(0, .ref (q 1)), (1, .int (x1)), (3, .int (x3)), (4, .int ((X2_endOf σ x2) - ((24 : Int32) * (X2_dayOf (fat σ 11 8 x2)))))]) hx hb dX2_hasRoom_20 (by decide) [1, 2, 4, 0] rfl ?_
  refine ww_aload_n hx hb dX2_hasRoom_22 rfl 0 rfl ?_
  refine ww_get (C := RX2) (T := TX2) (N := 8) hx hb hown hts hK inA2 1 rfl rfl 0 (by decide) kw_66 rfl rfl dX2_hasRoom_23 ?_
  refine ww_iload_n hx hb dX2_hasRoom_26 rfl 1 rfl ?_
  obtain ⟨r_1, e_1, h⟩ := ob h
  refine ww_callV (ws1 := WC q cA σ) (st1 := [.int (r_1)]) hx hb hml hown hts hK hN hA (hDD _) (Nat.zero_le _) (Nat.zero_le _) [.int (x1)] [] (m_X3_hoursOf _ _ _ e_1) cs_X2_127 rfl (by decide) 2 rfl rfl rfl (Nat.le_of_ble_eq_true rfl) dX2_hasRoom_27 rfl ?_
  refine ww_bipush (v := 24) hx hb dX2_hasRoom_30 (by decide) ?_
  refine ww_iload hx hb dX2_hasRoom_32 3 rfl ?_
  refine ww_isub hx hb dX2_hasRoom_34 ?_
  refine ww_iload_n hx hb dX2_hasRoom_35 rfl 2 rfl ?_
  refine ww_bipush (v := 16) hx hb dX2_hasRoom_36 (by decide) ?_
  refine ww_imul hx hb dX2_hasRoom_38 ?_
  refine ww_iadd hx hb dX2_hasRoom_39 ?_
  refine ww_gt2 (tgt := 94) hx hb dX2_hasRoom_40 (by decide) (fun c_2 => ?_) (fun c_2 => ?_)
  · replace h := it_p c_2 h
    refine ww_iconst (v := 0) hx hb dX2_hasRoom_94 (by decide) ?_
    obtain rfl := os1 h
    exact ww_zret hx hb hr hlk (by decide) rfl dX2_hasRoom_95
  · replace h := it_n c_2 h
    refine ww_aload_n hx hb dX2_hasRoom_43 rfl 0 rfl ?_
    refine ww_iload_n hx hb dX2_hasRoom_44 rfl 1 rfl ?_
    refine ww_iconst (v := 1) hx hb dX2_hasRoom_45 (by decide) ?_
    obtain ⟨r_3, e_3, h⟩ := ob h
    refine ww_callV (ws1 := WC q cA σ) (st1 := [.int (r_3)]) hx hb hml hown hts hK hN hA (hDD _) (Nat.zero_le _) (Nat.zero_le _) [.int (x1), .int ((1 : Int32))] [] (m_X2_hoursIn _ _ _ _ e_3) cs_X2_130 rfl (by decide) 1 rfl rfl rfl (Nat.le_of_ble_eq_true rfl) dX2_hasRoom_46 rfl ?_
    refine ww_iconst (v := 0) hx hb dX2_hasRoom_49 (by decide) ?_
    refine ww_bipush (v := 18) hx hb dX2_hasRoom_50 (by decide) ?_
    refine ww_iload hx hb dX2_hasRoom_52 3 rfl ?_
    refine ww_isub hx hb dX2_hasRoom_54 ?_
    refine ww_max hx hb hml hown hts (Nat.zero_le _) (Nat.zero_le _) kw_69 kw_70 kw_71 kw_72 ⟨Nat.le_of_ble_eq_true rfl, Nat.le_of_ble_eq_true rfl⟩ dX2_hasRoom_55 ?_
    refine ww_iload_n hx hb dX2_hasRoom_58 rfl 2 rfl ?_
    refine ww_bipush (v := 10) hx hb dX2_hasRoom_59 (by decide) ?_
    refine ww_imul hx hb dX2_hasRoom_61 ?_
    refine ww_iadd hx hb dX2_hasRoom_62 ?_
    refine ww_gt2 (tgt := 94) hx hb dX2_hasRoom_63 (by decide) (fun c_4 => ?_) (fun c_4 => ?_)
    · replace h := it_p c_4 h
      refine ww_iconst (v := 0) hx hb dX2_hasRoom_94 (by decide) ?_
      obtain rfl := os1 h
      exact ww_zret hx hb hr hlk (by decide) rfl dX2_hasRoom_95
    · replace h := it_n c_4 h
      refine ww_aload_n hx hb dX2_hasRoom_66 rfl 0 rfl ?_
      refine ww_iload_n hx hb dX2_hasRoom_67 rfl 1 rfl ?_
      refine ww_iconst (v := 2) hx hb dX2_hasRoom_68 (by decide) ?_
      obtain ⟨r_5, e_5, h⟩ := ob h
      refine ww_callV (ws1 := WC q cA σ) (st1 := [.int (r_5)]) hx hb hml hown hts hK hN hA (hDD _) (Nat.zero_le _) (Nat.zero_le _) [.int (x1), .int ((2 : Int32))] [] (m_X2_hoursIn _ _ _ _ e_5) cs_X2_130 rfl (by decide) 1 rfl rfl rfl (Nat.le_of_ble_eq_true rfl) dX2_hasRoom_69 rfl ?_
      refine ww_bipush (v := 24) hx hb dX2_hasRoom_72 (by decide) ?_
      refine ww_bipush (v := 18) hx hb dX2_hasRoom_74 (by decide) ?_
      refine ww_iload hx hb dX2_hasRoom_76 3 rfl ?_
      refine ww_max hx hb hml hown hts (Nat.zero_le _) (Nat.zero_le _) kw_69 kw_70 kw_71 kw_72 ⟨Nat.le_of_ble_eq_true rfl, Nat.le_of_ble_eq_true rfl⟩ dX2_hasRoom_78 ?_
      refine ww_isub hx hb dX2_hasRoom_81 ?_
      refine ww_iload_n hx hb dX2_hasRoom_82 rfl 2 rfl ?_
      refine ww_bipush (v := 6) hx hb dX2_hasRoom_83 (by decide) ?_
      refine ww_imul hx hb dX2_hasRoom_85 ?_
      refine ww_iadd hx hb dX2_hasRoom_86 ?_
      refine ww_gt2 (tgt := 94) hx hb dX2_hasRoom_87 (by decide) (fun c_6 => ?_) (fun c_6 => ?_)
      · replace h := it_p c_6 h
        refine ww_iconst (v := 0) hx hb dX2_hasRoom_94 (by decide) ?_
        obtain rfl := os1 h
        exact ww_zret hx hb hr hlk (by decide) rfl dX2_hasRoom_95
      · replace h := it_n c_6 h
        refine ww_iconst (v := 1) hx hb dX2_hasRoom_90 (by decide) ?_
        refine ww_goto (tgt := 95) hx hb dX2_hasRoom_91 (by decide) ?_
        obtain rfl := os1 h
        exact ww_zret hx hb hr hlk (by decide) rfl dX2_hasRoom_95
set_option maxHeartbeats 4000000 in
set_option maxRecDepth 100000 in
theorem m_X2_hasRoomForChildren (σ : SS) (x1 x2 x3 x4 : Int32) (r : Int32) (h : X2_hasRoomForChildren σ x1 x2 x3 x4 = some r) : Ct l yX2_hasRoomForChildren cX2_hasRoomForChildren 7 (some .boolean) 2 80 D vwCl [(cA, .int)] (WC q cA σ) (WC q cA σ) [.ref (q 1), .int (x1), .int (x2), .int (x3), .int (x4)] (some (.int r)) := by
  refine ct_of (by decide +kernel) (Nat.le_of_ble_eq_true rfl) ?_
  intro p e s m args below meth c hx hb hr hlk hml hown hts hK hD hN hA
  have hown : s.vm.findClass RX2 = some m.cls := hown
  have hDD : ∀ τ : SS, va_D (va_A (WC q cA σ) s.heap.size) (WC q cA τ) := fun τ => hD.adr rfl
  unfold X2_hasRoomForChildren at h
  have lp16 : ∀ (n : Nat) (x1 : Int32) (x2 : Int32) (x4 : Int32) (x5 : Int32) (x6 : Int32), X2_hasRoomForChildren_l16 n σ x1 x2 x4 x5 x6 = some r → WW p l e (rmc 2 80 0 0) s m args below meth c D vwCl (va_A (WC q cA σ) s.heap.size) 7 0 0 (MQ below (qcW D vwCl (WC q cA σ) (WC q cA σ) (some (.int r)) s.heap.size) args s 0 0 (va_A (WC q cA σ) s.heap.size)) (WC q cA σ) 16 [(0, .ref (q 1)), (1, .int (x1)), (2, .int (x2)), (4, .int (x4)), (5, .int (x5)), (6, .int (x6))] [] := by
    intro n
    induction n with
    | zero => intro x1 x2 x4 x5 x6 h; rw [X2_hasRoomForChildren_l16] at h; cases h
    | succ n ih =>
      have bk71 : ∀ (x1 : Int32) (x2 : Int32) (x4 : Int32) (x5 : Int32) (x6 : Int32), X2_hasRoomForChildren_b71 (X2_hasRoomForChildren_l16 n) σ x1 x2 x4 x5 x6 = some r → WW p l e (rmc 2 80 0 0) s m args below meth c D vwCl (va_A (WC q cA σ) s.heap.size) 7 0 0 (MQ below (qcW D vwCl (WC q cA σ) (WC q cA σ) (some (.int r)) s.heap.size) args s 0 0 (va_A (WC q cA σ) s.heap.size)) (WC q cA σ) 71 [(0, .ref (q 1)), (1, .int (x1)), (2, .int (x2)), (4, .int (x4)), (5, .int (x5)), (6, .int (x6))] [] := by
        intro x1 x2 x4 x5 x6 h
        unfold X2_hasRoomForChildren_b71 at h
        refine ww_iinc (i := 6) (k := 5) (v := 1) (lv1 := [(0, .ref (q 1)), (1, .int (x1)), (2, .int (x2)), (4, .int (x4)), (5, .int (x5)), (6, .int (x6 + 1))]) hx hb dX2_hasRoomForChildren_71 rfl (by decide) (by decide) [1, 2, 3, 4, 5, 0] rfl ?_
        refine ww_goto (tgt := 16) hx hb dX2_hasRoomForChildren_74 (by decide) ?_
        exact ww_sub (lv1 := [(0, .ref (q 1)), (1, .int (x1)), (2, .int (x2)), (4, .int (x4)), (5, .int (x5)), (6, .int (x6 + 1))]) [0, 1, 2, 3, 4, 5] rfl (ih _ _ _ _ _ h)
      intro x1 x2 x4 x5 x6 h
      rw [X2_hasRoomForChildren_l16] at h
      refine ww_iload hx hb dX2_hasRoomForChildren_16 5 rfl ?_
      refine ww_bipush (v := 6) hx hb dX2_hasRoomForChildren_18 (by decide) ?_
      refine ww_ge2 (tgt := 77) hx hb dX2_hasRoomForChildren_20 (by decide) (fun c_1 => ?_) (fun c_1 => ?_)
      · replace h := it_p c_1 h
        refine ww_iconst (v := 1) hx hb dX2_hasRoomForChildren_77 (by decide) ?_
        obtain rfl := os1 h
        exact ww_zret hx hb hr hlk (by decide) rfl dX2_hasRoomForChildren_78
      · replace h := it_n c_1 h
        refine ww_aload_n hx hb dX2_hasRoomForChildren_23 rfl 0 rfl ?_
        refine ww_get (C := RX2) (T := TX2) (N := 8) hx hb hown hts hK inA2 1 rfl rfl 0 (by decide) kw_66 rfl rfl dX2_hasRoomForChildren_24 ?_
        refine ww_get (C := RX3) (T := TX3) (N := 9) hx hb hown hts hK inA3 2 rfl rfl 8 (by decide) kw_79 rfl rfl dX2_hasRoomForChildren_27 ?_
        refine ww_iload hx hb dX2_hasRoomForChildren_30 5 rfl ?_
        refine ww_callN (ws1 := WC q cA σ) (st1 := [.int (X4_isIn (σ 2 8) x6)]) hx hb hml hown hts hK hN hA (hDD _) (Nat.zero_le _) (Nat.zero_le _) [.int (σ 2 8), .int (x6)] [] (m_X4_isIn σ (σ 2 8) x6) cs_X2_80 rfl (by decide) rfl (Nat.le_of_ble_eq_true rfl) dX2_hasRoomForChildren_32 rfl ?_
        refine ww_eq0 (tgt := 71) hx hb dX2_hasRoomForChildren_35 (by decide) (fun c_2 => ?_) (fun c_2 => ?_)
        · replace h := it_p c_2 h
          exact ww_sub (lv1 := [(0, .ref (q 1)), (1, .int (x1)), (2, .int (x2)), (4, .int (x4)), (5, .int (x5)), (6, .int (x6))]) [0, 1, 2, 3, 4, 5] rfl (bk71 _ _ _ _ _ h)
        · replace h := it_n c_2 h
          refine ww_aload_n hx hb dX2_hasRoomForChildren_38 rfl 0 rfl ?_
          refine ww_iload hx hb dX2_hasRoomForChildren_39 5 rfl ?_
          refine ww_iload_n hx hb dX2_hasRoomForChildren_41 rfl 1 rfl ?_
          obtain ⟨r_3, e_3, h⟩ := ob h
          refine ww_callV (ws1 := WC q cA σ) (st1 := [.int (r_3)]) hx hb hml hown hts hK hN hA (hDD _) (Nat.zero_le _) (Nat.zero_le _) [.int (x6), .int (x1)] [] (m_X2_hoursFor _ _ _ _ e_3) cs_X2_139 rfl (by decide) 1 rfl rfl rfl (Nat.le_of_ble_eq_true rfl) dX2_hasRoomForChildren_42 rfl ?_
          refine ww_bipush (v := 6) hx hb dX2_hasRoomForChildren_45 (by decide) ?_
          refine ww_iload hx hb dX2_hasRoomForChildren_47 3 rfl ?_
          refine ww_iconst (v := 1) hx hb dX2_hasRoomForChildren_49 (by decide) ?_
          refine ww_iadd hx hb dX2_hasRoomForChildren_50 ?_
          refine ww_imul hx hb dX2_hasRoomForChildren_51 ?_
          refine ww_aload_n hx hb dX2_hasRoomForChildren_52 rfl 0 rfl ?_
          refine ww_iload hx hb dX2_hasRoomForChildren_53 5 rfl ?_
          refine ww_aload_n hx hb dX2_hasRoomForChildren_55 rfl 0 rfl ?_
          refine ww_iload hx hb dX2_hasRoomForChildren_56 4 rfl ?_
          refine ww_iload_n hx hb dX2_hasRoomForChildren_58 rfl 2 rfl ?_
          obtain ⟨r_4, e_4, h⟩ := ob h
          refine ww_callV (ws1 := WC q cA σ) (st1 := [.int (r_4), .int (x6), .ref (q 1), .int ((6 : Int32) * (x4 + (1 : Int32))), .int (r_3)]) hx hb hml hown hts hK hN hA (hDD _) (Nat.zero_le _) (Nat.zero_le _) [.int (x5), .int (x2)] [.int (x6), .ref (q 1), .int ((6 : Int32) * (x4 + (1 : Int32))), .int (r_3)] (m_X2_placedOn _ _ _ _ e_4) cs_X2_142 rfl (by decide) 1 rfl rfl rfl (Nat.le_of_ble_eq_true rfl) dX2_hasRoomForChildren_59 rfl ?_
          obtain ⟨r_5, e_5, h⟩ := ob h
          refine ww_callV (ws1 := WC q cA σ) (st1 := [.int (r_5), .int ((6 : Int32) * (x4 + (1 : Int32))), .int (r_3)]) hx hb hml hown hts hK hN hA (hDD _) (Nat.zero_le _) (Nat.zero_le _) [.int (x6), .int (r_4)] [.int ((6 : Int32) * (x4 + (1 : Int32))), .int (r_3)] (m_X2_hoursFor _ _ _ _ e_5) cs_X2_139 rfl (by decide) 1 rfl rfl rfl (Nat.le_of_ble_eq_true rfl) dX2_hasRoomForChildren_62 rfl ?_
          refine ww_isub hx hb dX2_hasRoomForChildren_65 ?_
          refine ww_le2 (tgt := 71) hx hb dX2_hasRoomForChildren_66 (by decide) (fun c_6 => ?_) (fun c_6 => ?_)
          · replace h := it_p c_6 h
            exact ww_sub (lv1 := [(0, .ref (q 1)), (1, .int (x1)), (2, .int (x2)), (4, .int (x4)), (5, .int (x5)), (6, .int (x6))]) [0, 1, 2, 3, 4, 5] rfl (bk71 _ _ _ _ _ h)
          · replace h := it_n c_6 h
            refine ww_iconst (v := 0) hx hb dX2_hasRoomForChildren_69 (by decide) ?_
            obtain rfl := os1 h
            exact ww_zret hx hb hr hlk (by decide) rfl dX2_hasRoomForChildren_70
  refine ww_sub (lv1 := [(0, .ref (q 1)), (1, .int (x1)), (2, .int (x2)), (3, .int (x3)), (4, .int (x4))]) [0, 1, 2, 3, 4] rfl ?_
  refine ww_aload_n hx hb dX2_hasRoomForChildren_0 rfl 0 rfl ?_
  refine ww_get (C := RX2) (T := TX2) (N := 8) hx hb hown hts hK inA2 1 rfl rfl 2 (by decide) kw_47 rfl rfl dX2_hasRoomForChildren_1 ?_
  refine ww_iload_n hx hb dX2_hasRoomForChildren_4 rfl 3 rfl ?_
  refine ww_callN (ws1 := WC q cA σ) (st1 := [.int (fat σ 11 8 x3)]) hx hb hml hown hts hK hN hA (hDD _) (Nat.zero_le _) (Nat.zero_le _) [.ref (q 11), .int (x3)] [] (m_at (by decide) σ x3) cs_X2_54 rfl (by decide) rfl (Nat.le_of_ble_eq_true rfl) dX2_hasRoomForChildren_5 rfl ?_
  refine ww_callS (ws1 := WC q cA σ) (st1 := [.int (X2_dayOf (fat σ 11 8 x3))]) hx hb hml hown hts hK hN hA (hDD _) (Nat.zero_le _) (Nat.zero_le _) [.int (fat σ 11 8 x3)] [] (m_X2_dayOf σ (fat σ 11 8 x3)) cs_X2_58 rfl (by decide) rfl (Nat.le_of_ble_eq_true rfl) dX2_hasRoomForChildren_8 rfl ?_
  refine ww_istore (i := 5) (lv1 := [(0, .ref (q 1)), (1, .int (x1)), (2, .int (x2)), (4, .int (x4)), (5, .int (X2_dayOf (fat σ 11 8 x3)))]) hx hb dX2_hasRoomForChildren_11 (by decide) [1, 2, 3, 5, 0] rfl ?_
  refine ww_iconst (v := 0) hx hb dX2_hasRoomForChildren_13 (by decide) ?_
  refine ww_istore (i := 6) (lv1 := [(0, .ref (q 1)), (1, .int (x1)), (2, .int (x2)), (4, .int (x4)), (5, .int (X2_dayOf (fat σ 11 8 x3))), (6, .int ((0 : Int32)))]) hx hb dX2_hasRoomForChildren_14 (by decide) [1, 2, 3, 4, 5, 0] rfl ?_
  exact ww_sub (lv1 := [(0, .ref (q 1)), (1, .int (x1)), (2, .int (x2)), (4, .int (x4)), (5, .int (X2_dayOf (fat σ 11 8 x3))), (6, .int ((0 : Int32)))]) [0, 1, 2, 3, 4, 5] rfl (lp16 _ _ _ _ _ _ h)
set_option maxHeartbeats 4000000 in
set_option maxRecDepth 100000 in
theorem m_X2_canBeBetter (σ : SS) (x1 x2 : Int32) (r : Int32) (h : X2_canBeBetter σ x1 x2 = some r) : Ct l yX2_canBeBetter cX2_canBeBetter 6 (some .boolean) 3 120 D vwCl [(cA, .int)] (WC q cA σ) (WC q cA σ) [.ref (q 1), .int (x1), .int (x2)] (some (.int r)) := by
  refine ct_of (by decide +kernel) (Nat.le_of_ble_eq_true rfl) ?_
  intro p e s m args below meth c hx hb hr hlk hml hown hts hK hD hN hA
  have hown : s.vm.findClass RX2 = some m.cls := hown
  have hDD : ∀ τ : SS, va_D (va_A (WC q cA σ) s.heap.size) (WC q cA τ) := fun τ => hD.adr rfl
  unfold X2_canBeBetter at h
  refine ww_sub (lv1 := [(0, .ref (q 1)), (1, .int (x1)), (2, .int (x2))]) [0, 1, 2] rfl ?_
  refine ww_aload_n hx hb dX2_canBeBetter_0 rfl 0 rfl ?_
  refine ww_get (C := RX2) (T := TX2) (N := 8) hx hb hown hts hK inA2 1 rfl rfl 5 (by decide) kw_59 rfl rfl dX2_canBeBetter_1 ?_
  refine ww_iconst (v := 1) hx hb dX2_canBeBetter_4 (by decide) ?_
  refine ww_isub hx hb dX2_canBeBetter_5 ?_
  refine ww_aload_n hx hb dX2_canBeBetter_6 rfl 0 rfl ?_
  refine ww_iload_n hx hb dX2_canBeBetter_7 rfl 1 rfl ?_
  refine ww_callV (ws1 := WC q cA σ) (st1 := [.int (X2_daysUpTo σ x1), .int ((σ 1 5) - (1 : Int32))]) hx hb hml hown hts hK hN hA (hDD _) (Nat.zero_le _) (Nat.zero_le _) [.int (x1)] [.int ((σ 1 5) - (1 : Int32))] (m_X2_daysUpTo σ x1) cs_X2_107 rfl (by decide) 1 rfl rfl rfl (Nat.le_of_ble_eq_true rfl) dX2_canBeBetter_8 rfl ?_
  refine ww_isub hx hb dX2_canBeBetter_11 ?_
  refine ww_istore_n (i := 3) (lv1 := [(0, .ref (q 1)), (1, .int (x1)), (2, .int (x2)), (3, .int (((σ 1 5) - (1 : Int32)) - (X2_daysUpTo σ x1)))]) hx hb dX2_canBeBetter_12 rfl (by decide) [1, 2, 3, 0] rfl ?_
  refine ww_aload_n hx hb dX2_canBeBetter_13 rfl 0 rfl ?_
  refine ww_get (C := RX2) (T := TX2) (N := 8) hx hb hown hts hK inA2 1 rfl rfl 1 (by decide) kw_48 rfl rfl dX2_canBeBetter_14 ?_
  refine ww_iload_n hx hb dX2_canBeBetter_17 rfl 1 rfl ?_
  refine ww_iconst (v := 1) hx hb dX2_canBeBetter_18 (by decide) ?_
  refine ww_isub hx hb dX2_canBeBetter_19 ?_
  refine ww_callN (ws1 := WC q cA σ) (st1 := [.int (fat σ 10 8 (x1 - (1 : Int32)))]) hx hb hml hown hts hK hN hA (hDD _) (Nat.zero_le _) (Nat.zero_le _) [.ref (q 10), .int (x1 - (1 : Int32))] [] (m_at (by decide) σ (x1 - (1 : Int32))) cs_X2_54 rfl (by decide) rfl (Nat.le_of_ble_eq_true rfl) dX2_canBeBetter_20 rfl ?_
  refine ww_istore (i := 4) (lv1 := [(0, .ref (q 1)), (2, .int (x2)), (3, .int (((σ 1 5) - (1 : Int32)) - (X2_daysUpTo σ x1))), (4, .int (fat σ 10 8 (x1 - (1 : Int32))))]) hx hb dX2_canBeBetter_23 (by decide) [1, 3, 4, 0] rfl ?_
  refine ww_aload_n hx hb dX2_canBeBetter_25 rfl 0 rfl ?_
  refine ww_get (C := RX2) (T := TX2) (N := 8) hx hb hown hts hK inA2 1 rfl rfl 0 (by decide) kw_66 rfl rfl dX2_canBeBetter_26 ?_
  refine ww_callV (ws1 := WC q cA σ) (st1 := [.int (X3_everyScene σ)]) hx hb hml hown hts hK hN hA (hDD _) (Nat.zero_le _) (Nat.zero_le _) [] [] (m_X3_everyScene σ) cs_X2_90 rfl (by decide) 2 rfl rfl rfl (Nat.le_of_ble_eq_true rfl) dX2_canBeBetter_29 rfl ?_
  refine ww_iload_n hx hb dX2_canBeBetter_32 rfl 1 rfl ?_
  refine ww_iconst (v := -1) hx hb dX2_canBeBetter_33 (by decide) ?_
  refine ww_ixor hx hb dX2_canBeBetter_34 ?_
  refine ww_iand hx hb dX2_canBeBetter_35 ?_
  refine ww_istore (i := 5) (lv1 := [(0, .ref (q 1)), (2, .int (x2)), (3, .int (((σ 1 5) - (1 : Int32)) - (X2_daysUpTo σ x1))), (4, .int (fat σ 10 8 (x1 - (1 : Int32)))), (5, .int ((X3_everyScene σ) &&& (x2 ^^^ (-1 : Int32))))]) hx hb dX2_canBeBetter_36 (by decide) [1, 2, 3, 4, 0] rfl ?_
  refine ww_iload_n hx hb dX2_canBeBetter_38 rfl 2 rfl ?_
  refine ww_lt0 (tgt := 71) hx hb dX2_canBeBetter_39 (by decide) (fun c_1 => ?_) (fun c_1 => ?_)
  · replace h := it_p c_1 h
    refine ww_iconst (v := 0) hx hb dX2_canBeBetter_71 (by decide) ?_
    obtain rfl := os1 h
    exact ww_zret hx hb hr hlk (by decide) rfl dX2_canBeBetter_72
  · replace h := it_n c_1 h
    refine ww_aload_n hx hb dX2_canBeBetter_42 rfl 0 rfl ?_
    refine ww_iload hx hb dX2_canBeBetter_43 4 rfl ?_
    refine ww_iload hx hb dX2_canBeBetter_45 3 rfl ?_
    refine ww_iload_n hx hb dX2_canBeBetter_47 rfl 2 rfl ?_
    obtain ⟨r_2, e_2, h⟩ := ob h
    refine ww_callV (ws1 := WC q cA σ) (st1 := [.int (r_2)]) hx hb hml hown hts hK hN hA (hDD _) (Nat.zero_le _) (Nat.zero_le _) [.int ((X3_everyScene σ) &&& (x2 ^^^ (-1 : Int32))), .int (fat σ 10 8 (x1 - (1 : Int32))), .int (((σ 1 5) - (1 : Int32)) - (X2_daysUpTo σ x1))] [] (m_X2_hasRoom _ _ _ _ _ e_2) cs_X2_116 rfl (by decide) 1 rfl rfl rfl (Nat.le_of_ble_eq_true rfl) dX2_canBeBetter_48 rfl ?_
    refine ww_eq0 (tgt := 71) hx hb dX2_canBeBetter_51 (by decide) (fun c_3 => ?_) (fun c_3 => ?_)
    · replace h := it_p c_3 h
      refine ww_iconst (v := 0) hx hb dX2_canBeBetter_71 (by decide) ?_
      obtain rfl := os1 h
      exact ww_zret hx hb hr hlk (by decide) rfl dX2_canBeBetter_72
    · replace h := it_n c_3 h
      refine ww_aload_n hx hb dX2_canBeBetter_54 rfl 0 rfl ?_
      refine ww_iload hx hb dX2_canBeBetter_55 4 rfl ?_
      refine ww_iload_n hx hb dX2_canBeBetter_57 rfl 1 rfl ?_
      refine ww_iload hx hb dX2_canBeBetter_58 3 rfl ?_
      refine ww_iload_n hx hb dX2_canBeBetter_60 rfl 2 rfl ?_
      obtain ⟨r_4, e_4, h⟩ := ob h
      refine ww_callV (ws1 := WC q cA σ) (st1 := [.int (r_4)]) hx hb hml hown hts hK hN hA (hDD _) (Nat.zero_le _) (Nat.zero_le _) [.int ((X3_everyScene σ) &&& (x2 ^^^ (-1 : Int32))), .int (x2), .int (fat σ 10 8 (x1 - (1 : Int32))), .int (((σ 1 5) - (1 : Int32)) - (X2_daysUpTo σ x1))] [] (m_X2_hasRoomForChildren _ _ _ _ _ _ e_4) cs_X2_120 rfl (by decide) 1 rfl rfl rfl (Nat.le_of_ble_eq_true rfl) dX2_canBeBetter_61 rfl ?_
      refine ww_eq0 (tgt := 71) hx hb dX2_canBeBetter_64 (by decide) (fun c_5 => ?_) (fun c_5 => ?_)
      · replace h := it_p c_5 h
        refine ww_iconst (v := 0) hx hb dX2_canBeBetter_71 (by decide) ?_
        obtain rfl := os1 h
        exact ww_zret hx hb hr hlk (by decide) rfl dX2_canBeBetter_72
      · replace h := it_n c_5 h
        refine ww_iconst (v := 1) hx hb dX2_canBeBetter_67 (by decide) ?_
        refine ww_goto (tgt := 72) hx hb dX2_canBeBetter_68 (by decide) ?_
        obtain rfl := os1 h
        exact ww_zret hx hb hr hlk (by decide) rfl dX2_canBeBetter_72
set_option maxHeartbeats 4000000 in
set_option maxRecDepth 100000 in
theorem m_X2_tryOrders : ∀ (d : Nat) (σ : SS) (x1 x2 : Int32) (σ1 : SS) (h : X2_tryOrders d σ x1 x2 = some σ1), Ct l yX2_tryOrders cX2_tryOrders 5 none (4 + d) (160 + 40 * d) D vwCl [(cA, .int)] (WC q cA σ) (WC q cA σ1) [.ref (q 1), .int (x1), .int (x2)] none := by
  intro d
  induction d with
  | zero => intro σ x1 x2 σ1 h; rw [X2_tryOrders] at h; cases h
  | succ d hrec =>
    intro σ x1 x2 σ1 h
    refine ct_of (by decide +kernel) (Nat.le_of_ble_eq_true rfl) ?_
    intro p e s m args below meth c hx hb hr hlk hml hown hts hK hD hN hA
    have hown : s.vm.findClass RX2 = some m.cls := hown
    have hDD : ∀ τ : SS, va_D (va_A (WC q cA σ) s.heap.size) (WC q cA τ) := fun τ => hD.adr rfl
    rw [X2_tryOrders] at h
    have lp25 : ∀ (n : Nat) (τ : SS) (x1 : Int32) (x2 : Int32) (x3 : Int32), X2_tryOrders_l25 (X2_tryOrders d) n τ x1 x2 x3 = some σ1 → WW p l e (rmc (4 + (d + 1)) (160 + 40 * (d + 1)) 0 0) s m args below meth c D vwCl (va_A (WC q cA σ) s.heap.size) 5 0 0 (MQ below (qcW D vwCl (WC q cA σ) (WC q cA σ1) none s.heap.size) args s 0 0 (va_A (WC q cA σ) s.heap.size)) (WC q cA τ) 25 [(0, .ref (q 1)), (1, .int (x1)), (2, .int (x2)), (3, .int (x3))] [] := by
      intro n
      induction n with
      | zero => intro τ x1 x2 x3 h; rw [X2_tryOrders_l25] at h; cases h
      | succ n ih =>
        have bk84 : ∀ (τ : SS) (x1 : Int32) (x2 : Int32) (x3 : Int32), X2_tryOrders_b84 (X2_tryOrders d) (X2_tryOrders_l25 (X2_tryOrders d) n) τ x1 x2 x3 = some σ1 → WW p l e (rmc (4 + (d + 1)) (160 + 40 * (d + 1)) 0 0) s m args below meth c D vwCl (va_A (WC q cA σ) s.heap.size) 5 0 0 (MQ below (qcW D vwCl (WC q cA σ) (WC q cA σ1) none s.heap.size) args s 0 0 (va_A (WC q cA σ) s.heap.size)) (WC q cA τ) 84 [(0, .ref (q 1)), (1, .int (x1)), (2, .int (x2)), (3, .int (x3))] [] := by
          intro τ x1 x2 x3 h
          unfold X2_tryOrders_b84 at h
          refine ww_iinc (i := 3) (k := 3) (v := 1) (lv1 := [(0, .ref (q 1)), (1, .int (x1)), (2, .int (x2)), (3, .int (x3 + 1))]) hx hb dX2_tryOrders_84 rfl (by decide) (by decide) [1, 2, 3, 0] rfl ?_
          refine ww_goto (tgt := 25) hx hb dX2_tryOrders_87 (by decide) ?_
          exact ww_sub (lv1 := [(0, .ref (q 1)), (1, .int (x1)), (2, .int (x2)), (3, .int (x3 + 1))]) [0, 1, 2, 3] rfl (ih _ _ _ _ h)
        intro τ x1 x2 x3 h
        rw [X2_tryOrders_l25] at h
        refine ww_iload_n hx hb dX2_tryOrders_25 rfl 3 rfl ?_
        refine ww_aload_n hx hb dX2_tryOrders_26 rfl 0 rfl ?_
        refine ww_get (C := RX2) (T := TX2) (N := 8) hx hb hown hts hK inA2 1 rfl rfl 0 (by decide) kw_66 rfl rfl dX2_tryOrders_27 ?_
        refine ww_get (C := RX3) (T := TX3) (N := 9) hx hb hown hts hK inA3 2 rfl rfl 5 (by decide) kw_73 rfl rfl dX2_tryOrders_30 ?_
        refine ww_ge2 (tgt := 90) hx hb dX2_tryOrders_33 (by decide) (fun c_3 => ?_) (fun c_3 => ?_)
        · replace h := it_p c_3 h
          obtain rfl := os1 h
          exact ww_vret hx hb hr hlk dX2_tryOrders_90
        · replace h := it_n c_3 h
          refine ww_aload_n hx hb dX2_tryOrders_36 rfl 0 rfl ?_
          refine ww_get (C := RX2) (T := TX2) (N := 8) hx hb hown hts hK inA2 1 rfl rfl 0 (by decide) kw_66 rfl rfl dX2_tryOrders_37 ?_
          refine ww_iload_n hx hb dX2_tryOrders_40 rfl 3 rfl ?_
          refine ww_iload_n hx hb dX2_tryOrders_41 rfl 2 rfl ?_
          refine ww_callV (ws1 := WC q cA τ) (st1 := [.int (X3_canFollow τ x3 x2)]) hx hb hml hown hts hK hN hA (hDD _) (Nat.zero_le _) (Nat.zero_le _) [.int (x3), .int (x2)] [] (m_X3_canFollow τ x3 x2) cs_X2_97 rfl ⟨by show _ ≤ _ + (_ + 1); omega, by show _ ≤ _ + 40 * (_ + 1); omega⟩ 2 rfl rfl rfl (Nat.le_of_ble_eq_true rfl) dX2_tryOrders_42 rfl ?_
          refine ww_eq0 (tgt := 84) hx hb dX2_tryOrders_45 (by decide) (fun c_4 => ?_) (fun c_4 => ?_)
          · replace h := it_p c_4 h
            exact ww_sub (lv1 := [(0, .ref (q 1)), (1, .int (x1)), (2, .int (x2)), (3, .int (x3))]) [0, 1, 2, 3] rfl (bk84 _ _ _ _ h)
          · replace h := it_n c_4 h
            refine ww_aload_n hx hb dX2_tryOrders_48 rfl 0 rfl ?_
            refine ww_iload_n hx hb dX2_tryOrders_49 rfl 3 rfl ?_
            refine ww_iload_n hx hb dX2_tryOrders_50 rfl 1 rfl ?_
            refine ww_iload_n hx hb dX2_tryOrders_51 rfl 2 rfl ?_
            obtain ⟨σ_5, e_5, h⟩ := ob h
            refine ww_callV (ws1 := WC q cA σ_5) (st1 := []) hx hb hml hown hts hK hN hA (hDD _) (Nat.zero_le _) (Nat.zero_le _) [.int (x3), .int (x1), .int (x2)] [] (m_X2_place _ _ _ _ _ e_5) cs_X2_100 rfl ⟨by show _ ≤ _ + (_ + 1); omega, by show _ ≤ _ + 40 * (_ + 1); omega⟩ 1 rfl rfl rfl (Nat.le_of_ble_eq_true rfl) dX2_tryOrders_52 rfl ?_
            refine ww_iload_n hx hb dX2_tryOrders_55 rfl 2 rfl ?_
            refine ww_iload_n hx hb dX2_tryOrders_56 rfl 3 rfl ?_
            refine ww_iconst (v := 1) hx hb dX2_tryOrders_57 (by decide) ?_
            refine ww_callN (ws1 := WC q cA σ_5) (st1 := [.int (X4_with x2 x3 (1 : Int32))]) hx hb hml hown hts hK hN hA (hDD _) (Nat.zero_le _) (Nat.zero_le _) [.int (x2), .int (x3), .int ((1 : Int32))] [] (m_X4_with σ_5 x2 x3 (1 : Int32)) cs_X2_73 rfl ⟨by show _ ≤ _ + (_ + 1); omega, by show _ ≤ _ + 40 * (_ + 1); omega⟩ rfl (Nat.le_of_ble_eq_true rfl) dX2_tryOrders_58 rfl ?_
            refine ww_istore (i := 4) (lv1 := [(0, .ref (q 1)), (1, .int (x1)), (2, .int (x2)), (3, .int (x3)), (4, .int (X4_with x2 x3 (1 : Int32)))]) hx hb dX2_tryOrders_61 (by decide) [1, 2, 3, 4, 0] rfl ?_
            refine ww_aload_n hx hb dX2_tryOrders_63 rfl 0 rfl ?_
            refine ww_iload_n hx hb dX2_tryOrders_64 rfl 1 rfl ?_
            refine ww_iconst (v := 1) hx hb dX2_tryOrders_65 (by decide) ?_
            refine ww_iadd hx hb dX2_tryOrders_66 ?_
            refine ww_iload hx hb dX2_tryOrders_67 4 rfl ?_
            obtain ⟨r_6, e_6, h⟩ := ob h
            refine ww_callV (ws1 := WC q cA σ_5) (st1 := [.int (r_6)]) hx hb hml hown hts hK hN hA (hDD _) (Nat.zero_le _) (Nat.zero_le _) [.int (x1 + (1 : Int32)), .int (X4_with x2 x3 (1 : Int32))] [] (m_X2_canBeBetter _ _ _ _ e_6) cs_X2_104 rfl ⟨by show _ ≤ _ + (_ + 1); omega, by show _ ≤ _ + 40 * (_ + 1); omega⟩ 1 rfl rfl rfl (Nat.le_of_ble_eq_true rfl) dX2_tryOrders_69 rfl ?_
            refine ww_eq0 (tgt := 84) hx hb dX2_tryOrders_72 (by decide) (fun c_7 => ?_) (fun c_7 => ?_)
            · replace h := it_p c_7 h
              exact ww_sub (lv1 := [(0, .ref (q 1)), (1, .int (x1)), (2, .int (x2)), (3, .int (x3))]) [0, 1, 2, 3] rfl (bk84 _ _ _ _ h)
            · replace h := it_n c_7 h
              refine ww_aload_n hx hb dX2_tryOrders_75 rfl 0 rfl ?_
              refine ww_iload_n hx hb dX2_tryOrders_76 rfl 1 rfl ?_
              refine ww_iconst (v := 1) hx hb dX2_tryOrders_77 (by decide) ?_
              refine ww_iadd hx hb dX2_tryOrders_78 ?_
              refine ww_iload hx hb dX2_tryOrders_79 4 rfl ?_
              obtain ⟨σ_8, e_8, h⟩ := ob h
              refine ww_callS (ws1 := WC q cA σ_8) (st1 := []) hx hb hml hown hts hK hN hA (hDD _) (Nat.zero_le _) (Nat.zero_le _) [.ref (q 1), .int (x1 + (1 : Int32)), .int (X4_with x2 x3 (1 : Int32))] [] (hrec _ _ _ _ e_8) cs_X2_42 rfl ⟨by show _ ≤ _ + (_ + 1); omega, by show _ ≤ _ + 40 * (_ + 1); omega⟩ rfl (Nat.le_of_ble_eq_true rfl) dX2_tryOrders_81 rfl ?_
              exact ww_sub (lv1 := [(0, .ref (q 1)), (1, .int (x1)), (2, .int (x2)), (3, .int (x3))]) [0, 1, 2, 3] rfl (bk84 _ _ _ _ h)
    have bk17 : ∀ (τ : SS) (x1 : Int32), X2_tryOrders_b17 (X2_tryOrders d) τ x1 = some σ1 → WW p l e (rmc (4 + (d + 1)) (160 + 40 * (d + 1)) 0 0) s m args below meth c D vwCl (va_A (WC q cA σ) s.heap.size) 5 0 0 (MQ below (qcW D vwCl (WC q cA σ) (WC q cA σ1) none s.heap.size) args s 0 0 (va_A (WC q cA σ) s.heap.size)) (WC q cA τ) 17 [(0, .ref (q 1)), (1, .int (x1))] [] := by
      intro τ x1 h
      unfold X2_tryOrders_b17 at h
      refine ww_aload_n hx hb dX2_tryOrders_17 rfl 0 rfl ?_
      refine ww_iload_n hx hb dX2_tryOrders_18 rfl 1 rfl ?_
      obtain ⟨σ_9, e_9, h⟩ := ob h
      refine ww_callV (ws1 := WC q cA σ_9) (st1 := []) hx hb hml hown hts hK hN hA (hDD _) (Nat.zero_le _) (Nat.zero_le _) [.int (x1)] [] (m_X2_keepIfBetter _ _ _ e_9) cs_X2_93 rfl ⟨by show _ ≤ _ + (_ + 1); omega, by show _ ≤ _ + 40 * (_ + 1); omega⟩ 1 rfl rfl rfl (Nat.le_of_ble_eq_true rfl) dX2_tryOrders_19 rfl ?_
      obtain rfl := os1 h
      exact ww_vret hx hb hr hlk dX2_tryOrders_22
    refine ww_sub (lv1 := [(0, .ref (q 1)), (1, .int (x1)), (2, .int (x2))]) [0, 1, 2] rfl ?_
    refine ww_iload_n hx hb dX2_tryOrders_0 rfl 2 rfl ?_
    refine ww_aload_n hx hb dX2_tryOrders_1 rfl 0 rfl ?_
    refine ww_get (C := RX2) (T := TX2) (N := 8) hx hb hown hts hK inA2 1 rfl rfl 0 (by decide) kw_66 rfl rfl dX2_tryOrders_2 ?_
    refine ww_callV (ws1 := WC q cA σ) (st1 := [.int (X3_everyScene σ), .int (x2)]) hx hb hml hown hts hK hN hA (hDD _) (Nat.zero_le _) (Nat.zero_le _) [] [.int (x2)] (m_X3_everyScene σ) cs_X2_90 rfl ⟨by show _ ≤ _ + (_ + 1); omega, by show _ ≤ _ + 40 * (_ + 1); omega⟩ 2 rfl rfl rfl (Nat.le_of_ble_eq_true rfl) dX2_tryOrders_5 rfl ?_
    refine ww_eq2 (tgt := 17) hx hb dX2_tryOrders_8 (by decide) (fun c_1 => ?_) (fun c_1 => ?_)
    · replace h := it_p c_1 h
      exact ww_sub (lv1 := [(0, .ref (q 1)), (1, .int (x1))]) [0, 1] rfl (bk17 _ _ h)
    · replace h := it_n c_1 h
      refine ww_iload_n hx hb dX2_tryOrders_11 rfl 1 rfl ?_
      refine ww_bipush (v := 8) hx hb dX2_tryOrders_12 (by decide) ?_
      refine ww_lt2 (tgt := 23) hx hb dX2_tryOrders_14 (by decide) (fun c_2 => ?_) (fun c_2 => ?_)
      · replace h := it_p c_2 h
        refine ww_iconst (v := 0) hx hb dX2_tryOrders_23 (by decide) ?_
        refine ww_istore_n (i := 3) (lv1 := [(0, .ref (q 1)), (1, .int (x1)), (2, .int (x2)), (3, .int ((0 : Int32)))]) hx hb dX2_tryOrders_24 rfl (by decide) [1, 2, 3, 0] rfl ?_
        exact ww_sub (lv1 := [(0, .ref (q 1)), (1, .int (x1)), (2, .int (x2)), (3, .int ((0 : Int32)))]) [0, 1, 2, 3] rfl (lp25 _ _ _ _ _ h)
      · replace h := it_n c_2 h
        exact ww_sub (lv1 := [(0, .ref (q 1)), (1, .int (x1))]) [0, 1] rfl (bk17 _ _ h)
set_option maxHeartbeats 4000000 in
set_option maxRecDepth 100000 in
theorem m_X2_makePlan (σ : SS) (σ1 : SS) (h : X2_makePlan σ = some σ1) : Ct l yX2_makePlan cX2_makePlan 1 none 21 840 D vwCl [(cA, .int)] (WC q cA σ) (WC q cA σ1) [.ref (q 1)] none := by
  refine ct_of (by decide +kernel) (Nat.le_of_ble_eq_true rfl) ?_
  intro p e s m args below meth c hx hb hr hlk hml hown hts hK hD hN hA
  have hown : s.vm.findClass RX2 = some m.cls := hown
  have hDD : ∀ τ : SS, va_D (va_A (WC q cA σ) s.heap.size) (WC q cA τ) := fun τ => hD.adr rfl
  unfold X2_makePlan at h
  refine ww_sub (lv1 := [(0, .ref (q 1))]) [0] rfl ?_
  refine ww_aload_n hx hb dX2_makePlan_0 rfl 0 rfl ?_
  refine ww_get (C := RX2) (T := TX2) (N := 8) hx hb hown hts hK inA2 1 rfl rfl 7 (by decide) kw_1 rfl rfl dX2_makePlan_1 ?_
  refine ww_ne0 (tgt := 30) hx hb dX2_makePlan_4 (by decide) (fun c_1 => ?_) (fun c_1 => ?_)
  · replace h := it_n c_1 h
    obtain rfl := os1 h
    exact ww_vret hx hb hr hlk dX2_makePlan_30
  · replace h := it_p c_1 h
    refine ww_aload_n hx hb dX2_makePlan_7 rfl 0 rfl ?_
    refine ww_bipush (v := 9) hx hb dX2_makePlan_8 (by decide) ?_
    obtain ⟨σ_2, e_2, h⟩ := lt_e h
    refine ww_put (C := RX2) (T := TX2) (N := 8) (ty := .int) (ws1 := WC q cA (σ_2)) hx hb hown hts hK inA2 tyX2 tyX2_ok nmX2 (hDD _) 1 rfl rfl 5 (by decide) kw_59 rfl rfl rfl rfl rfl (Nat.le_of_ble_eq_true rfl) dX2_makePlan_10 (e_2 ▸ rfl) ?_
    refine ww_aload_n hx hb dX2_makePlan_13 rfl 0 rfl ?_
    refine ww_iconst (v := 0) hx hb dX2_makePlan_14 (by decide) ?_
    refine ww_aload_n hx hb dX2_makePlan_15 rfl 0 rfl ?_
    refine ww_get (C := RX2) (T := TX2) (N := 8) hx hb hown hts hK inA2 1 rfl rfl 0 (by decide) kw_66 rfl rfl dX2_makePlan_16 ?_
    refine ww_get (C := RX3) (T := TX3) (N := 9) hx hb hown hts hK inA3 2 rfl rfl 6 (by decide) kw_140 rfl rfl dX2_makePlan_19 ?_
    obtain ⟨σ_3, e_3, h⟩ := ob h
    refine ww_callS (ws1 := WC q cA σ_3) (st1 := []) hx hb hml hown hts hK hN hA (hDD _) (Nat.zero_le _) (Nat.zero_le _) [.ref (q 1), .int ((0 : Int32)), .int (σ_2 2 6)] [] (m_X2_tryOrders 16 _ _ _ _ e_3) cs_X2_42 rfl (by decide) rfl (Nat.le_of_ble_eq_true rfl) dX2_makePlan_22 rfl ?_
    refine ww_aload_n hx hb dX2_makePlan_25 rfl 0 rfl ?_
    refine ww_iconst (v := 1) hx hb dX2_makePlan_26 (by decide) ?_
    obtain ⟨σ_4, e_4, h⟩ := lt_e h
    refine ww_put (C := RX2) (T := TX2) (N := 8) (ty := .boolean) (ws1 := WC q cA (σ_4)) hx hb hown hts hK inA2 tyX2 tyX2_ok nmX2 (hDD _) 1 rfl rfl 7 (by decide) kw_1 rfl rfl rfl (isZ_narrow (by decide)) (isZ_fits (by decide)) (Nat.le_of_ble_eq_true rfl) dX2_makePlan_27 (e_4 ▸ rfl) ?_
    obtain rfl := os1 h
    exact ww_vret hx hb hr hlk dX2_makePlan_30
set_option maxHeartbeats 4000000 in
set_option maxRecDepth 100000 in
theorem m_J6_bitCount (σ : SS) (x0 : Int32) : Ct l yJ6_bitCount_0f7a4 cJ6_bitCount_0f7a4 1 (some .int) 0 0 D vwCl [(cA, .int)] (WC q cA σ) (WC q cA σ) [.int (x0)] (some (.int (J6_bitCount x0))) := by
  refine ct_of (by decide +kernel) (Nat.le_of_ble_eq_true rfl) ?_
  intro p e s m args below meth c hx hb hr hlk hml hown hts hK hD hN hA
  have hown : s.vm.findClass RJ6 = some m.cls := hown
  have hDD : ∀ τ : SS, va_D (va_A (WC q cA σ) s.heap.size) (WC q cA τ) := fun τ => hD.adr rfl
  obtain ⟨r, h⟩ : ∃ r, J6_bitCount x0 = r := ⟨_, rfl⟩
  rw [h]
  unfold J6_bitCount at h
  have bk48 : ∀ (x0 : Int32), J6_bitCount_b48  x0 = r → WW p l e (rmc 0 0 0 0) s m args below meth c D vwCl (va_A (WC q cA σ) s.heap.size) 1 0 0 (MQ below (qcW D vwCl (WC q cA σ) (WC q cA σ) (some (.int r)) s.heap.size) args s 0 0 (va_A (WC q cA σ) s.heap.size)) (WC q cA σ) 48 [(0, .int (x0))] [] := by
    intro x0 h
    unfold J6_bitCount_b48 at h
    refine ww_iload_n hx hb dJ6_bitCount_0f7a4_48 rfl 0 rfl ?_
    refine ww_bipush (v := 63) hx hb dJ6_bitCount_0f7a4_49 (by decide) ?_
    refine ww_iand hx hb dJ6_bitCount_0f7a4_51 ?_
    obtain rfl := h
    exact ww_iret hx hb hr hlk rfl dJ6_bitCount_0f7a4_52
  have bk41 : ∀ (x0 : Int32), J6_bitCount_b41  x0 = r → WW p l e (rmc 0 0 0 0) s m args below meth c D vwCl (va_A (WC q cA σ) s.heap.size) 1 0 0 (MQ below (qcW D vwCl (WC q cA σ) (WC q cA σ) (some (.int r)) s.heap.size) args s 0 0 (va_A (WC q cA σ) s.heap.size)) (WC q cA σ) 41 [(0, .int (x0))] [] := by
    intro x0 h
    unfold J6_bitCount_b41 at h
    refine ww_iload_n hx hb dJ6_bitCount_0f7a4_41 rfl 0 rfl ?_
    refine ww_iload_n hx hb dJ6_bitCount_0f7a4_42 rfl 0 rfl ?_
    refine ww_bipush (v := 16) hx hb dJ6_bitCount_0f7a4_43 (by decide) ?_
    refine ww_iushr hx hb dJ6_bitCount_0f7a4_45 ?_
    refine ww_iadd hx hb dJ6_bitCount_0f7a4_46 ?_
    refine ww_istore_n (i := 0) (lv1 := [(0, .int (x0 + (ius x0 (16 : Int32))))]) hx hb dJ6_bitCount_0f7a4_47 rfl (by decide) [0] rfl ?_
    exact ww_sub (lv1 := [(0, .int (x0 + (ius x0 (16 : Int32))))]) [0] rfl (bk48 _ h)
  have bk34 : ∀ (x0 : Int32), J6_bitCount_b34  x0 = r → WW p l e (rmc 0 0 0 0) s m args below meth c D vwCl (va_A (WC q cA σ) s.heap.size) 1 0 0 (MQ below (qcW D vwCl (WC q cA σ) (WC q cA σ) (some (.int r)) s.heap.size) args s 0 0 (va_A (WC q cA σ) s.heap.size)) (WC q cA σ) 34 [(0, .int (x0))] [] := by
    intro x0 h
    unfold J6_bitCount_b34 at h
    refine ww_iload_n hx hb dJ6_bitCount_0f7a4_34 rfl 0 rfl ?_
    refine ww_iload_n hx hb dJ6_bitCount_0f7a4_35 rfl 0 rfl ?_
    refine ww_bipush (v := 8) hx hb dJ6_bitCount_0f7a4_36 (by decide) ?_
    refine ww_iushr hx hb dJ6_bitCount_0f7a4_38 ?_
    refine ww_iadd hx hb dJ6_bitCount_0f7a4_39 ?_
    refine ww_istore_n (i := 0) (lv1 := [(0, .int (x0 + (ius x0 (8 : Int32))))]) hx hb dJ6_bitCount_0f7a4_40 rfl (by decide) [0] rfl ?_
    exact ww_sub (lv1 := [(0, .int (x0 + (ius x0 (8 : Int32))))]) [0] rfl (bk41 _ h)
  have bk24 : ∀ (x0 : Int32), J6_bitCount_b24  x0 = r → WW p l e (rmc 0 0 0 0) s m args below meth c D vwCl (va_A (WC q cA σ) s.heap.size) 1 0 0 (MQ below (qcW D vwCl (WC q cA σ) (WC q cA σ) (some (.int r)) s.heap.size) args s 0 0 (va_A (WC q cA σ) s.heap.size)) (WC q cA σ) 24 [(0, .int (x0))] [] := by
    intro x0 h
    unfold J6_bitCount_b24 at h
    refine ww_iload_n hx hb dJ6_bitCount_0f7a4_24 rfl 0 rfl ?_
    refine ww_iload_n hx hb dJ6_bitCount_0f7a4_25 rfl 0 rfl ?_
    refine ww_iconst (v := 4) hx hb dJ6_bitCount_0f7a4_26 (by decide) ?_
    refine ww_iushr hx hb dJ6_bitCount_0f7a4_27 ?_
    refine ww_iadd hx hb dJ6_bitCount_0f7a4_28 ?_
    refine ww_ldcw hx hb hown hts kw_143 dJ6_bitCount_0f7a4_29 ?_
    refine ww_iand hx hb dJ6_bitCount_0f7a4_32 ?_
    refine ww_istore_n (i := 0) (lv1 := [(0, .int ((x0 + (ius x0 (4 : Int32))) &&& (252645135 : Int32)))]) hx hb dJ6_bitCount_0f7a4_33 rfl (by decide) [0] rfl ?_
    exact ww_sub (lv1 := [(0, .int ((x0 + (ius x0 (4 : Int32))) &&& (252645135 : Int32)))]) [0] rfl (bk34 _ h)
  have bk10 : ∀ (x0 : Int32), J6_bitCount_b10  x0 = r → WW p l e (rmc 0 0 0 0) s m args below meth c D vwCl (va_A (WC q cA σ) s.heap.size) 1 0 0 (MQ below (qcW D vwCl (WC q cA σ) (WC q cA σ) (some (.int r)) s.heap.size) args s 0 0 (va_A (WC q cA σ) s.heap.size)) (WC q cA σ) 10 [(0, .int (x0))] [] := by
    intro x0 h
    unfold J6_bitCount_b10 at h
    refine ww_iload_n hx hb dJ6_bitCount_0f7a4_10 rfl 0 rfl ?_
    refine ww_ldcw hx hb hown hts kw_142 dJ6_bitCount_0f7a4_11 ?_
    refine ww_iand hx hb dJ6_bitCount_0f7a4_14 ?_
    refine ww_iload_n hx hb dJ6_bitCount_0f7a4_15 rfl 0 rfl ?_
    refine ww_iconst (v := 2) hx hb dJ6_bitCount_0f7a4_16 (by decide) ?_
    refine ww_iushr hx hb dJ6_bitCount_0f7a4_17 ?_
    refine ww_ldcw hx hb hown hts kw_142 dJ6_bitCount_0f7a4_18 ?_
    refine ww_iand hx hb dJ6_bitCount_0f7a4_21 ?_
    refine ww_iadd hx hb dJ6_bitCount_0f7a4_22 ?_
    refine ww_istore_n (i := 0) (lv1 := [(0, .int ((x0 &&& (858993459 : Int32)) + ((ius x0 (2 : Int32)) &&& (858993459 : Int32))))]) hx hb dJ6_bitCount_0f7a4_23 rfl (by decide) [0] rfl ?_
    exact ww_sub (lv1 := [(0, .int ((x0 &&& (858993459 : Int32)) + ((ius x0 (2 : Int32)) &&& (858993459 : Int32))))]) [0] rfl (bk24 _ h)
  refine ww_sub (lv1 := [(0, .int (x0))]) [0] rfl ?_
  refine ww_iload_n hx hb dJ6_bitCount_0f7a4_0 rfl 0 rfl ?_
  refine ww_iload_n hx hb dJ6_bitCount_0f7a4_1 rfl 0 rfl ?_
  refine ww_iconst (v := 1) hx hb dJ6_bitCount_0f7a4_2 (by decide) ?_
  refine ww_iushr hx hb dJ6_bitCount_0f7a4_3 ?_
  refine ww_ldcw hx hb hown hts kw_141 dJ6_bitCount_0f7a4_4 ?_
  refine ww_iand hx hb dJ6_bitCount_0f7a4_7 ?_
  refine ww_isub hx hb dJ6_bitCount_0f7a4_8 ?_
  refine ww_istore_n (i := 0) (lv1 := [(0, .int (x0 - ((ius x0 (1 : Int32)) &&& (1431655765 : Int32))))]) hx hb dJ6_bitCount_0f7a4_9 rfl (by decide) [0] rfl ?_
  exact ww_sub (lv1 := [(0, .int (x0 - ((ius x0 (1 : Int32)) &&& (1431655765 : Int32))))]) [0] rfl (bk10 _ h)
set_option maxHeartbeats 4000000 in
set_option maxRecDepth 100000 in
theorem m_X3_countOpen (σ : SS) : Ct l yX3_countOpen cX3_countOpen 1 (some .int) 1 40 D vwCl [(cA, .int)] (WC q cA σ) (WC q cA σ) [.ref (q 2)] (some (.int (X3_countOpen σ))) := by
  refine ct_of (by decide +kernel) (Nat.le_of_ble_eq_true rfl) ?_
  intro p e s m args below meth c hx hb hr hlk hml hown hts hK hD hN hA
  have hown : s.vm.findClass RX3 = some m.cls := hown
  have hDD : ∀ τ : SS, va_D (va_A (WC q cA σ) s.heap.size) (WC q cA τ) := fun τ => hD.adr rfl
  obtain ⟨r, h⟩ : ∃ r, X3_countOpen σ = r := ⟨_, rfl⟩
  rw [h]
  unfold X3_countOpen at h
  refine ww_sub (lv1 := [(0, .ref (q 2))]) [0] rfl ?_
  refine ww_aload_n hx hb dX3_countOpen_0 rfl 0 rfl ?_
  refine ww_get (C := RX3) (T := TX3) (N := 9) hx hb hown hts hK inA3 2 rfl rfl 5 (by decide) kw_0 rfl rfl dX3_countOpen_1 ?_
  refine ww_aload_n hx hb dX3_countOpen_4 rfl 0 rfl ?_
  refine ww_get (C := RX3) (T := TX3) (N := 9) hx hb hown hts hK inA3 2 rfl rfl 6 (by decide) kw_144 rfl rfl dX3_countOpen_5 ?_
  refine ww_callS (ws1 := WC q cA σ) (st1 := [.int (J6_bitCount (σ 2 6)), .int (σ 2 5)]) hx hb hml hown hts hK hN hA (hDD _) (Nat.zero_le _) (Nat.zero_le _) [.int (σ 2 6)] [.int (σ 2 5)] (m_J6_bitCount σ (σ 2 6)) cs_X3_38 rfl (by decide) rfl (Nat.le_of_ble_eq_true rfl) dX3_countOpen_8 rfl ?_
  refine ww_isub hx hb dX3_countOpen_11 ?_
  obtain rfl := h
  exact ww_iret hx hb hr hlk rfl dX3_countOpen_12
set_option maxHeartbeats 4000000 in
set_option maxRecDepth 100000 in
theorem m_X3_isOutdoors (σ : SS) (x1 : Int32) : Ct l yX3_isOutdoors cX3_isOutdoors 2 (some .boolean) 1 40 D vwCl [(cA, .int)] (WC q cA σ) (WC q cA σ) [.ref (q 2), .int (x1)] (some (.int (X3_isOutdoors σ x1))) := by
  refine ct_of (by decide +kernel) (Nat.le_of_ble_eq_true rfl) ?_
  intro p e s m args below meth c hx hb hr hlk hml hown hts hK hD hN hA
  have hown : s.vm.findClass RX3 = some m.cls := hown
  have hDD : ∀ τ : SS, va_D (va_A (WC q cA σ) s.heap.size) (WC q cA τ) := fun τ => hD.adr rfl
  obtain ⟨r, h⟩ : ∃ r, X3_isOutdoors σ x1 = r := ⟨_, rfl⟩
  rw [h]
  unfold X3_isOutdoors at h
  refine ww_sub (lv1 := [(0, .ref (q 2)), (1, .int (x1))]) [0, 1] rfl ?_
  refine ww_aload_n hx hb dX3_isOutdoors_0 rfl 0 rfl ?_
  refine ww_get (C := RX3) (T := TX3) (N := 9) hx hb hown hts hK inA3 2 rfl rfl 7 (by decide) kw_149 rfl rfl dX3_isOutdoors_1 ?_
  refine ww_aload_n hx hb dX3_isOutdoors_4 rfl 0 rfl ?_
  refine ww_get (C := RX3) (T := TX3) (N := 9) hx hb hown hts hK inA3 2 rfl rfl 1 (by decide) kw_6 rfl rfl dX3_isOutdoors_5 ?_
  refine ww_iload_n hx hb dX3_isOutdoors_8 rfl 1 rfl ?_
  refine ww_callN (ws1 := WC q cA σ) (st1 := [.int (fat σ 6 8 x1), .int (σ 2 7)]) hx hb hml hown hts hK hN hA (hDD _) (Nat.zero_le _) (Nat.zero_le _) [.ref (q 6), .int (x1)] [.int (σ 2 7)] (m_at (by decide) σ x1) cs_X3_48 rfl (by decide) rfl (Nat.le_of_ble_eq_true rfl) dX3_isOutdoors_9 rfl ?_
  refine ww_callN (ws1 := WC q cA σ) (st1 := [.int (X4_isIn (σ 2 7) (fat σ 6 8 x1))]) hx hb hml hown hts hK hN hA (hDD _) (Nat.zero_le _) (Nat.zero_le _) [.int (σ 2 7), .int (fat σ 6 8 x1)] [] (m_X4_isIn σ (σ 2 7) (fat σ 6 8 x1)) cs_X3_44 rfl (by decide) rfl (Nat.le_of_ble_eq_true rfl) dX3_isOutdoors_12 rfl ?_
  obtain rfl := h
  exact ww_zret hx hb hr hlk (z_X4_isIn (σ 2 7) (fat σ 6 8 x1)) rfl dX3_isOutdoors_15
set_option maxHeartbeats 4000000 in
set_option maxRecDepth 100000 in
theorem m_X2_shootable (σ : SS) (x1 : Int32) (r : Int32) (h : X2_shootable σ x1 = some r) : Ct l yX2_shootable cX2_shootable 5 (some .int) 2 80 D vwCl [(cA, .int)] (WC q cA σ) (WC q cA σ) [.ref (q 1), .int (x1)] (some (.int r)) := by
  refine ct_of (by decide +kernel) (Nat.le_of_ble_eq_true rfl) ?_
  intro p e s m args below meth c hx hb hr hlk hml hown hts hK hD hN hA
  have hown : s.vm.findClass RX2 = some m.cls := hown
  have hDD : ∀ τ : SS, va_D (va_A (WC q cA σ) s.heap.size) (WC q cA τ) := fun τ => hD.adr rfl
  unfold X2_shootable at h
  have lp4 : ∀ (n : Nat) (x1 : Int32) (x2 : Int32) (x3 : Int32), X2_shootable_l4 n σ x1 x2 x3 = some r → WW p l e (rmc 2 80 0 0) s m args below meth c D vwCl (va_A (WC q cA σ) s.heap.size) 5 0 0 (MQ below (qcW D vwCl (WC q cA σ) (WC q cA σ) (some (.int r)) s.heap.size) args s 0 0 (va_A (WC q cA σ) s.heap.size)) (WC q cA σ) 4 [(0, .ref (q 1)), (1, .int (x1)), (2, .int (x2)), (3, .int (x3))] [] := by
    intro n
    induction n with
    | zero => intro x1 x2 x3 h; rw [X2_shootable_l4] at h; cases h
    | succ n ih =>
      have bk89 : ∀ (x1 : Int32) (x2 : Int32) (x3 : Int32), X2_shootable_b89 (X2_shootable_l4 n) σ x1 x2 x3 = some r → WW p l e (rmc 2 80 0 0) s m args below meth c D vwCl (va_A (WC q cA σ) s.heap.size) 5 0 0 (MQ below (qcW D vwCl (WC q cA σ) (WC q cA σ) (some (.int r)) s.heap.size) args s 0 0 (va_A (WC q cA σ) s.heap.size)) (WC q cA σ) 89 [(0, .ref (q 1)), (1, .int (x1)), (2, .int (x2)), (3, .int (x3))] [] := by
        intro x1 x2 x3 h
        unfold X2_shootable_b89 at h
        refine ww_iinc (i := 3) (k := 3) (v := 1) (lv1 := [(0, .ref (q 1)), (1, .int (x1)), (2, .int (x2)), (3, .int (x3 + 1))]) hx hb dX2_shootable_89 rfl (by decide) (by decide) [1, 2, 3, 0] rfl ?_
        refine ww_goto (tgt := 4) hx hb dX2_shootable_92 (by decide) ?_
        exact ww_sub (lv1 := [(0, .ref (q 1)), (1, .int (x1)), (2, .int (x2)), (3, .int (x3 + 1))]) [0, 1, 2, 3] rfl (ih _ _ _ h)
      have bk60 : ∀ (x1 : Int32) (x2 : Int32) (x3 : Int32) (x4 : Int32), X2_shootable_b60 (X2_shootable_l4 n) σ x1 x2 x3 x4 = some r → WW p l e (rmc 2 80 0 0) s m args below meth c D vwCl (va_A (WC q cA σ) s.heap.size) 5 0 0 (MQ below (qcW D vwCl (WC q cA σ) (WC q cA σ) (some (.int r)) s.heap.size) args s 0 0 (va_A (WC q cA σ) s.heap.size)) (WC q cA σ) 60 [(0, .ref (q 1)), (1, .int (x1)), (2, .int (x2)), (3, .int (x3)), (4, .int (x4))] [] := by
        intro x1 x2 x3 x4 h
        unfold X2_shootable_b60 at h
        refine ww_aload_n hx hb dX2_shootable_60 rfl 0 rfl ?_
        refine ww_get (C := RX2) (T := TX2) (N := 8) hx hb hown hts hK inA2 1 rfl rfl 0 (by decide) kw_66 rfl rfl dX2_shootable_61 ?_
        refine ww_iload hx hb dX2_shootable_64 4 rfl ?_
        refine ww_aload_n hx hb dX2_shootable_66 rfl 0 rfl ?_
        refine ww_get (C := RX2) (T := TX2) (N := 8) hx hb hown hts hK inA2 1 rfl rfl 0 (by decide) kw_66 rfl rfl dX2_shootable_67 ?_
        refine ww_get (C := RX3) (T := TX3) (N := 9) hx hb hown hts hK inA3 2 rfl rfl 6 (by decide) kw_140 rfl rfl dX2_shootable_70 ?_
        refine ww_iload_n hx hb dX2_shootable_73 rfl 2 rfl ?_
        refine ww_ior hx hb dX2_shootable_74 ?_
        refine ww_callV (ws1 := WC q cA σ) (st1 := [.int (X3_isFree σ x4 ((σ 2 6) ||| x2))]) hx hb hml hown hts hK hN hA (hDD _) (Nat.zero_le _) (Nat.zero_le _) [.int (x4), .int ((σ 2 6) ||| x2)] [] (m_X3_isFree σ x4 ((σ 2 6) ||| x2)) cs_X2_69 rfl (by decide) 2 rfl rfl rfl (Nat.le_of_ble_eq_true rfl) dX2_shootable_75 rfl ?_
        refine ww_eq0 (tgt := 89) hx hb dX2_shootable_78 (by decide) (fun c_5 => ?_) (fun c_5 => ?_)
        · replace h := it_p c_5 h
          exact ww_sub (lv1 := [(0, .ref (q 1)), (1, .int (x1)), (2, .int (x2)), (3, .int (x3))]) [0, 1, 2, 3] rfl (bk89 _ _ _ h)
        · replace h := it_n c_5 h
          refine ww_iload_n hx hb dX2_shootable_81 rfl 2 rfl ?_
          refine ww_iload hx hb dX2_shootable_82 4 rfl ?_
          refine ww_iconst (v := 1) hx hb dX2_shootable_84 (by decide) ?_
          refine ww_callN (ws1 := WC q cA σ) (st1 := [.int (X4_with x2 x4 (1 : Int32))]) hx hb hml hown hts hK hN hA (hDD _) (Nat.zero_le _) (Nat.zero_le _) [.int (x2), .int (x4), .int ((1 : Int32))] [] (m_X4_with σ x2 x4 (1 : Int32)) cs_X2_73 rfl (by decide) rfl (Nat.le_of_ble_eq_true rfl) dX2_shootable_85 rfl ?_
          refine ww_istore_n (i := 2) (lv1 := [(0, .ref (q 1)), (1, .int (x1)), (2, .int (X4_with x2 x4 (1 : Int32))), (3, .int (x3))]) hx hb dX2_shootable_88 rfl (by decide) [1, 2, 0, 3] rfl ?_
          exact ww_sub (lv1 := [(0, .ref (q 1)), (1, .int (x1)), (2, .int (X4_with x2 x4 (1 : Int32))), (3, .int (x3))]) [0, 1, 2, 3] rfl (bk89 _ _ _ h)
      intro x1 x2 x3 h
      rw [X2_shootable_l4] at h
      refine ww_iload_n hx hb dX2_shootable_4 rfl 3 rfl ?_
      refine ww_aload_n hx hb dX2_shootable_5 rfl 0 rfl ?_
      refine ww_get (C := RX2) (T := TX2) (N := 8) hx hb hown hts hK inA2 1 rfl rfl 0 (by decide) kw_66 rfl rfl dX2_shootable_6 ?_
      refine ww_callV (ws1 := WC q cA σ) (st1 := [.int (X3_countOpen σ), .int (x3)]) hx hb hml hown hts hK hN hA (hDD _) (Nat.zero_le _) (Nat.zero_le _) [] [.int (x3)] (m_X3_countOpen σ) cs_X2_50 rfl (by decide) 2 rfl rfl rfl (Nat.le_of_ble_eq_true rfl) dX2_shootable_9 rfl ?_
      refine ww_ge2 (tgt := 95) hx hb dX2_shootable_12 (by decide) (fun c_1 => ?_) (fun c_1 => ?_)
      · replace h := it_p c_1 h
        refine ww_iload_n hx hb dX2_shootable_95 rfl 2 rfl ?_
        obtain rfl := os1 h
        exact ww_iret hx hb hr hlk rfl dX2_shootable_96
      · replace h := it_n c_1 h
        refine ww_aload_n hx hb dX2_shootable_15 rfl 0 rfl ?_
        refine ww_get (C := RX2) (T := TX2) (N := 8) hx hb hown hts hK inA2 1 rfl rfl 3 (by decide) kw_60 rfl rfl dX2_shootable_16 ?_
        refine ww_iload_n hx hb dX2_shootable_19 rfl 3 rfl ?_
        refine ww_callN (ws1 := WC q cA σ) (st1 := [.int (fat σ 12 8 x3)]) hx hb hml hown hts hK hN hA (hDD _) (Nat.zero_le _) (Nat.zero_le _) [.ref (q 12), .int (x3)] [] (m_at (by decide) σ x3) cs_X2_54 rfl (by decide) rfl (Nat.le_of_ble_eq_true rfl) dX2_shootable_20 rfl ?_
        refine ww_istore (i := 4) (lv1 := [(0, .ref (q 1)), (1, .int (x1)), (2, .int (x2)), (3, .int (x3)), (4, .int (fat σ 12 8 x3))]) hx hb dX2_shootable_23 (by decide) [1, 2, 3, 4, 0] rfl ?_
        refine ww_aload_n hx hb dX2_shootable_25 rfl 0 rfl ?_
        refine ww_get (C := RX2) (T := TX2) (N := 8) hx hb hown hts hK inA2 1 rfl rfl 4 (by decide) kw_61 rfl rfl dX2_shootable_26 ?_
        refine ww_iload hx hb dX2_shootable_29 4 rfl ?_
        refine ww_callN (ws1 := WC q cA σ) (st1 := [.int (fat σ 13 8 (fat σ 12 8 x3))]) hx hb hml hown hts hK hN hA (hDD _) (Nat.zero_le _) (Nat.zero_le _) [.ref (q 13), .int (fat σ 12 8 x3)] [] (m_at (by decide) σ (fat σ 12 8 x3)) cs_X2_54 rfl (by decide) rfl (Nat.le_of_ble_eq_true rfl) dX2_shootable_31 rfl ?_
        refine ww_callS (ws1 := WC q cA σ) (st1 := [.int (X2_dayOf (fat σ 13 8 (fat σ 12 8 x3)))]) hx hb hml hown hts hK hN hA (hDD _) (Nat.zero_le _) (Nat.zero_le _) [.int (fat σ 13 8 (fat σ 12 8 x3))] [] (m_X2_dayOf σ (fat σ 13 8 (fat σ 12 8 x3))) cs_X2_58 rfl (by decide) rfl (Nat.le_of_ble_eq_true rfl) dX2_shootable_34 rfl ?_
        refine ww_aload_n hx hb dX2_shootable_37 rfl 0 rfl ?_
        refine ww_get (C := RX2) (T := TX2) (N := 8) hx hb hown hts hK inA2 1 rfl rfl 6 (by decide) kw_54 rfl rfl dX2_shootable_38 ?_
        refine ww_ne2 (tgt := 89) hx hb dX2_shootable_41 (by decide) (fun c_2 => ?_) (fun c_2 => ?_)
        · replace h := it_n c_2 h
          exact ww_sub (lv1 := [(0, .ref (q 1)), (1, .int (x1)), (2, .int (x2)), (3, .int (x3))]) [0, 1, 2, 3] rfl (bk89 _ _ _ h)
        · replace h := it_p c_2 h
          refine ww_iload_n hx hb dX2_shootable_44 rfl 1 rfl ?_
          refine ww_eq0 (tgt := 60) hx hb dX2_shootable_45 (by decide) (fun c_3 => ?_) (fun c_3 => ?_)
          · replace h := it_p c_3 h
            exact ww_sub (lv1 := [(0, .ref (q 1)), (1, .int (x1)), (2, .int (x2)), (3, .int (x3)), (4, .int (fat σ 12 8 x3))]) [0, 1, 2, 3, 4] rfl (bk60 _ _ _ _ h)
          · replace h := it_n c_3 h
            refine ww_aload_n hx hb dX2_shootable_48 rfl 0 rfl ?_
            refine ww_get (C := RX2) (T := TX2) (N := 8) hx hb hown hts hK inA2 1 rfl rfl 0 (by decide) kw_66 rfl rfl dX2_shootable_49 ?_
            refine ww_iload hx hb dX2_shootable_52 4 rfl ?_
            refine ww_callV (ws1 := WC q cA σ) (st1 := [.int (X3_isOutdoors σ (fat σ 12 8 x3))]) hx hb hml hown hts hK hN hA (hDD _) (Nat.zero_le _) (Nat.zero_le _) [.int (fat σ 12 8 x3)] [] (m_X3_isOutdoors σ (fat σ 12 8 x3)) cs_X2_65 rfl (by decide) 2 rfl rfl rfl (Nat.le_of_ble_eq_true rfl) dX2_shootable_54 rfl ?_
            refine ww_ne0 (tgt := 89) hx hb dX2_shootable_57 (by decide) (fun c_4 => ?_) (fun c_4 => ?_)
            · replace h := it_n c_4 h
              exact ww_sub (lv1 := [(0, .ref (q 1)), (1, .int (x1)), (2, .int (x2)), (3, .int (x3))]) [0, 1, 2, 3] rfl (bk89 _ _ _ h)
            · replace h := it_p c_4 h
              exact ww_sub (lv1 := [(0, .ref (q 1)), (1, .int (x1)), (2, .int (x2)), (3, .int (x3)), (4, .int (fat σ 12 8 x3))]) [0, 1, 2, 3, 4] rfl (bk60 _ _ _ _ h)
  refine ww_sub (lv1 := [(0, .ref (q 1)), (1, .int (x1))]) [0, 1] rfl ?_
  refine ww_iconst (v := 0) hx hb dX2_shootable_0 (by decide) ?_
  refine ww_istore_n (i := 2) (lv1 := [(0, .ref (q 1)), (1, .int (x1)), (2, .int ((0 : Int32)))]) hx hb dX2_shootable_1 rfl (by decide) [1, 2, 0] rfl ?_
  refine ww_iconst (v := 0) hx hb dX2_shootable_2 (by decide) ?_
  refine ww_istore_n (i := 3) (lv1 := [(0, .ref (q 1)), (1, .int (x1)), (2, .int ((0 : Int32))), (3, .int ((0 : Int32)))]) hx hb dX2_shootable_3 rfl (by decide) [1, 2, 3, 0] rfl ?_
  exact ww_sub (lv1 := [(0, .ref (q 1)), (1, .int (x1)), (2, .int ((0 : Int32))), (3, .int ((0 : Int32)))]) [0, 1, 2, 3] rfl (lp4 _ _ _ _ h)
set_option maxHeartbeats 4000000 in
set_option maxRecDepth 100000 in
theorem m_X0_lackOf (σ : SS) (x1 x2 : Int32) : Ct l yX0_lackOf cX0_lackOf 3 (some .int) 1 40 D vwCl [(cA, .int)] (WC q cA σ) (WC q cA σ) [.ref (q 3), .int (x1), .int (x2)] (some (.int (X0_lackOf σ x1 x2))) := by
  refine ct_of (by decide +kernel) (Nat.le_of_ble_eq_true rfl) ?_
  intro p e s m args below meth c hx hb hr hlk hml hown hts hK hD hN hA
  have hown : s.vm.findClass RX0 = some m.cls := hown
  have hDD : ∀ τ : SS, va_D (va_A (WC q cA σ) s.heap.size) (WC q cA τ) := fun τ => hD.adr rfl
  obtain ⟨r, h⟩ : ∃ r, X0_lackOf σ x1 x2 = r := ⟨_, rfl⟩
  rw [h]
  unfold X0_lackOf at h
  refine ww_sub (lv1 := [(0, .ref (q 3)), (1, .int (x1)), (2, .int (x2))]) [0, 1, 2] rfl ?_
  refine ww_iconst (v := 0) hx hb dX0_lackOf_0 (by decide) ?_
  refine ww_iload_n hx hb dX0_lackOf_1 rfl 2 rfl ?_
  refine ww_aload_n hx hb dX0_lackOf_2 rfl 0 rfl ?_
  refine ww_get (C := RX0) (T := TX0) (N := 4) hx hb hown hts hK inA0 3 rfl rfl 0 (by decide) kw_159 rfl rfl dX0_lackOf_3 ?_
  refine ww_iload_n hx hb dX0_lackOf_6 rfl 1 rfl ?_
  refine ww_callN (ws1 := WC q cA σ) (st1 := [.int (fat σ 14 4 x1), .int (x2), .int ((0 : Int32))]) hx hb hml hown hts hK hN hA (hDD _) (Nat.zero_le _) (Nat.zero_le _) [.ref (q 14), .int (x1)] [.int (x2), .int ((0 : Int32))] (m_at (by decide) σ x1) cs_X0_15 rfl (by decide) rfl (Nat.le_of_ble_eq_true rfl) dX0_lackOf_7 rfl ?_
  refine ww_isub hx hb dX0_lackOf_10 ?_
  refine ww_max hx hb hml hown hts (Nat.zero_le _) (Nat.zero_le _) kw_160 kw_70 kw_71 kw_72 ⟨Nat.le_of_ble_eq_true rfl, Nat.le_of_ble_eq_true rfl⟩ dX0_lackOf_11 ?_
  obtain rfl := h
  exact ww_iret hx hb hr hlk rfl dX0_lackOf_14
set_option maxHeartbeats 4000000 in
set_option maxRecDepth 100000 in
theorem m_X0_pay (σ : SS) (x1 x2 : Int32) (r : Int32) (σ1 : SS) (h : X0_pay σ x1 x2 = some (r, σ1)) : Ct l yX0_pay cX0_pay 4 (some .int) 2 80 D vwCl [(cA, .int)] (WC q cA σ) (WC q cA σ1) [.ref (q 3), .int (x1), .int (x2)] (some (.int r)) := by
  refine ct_of (by decide +kernel) (Nat.le_of_ble_eq_true rfl) ?_
  intro p e s m args below meth c hx hb hr hlk hml hown hts hK hD hN hA
  have hown : s.vm.findClass RX0 = some m.cls := hown
  have hDD : ∀ τ : SS, va_D (va_A (WC q cA σ) s.heap.size) (WC q cA τ) := fun τ => hD.adr rfl
  unfold X0_pay at h
  refine ww_sub (lv1 := [(0, .ref (q 3)), (1, .int (x1)), (2, .int (x2))]) [0, 1, 2] rfl ?_
  refine ww_aload_n hx hb dX0_pay_0 rfl 0 rfl ?_
  refine ww_iload_n hx hb dX0_pay_1 rfl 1 rfl ?_
  refine ww_iload_n hx hb dX0_pay_2 rfl 2 rfl ?_
  refine ww_callV (ws1 := WC q cA σ) (st1 := [.int (X0_lackOf σ x1 x2)]) hx hb hml hown hts hK hN hA (hDD _) (Nat.zero_le _) (Nat.zero_le _) [.int (x1), .int (x2)] [] (m_X0_lackOf σ x1 x2) cs_X0_25 rfl (by decide) 3 rfl rfl rfl (Nat.le_of_ble_eq_true rfl) dX0_pay_3 rfl ?_
  refine ww_istore_n (i := 3) (lv1 := [(0, .ref (q 3)), (1, .int (x1)), (2, .int (x2)), (3, .int (X0_lackOf σ x1 x2))]) hx hb dX0_pay_6 rfl (by decide) [1, 2, 3, 0] rfl ?_
  refine ww_aload_n hx hb dX0_pay_7 rfl 0 rfl ?_
  refine ww_get (C := RX0) (T := TX0) (N := 4) hx hb hown hts hK inA0 3 rfl rfl 0 (by decide) kw_159 rfl rfl dX0_pay_8 ?_
  refine ww_iload_n hx hb dX0_pay_11 rfl 1 rfl ?_
  refine ww_iload_n hx hb dX0_pay_12 rfl 3 rfl ?_
  refine ww_iload_n hx hb dX0_pay_13 rfl 2 rfl ?_
  refine ww_isub hx hb dX0_pay_14 ?_
  obtain ⟨σ_1, e_1, h⟩ := lt_e h
  refine ww_callN (ws1 := WC q cA σ_1) (st1 := []) hx hb hml hown hts hK hN hA (hDD _) (Nat.zero_le _) (Nat.zero_le _) [.ref (q 14), .int (x1), .int ((X0_lackOf σ x1 x2) - x2)] [] (m_add (by decide) _ _ _ _ e_1) cs_X0_28 rfl (by decide) rfl (Nat.le_of_ble_eq_true rfl) dX0_pay_15 rfl ?_
  refine ww_aload_n hx hb dX0_pay_18 rfl 0 rfl ?_
  refine ww_dup hx hb dX0_pay_19 rfl ?_
  refine ww_get (C := RX0) (T := TX0) (N := 4) hx hb hown hts hK inA0 3 rfl rfl 1 (by decide) kw_168 rfl rfl dX0_pay_20 ?_
  refine ww_iload_n hx hb dX0_pay_23 rfl 3 rfl ?_
  refine ww_isub hx hb dX0_pay_24 ?_
  obtain ⟨σ_2, e_2, h⟩ := lt_e h
  refine ww_put (C := RX0) (T := TX0) (N := 4) (ty := .int) (ws1 := WC q cA (σ_2)) hx hb hown hts hK inA0 tyX0 tyX0_ok nmX0 (hDD _) 3 rfl rfl 1 (by decide) kw_168 rfl rfl rfl rfl rfl (Nat.le_of_ble_eq_true rfl) dX0_pay_25 (e_2 ▸ rfl) ?_
  refine ww_aload_n hx hb dX0_pay_28 rfl 0 rfl ?_
  refine ww_dup hx hb dX0_pay_29 rfl ?_
  refine ww_get (C := RX0) (T := TX0) (N := 4) hx hb hown hts hK inA0 3 rfl rfl 2 (by decide) kw_169 rfl rfl dX0_pay_30 ?_
  refine ww_iload_n hx hb dX0_pay_33 rfl 2 rfl ?_
  refine ww_iadd hx hb dX0_pay_34 ?_
  obtain ⟨σ_3, e_3, h⟩ := lt_e h
  refine ww_put (C := RX0) (T := TX0) (N := 4) (ty := .int) (ws1 := WC q cA (σ_3)) hx hb hown hts hK inA0 tyX0 tyX0_ok nmX0 (hDD _) 3 rfl rfl 2 (by decide) kw_169 rfl rfl rfl rfl rfl (Nat.le_of_ble_eq_true rfl) dX0_pay_35 (e_3 ▸ rfl) ?_
  refine ww_aload_n hx hb dX0_pay_38 rfl 0 rfl ?_
  refine ww_dup hx hb dX0_pay_39 rfl ?_
  refine ww_get (C := RX0) (T := TX0) (N := 4) hx hb hown hts hK inA0 3 rfl rfl 3 (by decide) kw_170 rfl rfl dX0_pay_40 ?_
  refine ww_iload_n hx hb dX0_pay_43 rfl 2 rfl ?_
  refine ww_iadd hx hb dX0_pay_44 ?_
  obtain ⟨σ_4, e_4, h⟩ := lt_e h
  refine ww_put (C := RX0) (T := TX0) (N := 4) (ty := .int) (ws1 := WC q cA (σ_4)) hx hb hown hts hK inA0 tyX0 tyX0_ok nmX0 (hDD _) 3 rfl rfl 3 (by decide) kw_170 rfl rfl rfl rfl rfl (Nat.le_of_ble_eq_true rfl) dX0_pay_45 (e_4 ▸ rfl) ?_
  refine ww_iload_n hx hb dX0_pay_48 rfl 3 rfl ?_
  obtain ⟨rfl, rfl⟩ := os2 h
  exact ww_iret hx hb hr hlk rfl dX0_pay_49
set_option maxHeartbeats 4000000 in
set_option maxRecDepth 100000 in
theorem m_X2_endDay (σ : SS) (x1 : Int32) (σ1 : SS) (h : X2_endDay σ x1 = some σ1) : Ct l yX2_endDay cX2_endDay 3 none 1 40 D vwCl [(cA, .int)] (WC q cA σ) (WC q cA σ1) [.ref (q 1), .int (x1)] none := by
  refine ct_of (by decide +kernel) (Nat.le_of_ble_eq_true rfl) ?_
  intro p e s m args below meth c hx hb hr hlk hml hown hts hK hD hN hA
  have hown : s.vm.findClass RX2 = some m.cls := hown
  have hDD : ∀ τ : SS, va_D (va_A (WC q cA σ) s.heap.size) (WC q cA τ) := fun τ => hD.adr rfl
  unfold X2_endDay at h
  have lp2 : ∀ (n : Nat) (τ : SS) (x1 : Int32) (x2 : Int32), X2_endDay_l2 n τ x1 x2 = some σ1 → WW p l e (rmc 1 40 0 0) s m args below meth c D vwCl (va_A (WC q cA σ) s.heap.size) 3 0 0 (MQ below (qcW D vwCl (WC q cA σ) (WC q cA σ1) none s.heap.size) args s 0 0 (va_A (WC q cA σ) s.heap.size)) (WC q cA τ) 2 [(0, .ref (q 1)), (1, .int (x1)), (2, .int (x2))] [] := by
    intro n
    induction n with
    | zero => intro τ x1 x2 h; rw [X2_endDay_l2] at h; cases h
    | succ n ih =>
      have bk37 : ∀ (τ : SS) (x1 : Int32) (x2 : Int32), X2_endDay_b37 (X2_endDay_l2 n) τ x1 x2 = some σ1 → WW p l e (rmc 1 40 0 0) s m args below meth c D vwCl (va_A (WC q cA σ) s.heap.size) 3 0 0 (MQ below (qcW D vwCl (WC q cA σ) (WC q cA σ1) none s.heap.size) args s 0 0 (va_A (WC q cA σ) s.heap.size)) (WC q cA τ) 37 [(0, .ref (q 1)), (1, .int (x1)), (2, .int (x2))] [] := by
        intro τ x1 x2 h
        unfold X2_endDay_b37 at h
        refine ww_iinc (i := 2) (k := 2) (v := 1) (lv1 := [(0, .ref (q 1)), (1, .int (x1)), (2, .int (x2 + 1))]) hx hb dX2_endDay_37 rfl (by decide) (by decide) [1, 2, 0] rfl ?_
        refine ww_goto (tgt := 2) hx hb dX2_endDay_40 (by decide) ?_
        exact ww_sub (lv1 := [(0, .ref (q 1)), (1, .int (x1)), (2, .int (x2 + 1))]) [0, 1, 2] rfl (ih _ _ _ h)
      intro τ x1 x2 h
      rw [X2_endDay_l2] at h
      refine ww_iload_n hx hb dX2_endDay_2 rfl 2 rfl ?_
      refine ww_aload_n hx hb dX2_endDay_3 rfl 0 rfl ?_
      refine ww_get (C := RX2) (T := TX2) (N := 8) hx hb hown hts hK inA2 1 rfl rfl 0 (by decide) kw_66 rfl rfl dX2_endDay_4 ?_
      refine ww_get (C := RX3) (T := TX3) (N := 9) hx hb hown hts hK inA3 2 rfl rfl 5 (by decide) kw_73 rfl rfl dX2_endDay_7 ?_
      refine ww_ge2 (tgt := 43) hx hb dX2_endDay_10 (by decide) (fun c_1 => ?_) (fun c_1 => ?_)
      · replace h := it_p c_1 h
        refine ww_aload_n hx hb dX2_endDay_43 rfl 0 rfl ?_
        refine ww_get (C := RX2) (T := TX2) (N := 8) hx hb hown hts hK inA2 1 rfl rfl 0 (by decide) kw_66 rfl rfl dX2_endDay_44 ?_
        refine ww_dup hx hb dX2_endDay_47 rfl ?_
        refine ww_get (C := RX3) (T := TX3) (N := 9) hx hb hown hts hK inA3 2 rfl rfl 6 (by decide) kw_140 rfl rfl dX2_endDay_48 ?_
        refine ww_iload_n hx hb dX2_endDay_51 rfl 1 rfl ?_
        refine ww_ior hx hb dX2_endDay_52 ?_
        obtain ⟨σ_2, e_2, h⟩ := lt_e h
        refine ww_put (C := RX3) (T := TX3) (N := 9) (ty := .int) (ws1 := WC q cA (σ_2)) hx hb hown hts hK inA3 tyX3 tyX3_ok nmX3 (hDD _) 2 rfl rfl 6 (by decide) kw_140 rfl rfl rfl rfl rfl (Nat.le_of_ble_eq_true rfl) dX2_endDay_53 (e_2 ▸ rfl) ?_
        refine ww_aload_n hx hb dX2_endDay_56 rfl 0 rfl ?_
        refine ww_dup hx hb dX2_endDay_57 rfl ?_
        refine ww_get (C := RX2) (T := TX2) (N := 8) hx hb hown hts hK inA2 1 rfl rfl 6 (by decide) kw_54 rfl rfl dX2_endDay_58 ?_
        refine ww_iconst (v := 1) hx hb dX2_endDay_61 (by decide) ?_
        refine ww_iadd hx hb dX2_endDay_62 ?_
        obtain ⟨σ_3, e_3, h⟩ := lt_e h
        refine ww_put (C := RX2) (T := TX2) (N := 8) (ty := .int) (ws1 := WC q cA (σ_3)) hx hb hown hts hK inA2 tyX2 tyX2_ok nmX2 (hDD _) 1 rfl rfl 6 (by decide) kw_54 rfl rfl rfl rfl rfl (Nat.le_of_ble_eq_true rfl) dX2_endDay_63 (e_3 ▸ rfl) ?_
        refine ww_aload_n hx hb dX2_endDay_66 rfl 0 rfl ?_
        obtain ⟨σ_4, e_4, h⟩ := ob h
        refine ww_callV (ws1 := WC q cA σ_4) (st1 := []) hx hb hml hown hts hK hN hA (hDD _) (Nat.zero_le _) (Nat.zero_le _) [] [] (m_X2_forget _  _ e_4) cs_X2_87 rfl (by decide) 1 rfl rfl rfl (Nat.le_of_ble_eq_true rfl) dX2_endDay_67 rfl ?_
        obtain rfl := os1 h
        exact ww_vret hx hb hr hlk dX2_endDay_70
      · replace h := it_n c_1 h
        refine ww_iload_n hx hb dX2_endDay_13 rfl 1 rfl ?_
        refine ww_iload_n hx hb dX2_endDay_14 rfl 2 rfl ?_
        refine ww_callN (ws1 := WC q cA τ) (st1 := [.int (X4_isIn x1 x2)]) hx hb hml hown hts hK hN hA (hDD _) (Nat.zero_le _) (Nat.zero_le _) [.int (x1), .int (x2)] [] (m_X4_isIn τ x1 x2) cs_X2_80 rfl (by decide) rfl (Nat.le_of_ble_eq_true rfl) dX2_endDay_15 rfl ?_
        refine ww_eq0 (tgt := 37) hx hb dX2_endDay_18 (by decide) (fun c_5 => ?_) (fun c_5 => ?_)
        · replace h := it_p c_5 h
          exact ww_sub (lv1 := [(0, .ref (q 1)), (1, .int (x1)), (2, .int (x2))]) [0, 1, 2] rfl (bk37 _ _ _ h)
        · replace h := it_n c_5 h
          refine ww_aload_n hx hb dX2_endDay_21 rfl 0 rfl ?_
          refine ww_get (C := RX2) (T := TX2) (N := 8) hx hb hown hts hK inA2 1 rfl rfl 2 (by decide) kw_47 rfl rfl dX2_endDay_22 ?_
          refine ww_iload_n hx hb dX2_endDay_25 rfl 2 rfl ?_
          refine ww_aload_n hx hb dX2_endDay_26 rfl 0 rfl ?_
          refine ww_get (C := RX2) (T := TX2) (N := 8) hx hb hown hts hK inA2 1 rfl rfl 4 (by decide) kw_61 rfl rfl dX2_endDay_27 ?_
          refine ww_iload_n hx hb dX2_endDay_30 rfl 2 rfl ?_
          refine ww_callN (ws1 := WC q cA τ) (st1 := [.int (fat τ 13 8 x2), .int (x2), .ref (q 11)]) hx hb hml hown hts hK hN hA (hDD _) (Nat.zero_le _) (Nat.zero_le _) [.ref (q 13), .int (x2)] [.int (x2), .ref (q 11)] (m_at (by decide) τ x2) cs_X2_54 rfl (by decide) rfl (Nat.le_of_ble_eq_true rfl) dX2_endDay_31 rfl ?_
          obtain ⟨σ_6, e_6, h⟩ := lt_e h
          refine ww_callN (ws1 := WC q cA σ_6) (st1 := []) hx hb hml hown hts hK hN hA (hDD _) (Nat.zero_le _) (Nat.zero_le _) [.ref (q 11), .int (x2), .int (fat τ 13 8 x2)] [] (m_put (by decide) _ _ _ _ e_6) cs_X2_83 rfl (by decide) rfl (Nat.le_of_ble_eq_true rfl) dX2_endDay_34 rfl ?_
          exact ww_sub (lv1 := [(0, .ref (q 1)), (1, .int (x1)), (2, .int (x2))]) [0, 1, 2] rfl (bk37 _ _ _ h)
  refine ww_sub (lv1 := [(0, .ref (q 1)), (1, .int (x1))]) [0, 1] rfl ?_
  refine ww_iconst (v := 0) hx hb dX2_endDay_0 (by decide) ?_
  refine ww_istore_n (i := 2) (lv1 := [(0, .ref (q 1)), (1, .int (x1)), (2, .int ((0 : Int32)))]) hx hb dX2_endDay_1 rfl (by decide) [1, 2, 0] rfl ?_
  exact ww_sub (lv1 := [(0, .ref (q 1)), (1, .int (x1)), (2, .int ((0 : Int32)))]) [0, 1, 2] rfl (lp2 _ _ _ _ h)
set_option maxHeartbeats 4000000 in
set_option maxRecDepth 100000 in
theorem m_X1_appendLoan (σ : SS) (x1 x2 : Int32) (r : Int32) (σ1 : SS) (h : X1_appendLoan σ x1 x2 = some (r, σ1)) : Ct l yX1_appendLoan cX1_appendLoan 3 (some .int) 1 40 D vwCl [(cA, .int)] (WC q cA σ) (WC q cA σ1) [.ref (q 4), .int (x1), .int (x2)] (some (.int r)) := by
  refine ct_of (by decide +kernel) (Nat.le_of_ble_eq_true rfl) ?_
  intro p e s m args below meth c hx hb hr hlk hml hown hts hK hD hN hA
  have hown : s.vm.findClass RX1 = some m.cls := hown
  have hDD : ∀ τ : SS, va_D (va_A (WC q cA σ) s.heap.size) (WC q cA τ) := fun τ => hD.adr rfl
  unfold X1_appendLoan at h
  refine ww_sub (lv1 := [(0, .ref (q 4)), (1, .int (x1)), (2, .int (x2))]) [0, 1, 2] rfl ?_
  refine ww_aload_n hx hb dX1_appendLoan_0 rfl 0 rfl ?_
  refine ww_get (C := RX1) (T := TX1) (N := 10) hx hb hown hts hK inA1 4 rfl rfl 0 (by decide) kw_198 rfl rfl dX1_appendLoan_1 ?_
  refine ww_aload_n hx hb dX1_appendLoan_4 rfl 0 rfl ?_
  refine ww_get (C := RX1) (T := TX1) (N := 10) hx hb hown hts hK inA1 4 rfl rfl 7 (by decide) kw_199 rfl rfl dX1_appendLoan_5 ?_
  refine ww_iload_n hx hb dX1_appendLoan_8 rfl 1 rfl ?_
  obtain ⟨σ_1, e_1, h⟩ := lt_e h
  refine ww_callN (ws1 := WC q cA σ_1) (st1 := []) hx hb hml hown hts hK hN hA (hDD _) (Nat.zero_le _) (Nat.zero_le _) [.ref (q 15), .int (σ 4 7), .int (x1)] [] (m_put (by decide) _ _ _ _ e_1) cs_X1_37 rfl (by decide) rfl (Nat.le_of_ble_eq_true rfl) dX1_appendLoan_9 rfl ?_
  refine ww_aload_n hx hb dX1_appendLoan_12 rfl 0 rfl ?_
  refine ww_get (C := RX1) (T := TX1) (N := 10) hx hb hown hts hK inA1 4 rfl rfl 1 (by decide) kw_200 rfl rfl dX1_appendLoan_13 ?_
  refine ww_aload_n hx hb dX1_appendLoan_16 rfl 0 rfl ?_
  refine ww_get (C := RX1) (T := TX1) (N := 10) hx hb hown hts hK inA1 4 rfl rfl 7 (by decide) kw_199 rfl rfl dX1_appendLoan_17 ?_
  refine ww_iload_n hx hb dX1_appendLoan_20 rfl 2 rfl ?_
  obtain ⟨σ_2, e_2, h⟩ := lt_e h
  refine ww_callN (ws1 := WC q cA σ_2) (st1 := []) hx hb hml hown hts hK hN hA (hDD _) (Nat.zero_le _) (Nat.zero_le _) [.ref (q 16), .int (σ_1 4 7), .int (x2)] [] (m_put (by decide) _ _ _ _ e_2) cs_X1_37 rfl (by decide) rfl (Nat.le_of_ble_eq_true rfl) dX1_appendLoan_21 rfl ?_
  refine ww_aload_n hx hb dX1_appendLoan_24 rfl 0 rfl ?_
  refine ww_dup hx hb dX1_appendLoan_25 rfl ?_
  refine ww_get (C := RX1) (T := TX1) (N := 10) hx hb hown hts hK inA1 4 rfl rfl 7 (by decide) kw_199 rfl rfl dX1_appendLoan_26 ?_
  refine ww_iconst (v := 1) hx hb dX1_appendLoan_29 (by decide) ?_
  refine ww_iadd hx hb dX1_appendLoan_30 ?_
  obtain ⟨σ_3, e_3, h⟩ := lt_e h
  refine ww_put (C := RX1) (T := TX1) (N := 10) (ty := .int) (ws1 := WC q cA (σ_3)) hx hb hown hts hK inA1 tyX1 tyX1_ok nmX1 (hDD _) 4 rfl rfl 7 (by decide) kw_199 rfl rfl rfl rfl rfl (Nat.le_of_ble_eq_true rfl) dX1_appendLoan_31 (e_3 ▸ rfl) ?_
  refine ww_aload_n hx hb dX1_appendLoan_34 rfl 0 rfl ?_
  refine ww_get (C := RX1) (T := TX1) (N := 10) hx hb hown hts hK inA1 4 rfl rfl 7 (by decide) kw_199 rfl rfl dX1_appendLoan_35 ?_
  refine ww_iconst (v := 1) hx hb dX1_appendLoan_38 (by decide) ?_
  refine ww_isub hx hb dX1_appendLoan_39 ?_
  obtain ⟨rfl, rfl⟩ := os2 h
  exact ww_iret hx hb hr hlk rfl dX1_appendLoan_40
set_option maxHeartbeats 4000000 in
set_option maxRecDepth 100000 in
theorem m_X1_percentOf (σ : SS) (x1 : Int32) (r : Int32) (h : X1_percentOf σ x1 = some r) : Ct l yX1_percentOf cX1_percentOf 4 (some .int) 1 40 D vwCl [(cA, .int)] (WC q cA σ) (WC q cA σ) [.ref (q 4), .int (x1)] (some (.int r)) := by
  refine ct_of (by decide +kernel) (Nat.le_of_ble_eq_true rfl) ?_
  intro p e s m args below meth c hx hb hr hlk hml hown hts hK hD hN hA
  have hown : s.vm.findClass RX1 = some m.cls := hown
  have hDD : ∀ τ : SS, va_D (va_A (WC q cA σ) s.heap.size) (WC q cA τ) := fun τ => hD.adr rfl
  unfold X1_percentOf at h
  have lp4 : ∀ (n : Nat) (x1 : Int32) (x2 : Int32) (x3 : Int32), X1_percentOf_l4 n σ x1 x2 x3 = some r → WW p l e (rmc 1 40 0 0) s m args below meth c D vwCl (va_A (WC q cA σ) s.heap.size) 4 0 0 (MQ below (qcW D vwCl (WC q cA σ) (WC q cA σ) (some (.int r)) s.heap.size) args s 0 0 (va_A (WC q cA σ) s.heap.size)) (WC q cA σ) 4 [(0, .ref (q 4)), (1, .int (x1)), (2, .int (x2)), (3, .int (x3))] [] := by
    intro n
    induction n with
    | zero => intro x1 x2 x3 h; rw [X1_percentOf_l4] at h; cases h
    | succ n ih =>
      have bk35 : ∀ (x1 : Int32) (x2 : Int32) (x3 : Int32), X1_percentOf_b35 (X1_percentOf_l4 n) σ x1 x2 x3 = some r → WW p l e (rmc 1 40 0 0) s m args below meth c D vwCl (va_A (WC q cA σ) s.heap.size) 4 0 0 (MQ below (qcW D vwCl (WC q cA σ) (WC q cA σ) (some (.int r)) s.heap.size) args s 0 0 (va_A (WC q cA σ) s.heap.size)) (WC q cA σ) 35 [(0, .ref (q 4)), (1, .int (x1)), (2, .int (x2)), (3, .int (x3))] [] := by
        intro x1 x2 x3 h
        unfold X1_percentOf_b35 at h
        refine ww_iinc (i := 3) (k := 3) (v := 1) (lv1 := [(0, .ref (q 4)), (1, .int (x1)), (2, .int (x2)), (3, .int (x3 + 1))]) hx hb dX1_percentOf_35 rfl (by decide) (by decide) [1, 2, 3, 0] rfl ?_
        refine ww_goto (tgt := 4) hx hb dX1_percentOf_38 (by decide) ?_
        exact ww_sub (lv1 := [(0, .ref (q 4)), (1, .int (x1)), (2, .int (x2)), (3, .int (x3 + 1))]) [0, 1, 2, 3] rfl (ih _ _ _ h)
      intro x1 x2 x3 h
      rw [X1_percentOf_l4] at h
      refine ww_iload_n hx hb dX1_percentOf_4 rfl 3 rfl ?_
      refine ww_aload_n hx hb dX1_percentOf_5 rfl 0 rfl ?_
      refine ww_get (C := RX1) (T := TX1) (N := 10) hx hb hown hts hK inA1 4 rfl rfl 8 (by decide) kw_208 rfl rfl dX1_percentOf_6 ?_
      refine ww_ge2 (tgt := 41) hx hb dX1_percentOf_9 (by decide) (fun c_1 => ?_) (fun c_1 => ?_)
      · replace h := it_p c_1 h
        refine ww_iload_n hx hb dX1_percentOf_41 rfl 2 rfl ?_
        obtain rfl := os1 h
        exact ww_iret hx hb hr hlk rfl dX1_percentOf_42
      · replace h := it_n c_1 h
        refine ww_aload_n hx hb dX1_percentOf_12 rfl 0 rfl ?_
        refine ww_get (C := RX1) (T := TX1) (N := 10) hx hb hown hts hK inA1 4 rfl rfl 2 (by decide) kw_209 rfl rfl dX1_percentOf_13 ?_
        refine ww_iload_n hx hb dX1_percentOf_16 rfl 3 rfl ?_
        refine ww_callN (ws1 := WC q cA σ) (st1 := [.int (fat σ 17 12 x3)]) hx hb hml hown hts hK hN hA (hDD _) (Nat.zero_le _) (Nat.zero_le _) [.ref (q 17), .int (x3)] [] (m_at (by decide) σ x3) cs_X1_44 rfl (by decide) rfl (Nat.le_of_ble_eq_true rfl) dX1_percentOf_17 rfl ?_
        refine ww_iload_n hx hb dX1_percentOf_20 rfl 1 rfl ?_
        refine ww_ne2 (tgt := 35) hx hb dX1_percentOf_21 (by decide) (fun c_2 => ?_) (fun c_2 => ?_)
        · replace h := it_n c_2 h
          exact ww_sub (lv1 := [(0, .ref (q 4)), (1, .int (x1)), (2, .int (x2)), (3, .int (x3))]) [0, 1, 2, 3] rfl (bk35 _ _ _ h)
        · replace h := it_p c_2 h
          refine ww_iload_n hx hb dX1_percentOf_24 rfl 2 rfl ?_
          refine ww_aload_n hx hb dX1_percentOf_25 rfl 0 rfl ?_
          refine ww_get (C := RX1) (T := TX1) (N := 10) hx hb hown hts hK inA1 4 rfl rfl 4 (by decide) kw_210 rfl rfl dX1_percentOf_26 ?_
          refine ww_iload_n hx hb dX1_percentOf_29 rfl 3 rfl ?_
          refine ww_callN (ws1 := WC q cA σ) (st1 := [.int (fat σ 19 12 x3), .int (x2)]) hx hb hml hown hts hK hN hA (hDD _) (Nat.zero_le _) (Nat.zero_le _) [.ref (q 19), .int (x3)] [.int (x2)] (m_at (by decide) σ x3) cs_X1_44 rfl (by decide) rfl (Nat.le_of_ble_eq_true rfl) dX1_percentOf_30 rfl ?_
          refine ww_iadd hx hb dX1_percentOf_33 ?_
          refine ww_istore_n (i := 2) (lv1 := [(0, .ref (q 4)), (1, .int (x1)), (2, .int (x2 + (fat σ 19 12 x3))), (3, .int (x3))]) hx hb dX1_percentOf_34 rfl (by decide) [1, 2, 0, 3] rfl ?_
          exact ww_sub (lv1 := [(0, .ref (q 4)), (1, .int (x1)), (2, .int (x2 + (fat σ 19 12 x3))), (3, .int (x3))]) [0, 1, 2, 3] rfl (bk35 _ _ _ h)
  refine ww_sub (lv1 := [(0, .ref (q 4)), (1, .int (x1))]) [0, 1] rfl ?_
  refine ww_iconst (v := 0) hx hb dX1_percentOf_0 (by decide) ?_
  refine ww_istore_n (i := 2) (lv1 := [(0, .ref (q 4)), (1, .int (x1)), (2, .int ((0 : Int32)))]) hx hb dX1_percentOf_1 rfl (by decide) [1, 2, 0] rfl ?_
  refine ww_iconst (v := 0) hx hb dX1_percentOf_2 (by decide) ?_
  refine ww_istore_n (i := 3) (lv1 := [(0, .ref (q 4)), (1, .int (x1)), (2, .int ((0 : Int32))), (3, .int ((0 : Int32)))]) hx hb dX1_percentOf_3 rfl (by decide) [1, 2, 3, 0] rfl ?_
  exact ww_sub (lv1 := [(0, .ref (q 4)), (1, .int (x1)), (2, .int ((0 : Int32))), (3, .int ((0 : Int32)))]) [0, 1, 2, 3] rfl (lp4 _ _ _ _ h)
set_option maxHeartbeats 4000000 in
set_option maxRecDepth 100000 in
theorem m_X1_appendPart (σ : SS) (x1 x2 x3 : Int32) (r : Int32) (σ1 : SS) (h : X1_appendPart σ x1 x2 x3 = some (r, σ1)) : Ct l yX1_appendPart cX1_appendPart 4 (some .int) 1 40 D vwCl [(cA, .int)] (WC q cA σ) (WC q cA σ1) [.ref (q 4), .int (x1), .int (x2), .int (x3)] (some (.int r)) := by
  refine ct_of (by decide +kernel) (Nat.le_of_ble_eq_true rfl) ?_
  intro p e s m args below meth c hx hb hr hlk hml hown hts hK hD hN hA
  have hown : s.vm.findClass RX1 = some m.cls := hown
  have hDD : ∀ τ : SS, va_D (va_A (WC q cA σ) s.heap.size) (WC q cA τ) := fun τ => hD.adr rfl
  unfold X1_appendPart at h
  refine ww_sub (lv1 := [(0, .ref (q 4)), (1, .int (x1)), (2, .int (x2)), (3, .int (x3))]) [0, 1, 2, 3] rfl ?_
  refine ww_aload_n hx hb dX1_appendPart_0 rfl 0 rfl ?_
  refine ww_get (C := RX1) (T := TX1) (N := 10) hx hb hown hts hK inA1 4 rfl rfl 2 (by decide) kw_209 rfl rfl dX1_appendPart_1 ?_
  refine ww_aload_n hx hb dX1_appendPart_4 rfl 0 rfl ?_
  refine ww_get (C := RX1) (T := TX1) (N := 10) hx hb hown hts hK inA1 4 rfl rfl 8 (by decide) kw_208 rfl rfl dX1_appendPart_5 ?_
  refine ww_iload_n hx hb dX1_appendPart_8 rfl 1 rfl ?_
  obtain ⟨σ_1, e_1, h⟩ := lt_e h
  refine ww_callN (ws1 := WC q cA σ_1) (st1 := []) hx hb hml hown hts hK hN hA (hDD _) (Nat.zero_le _) (Nat.zero_le _) [.ref (q 17), .int (σ 4 8), .int (x1)] [] (m_put (by decide) _ _ _ _ e_1) cs_X1_37 rfl (by decide) rfl (Nat.le_of_ble_eq_true rfl) dX1_appendPart_9 rfl ?_
  refine ww_aload_n hx hb dX1_appendPart_12 rfl 0 rfl ?_
  refine ww_get (C := RX1) (T := TX1) (N := 10) hx hb hown hts hK inA1 4 rfl rfl 3 (by decide) kw_211 rfl rfl dX1_appendPart_13 ?_
  refine ww_aload_n hx hb dX1_appendPart_16 rfl 0 rfl ?_
  refine ww_get (C := RX1) (T := TX1) (N := 10) hx hb hown hts hK inA1 4 rfl rfl 8 (by decide) kw_208 rfl rfl dX1_appendPart_17 ?_
  refine ww_iload_n hx hb dX1_appendPart_20 rfl 2 rfl ?_
  obtain ⟨σ_2, e_2, h⟩ := lt_e h
  refine ww_callN (ws1 := WC q cA σ_2) (st1 := []) hx hb hml hown hts hK hN hA (hDD _) (Nat.zero_le _) (Nat.zero_le _) [.ref (q 18), .int (σ_1 4 8), .int (x2)] [] (m_put (by decide) _ _ _ _ e_2) cs_X1_37 rfl (by decide) rfl (Nat.le_of_ble_eq_true rfl) dX1_appendPart_21 rfl ?_
  refine ww_aload_n hx hb dX1_appendPart_24 rfl 0 rfl ?_
  refine ww_get (C := RX1) (T := TX1) (N := 10) hx hb hown hts hK inA1 4 rfl rfl 4 (by decide) kw_210 rfl rfl dX1_appendPart_25 ?_
  refine ww_aload_n hx hb dX1_appendPart_28 rfl 0 rfl ?_
  refine ww_get (C := RX1) (T := TX1) (N := 10) hx hb hown hts hK inA1 4 rfl rfl 8 (by decide) kw_208 rfl rfl dX1_appendPart_29 ?_
  refine ww_iload_n hx hb dX1_appendPart_32 rfl 3 rfl ?_
  obtain ⟨σ_3, e_3, h⟩ := lt_e h
  refine ww_callN (ws1 := WC q cA σ_3) (st1 := []) hx hb hml hown hts hK hN hA (hDD _) (Nat.zero_le _) (Nat.zero_le _) [.ref (q 19), .int (σ_2 4 8), .int (x3)] [] (m_put (by decide) _ _ _ _ e_3) cs_X1_37 rfl (by decide) rfl (Nat.le_of_ble_eq_true rfl) dX1_appendPart_33 rfl ?_
  refine ww_aload_n hx hb dX1_appendPart_36 rfl 0 rfl ?_
  refine ww_dup hx hb dX1_appendPart_37 rfl ?_
  refine ww_get (C := RX1) (T := TX1) (N := 10) hx hb hown hts hK inA1 4 rfl rfl 8 (by decide) kw_208 rfl rfl dX1_appendPart_38 ?_
  refine ww_iconst (v := 1) hx hb dX1_appendPart_41 (by decide) ?_
  refine ww_iadd hx hb dX1_appendPart_42 ?_
  obtain ⟨σ_4, e_4, h⟩ := lt_e h
  refine ww_put (C := RX1) (T := TX1) (N := 10) (ty := .int) (ws1 := WC q cA (σ_4)) hx hb hown hts hK inA1 tyX1 tyX1_ok nmX1 (hDD _) 4 rfl rfl 8 (by decide) kw_208 rfl rfl rfl rfl rfl (Nat.le_of_ble_eq_true rfl) dX1_appendPart_43 (e_4 ▸ rfl) ?_
  refine ww_aload_n hx hb dX1_appendPart_46 rfl 0 rfl ?_
  refine ww_get (C := RX1) (T := TX1) (N := 10) hx hb hown hts hK inA1 4 rfl rfl 8 (by decide) kw_208 rfl rfl dX1_appendPart_47 ?_
  refine ww_iconst (v := 1) hx hb dX1_appendPart_50 (by decide) ?_
  refine ww_isub hx hb dX1_appendPart_51 ?_
  obtain ⟨rfl, rfl⟩ := os2 h
  exact ww_iret hx hb hr hlk rfl dX1_appendPart_52
set_option maxHeartbeats 4000000 in
set_option maxRecDepth 100000 in
theorem m_X0_payBack (σ : SS) (x1 : Int32) (r : Int32) (σ1 : SS) (h : X0_payBack σ x1 = some (r, σ1)) : Ct l yX0_payBack cX0_payBack 3 (some .int) 1 40 D vwCl [(cA, .int)] (WC q cA σ) (WC q cA σ1) [.ref (q 3), .int (x1)] (some (.int r)) := by
  refine ct_of (by decide +kernel) (Nat.le_of_ble_eq_true rfl) ?_
  intro p e s m args below meth c hx hb hr hlk hml hown hts hK hD hN hA
  have hown : s.vm.findClass RX0 = some m.cls := hown
  have hDD : ∀ τ : SS, va_D (va_A (WC q cA σ) s.heap.size) (WC q cA τ) := fun τ => hD.adr rfl
  unfold X0_payBack at h
  refine ww_sub (lv1 := [(0, .ref (q 3)), (1, .int (x1))]) [0, 1] rfl ?_
  refine ww_iload_n hx hb dX0_payBack_0 rfl 1 rfl ?_
  refine ww_aload_n hx hb dX0_payBack_1 rfl 0 rfl ?_
  refine ww_get (C := RX0) (T := TX0) (N := 4) hx hb hown hts hK inA0 3 rfl rfl 3 (by decide) kw_170 rfl rfl dX0_payBack_2 ?_
  refine ww_min hx hb hml hown hts (Nat.zero_le _) (Nat.zero_le _) kw_221 kw_222 kw_71 kw_223 ⟨Nat.le_of_ble_eq_true rfl, Nat.le_of_ble_eq_true rfl⟩ dX0_payBack_5 ?_
  refine ww_istore_n (i := 2) (lv1 := [(0, .ref (q 3)), (1, .int (x1)), (2, .int (imin x1 (σ 3 3)))]) hx hb dX0_payBack_8 rfl (by decide) [1, 2, 0] rfl ?_
  refine ww_aload_n hx hb dX0_payBack_9 rfl 0 rfl ?_
  refine ww_dup hx hb dX0_payBack_10 rfl ?_
  refine ww_get (C := RX0) (T := TX0) (N := 4) hx hb hown hts hK inA0 3 rfl rfl 3 (by decide) kw_170 rfl rfl dX0_payBack_11 ?_
  refine ww_iload_n hx hb dX0_payBack_14 rfl 2 rfl ?_
  refine ww_isub hx hb dX0_payBack_15 ?_
  obtain ⟨σ_1, e_1, h⟩ := lt_e h
  refine ww_put (C := RX0) (T := TX0) (N := 4) (ty := .int) (ws1 := WC q cA (σ_1)) hx hb hown hts hK inA0 tyX0 tyX0_ok nmX0 (hDD _) 3 rfl rfl 3 (by decide) kw_170 rfl rfl rfl rfl rfl (Nat.le_of_ble_eq_true rfl) dX0_payBack_16 (e_1 ▸ rfl) ?_
  refine ww_iload_n hx hb dX0_payBack_19 rfl 1 rfl ?_
  refine ww_iload_n hx hb dX0_payBack_20 rfl 2 rfl ?_
  refine ww_isub hx hb dX0_payBack_21 ?_
  obtain ⟨rfl, rfl⟩ := os2 h
  exact ww_iret hx hb hr hlk rfl dX0_payBack_22
set_option maxHeartbeats 4000000 in
set_option maxRecDepth 100000 in
theorem m_X1_payBackLoans (σ : SS) (x1 : Int32) (r : Int32) (σ1 : SS) (h : X1_payBackLoans σ x1 = some (r, σ1)) : Ct l yX1_payBackLoans cX1_payBackLoans 5 (some .int) 2 80 D vwCl [(cA, .int)] (WC q cA σ) (WC q cA σ1) [.ref (q 4), .int (x1)] (some (.int r)) := by
  refine ct_of (by decide +kernel) (Nat.le_of_ble_eq_true rfl) ?_
  intro p e s m args below meth c hx hb hr hlk hml hown hts hK hD hN hA
  have hown : s.vm.findClass RX1 = some m.cls := hown
  have hDD : ∀ τ : SS, va_D (va_A (WC q cA σ) s.heap.size) (WC q cA τ) := fun τ => hD.adr rfl
  unfold X1_payBackLoans at h
  have lp4 : ∀ (n : Nat) (τ : SS) (x2 : Int32) (x3 : Int32), X1_payBackLoans_l4 n τ x2 x3 = some (r, σ1) → WW p l e (rmc 2 80 0 0) s m args below meth c D vwCl (va_A (WC q cA σ) s.heap.size) 5 0 0 (MQ below (qcW D vwCl (WC q cA σ) (WC q cA σ1) (some (.int r)) s.heap.size) args s 0 0 (va_A (WC q cA σ) s.heap.size)) (WC q cA τ) 4 [(0, .ref (q 4)), (2, .int (x2)), (3, .int (x3))] [] := by
    intro n
    induction n with
    | zero => intro τ x2 x3 h; rw [X1_payBackLoans_l4] at h; cases h
    | succ n ih =>
      intro τ x2 x3 h
      rw [X1_payBackLoans_l4] at h
      refine ww_iload_n hx hb dX1_payBackLoans_4 rfl 2 rfl ?_
      refine ww_aload_n hx hb dX1_payBackLoans_5 rfl 0 rfl ?_
      refine ww_get (C := RX1) (T := TX1) (N := 10) hx hb hown hts hK inA1 4 rfl rfl 7 (by decide) kw_199 rfl rfl dX1_payBackLoans_6 ?_
      refine ww_ge2 (tgt := 65) hx hb dX1_payBackLoans_9 (by decide) (fun c_1 => ?_) (fun c_1 => ?_)
      · replace h := it_p c_1 h
        refine ww_iload_n hx hb dX1_payBackLoans_65 rfl 1 rfl ?_
        obtain ⟨rfl, rfl⟩ := os2 h
        exact ww_iret hx hb hr hlk rfl dX1_payBackLoans_66
      · replace h := it_n c_1 h
        refine ww_iload_n hx hb dX1_payBackLoans_12 rfl 1 rfl ?_
        refine ww_aload_n hx hb dX1_payBackLoans_13 rfl 0 rfl ?_
        refine ww_get (C := RX1) (T := TX1) (N := 10) hx hb hown hts hK inA1 4 rfl rfl 1 (by decide) kw_200 rfl rfl dX1_payBackLoans_14 ?_
        refine ww_iload_n hx hb dX1_payBackLoans_17 rfl 2 rfl ?_
        refine ww_callN (ws1 := WC q cA τ) (st1 := [.int (fat τ 16 10 x3), .int (x2)]) hx hb hml hown hts hK hN hA (hDD _) (Nat.zero_le _) (Nat.zero_le _) [.ref (q 16), .int (x3)] [.int (x2)] (m_at (by decide) τ x3) cs_X1_44 rfl (by decide) rfl (Nat.le_of_ble_eq_true rfl) dX1_payBackLoans_18 rfl ?_
        refine ww_min hx hb hml hown hts (Nat.zero_le _) (Nat.zero_le _) kw_224 kw_222 kw_71 kw_223 ⟨Nat.le_of_ble_eq_true rfl, Nat.le_of_ble_eq_true rfl⟩ dX1_payBackLoans_21 ?_
        refine ww_istore (i := 4) (lv1 := [(0, .ref (q 4)), (2, .int (x2)), (3, .int (x3)), (4, .int (imin x2 (fat τ 16 10 x3)))]) hx hb dX1_payBackLoans_24 (by decide) [1, 2, 3, 0] rfl ?_
        refine ww_aload_n hx hb dX1_payBackLoans_26 rfl 0 rfl ?_
        refine ww_get (C := RX1) (T := TX1) (N := 10) hx hb hown hts hK inA1 4 rfl rfl 1 (by decide) kw_200 rfl rfl dX1_payBackLoans_27 ?_
        refine ww_iload_n hx hb dX1_payBackLoans_30 rfl 2 rfl ?_
        refine ww_iload hx hb dX1_payBackLoans_31 3 rfl ?_
        refine ww_ineg hx hb dX1_payBackLoans_33 ?_
        obtain ⟨σ_2, e_2, h⟩ := lt_e h
        refine ww_callN (ws1 := WC q cA σ_2) (st1 := []) hx hb hml hown hts hK hN hA (hDD _) (Nat.zero_le _) (Nat.zero_le _) [.ref (q 16), .int (x3), .int (-(imin x2 (fat τ 16 10 x3)))] [] (m_add (by decide) _ _ _ _ e_2) cs_X1_54 rfl (by decide) rfl (Nat.le_of_ble_eq_true rfl) dX1_payBackLoans_34 rfl ?_
        refine ww_aload_n hx hb dX1_payBackLoans_37 rfl 0 rfl ?_
        refine ww_get (C := RX1) (T := TX1) (N := 10) hx hb hown hts hK inA1 4 rfl rfl 6 (by decide) kw_225 rfl rfl dX1_payBackLoans_38 ?_
        refine ww_aload_n hx hb dX1_payBackLoans_41 rfl 0 rfl ?_
        refine ww_get (C := RX1) (T := TX1) (N := 10) hx hb hown hts hK inA1 4 rfl rfl 0 (by decide) kw_198 rfl rfl dX1_payBackLoans_42 ?_
        refine ww_iload_n hx hb dX1_payBackLoans_45 rfl 2 rfl ?_
        refine ww_callN (ws1 := WC q cA σ_2) (st1 := [.int (fat σ_2 15 10 x3), .ref (q 21)]) hx hb hml hown hts hK hN hA (hDD _) (Nat.zero_le _) (Nat.zero_le _) [.ref (q 15), .int (x3)] [.ref (q 21)] (m_at (by decide) σ_2 x3) cs_X1_44 rfl (by decide) rfl (Nat.le_of_ble_eq_true rfl) dX1_payBackLoans_46 rfl ?_
        refine ww_iload hx hb dX1_payBackLoans_49 3 rfl ?_
        obtain ⟨σ_3, e_3, h⟩ := lt_e h
        refine ww_callN (ws1 := WC q cA σ_3) (st1 := []) hx hb hml hown hts hK hN hA (hDD _) (Nat.zero_le _) (Nat.zero_le _) [.ref (q 21), .int (fat σ_2 15 10 x3), .int (imin x2 (fat τ 16 10 x3))] [] (m_add (by decide) _ _ _ _ e_3) cs_X1_54 rfl (by decide) rfl (Nat.le_of_ble_eq_true rfl) dX1_payBackLoans_51 rfl ?_
        refine ww_iload_n hx hb dX1_payBackLoans_54 rfl 1 rfl ?_
        refine ww_iload hx hb dX1_payBackLoans_55 3 rfl ?_
        refine ww_isub hx hb dX1_payBackLoans_57 ?_
        refine ww_istore_n (i := 2) (lv1 := [(0, .ref (q 4)), (2, .int (x2 - (imin x2 (fat τ 16 10 x3)))), (3, .int (x3))]) hx hb dX1_payBackLoans_58 rfl (by decide) [1, 0, 2] rfl ?_
        refine ww_iinc (i := 3) (k := 2) (v := 1) (lv1 := [(0, .ref (q 4)), (2, .int (x2 - (imin x2 (fat τ 16 10 x3)))), (3, .int (x3 + 1))]) hx hb dX1_payBackLoans_59 rfl (by decide) (by decide) [1, 2, 0] rfl ?_
        refine ww_goto (tgt := 4) hx hb dX1_payBackLoans_62 (by decide) ?_
        exact ww_sub (lv1 := [(0, .ref (q 4)), (2, .int (x2 - (imin x2 (fat τ 16 10 x3)))), (3, .int (x3 + 1))]) [0, 1, 2] rfl (ih _ _ _ h)
  refine ww_sub (lv1 := [(0, .ref (q 4)), (1, .int (x1))]) [0, 1] rfl ?_
  refine ww_iload_n hx hb dX1_payBackLoans_0 rfl 1 rfl ?_
  refine ww_istore_n (i := 2) (lv1 := [(0, .ref (q 4)), (2, .int (x1))]) hx hb dX1_payBackLoans_1 rfl (by decide) [1, 0] rfl ?_
  refine ww_iconst (v := 0) hx hb dX1_payBackLoans_2 (by decide) ?_
  refine ww_istore_n (i := 3) (lv1 := [(0, .ref (q 4)), (2, .int (x1)), (3, .int ((0 : Int32)))]) hx hb dX1_payBackLoans_3 rfl (by decide) [1, 2, 0] rfl ?_
  exact ww_sub (lv1 := [(0, .ref (q 4)), (2, .int (x1)), (3, .int ((0 : Int32)))]) [0, 1, 2] rfl (lp4 _ _ _ _ h)
set_option maxHeartbeats 4000000 in
set_option maxRecDepth 100000 in
theorem m_X1_share (σ : SS) (x1 : Int32) (σ1 : SS) (h : X1_share σ x1 = some σ1) : Ct l yX1_share cX1_share 6 none 2 80 D vwCl [(cA, .int)] (WC q cA σ) (WC q cA σ1) [.ref (q 4), .int (x1)] none := by
  refine ct_of (by decide +kernel) (Nat.le_of_ble_eq_true rfl) ?_
  intro p e s m args below meth c hx hb hr hlk hml hown hts hK hD hN hA
  have hown : s.vm.findClass RX1 = some m.cls := hown
  have hDD : ∀ τ : SS, va_D (va_A (WC q cA σ) s.heap.size) (WC q cA τ) := fun τ => hD.adr rfl
  unfold X1_share at h
  have lp4 : ∀ (n : Nat) (τ : SS) (x1 : Int32) (x2 : Int32) (x3 : Int32), X1_share_l4 n τ x1 x2 x3 = some σ1 → WW p l e (rmc 2 80 0 0) s m args below meth c D vwCl (va_A (WC q cA σ) s.heap.size) 6 0 0 (MQ below (qcW D vwCl (WC q cA σ) (WC q cA σ1) none s.heap.size) args s 0 0 (va_A (WC q cA σ) s.heap.size)) (WC q cA τ) 4 [(0, .ref (q 4)), (1, .int (x1)), (2, .int (x2)), (3, .int (x3))] [] := by
    intro n
    induction n with
    | zero => intro τ x1 x2 x3 h; rw [X1_share_l4] at h; cases h
    | succ n ih =>
      have bk115 : ∀ (τ : SS) (x1 : Int32) (x2 : Int32) (x3 : Int32), X1_share_b115 (X1_share_l4 n) τ x1 x2 x3 = some σ1 → WW p l e (rmc 2 80 0 0) s m args below meth c D vwCl (va_A (WC q cA σ) s.heap.size) 6 0 0 (MQ below (qcW D vwCl (WC q cA σ) (WC q cA σ1) none s.heap.size) args s 0 0 (va_A (WC q cA σ) s.heap.size)) (WC q cA τ) 115 [(0, .ref (q 4)), (1, .int (x1)), (2, .int (x2)), (3, .int (x3))] [] := by
        intro τ x1 x2 x3 h
        unfold X1_share_b115 at h
        refine ww_iinc (i := 3) (k := 3) (v := 1) (lv1 := [(0, .ref (q 4)), (1, .int (x1)), (2, .int (x2)), (3, .int (x3 + 1))]) hx hb dX1_share_115 rfl (by decide) (by decide) [1, 2, 3, 0] rfl ?_
        refine ww_goto (tgt := 4) hx hb dX1_share_118 (by decide) ?_
        exact ww_sub (lv1 := [(0, .ref (q 4)), (1, .int (x1)), (2, .int (x2)), (3, .int (x3 + 1))]) [0, 1, 2, 3] rfl (ih _ _ _ _ h)
      have bk41 : ∀ (τ : SS) (x1 : Int32) (x2 : Int32) (x3 : Int32) (x4 : Int32) (y0 : Int32), X1_share_b41 (X1_share_l4 n) τ x1 x2 x3 x4 y0 = some σ1 → WW p l e (rmc 2 80 0 0) s m args below meth c D vwCl (va_A (WC q cA σ) s.heap.size) 6 0 0 (MQ below (qcW D vwCl (WC q cA σ) (WC q cA σ1) none s.heap.size) args s 0 0 (va_A (WC q cA σ) s.heap.size)) (WC q cA τ) 41 [(0, .ref (q 4)), (1, .int (x1)), (2, .int (x2)), (3, .int (x3)), (4, .int (x4))] [.int (y0)] := by
        intro τ x1 x2 x3 x4 y0 h
        unfold X1_share_b41 at h
        refine ww_aload_n hx hb dX1_share_41 rfl 0 rfl ?_
        refine ww_get (C := RX1) (T := TX1) (N := 10) hx hb hown hts hK inA1 4 rfl rfl 4 (by decide) kw_210 rfl rfl dX1_share_42 ?_
        refine ww_iload_n hx hb dX1_share_45 rfl 3 rfl ?_
        refine ww_callN (ws1 := WC q cA τ) (st1 := [.int (fat τ 19 12 x3), .int (y0)]) hx hb hml hown hts hK hN hA (hDD _) (Nat.zero_le _) (Nat.zero_le _) [.ref (q 19), .int (x3)] [.int (y0)] (m_at (by decide) τ x3) cs_X1_44 rfl (by decide) rfl (Nat.le_of_ble_eq_true rfl) dX1_share_46 rfl ?_
        refine ww_imul hx hb dX1_share_49 ?_
        refine ww_bipush (v := 100) hx hb dX1_share_50 (by decide) ?_
        refine ww_idiv hx hb dX1_share_52 (by decide) ?_
        refine ww_istore (i := 5) (lv1 := [(0, .ref (q 4)), (1, .int (x1)), (2, .int (x2)), (3, .int (x3)), (4, .int (x4)), (5, .int ((y0 * (fat τ 19 12 x3)) / (100 : Int32)))]) hx hb dX1_share_53 (by decide) [1, 2, 3, 4, 5, 0] rfl ?_
        refine ww_aload_n hx hb dX1_share_55 rfl 0 rfl ?_
        refine ww_get (C := RX1) (T := TX1) (N := 10) hx hb hown hts hK inA1 4 rfl rfl 5 (by decide) kw_227 rfl rfl dX1_share_56 ?_
        refine ww_iload_n hx hb dX1_share_59 rfl 3 rfl ?_
        refine ww_iload hx hb dX1_share_60 5 rfl ?_
        obtain ⟨σ_4, e_4, h⟩ := lt_e h
        refine ww_callN (ws1 := WC q cA σ_4) (st1 := []) hx hb hml hown hts hK hN hA (hDD _) (Nat.zero_le _) (Nat.zero_le _) [.ref (q 20), .int (x3), .int ((y0 * (fat τ 19 12 x3)) / (100 : Int32))] [] (m_put (by decide) _ _ _ _ e_4) cs_X1_37 rfl (by decide) rfl (Nat.le_of_ble_eq_true rfl) dX1_share_62 rfl ?_
        refine ww_aload_n hx hb dX1_share_65 rfl 0 rfl ?_
        refine ww_get (C := RX1) (T := TX1) (N := 10) hx hb hown hts hK inA1 4 rfl rfl 6 (by decide) kw_225 rfl rfl dX1_share_66 ?_
        refine ww_aload_n hx hb dX1_share_69 rfl 0 rfl ?_
        refine ww_get (C := RX1) (T := TX1) (N := 10) hx hb hown hts hK inA1 4 rfl rfl 3 (by decide) kw_211 rfl rfl dX1_share_70 ?_
        refine ww_iload_n hx hb dX1_share_73 rfl 3 rfl ?_
        refine ww_callN (ws1 := WC q cA σ_4) (st1 := [.int (fat σ_4 18 12 x3), .ref (q 21)]) hx hb hml hown hts hK hN hA (hDD _) (Nat.zero_le _) (Nat.zero_le _) [.ref (q 18), .int (x3)] [.ref (q 21)] (m_at (by decide) σ_4 x3) cs_X1_44 rfl (by decide) rfl (Nat.le_of_ble_eq_true rfl) dX1_share_74 rfl ?_
        refine ww_iload hx hb dX1_share_77 5 rfl ?_
        obtain ⟨σ_5, e_5, h⟩ := lt_e h
        refine ww_callN (ws1 := WC q cA σ_5) (st1 := []) hx hb hml hown hts hK hN hA (hDD _) (Nat.zero_le _) (Nat.zero_le _) [.ref (q 21), .int (fat σ_4 18 12 x3), .int ((y0 * (fat τ 19 12 x3)) / (100 : Int32))] [] (m_add (by decide) _ _ _ _ e_5) cs_X1_54 rfl (by decide) rfl (Nat.le_of_ble_eq_true rfl) dX1_share_79 rfl ?_
        refine ww_iload hx hb dX1_share_82 4 rfl ?_
        refine ww_iconst (v := -1) hx hb dX1_share_84 (by decide) ?_
        refine ww_ne2 (tgt := 96) hx hb dX1_share_85 (by decide) (fun c_6 => ?_) (fun c_6 => ?_)
        · replace h := it_n c_6 h
          refine ww_aload_n hx hb dX1_share_96 rfl 0 rfl ?_
          refine ww_get (C := RX1) (T := TX1) (N := 10) hx hb hown hts hK inA1 4 rfl rfl 6 (by decide) kw_225 rfl rfl dX1_share_97 ?_
          refine ww_aload_n hx hb dX1_share_100 rfl 0 rfl ?_
          refine ww_get (C := RX1) (T := TX1) (N := 10) hx hb hown hts hK inA1 4 rfl rfl 3 (by decide) kw_211 rfl rfl dX1_share_101 ?_
          refine ww_iload hx hb dX1_share_104 4 rfl ?_
          refine ww_callN (ws1 := WC q cA σ_5) (st1 := [.int (fat σ_5 18 12 x4), .ref (q 21)]) hx hb hml hown hts hK hN hA (hDD _) (Nat.zero_le _) (Nat.zero_le _) [.ref (q 18), .int (x4)] [.ref (q 21)] (m_at (by decide) σ_5 x4) cs_X1_44 rfl (by decide) rfl (Nat.le_of_ble_eq_true rfl) dX1_share_106 rfl ?_
          refine ww_iload hx hb dX1_share_109 5 rfl ?_
          refine ww_ineg hx hb dX1_share_111 ?_
          obtain ⟨σ_7, e_7, h⟩ := lt_e h
          refine ww_callN (ws1 := WC q cA σ_7) (st1 := []) hx hb hml hown hts hK hN hA (hDD _) (Nat.zero_le _) (Nat.zero_le _) [.ref (q 21), .int (fat σ_5 18 12 x4), .int (-((y0 * (fat τ 19 12 x3)) / (100 : Int32)))] [] (m_add (by decide) _ _ _ _ e_7) cs_X1_54 rfl (by decide) rfl (Nat.le_of_ble_eq_true rfl) dX1_share_112 rfl ?_
          exact ww_sub (lv1 := [(0, .ref (q 4)), (1, .int (x1)), (2, .int (x2)), (3, .int (x3))]) [0, 1, 2, 3] rfl (bk115 _ _ _ _ h)
        · replace h := it_p c_6 h
          refine ww_iload_n hx hb dX1_share_88 rfl 2 rfl ?_
          refine ww_iload hx hb dX1_share_89 5 rfl ?_
          refine ww_isub hx hb dX1_share_91 ?_
          refine ww_istore_n (i := 2) (lv1 := [(0, .ref (q 4)), (1, .int (x1)), (2, .int (x2 - ((y0 * (fat τ 19 12 x3)) / (100 : Int32)))), (3, .int (x3))]) hx hb dX1_share_92 rfl (by decide) [1, 2, 0, 3] rfl ?_
          refine ww_goto (tgt := 115) hx hb dX1_share_93 (by decide) ?_
          exact ww_sub (lv1 := [(0, .ref (q 4)), (1, .int (x1)), (2, .int (x2 - ((y0 * (fat τ 19 12 x3)) / (100 : Int32)))), (3, .int (x3))]) [0, 1, 2, 3] rfl (bk115 _ _ _ _ h)
      intro τ x1 x2 x3 h
      rw [X1_share_l4] at h
      refine ww_iload_n hx hb dX1_share_4 rfl 3 rfl ?_
      refine ww_aload_n hx hb dX1_share_5 rfl 0 rfl ?_
      refine ww_get (C := RX1) (T := TX1) (N := 10) hx hb hown hts hK inA1 4 rfl rfl 8 (by decide) kw_208 rfl rfl dX1_share_6 ?_
      refine ww_ge2 (tgt := 121) hx hb dX1_share_9 (by decide) (fun c_1 => ?_) (fun c_1 => ?_)
      · replace h := it_p c_1 h
        refine ww_aload_n hx hb dX1_share_121 rfl 0 rfl ?_
        refine ww_dup hx hb dX1_share_122 rfl ?_
        refine ww_get (C := RX1) (T := TX1) (N := 10) hx hb hown hts hK inA1 4 rfl rfl 9 (by decide) kw_226 rfl rfl dX1_share_123 ?_
        refine ww_iload_n hx hb dX1_share_126 rfl 2 rfl ?_
        refine ww_iadd hx hb dX1_share_127 ?_
        obtain ⟨σ_2, e_2, h⟩ := lt_e h
        refine ww_put (C := RX1) (T := TX1) (N := 10) (ty := .int) (ws1 := WC q cA (σ_2)) hx hb hown hts hK inA1 tyX1 tyX1_ok nmX1 (hDD _) 4 rfl rfl 9 (by decide) kw_226 rfl rfl rfl rfl rfl (Nat.le_of_ble_eq_true rfl) dX1_share_128 (e_2 ▸ rfl) ?_
        obtain rfl := os1 h
        exact ww_vret hx hb hr hlk dX1_share_131
      · replace h := it_n c_1 h
        refine ww_aload_n hx hb dX1_share_12 rfl 0 rfl ?_
        refine ww_get (C := RX1) (T := TX1) (N := 10) hx hb hown hts hK inA1 4 rfl rfl 2 (by decide) kw_209 rfl rfl dX1_share_13 ?_
        refine ww_iload_n hx hb dX1_share_16 rfl 3 rfl ?_
        refine ww_callN (ws1 := WC q cA τ) (st1 := [.int (fat τ 17 12 x3)]) hx hb hml hown hts hK hN hA (hDD _) (Nat.zero_le _) (Nat.zero_le _) [.ref (q 17), .int (x3)] [] (m_at (by decide) τ x3) cs_X1_44 rfl (by decide) rfl (Nat.le_of_ble_eq_true rfl) dX1_share_17 rfl ?_
        refine ww_istore (i := 4) (lv1 := [(0, .ref (q 4)), (1, .int (x1)), (2, .int (x2)), (3, .int (x3)), (4, .int (fat τ 17 12 x3))]) hx hb dX1_share_20 (by decide) [1, 2, 3, 4, 0] rfl ?_
        refine ww_iload hx hb dX1_share_22 4 rfl ?_
        refine ww_iconst (v := -1) hx hb dX1_share_24 (by decide) ?_
        refine ww_ne2 (tgt := 32) hx hb dX1_share_25 (by decide) (fun c_3 => ?_) (fun c_3 => ?_)
        · replace h := it_n c_3 h
          refine ww_aload_n hx hb dX1_share_32 rfl 0 rfl ?_
          refine ww_get (C := RX1) (T := TX1) (N := 10) hx hb hown hts hK inA1 4 rfl rfl 5 (by decide) kw_227 rfl rfl dX1_share_33 ?_
          refine ww_iload hx hb dX1_share_36 4 rfl ?_
          refine ww_callN (ws1 := WC q cA τ) (st1 := [.int (fat τ 20 12 (fat τ 17 12 x3))]) hx hb hml hown hts hK hN hA (hDD _) (Nat.zero_le _) (Nat.zero_le _) [.ref (q 20), .int (fat τ 17 12 x3)] [] (m_at (by decide) τ (fat τ 17 12 x3)) cs_X1_44 rfl (by decide) rfl (Nat.le_of_ble_eq_true rfl) dX1_share_38 rfl ?_
          exact ww_sub (lv1 := [(0, .ref (q 4)), (1, .int (x1)), (2, .int (x2)), (3, .int (x3)), (4, .int (fat τ 17 12 x3))]) [0, 1, 2, 3, 4] rfl (bk41 _ _ _ _ _ _ h)
        · replace h := it_p c_3 h
          refine ww_iload_n hx hb dX1_share_28 rfl 1 rfl ?_
          refine ww_goto (tgt := 41) hx hb dX1_share_29 (by decide) ?_
          exact ww_sub (lv1 := [(0, .ref (q 4)), (1, .int (x1)), (2, .int (x2)), (3, .int (x3)), (4, .int (fat τ 17 12 x3))]) [0, 1, 2, 3, 4] rfl (bk41 _ _ _ _ _ _ h)
  refine ww_sub (lv1 := [(0, .ref (q 4)), (1, .int (x1))]) [0, 1] rfl ?_
  refine ww_iload_n hx hb dX1_share_0 rfl 1 rfl ?_
  refine ww_istore_n (i := 2) (lv1 := [(0, .ref (q 4)), (1, .int (x1)), (2, .int (x1))]) hx hb dX1_share_1 rfl (by decide) [1, 2, 0] rfl ?_
  refine ww_iconst (v := 0) hx hb dX1_share_2 (by decide) ?_
  refine ww_istore_n (i := 3) (lv1 := [(0, .ref (q 4)), (1, .int (x1)), (2, .int (x1)), (3, .int ((0 : Int32)))]) hx hb dX1_share_3 rfl (by decide) [1, 2, 3, 0] rfl ?_
  exact ww_sub (lv1 := [(0, .ref (q 4)), (1, .int (x1)), (2, .int (x1)), (3, .int ((0 : Int32)))]) [0, 1, 2, 3] rfl (lp4 _ _ _ _ _ h)
set_option maxHeartbeats 4000000 in
set_option maxRecDepth 100000 in
theorem m_X4_today (σ : SS) : Ct l yX4_today cX4_today 1 (some .int) 0 0 D vwCl [(cA, .int)] (WC q cA σ) (WC q cA σ) [.ref (q 0)] (some (.int (X4_today σ))) := by
  refine ct_of (by decide +kernel) (Nat.le_of_ble_eq_true rfl) ?_
  intro p e s m args below meth c hx hb hr hlk hml hown hts hK hD hN hA
  have hown : s.vm.findClass RX4 = some m.cls := hown
  have hDD : ∀ τ : SS, va_D (va_A (WC q cA σ) s.heap.size) (WC q cA τ) := fun τ => hD.adr rfl
  obtain ⟨r, h⟩ : ∃ r, X4_today σ = r := ⟨_, rfl⟩
  rw [h]
  unfold X4_today at h
  refine ww_sub (lv1 := [(0, .ref (q 0))]) [0] rfl ?_
  refine ww_aload_n hx hb dX4_today_0 rfl 0 rfl ?_
  refine ww_get (C := RX4) (T := TX4) (N := 7) hx hb hown hts hK inA4 0 rfl rfl 1 (by decide) kw_20 rfl rfl dX4_today_1 ?_
  refine ww_get (C := RX2) (T := TX2) (N := 8) hx hb hown hts hK inA2 1 rfl rfl 6 (by decide) kw_184 rfl rfl dX4_today_4 ?_
  obtain rfl := h
  exact ww_iret hx hb hr hlk rfl dX4_today_7
set_option maxHeartbeats 4000000 in
set_option maxRecDepth 100000 in
theorem m_X4_shot (σ : SS) : Ct l yX4_shot cX4_shot 1 (some .int) 0 0 D vwCl [(cA, .int)] (WC q cA σ) (WC q cA σ) [.ref (q 0)] (some (.int (X4_shot σ))) := by
  refine ct_of (by decide +kernel) (Nat.le_of_ble_eq_true rfl) ?_
  intro p e s m args below meth c hx hb hr hlk hml hown hts hK hD hN hA
  have hown : s.vm.findClass RX4 = some m.cls := hown
  have hDD : ∀ τ : SS, va_D (va_A (WC q cA σ) s.heap.size) (WC q cA τ) := fun τ => hD.adr rfl
  obtain ⟨r, h⟩ : ∃ r, X4_shot σ = r := ⟨_, rfl⟩
  rw [h]
  unfold X4_shot at h
  refine ww_sub (lv1 := [(0, .ref (q 0))]) [0] rfl ?_
  refine ww_aload_n hx hb dX4_shot_0 rfl 0 rfl ?_
  refine ww_get (C := RX4) (T := TX4) (N := 7) hx hb hown hts hK inA4 0 rfl rfl 0 (by decide) kw_13 rfl rfl dX4_shot_1 ?_
  refine ww_get (C := RX3) (T := TX3) (N := 9) hx hb hown hts hK inA3 2 rfl rfl 6 (by decide) kw_241 rfl rfl dX4_shot_4 ?_
  obtain rfl := h
  exact ww_iret hx hb hr hlk rfl dX4_shot_7
set_option maxHeartbeats 4000000 in
set_option maxRecDepth 100000 in
theorem m_X4_days (σ : SS) (r : Int32) (σ1 : SS) (h : X4_days σ = some (r, σ1)) : Ct l yX4_days cX4_days 1 (some .int) 22 880 D vwCl [(cA, .int)] (WC q cA σ) (WC q cA σ1) [.ref (q 0)] (some (.int r)) := by
  refine ct_of (by decide +kernel) (Nat.le_of_ble_eq_true rfl) ?_
  intro p e s m args below meth c hx hb hr hlk hml hown hts hK hD hN hA
  have hown : s.vm.findClass RX4 = some m.cls := hown
  have hDD : ∀ τ : SS, va_D (va_A (WC q cA σ) s.heap.size) (WC q cA τ) := fun τ => hD.adr rfl
  unfold X4_days at h
  refine ww_sub (lv1 := [(0, .ref (q 0))]) [0] rfl ?_
  refine ww_aload_n hx hb dX4_days_0 rfl 0 rfl ?_
  refine ww_get (C := RX4) (T := TX4) (N := 7) hx hb hown hts hK inA4 0 rfl rfl 1 (by decide) kw_20 rfl rfl dX4_days_1 ?_
  obtain ⟨σ_1, e_1, h⟩ := ob h
  refine ww_callV (ws1 := WC q cA σ_1) (st1 := []) hx hb hml hown hts hK hN hA (hDD _) (Nat.zero_le _) (Nat.zero_le _) [] [] (m_X2_makePlan _  _ e_1) cs_X4_89 rfl (by decide) 1 rfl rfl rfl (Nat.le_of_ble_eq_true rfl) dX4_days_4 rfl ?_
  refine ww_aload_n hx hb dX4_days_7 rfl 0 rfl ?_
  refine ww_get (C := RX4) (T := TX4) (N := 7) hx hb hown hts hK inA4 0 rfl rfl 1 (by decide) kw_20 rfl rfl dX4_days_8 ?_
  refine ww_get (C := RX2) (T := TX2) (N := 8) hx hb hown hts hK inA2 1 rfl rfl 5 (by decide) kw_242 rfl rfl dX4_days_11 ?_
  obtain ⟨rfl, rfl⟩ := os2 h
  exact ww_iret hx hb hr hlk rfl dX4_days_14
set_option maxHeartbeats 4000000 in
set_option maxRecDepth 100000 in
theorem m_X2_fewestOfAll : ∀ (d : Nat) (σ : SS) (x1 x2 : Int32) (r : Int32) (σ1 : SS) (h : X2_fewestOfAll d σ x1 x2 = some (r, σ1)), Ct l yX2_fewestOfAll cX2_fewestOfAll 5 (some .int) (4 + d) (160 + 40 * d) D vwCl [(cA, .int)] (WC q cA σ) (WC q cA σ1) [.ref (q 1), .int (x1), .int (x2)] (some (.int r)) := by
  intro d
  induction d with
  | zero => intro σ x1 x2 r σ1 h; rw [X2_fewestOfAll] at h; cases h
  | succ d hrec =>
    intro σ x1 x2 r σ1 h
    refine ct_of (by decide +kernel) (Nat.le_of_ble_eq_true rfl) ?_
    intro p e s m args below meth c hx hb hr hlk hml hown hts hK hD hN hA
    have hown : s.vm.findClass RX2 = some m.cls := hown
    have hDD : ∀ τ : SS, va_D (va_A (WC q cA σ) s.heap.size) (WC q cA τ) := fun τ => hD.adr rfl
    rw [X2_fewestOfAll] at h
    have lp29 : ∀ (n : Nat) (τ : SS) (x1 : Int32) (x2 : Int32) (x3 : Int32) (x4 : Int32), X2_fewestOfAll_l29 (X2_fewestOfAll d) n τ x1 x2 x3 x4 = some (r, σ1) → WW p l e (rmc (4 + (d + 1)) (160 + 40 * (d + 1)) 0 0) s m args below meth c D vwCl (va_A (WC q cA σ) s.heap.size) 5 0 0 (MQ below (qcW D vwCl (WC q cA σ) (WC q cA σ1) (some (.int r)) s.heap.size) args s 0 0 (va_A (WC q cA σ) s.heap.size)) (WC q cA τ) 29 [(0, .ref (q 1)), (1, .int (x1)), (2, .int (x2)), (3, .int (x3)), (4, .int (x4))] [] := by
      intro n
      induction n with
      | zero => intro τ x1 x2 x3 x4 h; rw [X2_fewestOfAll_l29] at h; cases h
      | succ n ih =>
        have bk81 : ∀ (τ : SS) (x1 : Int32) (x2 : Int32) (x3 : Int32) (x4 : Int32), X2_fewestOfAll_b81 (X2_fewestOfAll d) (X2_fewestOfAll_l29 (X2_fewestOfAll d) n) τ x1 x2 x3 x4 = some (r, σ1) → WW p l e (rmc (4 + (d + 1)) (160 + 40 * (d + 1)) 0 0) s m args below meth c D vwCl (va_A (WC q cA σ) s.heap.size) 5 0 0 (MQ below (qcW D vwCl (WC q cA σ) (WC q cA σ1) (some (.int r)) s.heap.size) args s 0 0 (va_A (WC q cA σ) s.heap.size)) (WC q cA τ) 81 [(0, .ref (q 1)), (1, .int (x1)), (2, .int (x2)), (3, .int (x3)), (4, .int (x4))] [] := by
          intro τ x1 x2 x3 x4 h
          unfold X2_fewestOfAll_b81 at h
          refine ww_iinc (i := 4) (k := 4) (v := 1) (lv1 := [(0, .ref (q 1)), (1, .int (x1)), (2, .int (x2)), (3, .int (x3)), (4, .int (x4 + 1))]) hx hb dX2_fewestOfAll_81 rfl (by decide) (by decide) [1, 2, 3, 4, 0] rfl ?_
          refine ww_goto (tgt := 29) hx hb dX2_fewestOfAll_84 (by decide) ?_
          exact ww_sub (lv1 := [(0, .ref (q 1)), (1, .int (x1)), (2, .int (x2)), (3, .int (x3)), (4, .int (x4 + 1))]) [0, 1, 2, 3, 4] rfl (ih _ _ _ _ _ h)
        intro τ x1 x2 x3 x4 h
        rw [X2_fewestOfAll_l29] at h
        refine ww_iload hx hb dX2_fewestOfAll_29 4 rfl ?_
        refine ww_aload_n hx hb dX2_fewestOfAll_31 rfl 0 rfl ?_
        refine ww_get (C := RX2) (T := TX2) (N := 8) hx hb hown hts hK inA2 1 rfl rfl 0 (by decide) kw_66 rfl rfl dX2_fewestOfAll_32 ?_
        refine ww_get (C := RX3) (T := TX3) (N := 9) hx hb hown hts hK inA3 2 rfl rfl 5 (by decide) kw_73 rfl rfl dX2_fewestOfAll_35 ?_
        refine ww_ge2 (tgt := 87) hx hb dX2_fewestOfAll_38 (by decide) (fun c_3 => ?_) (fun c_3 => ?_)
        · replace h := it_p c_3 h
          refine ww_iload_n hx hb dX2_fewestOfAll_87 rfl 3 rfl ?_
          obtain ⟨rfl, rfl⟩ := os2 h
          exact ww_iret hx hb hr hlk rfl dX2_fewestOfAll_88
        · replace h := it_n c_3 h
          refine ww_aload_n hx hb dX2_fewestOfAll_41 rfl 0 rfl ?_
          refine ww_get (C := RX2) (T := TX2) (N := 8) hx hb hown hts hK inA2 1 rfl rfl 0 (by decide) kw_66 rfl rfl dX2_fewestOfAll_42 ?_
          refine ww_iload hx hb dX2_fewestOfAll_45 4 rfl ?_
          refine ww_iload_n hx hb dX2_fewestOfAll_47 rfl 2 rfl ?_
          refine ww_callV (ws1 := WC q cA τ) (st1 := [.int (X3_canFollow τ x4 x2)]) hx hb hml hown hts hK hN hA (hDD _) (Nat.zero_le _) (Nat.zero_le _) [.int (x4), .int (x2)] [] (m_X3_canFollow τ x4 x2) cs_X2_97 rfl ⟨by show _ ≤ _ + (_ + 1); omega, by show _ ≤ _ + 40 * (_ + 1); omega⟩ 2 rfl rfl rfl (Nat.le_of_ble_eq_true rfl) dX2_fewestOfAll_48 rfl ?_
          refine ww_eq0 (tgt := 81) hx hb dX2_fewestOfAll_51 (by decide) (fun c_4 => ?_) (fun c_4 => ?_)
          · replace h := it_p c_4 h
            exact ww_sub (lv1 := [(0, .ref (q 1)), (1, .int (x1)), (2, .int (x2)), (3, .int (x3)), (4, .int (x4))]) [0, 1, 2, 3, 4] rfl (bk81 _ _ _ _ _ h)
          · replace h := it_n c_4 h
            refine ww_aload_n hx hb dX2_fewestOfAll_54 rfl 0 rfl ?_
            refine ww_iload hx hb dX2_fewestOfAll_55 4 rfl ?_
            refine ww_iload_n hx hb dX2_fewestOfAll_57 rfl 1 rfl ?_
            refine ww_iload_n hx hb dX2_fewestOfAll_58 rfl 2 rfl ?_
            obtain ⟨σ_5, e_5, h⟩ := ob h
            refine ww_callV (ws1 := WC q cA σ_5) (st1 := []) hx hb hml hown hts hK hN hA (hDD _) (Nat.zero_le _) (Nat.zero_le _) [.int (x4), .int (x1), .int (x2)] [] (m_X2_place _ _ _ _ _ e_5) cs_X2_100 rfl ⟨by show _ ≤ _ + (_ + 1); omega, by show _ ≤ _ + 40 * (_ + 1); omega⟩ 1 rfl rfl rfl (Nat.le_of_ble_eq_true rfl) dX2_fewestOfAll_59 rfl ?_
            refine ww_iload_n hx hb dX2_fewestOfAll_62 rfl 3 rfl ?_
            refine ww_aload_n hx hb dX2_fewestOfAll_63 rfl 0 rfl ?_
            refine ww_iload_n hx hb dX2_fewestOfAll_64 rfl 1 rfl ?_
            refine ww_iconst (v := 1) hx hb dX2_fewestOfAll_65 (by decide) ?_
            refine ww_iadd hx hb dX2_fewestOfAll_66 ?_
            refine ww_iload_n hx hb dX2_fewestOfAll_67 rfl 2 rfl ?_
            refine ww_iload hx hb dX2_fewestOfAll_68 4 rfl ?_
            refine ww_iconst (v := 1) hx hb dX2_fewestOfAll_70 (by decide) ?_
            refine ww_callN (ws1 := WC q cA σ_5) (st1 := [.int (X4_with x2 x4 (1 : Int32)), .int (x1 + (1 : Int32)), .ref (q 1), .int (x3)]) hx hb hml hown hts hK hN hA (hDD _) (Nat.zero_le _) (Nat.zero_le _) [.int (x2), .int (x4), .int ((1 : Int32))] [.int (x1 + (1 : Int32)), .ref (q 1), .int (x3)] (m_X4_with σ_5 x2 x4 (1 : Int32)) cs_X2_73 rfl ⟨by show _ ≤ _ + (_ + 1); omega, by show _ ≤ _ + 40 * (_ + 1); omega⟩ rfl (Nat.le_of_ble_eq_true rfl) dX2_fewestOfAll_71 rfl ?_
            obtain ⟨r_6, σ_6, e_6, h⟩ := ob2 h
            refine ww_callS (ws1 := WC q cA σ_6) (st1 := [.int (r_6), .int (x3)]) hx hb hml hown hts hK hN hA (hDD _) (Nat.zero_le _) (Nat.zero_le _) [.ref (q 1), .int (x1 + (1 : Int32)), .int (X4_with x2 x4 (1 : Int32))] [.int (x3)] (hrec _ _ _ _ _ e_6) cs_X2_46 rfl ⟨by show _ ≤ _ + (_ + 1); omega, by show _ ≤ _ + 40 * (_ + 1); omega⟩ rfl (Nat.le_of_ble_eq_true rfl) dX2_fewestOfAll_74 rfl ?_
            refine ww_min hx hb hml hown hts (Nat.zero_le _) (Nat.zero_le _) kw_246 kw_222 kw_71 kw_223 ⟨Nat.le_of_ble_eq_true rfl, Nat.le_of_ble_eq_true rfl⟩ dX2_fewestOfAll_77 ?_
            refine ww_istore_n (i := 3) (lv1 := [(0, .ref (q 1)), (1, .int (x1)), (2, .int (x2)), (3, .int (imin x3 r_6)), (4, .int (x4))]) hx hb dX2_fewestOfAll_80 rfl (by decide) [1, 2, 3, 0, 4] rfl ?_
            exact ww_sub (lv1 := [(0, .ref (q 1)), (1, .int (x1)), (2, .int (x2)), (3, .int (imin x3 r_6)), (4, .int (x4))]) [0, 1, 2, 3, 4] rfl (bk81 _ _ _ _ _ h)
    have bk17 : ∀ (τ : SS) (x1 : Int32), X2_fewestOfAll_b17 (X2_fewestOfAll d) τ x1 = some (r, σ1) → WW p l e (rmc (4 + (d + 1)) (160 + 40 * (d + 1)) 0 0) s m args below meth c D vwCl (va_A (WC q cA σ) s.heap.size) 5 0 0 (MQ below (qcW D vwCl (WC q cA σ) (WC q cA σ1) (some (.int r)) s.heap.size) args s 0 0 (va_A (WC q cA σ) s.heap.size)) (WC q cA τ) 17 [(0, .ref (q 1)), (1, .int (x1))] [] := by
      intro τ x1 h
      unfold X2_fewestOfAll_b17 at h
      refine ww_aload_n hx hb dX2_fewestOfAll_17 rfl 0 rfl ?_
      refine ww_iload_n hx hb dX2_fewestOfAll_18 rfl 1 rfl ?_
      refine ww_callV (ws1 := WC q cA τ) (st1 := [.int (X2_daysUpTo τ x1)]) hx hb hml hown hts hK hN hA (hDD _) (Nat.zero_le _) (Nat.zero_le _) [.int (x1)] [] (m_X2_daysUpTo τ x1) cs_X2_107 rfl ⟨by show _ ≤ _ + (_ + 1); omega, by show _ ≤ _ + 40 * (_ + 1); omega⟩ 1 rfl rfl rfl (Nat.le_of_ble_eq_true rfl) dX2_fewestOfAll_19 rfl ?_
      obtain ⟨rfl, rfl⟩ := os2 h
      exact ww_iret hx hb hr hlk rfl dX2_fewestOfAll_22
    refine ww_sub (lv1 := [(0, .ref (q 1)), (1, .int (x1)), (2, .int (x2))]) [0, 1, 2] rfl ?_
    refine ww_iload_n hx hb dX2_fewestOfAll_0 rfl 2 rfl ?_
    refine ww_aload_n hx hb dX2_fewestOfAll_1 rfl 0 rfl ?_
    refine ww_get (C := RX2) (T := TX2) (N := 8) hx hb hown hts hK inA2 1 rfl rfl 0 (by decide) kw_66 rfl rfl dX2_fewestOfAll_2 ?_
    refine ww_callV (ws1 := WC q cA σ) (st1 := [.int (X3_everyScene σ), .int (x2)]) hx hb hml hown hts hK hN hA (hDD _) (Nat.zero_le _) (Nat.zero_le _) [] [.int (x2)] (m_X3_everyScene σ) cs_X2_90 rfl ⟨by show _ ≤ _ + (_ + 1); omega, by show _ ≤ _ + 40 * (_ + 1); omega⟩ 2 rfl rfl rfl (Nat.le_of_ble_eq_true rfl) dX2_fewestOfAll_5 rfl ?_
    refine ww_eq2 (tgt := 17) hx hb dX2_fewestOfAll_8 (by decide) (fun c_1 => ?_) (fun c_1 => ?_)
    · replace h := it_p c_1 h
      exact ww_sub (lv1 := [(0, .ref (q 1)), (1, .int (x1))]) [0, 1] rfl (bk17 _ _ h)
    · replace h := it_n c_1 h
      refine ww_iload_n hx hb dX2_fewestOfAll_11 rfl 1 rfl ?_
      refine ww_bipush (v := 8) hx hb dX2_fewestOfAll_12 (by decide) ?_
      refine ww_lt2 (tgt := 23) hx hb dX2_fewestOfAll_14 (by decide) (fun c_2 => ?_) (fun c_2 => ?_)
      · replace h := it_p c_2 h
        refine ww_bipush (v := 9) hx hb dX2_fewestOfAll_23 (by decide) ?_
        refine ww_istore_n (i := 3) (lv1 := [(0, .ref (q 1)), (1, .int (x1)), (2, .int (x2)), (3, .int ((9 : Int32)))]) hx hb dX2_fewestOfAll_25 rfl (by decide) [1, 2, 3, 0] rfl ?_
        refine ww_iconst (v := 0) hx hb dX2_fewestOfAll_26 (by decide) ?_
        refine ww_istore (i := 4) (lv1 := [(0, .ref (q 1)), (1, .int (x1)), (2, .int (x2)), (3, .int ((9 : Int32))), (4, .int ((0 : Int32)))]) hx hb dX2_fewestOfAll_27 (by decide) [1, 2, 3, 4, 0] rfl ?_
        exact ww_sub (lv1 := [(0, .ref (q 1)), (1, .int (x1)), (2, .int (x2)), (3, .int ((9 : Int32))), (4, .int ((0 : Int32)))]) [0, 1, 2, 3, 4] rfl (lp29 _ _ _ _ _ _ h)
      · replace h := it_n c_2 h
        exact ww_sub (lv1 := [(0, .ref (q 1)), (1, .int (x1))]) [0, 1] rfl (bk17 _ _ h)
set_option maxHeartbeats 4000000 in
set_option maxRecDepth 100000 in
theorem m_X2_fewestDays (σ : SS) (r : Int32) (σ1 : SS) (h : X2_fewestDays σ = some (r, σ1)) : Ct l yX2_fewestDays cX2_fewestDays 1 (some .int) 21 840 D vwCl [(cA, .int)] (WC q cA σ) (WC q cA σ1) [.ref (q 1)] (some (.int r)) := by
  refine ct_of (by decide +kernel) (Nat.le_of_ble_eq_true rfl) ?_
  intro p e s m args below meth c hx hb hr hlk hml hown hts hK hD hN hA
  have hown : s.vm.findClass RX2 = some m.cls := hown
  have hDD : ∀ τ : SS, va_D (va_A (WC q cA σ) s.heap.size) (WC q cA τ) := fun τ => hD.adr rfl
  unfold X2_fewestDays at h
  refine ww_sub (lv1 := [(0, .ref (q 1))]) [0] rfl ?_
  refine ww_aload_n hx hb dX2_fewestDays_0 rfl 0 rfl ?_
  refine ww_iconst (v := 0) hx hb dX2_fewestDays_1 (by decide) ?_
  refine ww_aload_n hx hb dX2_fewestDays_2 rfl 0 rfl ?_
  refine ww_get (C := RX2) (T := TX2) (N := 8) hx hb hown hts hK inA2 1 rfl rfl 0 (by decide) kw_66 rfl rfl dX2_fewestDays_3 ?_
  refine ww_get (C := RX3) (T := TX3) (N := 9) hx hb hown hts hK inA3 2 rfl rfl 6 (by decide) kw_140 rfl rfl dX2_fewestDays_6 ?_
  obtain ⟨r_1, σ_1, e_1, h⟩ := ob2 h
  refine ww_callS (ws1 := WC q cA σ_1) (st1 := [.int (r_1)]) hx hb hml hown hts hK hN hA (hDD _) (Nat.zero_le _) (Nat.zero_le _) [.ref (q 1), .int ((0 : Int32)), .int (σ 2 6)] [] (m_X2_fewestOfAll 16 _ _ _ _ _ e_1) cs_X2_46 rfl (by decide) rfl (Nat.le_of_ble_eq_true rfl) dX2_fewestDays_9 rfl ?_
  obtain ⟨rfl, rfl⟩ := os2 h
  exact ww_iret hx hb hr hlk rfl dX2_fewestDays_12
set_option maxHeartbeats 4000000 in
set_option maxRecDepth 100000 in
theorem m_X4_fee (σ : SS) : Ct l yX4_fee cX4_fee 1 (some .int) 0 0 D vwCl [(cA, .int)] (WC q cA σ) (WC q cA σ) [.ref (q 0)] (some (.int (X4_fee σ))) := by
  refine ct_of (by decide +kernel) (Nat.le_of_ble_eq_true rfl) ?_
  intro p e s m args below meth c hx hb hr hlk hml hown hts hK hD hN hA
  have hown : s.vm.findClass RX4 = some m.cls := hown
  have hDD : ∀ τ : SS, va_D (va_A (WC q cA σ) s.heap.size) (WC q cA τ) := fun τ => hD.adr rfl
  obtain ⟨r, h⟩ : ∃ r, X4_fee σ = r := ⟨_, rfl⟩
  rw [h]
  unfold X4_fee at h
  refine ww_sub (lv1 := [(0, .ref (q 0))]) [0] rfl ?_
  refine ww_aload_n hx hb dX4_fee_0 rfl 0 rfl ?_
  refine ww_get (C := RX4) (T := TX4) (N := 7) hx hb hown hts hK inA4 0 rfl rfl 2 (by decide) kw_181 rfl rfl dX4_fee_1 ?_
  refine ww_get (C := RX0) (T := TX0) (N := 4) hx hb hown hts hK inA0 3 rfl rfl 1 (by decide) kw_183 rfl rfl dX4_fee_4 ?_
  obtain rfl := h
  exact ww_iret hx hb hr hlk rfl dX4_fee_7
set_option maxHeartbeats 4000000 in
set_option maxRecDepth 100000 in
theorem m_X4_costs (σ : SS) : Ct l yX4_costs cX4_costs 1 (some .int) 0 0 D vwCl [(cA, .int)] (WC q cA σ) (WC q cA σ) [.ref (q 0)] (some (.int (X4_costs σ))) := by
  refine ct_of (by decide +kernel) (Nat.le_of_ble_eq_true rfl) ?_
  intro p e s m args below meth c hx hb hr hlk hml hown hts hK hD hN hA
  have hown : s.vm.findClass RX4 = some m.cls := hown
  have hDD : ∀ τ : SS, va_D (va_A (WC q cA σ) s.heap.size) (WC q cA τ) := fun τ => hD.adr rfl
  obtain ⟨r, h⟩ : ∃ r, X4_costs σ = r := ⟨_, rfl⟩
  rw [h]
  unfold X4_costs at h
  refine ww_sub (lv1 := [(0, .ref (q 0))]) [0] rfl ?_
  refine ww_aload_n hx hb dX4_costs_0 rfl 0 rfl ?_
  refine ww_get (C := RX4) (T := TX4) (N := 7) hx hb hown hts hK inA4 0 rfl rfl 2 (by decide) kw_181 rfl rfl dX4_costs_1 ?_
  refine ww_get (C := RX0) (T := TX0) (N := 4) hx hb hown hts hK inA0 3 rfl rfl 2 (by decide) kw_254 rfl rfl dX4_costs_4 ?_
  obtain rfl := h
  exact ww_iret hx hb hr hlk rfl dX4_costs_7
set_option maxHeartbeats 4000000 in
set_option maxRecDepth 100000 in
theorem m_X4_open (σ : SS) : Ct l yX4_open cX4_open 1 (some .int) 0 0 D vwCl [(cA, .int)] (WC q cA σ) (WC q cA σ) [.ref (q 0)] (some (.int (X4_open σ))) := by
  refine ct_of (by decide +kernel) (Nat.le_of_ble_eq_true rfl) ?_
  intro p e s m args below meth c hx hb hr hlk hml hown hts hK hD hN hA
  have hown : s.vm.findClass RX4 = some m.cls := hown
  have hDD : ∀ τ : SS, va_D (va_A (WC q cA σ) s.heap.size) (WC q cA τ) := fun τ => hD.adr rfl
  obtain ⟨r, h⟩ : ∃ r, X4_open σ = r := ⟨_, rfl⟩
  rw [h]
  unfold X4_open at h
  refine ww_sub (lv1 := [(0, .ref (q 0))]) [0] rfl ?_
  refine ww_aload_n hx hb dX4_open_0 rfl 0 rfl ?_
  refine ww_get (C := RX4) (T := TX4) (N := 7) hx hb hown hts hK inA4 0 rfl rfl 2 (by decide) kw_181 rfl rfl dX4_open_1 ?_
  refine ww_get (C := RX0) (T := TX0) (N := 4) hx hb hown hts hK inA0 3 rfl rfl 3 (by decide) kw_255 rfl rfl dX4_open_4 ?_
  obtain rfl := h
  exact ww_iret hx hb hr hlk rfl dX4_open_7
set_option maxHeartbeats 4000000 in
set_option maxRecDepth 100000 in
theorem m_X4_house (σ : SS) : Ct l yX4_house cX4_house 1 (some .int) 0 0 D vwCl [(cA, .int)] (WC q cA σ) (WC q cA σ) [.ref (q 0)] (some (.int (X4_house σ))) := by
  refine ct_of (by decide +kernel) (Nat.le_of_ble_eq_true rfl) ?_
  intro p e s m args below meth c hx hb hr hlk hml hown hts hK hD hN hA
  have hown : s.vm.findClass RX4 = some m.cls := hown
  have hDD : ∀ τ : SS, va_D (va_A (WC q cA σ) s.heap.size) (WC q cA τ) := fun τ => hD.adr rfl
  obtain ⟨r, h⟩ : ∃ r, X4_house σ = r := ⟨_, rfl⟩
  rw [h]
  unfold X4_house at h
  refine ww_sub (lv1 := [(0, .ref (q 0))]) [0] rfl ?_
  refine ww_aload_n hx hb dX4_house_0 rfl 0 rfl ?_
  refine ww_get (C := RX4) (T := TX4) (N := 7) hx hb hown hts hK inA4 0 rfl rfl 3 (by decide) kw_201 rfl rfl dX4_house_1 ?_
  refine ww_get (C := RX1) (T := TX1) (N := 10) hx hb hown hts hK inA1 4 rfl rfl 9 (by decide) kw_258 rfl rfl dX4_house_4 ?_
  obtain rfl := h
  exact ww_iret hx hb hr hlk rfl dX4_house_7
end
