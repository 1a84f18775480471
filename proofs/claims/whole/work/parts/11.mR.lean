section
variable {l : Launch} {D : va_G} {q : Nat → Nat} {cA : ClassId}
set_option maxHeartbeats 4000000 in
set_option maxRecDepth 100000 in
theorem m_X5_thrown (σ : SS) : Ct l yX5_thrown cX5_thrown 1 (some .int) 0 0 D vwCl [(cA, .int)] (WR q cA σ) (WR q cA σ) [.ref (q 0)] (some (.int (X5_thrown σ))) := by
  refine ct_of (by decide +kernel) (Nat.le_of_ble_eq_true rfl) ?_
  intro p e s m args below meth c hx hb hr hlk hml hown hts hK hD hN hA
  have hown : s.vm.findClass RX5 = some m.cls := hown
  have hDD : ∀ τ : SS, va_D (va_A (WR q cA σ) s.heap.size) (WR q cA τ) := fun τ => hD.adr rfl
  obtain ⟨r, h⟩ : ∃ r, X5_thrown σ = r := ⟨_, rfl⟩
  rw [h]
  unfold X5_thrown at h
  refine ww_sub (lv1 := [(0, .ref (q 0))]) [0] rfl ?_
  refine ww_aload_n hx hb dX5_thrown_0 rfl 0 rfl ?_
  refine ww_get (C := RX5) (T := TX5) (N := 36) hx hb hown hts hK inA5 0 rfl rfl 35 (by decide) kw_259 rfl rfl dX5_thrown_1 ?_
  obtain rfl := h
  exact ww_iret hx hb hr hlk rfl dX5_thrown_4
set_option maxHeartbeats 4000000 in
set_option maxRecDepth 100000 in
theorem m_X5_isIn (σ : SS) (x0 x1 x2 : Int32) : Ct l yX5_isIn cX5_isIn 3 (some .boolean) 0 0 D vwCl [(cA, .int)] (WR q cA σ) (WR q cA σ) [.int (x0), .int (x1), .int (x2)] (some (.int (X5_isIn x0 x1 x2))) := by
  refine ct_of (by decide +kernel) (Nat.le_of_ble_eq_true rfl) ?_
  intro p e s m args below meth c hx hb hr hlk hml hown hts hK hD hN hA
  have hown : s.vm.findClass RX5 = some m.cls := hown
  have hDD : ∀ τ : SS, va_D (va_A (WR q cA σ) s.heap.size) (WR q cA τ) := fun τ => hD.adr rfl
  obtain ⟨r, h⟩ : ∃ r, X5_isIn x0 x1 x2 = r := ⟨_, rfl⟩
  rw [h]
  unfold X5_isIn at h
  refine ww_sub (lv1 := [(0, .int (x0)), (1, .int (x1)), (2, .int (x2))]) [0, 1, 2] rfl ?_
  refine ww_iload_n hx hb dX5_isIn_0 rfl 0 rfl ?_
  refine ww_iload_n hx hb dX5_isIn_1 rfl 1 rfl ?_
  refine ww_lt2 (tgt := 14) hx hb dX5_isIn_2 (by decide) (fun c_1 => ?_) (fun c_1 => ?_)
  · replace h := it_p c_1 h
    refine ww_iconst (v := 0) hx hb dX5_isIn_14 (by decide) ?_
    obtain rfl := h
    exact ww_zret hx hb hr hlk (by decide) rfl dX5_isIn_15
  · replace h := it_n c_1 h
    refine ww_iload_n hx hb dX5_isIn_5 rfl 0 rfl ?_
    refine ww_iload_n hx hb dX5_isIn_6 rfl 2 rfl ?_
    refine ww_gt2 (tgt := 14) hx hb dX5_isIn_7 (by decide) (fun c_2 => ?_) (fun c_2 => ?_)
    · replace h := it_p c_2 h
      refine ww_iconst (v := 0) hx hb dX5_isIn_14 (by decide) ?_
      obtain rfl := h
      exact ww_zret hx hb hr hlk (by decide) rfl dX5_isIn_15
    · replace h := it_n c_2 h
      refine ww_iconst (v := 1) hx hb dX5_isIn_10 (by decide) ?_
      refine ww_goto (tgt := 15) hx hb dX5_isIn_11 (by decide) ?_
      obtain rfl := h
      exact ww_zret hx hb hr hlk (by decide) rfl dX5_isIn_15
set_option maxHeartbeats 4000000 in
set_option maxRecDepth 100000 in
theorem m_X5_isIn4 (σ : SS) (x0 : Int32) : Ct l yX5_isIn4 cX5_isIn4 1 (some .boolean) 1 40 D vwCl [(cA, .int)] (WR q cA σ) (WR q cA σ) [.int (x0)] (some (.int (X5_isIn4 x0))) := by
  refine ct_of (by decide +kernel) (Nat.le_of_ble_eq_true rfl) ?_
  intro p e s m args below meth c hx hb hr hlk hml hown hts hK hD hN hA
  have hown : s.vm.findClass RX5 = some m.cls := hown
  have hDD : ∀ τ : SS, va_D (va_A (WR q cA σ) s.heap.size) (WR q cA τ) := fun τ => hD.adr rfl
  obtain ⟨r, h⟩ : ∃ r, X5_isIn4 x0 = r := ⟨_, rfl⟩
  rw [h]
  unfold X5_isIn4 at h
  refine ww_sub (lv1 := [(0, .int (x0))]) [0] rfl ?_
  refine ww_iload_n hx hb dX5_isIn4_0 rfl 0 rfl ?_
  refine ww_iconst (v := 0) hx hb dX5_isIn4_1 (by decide) ?_
  refine ww_iconst (v := 3) hx hb dX5_isIn4_2 (by decide) ?_
  refine ww_callS (ws1 := WR q cA σ) (st1 := [.int (X5_isIn x0 (0 : Int32) (3 : Int32))]) hx hb hml hown hts hK hN hA (hDD _) (Nat.zero_le _) (Nat.zero_le _) [.int (x0), .int ((0 : Int32)), .int ((3 : Int32))] [] (m_X5_isIn σ x0 (0 : Int32) (3 : Int32)) cs_X5_74 rfl (by decide) rfl (Nat.le_of_ble_eq_true rfl) dX5_isIn4_3 rfl ?_
  obtain rfl := h
  exact ww_zret hx hb hr hlk (z_X5_isIn x0 (0 : Int32) (3 : Int32)) rfl dX5_isIn4_6
set_option maxHeartbeats 4000000 in
set_option maxRecDepth 100000 in
theorem m_X5_isPerson (σ : SS) (x0 : Int32) : Ct l yX5_isPerson cX5_isPerson 1 (some .boolean) 1 40 D vwCl [(cA, .int)] (WR q cA σ) (WR q cA σ) [.int (x0)] (some (.int (X5_isPerson x0))) := by
  refine ct_of (by decide +kernel) (Nat.le_of_ble_eq_true rfl) ?_
  intro p e s m args below meth c hx hb hr hlk hml hown hts hK hD hN hA
  have hown : s.vm.findClass RX5 = some m.cls := hown
  have hDD : ∀ τ : SS, va_D (va_A (WR q cA σ) s.heap.size) (WR q cA τ) := fun τ => hD.adr rfl
  obtain ⟨r, h⟩ : ∃ r, X5_isPerson x0 = r := ⟨_, rfl⟩
  rw [h]
  unfold X5_isPerson at h
  refine ww_sub (lv1 := [(0, .int (x0))]) [0] rfl ?_
  refine ww_iload_n hx hb dX5_isPerson_0 rfl 0 rfl ?_
  refine ww_iconst (v := 0) hx hb dX5_isPerson_1 (by decide) ?_
  refine ww_iconst (v := 5) hx hb dX5_isPerson_2 (by decide) ?_
  refine ww_callS (ws1 := WR q cA σ) (st1 := [.int (X5_isIn x0 (0 : Int32) (5 : Int32))]) hx hb hml hown hts hK hN hA (hDD _) (Nat.zero_le _) (Nat.zero_le _) [.int (x0), .int ((0 : Int32)), .int ((5 : Int32))] [] (m_X5_isIn σ x0 (0 : Int32) (5 : Int32)) cs_X5_74 rfl (by decide) rfl (Nat.le_of_ble_eq_true rfl) dX5_isPerson_3 rfl ?_
  obtain rfl := h
  exact ww_zret hx hb hr hlk (z_X5_isIn x0 (0 : Int32) (5 : Int32)) rfl dX5_isPerson_6
set_option maxHeartbeats 4000000 in
set_option maxRecDepth 100000 in
theorem m_X5_rested (σ : SS) (x1 x2 x3 : Int32) (r : Int32) (h : X5_rested σ x1 x2 x3 = some r) : Ct l yX5_rested cX5_rested 9 (some .int) 0 0 D vwCl [(cA, .int)] (WR q cA σ) (WR q cA σ) [.ref (q 0), .int (x1), .int (x2), .int (x3)] (some (.int r)) := by
  refine ct_of (by decide +kernel) (Nat.le_of_ble_eq_true rfl) ?_
  intro p e s m args below meth c hx hb hr hlk hml hown hts hK hD hN hA
  have hown : s.vm.findClass RX5 = some m.cls := hown
  have hDD : ∀ τ : SS, va_D (va_A (WR q cA σ) s.heap.size) (WR q cA τ) := fun τ => hD.adr rfl
  unfold X5_rested at h
  have lp6 : ∀ (n : Nat) (x1 : Int32) (x2 : Int32) (x3 : Int32) (x4 : Int32) (x5 : Int32), X5_rested_l6 n σ x1 x2 x3 x4 x5 = some r → WW p l e (rmc 0 0 0 0) s m args below meth c D vwCl (va_A (WR q cA σ) s.heap.size) 9 0 0 (MQ below (qcW D vwCl (WR q cA σ) (WR q cA σ) (some (.int r)) s.heap.size) args s 0 0 (va_A (WR q cA σ) s.heap.size)) (WR q cA σ) 6 [(0, .ref (q 0)), (1, .int (x1)), (2, .int (x2)), (3, .int (x3)), (4, .int (x4)), (5, .int (x5))] [] := by
    intro n
    induction n with
    | zero => intro x1 x2 x3 x4 x5 h; rw [X5_rested_l6] at h; cases h
    | succ n ih =>
      have bk186 : ∀ (x1 : Int32) (x2 : Int32) (x3 : Int32) (x5 : Int32) (y0 : Int32), X5_rested_b186 (X5_rested_l6 n) σ x1 x2 x3 x5 y0 = some r → WW p l e (rmc 0 0 0 0) s m args below meth c D vwCl (va_A (WR q cA σ) s.heap.size) 9 0 0 (MQ below (qcW D vwCl (WR q cA σ) (WR q cA σ) (some (.int r)) s.heap.size) args s 0 0 (va_A (WR q cA σ) s.heap.size)) (WR q cA σ) 186 [(0, .ref (q 0)), (1, .int (x1)), (2, .int (x2)), (3, .int (x3)), (5, .int (x5))] [.int (y0)] := by
        intro x1 x2 x3 x5 y0 h
        unfold X5_rested_b186 at h
        refine ww_istore (i := 4) (lv1 := [(0, .ref (q 0)), (1, .int (x1)), (2, .int (x2)), (3, .int (x3)), (4, .int (y0)), (5, .int (x5))]) hx hb dX5_rested_186 (by decide) [1, 2, 3, 4, 0, 5] rfl ?_
        refine ww_iinc (i := 5) (k := 5) (v := 1) (lv1 := [(0, .ref (q 0)), (1, .int (x1)), (2, .int (x2)), (3, .int (x3)), (4, .int (y0)), (5, .int (x5 + 1))]) hx hb dX5_rested_188 rfl (by decide) (by decide) [1, 2, 3, 4, 5, 0] rfl ?_
        refine ww_goto (tgt := 6) hx hb dX5_rested_191 (by decide) ?_
        exact ww_sub (lv1 := [(0, .ref (q 0)), (1, .int (x1)), (2, .int (x2)), (3, .int (x3)), (4, .int (y0)), (5, .int (x5 + 1))]) [0, 1, 2, 3, 4, 5] rfl (ih _ _ _ _ _ h)
      have bk184 : ∀ (x1 : Int32) (x2 : Int32) (x3 : Int32) (x4 : Int32) (x5 : Int32), X5_rested_b184 (X5_rested_l6 n) σ x1 x2 x3 x4 x5 = some r → WW p l e (rmc 0 0 0 0) s m args below meth c D vwCl (va_A (WR q cA σ) s.heap.size) 9 0 0 (MQ below (qcW D vwCl (WR q cA σ) (WR q cA σ) (some (.int r)) s.heap.size) args s 0 0 (va_A (WR q cA σ) s.heap.size)) (WR q cA σ) 184 [(0, .ref (q 0)), (1, .int (x1)), (2, .int (x2)), (3, .int (x3)), (4, .int (x4)), (5, .int (x5))] [] := by
        intro x1 x2 x3 x4 x5 h
        unfold X5_rested_b184 at h
        refine ww_iload hx hb dX5_rested_184 4 rfl ?_
        exact ww_sub (lv1 := [(0, .ref (q 0)), (1, .int (x1)), (2, .int (x2)), (3, .int (x3)), (5, .int (x5))]) [0, 1, 2, 3, 5] rfl (bk186 _ _ _ _ _ h)
      have bk132 : ∀ (x1 : Int32) (x2 : Int32) (x3 : Int32) (x4 : Int32) (x5 : Int32) (x6 : Int32) (x7 : Int32) (y0 : Int32), X5_rested_b132 (X5_rested_l6 n) σ x1 x2 x3 x4 x5 x6 x7 y0 = some r → WW p l e (rmc 0 0 0 0) s m args below meth c D vwCl (va_A (WR q cA σ) s.heap.size) 9 0 0 (MQ below (qcW D vwCl (WR q cA σ) (WR q cA σ) (some (.int r)) s.heap.size) args s 0 0 (va_A (WR q cA σ) s.heap.size)) (WR q cA σ) 132 [(0, .ref (q 0)), (1, .int (x1)), (2, .int (x2)), (3, .int (x3)), (4, .int (x4)), (5, .int (x5)), (6, .int (x6)), (7, .int (x7))] [.int (y0)] := by
        intro x1 x2 x3 x4 x5 x6 x7 y0 h
        unfold X5_rested_b132 at h
        refine ww_aload_n hx hb dX5_rested_132 rfl 0 rfl ?_
        refine ww_get (C := RX5) (T := TX5) (N := 36) hx hb hown hts hK inA5 0 rfl rfl 1 (by decide) kw_269 rfl rfl dX5_rested_133 ?_
        refine ww_iload hx hb dX5_rested_136 6 rfl ?_
        obtain ⟨g_11, h⟩ := og h
        refine ww_iald hx hb hown hts hK 1 0 rfl rfl g_11 dX5_rested_138 ?_
        refine ww_iadd hx hb dX5_rested_139 ?_
        refine ww_bipush (v := 11) hx hb dX5_rested_140 (by decide) ?_
        refine ww_iadd hx hb dX5_rested_142 ?_
        refine ww_bipush (v := 24) hx hb dX5_rested_143 (by decide) ?_
        refine ww_iload_n hx hb dX5_rested_145 rfl 2 rfl ?_
        refine ww_imul hx hb dX5_rested_146 ?_
        refine ww_isub hx hb dX5_rested_147 ?_
        refine ww_istore (i := 8) (lv1 := [(0, .ref (q 0)), (1, .int (x1)), (2, .int (x2)), (3, .int (x3)), (4, .int (x4)), (5, .int (x5)), (6, .int (x6)), (7, .int (x7)), (8, .int (((y0 + (σ 1 (Int32.toNatClampNeg x6))) + (11 : Int32)) - ((24 : Int32) * x2)))]) hx hb dX5_rested_148 (by decide) [1, 2, 3, 4, 5, 6, 7, 8, 0] rfl ?_
        refine ww_iload hx hb dX5_rested_150 7 rfl ?_
        refine ww_eq0 (tgt := 184) hx hb dX5_rested_152 (by decide) (fun c_12 => ?_) (fun c_12 => ?_)
        · replace h := it_p c_12 h
          exact ww_sub (lv1 := [(0, .ref (q 0)), (1, .int (x1)), (2, .int (x2)), (3, .int (x3)), (4, .int (x4)), (5, .int (x5))]) [0, 1, 2, 3, 4, 5] rfl (bk184 _ _ _ _ _ h)
        · replace h := it_n c_12 h
          refine ww_aload_n hx hb dX5_rested_155 rfl 0 rfl ?_
          refine ww_get (C := RX5) (T := TX5) (N := 36) hx hb hown hts hK inA5 0 rfl rfl 3 (by decide) kw_270 rfl rfl dX5_rested_156 ?_
          refine ww_iload hx hb dX5_rested_159 6 rfl ?_
          obtain ⟨g_13, h⟩ := og h
          refine ww_iald hx hb hown hts hK 3 0 rfl rfl g_13 dX5_rested_161 ?_
          refine ww_aload_n hx hb dX5_rested_162 rfl 0 rfl ?_
          refine ww_get (C := RX5) (T := TX5) (N := 36) hx hb hown hts hK inA5 0 rfl rfl 3 (by decide) kw_270 rfl rfl dX5_rested_163 ?_
          refine ww_iload_n hx hb dX5_rested_166 rfl 1 rfl ?_
          obtain ⟨g_14, h⟩ := og h
          refine ww_iald hx hb hown hts hK 3 0 rfl rfl g_14 dX5_rested_167 ?_
          refine ww_iand hx hb dX5_rested_168 ?_
          refine ww_eq0 (tgt := 184) hx hb dX5_rested_169 (by decide) (fun c_15 => ?_) (fun c_15 => ?_)
          · replace h := it_p c_15 h
            exact ww_sub (lv1 := [(0, .ref (q 0)), (1, .int (x1)), (2, .int (x2)), (3, .int (x3)), (4, .int (x4)), (5, .int (x5))]) [0, 1, 2, 3, 4, 5] rfl (bk184 _ _ _ _ _ h)
          · replace h := it_n c_15 h
            refine ww_iload hx hb dX5_rested_172 8 rfl ?_
            refine ww_iload hx hb dX5_rested_174 4 rfl ?_
            refine ww_le2 (tgt := 184) hx hb dX5_rested_176 (by decide) (fun c_16 => ?_) (fun c_16 => ?_)
            · replace h := it_p c_16 h
              exact ww_sub (lv1 := [(0, .ref (q 0)), (1, .int (x1)), (2, .int (x2)), (3, .int (x3)), (4, .int (x4)), (5, .int (x5))]) [0, 1, 2, 3, 4, 5] rfl (bk184 _ _ _ _ _ h)
            · replace h := it_n c_16 h
              refine ww_iload hx hb dX5_rested_179 8 rfl ?_
              refine ww_goto (tgt := 186) hx hb dX5_rested_181 (by decide) ?_
              exact ww_sub (lv1 := [(0, .ref (q 0)), (1, .int (x1)), (2, .int (x2)), (3, .int (x3)), (5, .int (x5))]) [0, 1, 2, 3, 5] rfl (bk186 _ _ _ _ _ h)
      have bk99 : ∀ (x1 : Int32) (x2 : Int32) (x3 : Int32) (x4 : Int32) (x5 : Int32) (x6 : Int32) (y0 : Int32), X5_rested_b99 (X5_rested_l6 n) σ x1 x2 x3 x4 x5 x6 y0 = some r → WW p l e (rmc 0 0 0 0) s m args below meth c D vwCl (va_A (WR q cA σ) s.heap.size) 9 0 0 (MQ below (qcW D vwCl (WR q cA σ) (WR q cA σ) (some (.int r)) s.heap.size) args s 0 0 (va_A (WR q cA σ) s.heap.size)) (WR q cA σ) 99 [(0, .ref (q 0)), (1, .int (x1)), (2, .int (x2)), (3, .int (x3)), (4, .int (x4)), (5, .int (x5)), (6, .int (x6))] [.int (y0)] := by
        intro x1 x2 x3 x4 x5 x6 y0 h
        unfold X5_rested_b99 at h
        refine ww_istore (i := 7) (lv1 := [(0, .ref (q 0)), (1, .int (x1)), (2, .int (x2)), (3, .int (x3)), (4, .int (x4)), (5, .int (x5)), (6, .int (x6)), (7, .int (y0))]) hx hb dX5_rested_99 (by decide) [1, 2, 3, 4, 5, 6, 7, 0] rfl ?_
        refine ww_iload hx hb dX5_rested_101 5 rfl ?_
        refine ww_aload_n hx hb dX5_rested_103 rfl 0 rfl ?_
        refine ww_get (C := RX5) (T := TX5) (N := 36) hx hb hown hts hK inA5 0 rfl rfl 0 (by decide) kw_264 rfl rfl dX5_rested_104 ?_
        refine ww_ge2 (tgt := 120) hx hb dX5_rested_107 (by decide) (fun c_8 => ?_) (fun c_8 => ?_)
        · replace h := it_p c_8 h
          refine ww_aload_n hx hb dX5_rested_120 rfl 0 rfl ?_
          refine ww_get (C := RX5) (T := TX5) (N := 36) hx hb hown hts hK inA5 0 rfl rfl 20 (by decide) kw_266 rfl rfl dX5_rested_121 ?_
          refine ww_iload hx hb dX5_rested_124 5 rfl ?_
          refine ww_aload_n hx hb dX5_rested_126 rfl 0 rfl ?_
          refine ww_get (C := RX5) (T := TX5) (N := 36) hx hb hown hts hK inA5 0 rfl rfl 0 (by decide) kw_264 rfl rfl dX5_rested_127 ?_
          refine ww_isub hx hb dX5_rested_130 ?_
          obtain ⟨g_9, h⟩ := og h
          refine ww_iald hx hb hown hts hK 10 0 rfl rfl g_9 dX5_rested_131 ?_
          exact ww_sub (lv1 := [(0, .ref (q 0)), (1, .int (x1)), (2, .int (x2)), (3, .int (x3)), (4, .int (x4)), (5, .int (x5)), (6, .int (x6)), (7, .int (y0))]) [0, 1, 2, 3, 4, 5, 6, 7] rfl (bk132 _ _ _ _ _ _ _ _ h)
        · replace h := it_n c_8 h
          refine ww_aload_n hx hb dX5_rested_110 rfl 0 rfl ?_
          refine ww_get (C := RX5) (T := TX5) (N := 36) hx hb hown hts hK inA5 0 rfl rfl 7 (by decide) kw_268 rfl rfl dX5_rested_111 ?_
          refine ww_iload hx hb dX5_rested_114 5 rfl ?_
          obtain ⟨g_10, h⟩ := og h
          refine ww_iald hx hb hown hts hK 6 0 rfl rfl g_10 dX5_rested_116 ?_
          refine ww_goto (tgt := 132) hx hb dX5_rested_117 (by decide) ?_
          exact ww_sub (lv1 := [(0, .ref (q 0)), (1, .int (x1)), (2, .int (x2)), (3, .int (x3)), (4, .int (x4)), (5, .int (x5)), (6, .int (x6)), (7, .int (y0))]) [0, 1, 2, 3, 4, 5, 6, 7] rfl (bk132 _ _ _ _ _ _ _ _ h)
      have bk43 : ∀ (x1 : Int32) (x2 : Int32) (x3 : Int32) (x4 : Int32) (x5 : Int32) (y0 : Int32), X5_rested_b43 (X5_rested_l6 n) σ x1 x2 x3 x4 x5 y0 = some r → WW p l e (rmc 0 0 0 0) s m args below meth c D vwCl (va_A (WR q cA σ) s.heap.size) 9 0 0 (MQ below (qcW D vwCl (WR q cA σ) (WR q cA σ) (some (.int r)) s.heap.size) args s 0 0 (va_A (WR q cA σ) s.heap.size)) (WR q cA σ) 43 [(0, .ref (q 0)), (1, .int (x1)), (2, .int (x2)), (3, .int (x3)), (4, .int (x4)), (5, .int (x5))] [.int (y0)] := by
        intro x1 x2 x3 x4 x5 y0 h
        unfold X5_rested_b43 at h
        refine ww_istore (i := 6) (lv1 := [(0, .ref (q 0)), (1, .int (x1)), (2, .int (x2)), (3, .int (x3)), (4, .int (x4)), (5, .int (x5)), (6, .int (y0))]) hx hb dX5_rested_43 (by decide) [1, 2, 3, 4, 5, 6, 0] rfl ?_
        refine ww_iload hx hb dX5_rested_45 5 rfl ?_
        refine ww_aload_n hx hb dX5_rested_47 rfl 0 rfl ?_
        refine ww_get (C := RX5) (T := TX5) (N := 36) hx hb hown hts hK inA5 0 rfl rfl 0 (by decide) kw_264 rfl rfl dX5_rested_48 ?_
        refine ww_ge2 (tgt := 75) hx hb dX5_rested_51 (by decide) (fun c_4 => ?_) (fun c_4 => ?_)
        · replace h := it_p c_4 h
          refine ww_aload_n hx hb dX5_rested_75 rfl 0 rfl ?_
          refine ww_get (C := RX5) (T := TX5) (N := 36) hx hb hown hts hK inA5 0 rfl rfl 20 (by decide) kw_266 rfl rfl dX5_rested_76 ?_
          refine ww_iload hx hb dX5_rested_79 5 rfl ?_
          refine ww_aload_n hx hb dX5_rested_81 rfl 0 rfl ?_
          refine ww_get (C := RX5) (T := TX5) (N := 36) hx hb hown hts hK inA5 0 rfl rfl 0 (by decide) kw_264 rfl rfl dX5_rested_82 ?_
          refine ww_isub hx hb dX5_rested_85 ?_
          obtain ⟨g_5, h⟩ := og h
          refine ww_iald hx hb hown hts hK 10 0 rfl rfl g_5 dX5_rested_86 ?_
          refine ww_bipush (v := 24) hx hb dX5_rested_87 (by decide) ?_
          refine ww_idiv hx hb dX5_rested_89 (by decide) ?_
          refine ww_iload_n hx hb dX5_rested_90 rfl 2 rfl ?_
          refine ww_ge2 (tgt := 98) hx hb dX5_rested_91 (by decide) (fun c_6 => ?_) (fun c_6 => ?_)
          · replace h := it_p c_6 h
            refine ww_iconst (v := 0) hx hb dX5_rested_98 (by decide) ?_
            exact ww_sub (lv1 := [(0, .ref (q 0)), (1, .int (x1)), (2, .int (x2)), (3, .int (x3)), (4, .int (x4)), (5, .int (x5)), (6, .int (y0))]) [0, 1, 2, 3, 4, 5, 6] rfl (bk99 _ _ _ _ _ _ _ h)
          · replace h := it_n c_6 h
            refine ww_iconst (v := 1) hx hb dX5_rested_94 (by decide) ?_
            refine ww_goto (tgt := 99) hx hb dX5_rested_95 (by decide) ?_
            exact ww_sub (lv1 := [(0, .ref (q 0)), (1, .int (x1)), (2, .int (x2)), (3, .int (x3)), (4, .int (x4)), (5, .int (x5)), (6, .int (y0))]) [0, 1, 2, 3, 4, 5, 6] rfl (bk99 _ _ _ _ _ _ _ h)
        · replace h := it_n c_4 h
          refine ww_aload_n hx hb dX5_rested_54 rfl 0 rfl ?_
          refine ww_get (C := RX5) (T := TX5) (N := 36) hx hb hown hts hK inA5 0 rfl rfl 6 (by decide) kw_267 rfl rfl dX5_rested_55 ?_
          refine ww_iload hx hb dX5_rested_58 5 rfl ?_
          refine ww_ishr hx hb dX5_rested_60 ?_
          refine ww_iconst (v := 1) hx hb dX5_rested_61 (by decide) ?_
          refine ww_iand hx hb dX5_rested_62 ?_
          refine ww_iconst (v := 1) hx hb dX5_rested_63 (by decide) ?_
          refine ww_ne2 (tgt := 71) hx hb dX5_rested_64 (by decide) (fun c_7 => ?_) (fun c_7 => ?_)
          · replace h := it_n c_7 h
            refine ww_iconst (v := 0) hx hb dX5_rested_71 (by decide) ?_
            refine ww_goto (tgt := 99) hx hb dX5_rested_72 (by decide) ?_
            exact ww_sub (lv1 := [(0, .ref (q 0)), (1, .int (x1)), (2, .int (x2)), (3, .int (x3)), (4, .int (x4)), (5, .int (x5)), (6, .int (y0))]) [0, 1, 2, 3, 4, 5, 6] rfl (bk99 _ _ _ _ _ _ _ h)
          · replace h := it_p c_7 h
            refine ww_iconst (v := 1) hx hb dX5_rested_67 (by decide) ?_
            refine ww_goto (tgt := 99) hx hb dX5_rested_68 (by decide) ?_
            exact ww_sub (lv1 := [(0, .ref (q 0)), (1, .int (x1)), (2, .int (x2)), (3, .int (x3)), (4, .int (x4)), (5, .int (x5)), (6, .int (y0))]) [0, 1, 2, 3, 4, 5, 6] rfl (bk99 _ _ _ _ _ _ _ h)
      intro x1 x2 x3 x4 x5 h
      rw [X5_rested_l6] at h
      refine ww_iload hx hb dX5_rested_6 5 rfl ?_
      refine ww_aload_n hx hb dX5_rested_8 rfl 0 rfl ?_
      refine ww_get (C := RX5) (T := TX5) (N := 36) hx hb hown hts hK inA5 0 rfl rfl 0 (by decide) kw_264 rfl rfl dX5_rested_9 ?_
      refine ww_iload_n hx hb dX5_rested_12 rfl 3 rfl ?_
      refine ww_iadd hx hb dX5_rested_13 ?_
      refine ww_ge2 (tgt := 194) hx hb dX5_rested_14 (by decide) (fun c_1 => ?_) (fun c_1 => ?_)
      · replace h := it_p c_1 h
        refine ww_iload hx hb dX5_rested_194 4 rfl ?_
        obtain rfl := os1 h
        exact ww_iret hx hb hr hlk rfl dX5_rested_196
      · replace h := it_n c_1 h
        refine ww_iload hx hb dX5_rested_17 5 rfl ?_
        refine ww_aload_n hx hb dX5_rested_19 rfl 0 rfl ?_
        refine ww_get (C := RX5) (T := TX5) (N := 36) hx hb hown hts hK inA5 0 rfl rfl 0 (by decide) kw_264 rfl rfl dX5_rested_20 ?_
        refine ww_ge2 (tgt := 31) hx hb dX5_rested_23 (by decide) (fun c_2 => ?_) (fun c_2 => ?_)
        · replace h := it_p c_2 h
          refine ww_aload_n hx hb dX5_rested_31 rfl 0 rfl ?_
          refine ww_get (C := RX5) (T := TX5) (N := 36) hx hb hown hts hK inA5 0 rfl rfl 19 (by decide) kw_265 rfl rfl dX5_rested_32 ?_
          refine ww_iload hx hb dX5_rested_35 5 rfl ?_
          refine ww_aload_n hx hb dX5_rested_37 rfl 0 rfl ?_
          refine ww_get (C := RX5) (T := TX5) (N := 36) hx hb hown hts hK inA5 0 rfl rfl 0 (by decide) kw_264 rfl rfl dX5_rested_38 ?_
          refine ww_isub hx hb dX5_rested_41 ?_
          obtain ⟨g_3, h⟩ := og h
          refine ww_iald hx hb hown hts hK 9 0 rfl rfl g_3 dX5_rested_42 ?_
          exact ww_sub (lv1 := [(0, .ref (q 0)), (1, .int (x1)), (2, .int (x2)), (3, .int (x3)), (4, .int (x4)), (5, .int (x5))]) [0, 1, 2, 3, 4, 5] rfl (bk43 _ _ _ _ _ _ h)
        · replace h := it_n c_2 h
          refine ww_iload hx hb dX5_rested_26 5 rfl ?_
          refine ww_goto (tgt := 43) hx hb dX5_rested_28 (by decide) ?_
          exact ww_sub (lv1 := [(0, .ref (q 0)), (1, .int (x1)), (2, .int (x2)), (3, .int (x3)), (4, .int (x4)), (5, .int (x5))]) [0, 1, 2, 3, 4, 5] rfl (bk43 _ _ _ _ _ _ h)
  refine ww_sub (lv1 := [(0, .ref (q 0)), (1, .int (x1)), (2, .int (x2)), (3, .int (x3))]) [0, 1, 2, 3] rfl ?_
  refine ww_iconst (v := 0) hx hb dX5_rested_0 (by decide) ?_
  refine ww_istore (i := 4) (lv1 := [(0, .ref (q 0)), (1, .int (x1)), (2, .int (x2)), (3, .int (x3)), (4, .int ((0 : Int32)))]) hx hb dX5_rested_1 (by decide) [1, 2, 3, 4, 0] rfl ?_
  refine ww_iconst (v := 0) hx hb dX5_rested_3 (by decide) ?_
  refine ww_istore (i := 5) (lv1 := [(0, .ref (q 0)), (1, .int (x1)), (2, .int (x2)), (3, .int (x3)), (4, .int ((0 : Int32))), (5, .int ((0 : Int32)))]) hx hb dX5_rested_4 (by decide) [1, 2, 3, 4, 5, 0] rfl ?_
  exact ww_sub (lv1 := [(0, .ref (q 0)), (1, .int (x1)), (2, .int (x2)), (3, .int (x3)), (4, .int ((0 : Int32))), (5, .int ((0 : Int32)))]) [0, 1, 2, 3, 4, 5] rfl (lp6 _ _ _ _ _ _ h)
set_option maxHeartbeats 4000000 in
set_option maxRecDepth 100000 in
theorem m_X5_plays (σ : SS) (x1 x2 x3 : Int32) (r : Int32) (h : X5_plays σ x1 x2 x3 = some r) : Ct l yX5_plays cX5_plays 6 (some .int) 0 0 D vwCl [(cA, .int)] (WR q cA σ) (WR q cA σ) [.ref (q 0), .int (x1), .int (x2), .int (x3)] (some (.int r)) := by
  refine ct_of (by decide +kernel) (Nat.le_of_ble_eq_true rfl) ?_
  intro p e s m args below meth c hx hb hr hlk hml hown hts hK hD hN hA
  have hown : s.vm.findClass RX5 = some m.cls := hown
  have hDD : ∀ τ : SS, va_D (va_A (WR q cA σ) s.heap.size) (WR q cA τ) := fun τ => hD.adr rfl
  unfold X5_plays at h
  have lp6 : ∀ (n : Nat) (x1 : Int32) (x2 : Int32) (x3 : Int32) (x4 : Int32) (x5 : Int32), X5_plays_l6 n σ x1 x2 x3 x4 x5 = some r → WW p l e (rmc 0 0 0 0) s m args below meth c D vwCl (va_A (WR q cA σ) s.heap.size) 6 0 0 (MQ below (qcW D vwCl (WR q cA σ) (WR q cA σ) (some (.int r)) s.heap.size) args s 0 0 (va_A (WR q cA σ) s.heap.size)) (WR q cA σ) 6 [(0, .ref (q 0)), (1, .int (x1)), (2, .int (x2)), (3, .int (x3)), (4, .int (x4)), (5, .int (x5))] [] := by
    intro n
    induction n with
    | zero => intro x1 x2 x3 x4 x5 h; rw [X5_plays_l6] at h; cases h
    | succ n ih =>
      have bk64 : ∀ (x1 : Int32) (x2 : Int32) (x3 : Int32) (x5 : Int32) (y0 : Int32) (y1 : Int32), X5_plays_b64 (X5_plays_l6 n) σ x1 x2 x3 x5 y0 y1 = some r → WW p l e (rmc 0 0 0 0) s m args below meth c D vwCl (va_A (WR q cA σ) s.heap.size) 6 0 0 (MQ below (qcW D vwCl (WR q cA σ) (WR q cA σ) (some (.int r)) s.heap.size) args s 0 0 (va_A (WR q cA σ) s.heap.size)) (WR q cA σ) 64 [(0, .ref (q 0)), (1, .int (x1)), (2, .int (x2)), (3, .int (x3)), (5, .int (x5))] [.int (y1), .int (y0)] := by
        intro x1 x2 x3 x5 y0 y1 h
        unfold X5_plays_b64 at h
        refine ww_iadd hx hb dX5_plays_64 ?_
        refine ww_istore (i := 4) (lv1 := [(0, .ref (q 0)), (1, .int (x1)), (2, .int (x2)), (3, .int (x3)), (4, .int (y0 + y1)), (5, .int (x5))]) hx hb dX5_plays_65 (by decide) [1, 2, 3, 4, 0, 5] rfl ?_
        refine ww_iinc (i := 5) (k := 5) (v := 1) (lv1 := [(0, .ref (q 0)), (1, .int (x1)), (2, .int (x2)), (3, .int (x3)), (4, .int (y0 + y1)), (5, .int (x5 + 1))]) hx hb dX5_plays_67 rfl (by decide) (by decide) [1, 2, 3, 4, 5, 0] rfl ?_
        refine ww_goto (tgt := 6) hx hb dX5_plays_70 (by decide) ?_
        exact ww_sub (lv1 := [(0, .ref (q 0)), (1, .int (x1)), (2, .int (x2)), (3, .int (x3)), (4, .int (y0 + y1)), (5, .int (x5 + 1))]) [0, 1, 2, 3, 4, 5] rfl (ih _ _ _ _ _ h)
      have bk63 : ∀ (x1 : Int32) (x2 : Int32) (x3 : Int32) (x5 : Int32) (y0 : Int32), X5_plays_b63 (X5_plays_l6 n) σ x1 x2 x3 x5 y0 = some r → WW p l e (rmc 0 0 0 0) s m args below meth c D vwCl (va_A (WR q cA σ) s.heap.size) 6 0 0 (MQ below (qcW D vwCl (WR q cA σ) (WR q cA σ) (some (.int r)) s.heap.size) args s 0 0 (va_A (WR q cA σ) s.heap.size)) (WR q cA σ) 63 [(0, .ref (q 0)), (1, .int (x1)), (2, .int (x2)), (3, .int (x3)), (5, .int (x5))] [.int (y0)] := by
        intro x1 x2 x3 x5 y0 h
        unfold X5_plays_b63 at h
        refine ww_iconst (v := 0) hx hb dX5_plays_63 (by decide) ?_
        exact ww_sub (lv1 := [(0, .ref (q 0)), (1, .int (x1)), (2, .int (x2)), (3, .int (x3)), (5, .int (x5))]) [0, 1, 2, 3, 4] rfl (bk64 _ _ _ _ _ _ h)
      intro x1 x2 x3 x4 x5 h
      rw [X5_plays_l6] at h
      refine ww_iload hx hb dX5_plays_6 5 rfl ?_
      refine ww_iload_n hx hb dX5_plays_8 rfl 3 rfl ?_
      refine ww_ge2 (tgt := 73) hx hb dX5_plays_9 (by decide) (fun c_1 => ?_) (fun c_1 => ?_)
      · replace h := it_p c_1 h
        refine ww_iload hx hb dX5_plays_73 4 rfl ?_
        obtain rfl := os1 h
        exact ww_iret hx hb hr hlk rfl dX5_plays_75
      · replace h := it_n c_1 h
        refine ww_iload hx hb dX5_plays_12 4 rfl ?_
        refine ww_aload_n hx hb dX5_plays_14 rfl 0 rfl ?_
        refine ww_get (C := RX5) (T := TX5) (N := 36) hx hb hown hts hK inA5 0 rfl rfl 20 (by decide) kw_266 rfl rfl dX5_plays_15 ?_
        refine ww_iload hx hb dX5_plays_18 5 rfl ?_
        obtain ⟨g_2, h⟩ := og h
        refine ww_iald hx hb hown hts hK 10 0 rfl rfl g_2 dX5_plays_20 ?_
        refine ww_bipush (v := 24) hx hb dX5_plays_21 (by decide) ?_
        refine ww_idiv hx hb dX5_plays_23 (by decide) ?_
        refine ww_iload_n hx hb dX5_plays_24 rfl 2 rfl ?_
        refine ww_ne2 (tgt := 63) hx hb dX5_plays_25 (by decide) (fun c_3 => ?_) (fun c_3 => ?_)
        · replace h := it_n c_3 h
          exact ww_sub (lv1 := [(0, .ref (q 0)), (1, .int (x1)), (2, .int (x2)), (3, .int (x3)), (5, .int (x5))]) [0, 1, 2, 3, 5] rfl (bk63 _ _ _ _ _ h)
        · replace h := it_p c_3 h
          refine ww_aload_n hx hb dX5_plays_28 rfl 0 rfl ?_
          refine ww_get (C := RX5) (T := TX5) (N := 36) hx hb hown hts hK inA5 0 rfl rfl 3 (by decide) kw_270 rfl rfl dX5_plays_29 ?_
          refine ww_aload_n hx hb dX5_plays_32 rfl 0 rfl ?_
          refine ww_get (C := RX5) (T := TX5) (N := 36) hx hb hown hts hK inA5 0 rfl rfl 19 (by decide) kw_265 rfl rfl dX5_plays_33 ?_
          refine ww_iload hx hb dX5_plays_36 5 rfl ?_
          obtain ⟨g_4, h⟩ := og h
          refine ww_iald hx hb hown hts hK 9 0 rfl rfl g_4 dX5_plays_38 ?_
          obtain ⟨g_5, h⟩ := og h
          refine ww_iald hx hb hown hts hK 3 0 rfl rfl g_5 dX5_plays_39 ?_
          refine ww_iload_n hx hb dX5_plays_40 rfl 1 rfl ?_
          refine ww_ishr hx hb dX5_plays_41 ?_
          refine ww_iconst (v := 1) hx hb dX5_plays_42 (by decide) ?_
          refine ww_iand hx hb dX5_plays_43 ?_
          refine ww_iconst (v := 1) hx hb dX5_plays_44 (by decide) ?_
          refine ww_ne2 (tgt := 63) hx hb dX5_plays_45 (by decide) (fun c_6 => ?_) (fun c_6 => ?_)
          · replace h := it_n c_6 h
            exact ww_sub (lv1 := [(0, .ref (q 0)), (1, .int (x1)), (2, .int (x2)), (3, .int (x3)), (5, .int (x5))]) [0, 1, 2, 3, 5] rfl (bk63 _ _ _ _ _ h)
          · replace h := it_p c_6 h
            refine ww_aload_n hx hb dX5_plays_48 rfl 0 rfl ?_
            refine ww_get (C := RX5) (T := TX5) (N := 36) hx hb hown hts hK inA5 0 rfl rfl 1 (by decide) kw_269 rfl rfl dX5_plays_49 ?_
            refine ww_aload_n hx hb dX5_plays_52 rfl 0 rfl ?_
            refine ww_get (C := RX5) (T := TX5) (N := 36) hx hb hown hts hK inA5 0 rfl rfl 19 (by decide) kw_265 rfl rfl dX5_plays_53 ?_
            refine ww_iload hx hb dX5_plays_56 5 rfl ?_
            obtain ⟨g_7, h⟩ := og h
            refine ww_iald hx hb hown hts hK 9 0 rfl rfl g_7 dX5_plays_58 ?_
            obtain ⟨g_8, h⟩ := og h
            refine ww_iald hx hb hown hts hK 1 0 rfl rfl g_8 dX5_plays_59 ?_
            refine ww_goto (tgt := 64) hx hb dX5_plays_60 (by decide) ?_
            exact ww_sub (lv1 := [(0, .ref (q 0)), (1, .int (x1)), (2, .int (x2)), (3, .int (x3)), (5, .int (x5))]) [0, 1, 2, 3, 5] rfl (bk64 _ _ _ _ _ _ h)
  refine ww_sub (lv1 := [(0, .ref (q 0)), (1, .int (x1)), (2, .int (x2)), (3, .int (x3))]) [0, 1, 2, 3] rfl ?_
  refine ww_iconst (v := 0) hx hb dX5_plays_0 (by decide) ?_
  refine ww_istore (i := 4) (lv1 := [(0, .ref (q 0)), (1, .int (x1)), (2, .int (x2)), (3, .int (x3)), (4, .int ((0 : Int32)))]) hx hb dX5_plays_1 (by decide) [1, 2, 3, 4, 0] rfl ?_
  refine ww_iconst (v := 0) hx hb dX5_plays_3 (by decide) ?_
  refine ww_istore (i := 5) (lv1 := [(0, .ref (q 0)), (1, .int (x1)), (2, .int (x2)), (3, .int (x3)), (4, .int ((0 : Int32))), (5, .int ((0 : Int32)))]) hx hb dX5_plays_4 (by decide) [1, 2, 3, 4, 5, 0] rfl ?_
  exact ww_sub (lv1 := [(0, .ref (q 0)), (1, .int (x1)), (2, .int (x2)), (3, .int (x3)), (4, .int ((0 : Int32))), (5, .int ((0 : Int32)))]) [0, 1, 2, 3, 4, 5] rfl (lp6 _ _ _ _ _ _ h)
set_option maxHeartbeats 4000000 in
set_option maxRecDepth 100000 in
theorem m_X5_isTooLong (σ : SS) (x1 x2 x3 : Int32) (r : Int32) (h : X5_isTooLong σ x1 x2 x3 = some r) : Ct l yX5_isTooLong cX5_isTooLong 7 (some .boolean) 1 40 D vwCl [(cA, .int)] (WR q cA σ) (WR q cA σ) [.ref (q 0), .int (x1), .int (x2), .int (x3)] (some (.int r)) := by
  refine ct_of (by decide +kernel) (Nat.le_of_ble_eq_true rfl) ?_
  intro p e s m args below meth c hx hb hr hlk hml hown hts hK hD hN hA
  have hown : s.vm.findClass RX5 = some m.cls := hown
  have hDD : ∀ τ : SS, va_D (va_A (WR q cA σ) s.heap.size) (WR q cA τ) := fun τ => hD.adr rfl
  unfold X5_isTooLong at h
  have lp6 : ∀ (n : Nat) (x1 : Int32) (x2 : Int32) (x3 : Int32) (x4 : Int32) (x5 : Int32), X5_isTooLong_l6 n σ x1 x2 x3 x4 x5 = some r → WW p l e (rmc 1 40 0 0) s m args below meth c D vwCl (va_A (WR q cA σ) s.heap.size) 7 0 0 (MQ below (qcW D vwCl (WR q cA σ) (WR q cA σ) (some (.int r)) s.heap.size) args s 0 0 (va_A (WR q cA σ) s.heap.size)) (WR q cA σ) 6 [(0, .ref (q 0)), (1, .int (x1)), (2, .int (x2)), (3, .int (x3)), (4, .int (x4)), (5, .int (x5))] [] := by
    intro n
    induction n with
    | zero => intro x1 x2 x3 x4 x5 h; rw [X5_isTooLong_l6] at h; cases h
    | succ n ih =>
      have bk71 : ∀ (x1 : Int32) (x2 : Int32) (x3 : Int32) (x5 : Int32) (y0 : Int32) (y1 : Int32), X5_isTooLong_b71 (X5_isTooLong_l6 n) σ x1 x2 x3 x5 y0 y1 = some r → WW p l e (rmc 1 40 0 0) s m args below meth c D vwCl (va_A (WR q cA σ) s.heap.size) 7 0 0 (MQ below (qcW D vwCl (WR q cA σ) (WR q cA σ) (some (.int r)) s.heap.size) args s 0 0 (va_A (WR q cA σ) s.heap.size)) (WR q cA σ) 71 [(0, .ref (q 0)), (1, .int (x1)), (2, .int (x2)), (3, .int (x3)), (5, .int (x5))] [.int (y1), .int (y0)] := by
        intro x1 x2 x3 x5 y0 y1 h
        unfold X5_isTooLong_b71 at h
        refine ww_ior hx hb dX5_isTooLong_71 ?_
        refine ww_istore (i := 4) (lv1 := [(0, .ref (q 0)), (1, .int (x1)), (2, .int (x2)), (3, .int (x3)), (4, .int (y0 ||| y1)), (5, .int (x5))]) hx hb dX5_isTooLong_72 (by decide) [1, 2, 3, 4, 0, 5] rfl ?_
        refine ww_iinc (i := 5) (k := 5) (v := 1) (lv1 := [(0, .ref (q 0)), (1, .int (x1)), (2, .int (x2)), (3, .int (x3)), (4, .int (y0 ||| y1)), (5, .int (x5 + 1))]) hx hb dX5_isTooLong_74 rfl (by decide) (by decide) [1, 2, 3, 4, 5, 0] rfl ?_
        refine ww_goto (tgt := 6) hx hb dX5_isTooLong_77 (by decide) ?_
        exact ww_sub (lv1 := [(0, .ref (q 0)), (1, .int (x1)), (2, .int (x2)), (3, .int (x3)), (4, .int (y0 ||| y1)), (5, .int (x5 + 1))]) [0, 1, 2, 3, 4, 5] rfl (ih _ _ _ _ _ h)
      have bk70 : ∀ (x1 : Int32) (x2 : Int32) (x3 : Int32) (x5 : Int32) (y0 : Int32), X5_isTooLong_b70 (X5_isTooLong_l6 n) σ x1 x2 x3 x5 y0 = some r → WW p l e (rmc 1 40 0 0) s m args below meth c D vwCl (va_A (WR q cA σ) s.heap.size) 7 0 0 (MQ below (qcW D vwCl (WR q cA σ) (WR q cA σ) (some (.int r)) s.heap.size) args s 0 0 (va_A (WR q cA σ) s.heap.size)) (WR q cA σ) 70 [(0, .ref (q 0)), (1, .int (x1)), (2, .int (x2)), (3, .int (x3)), (5, .int (x5))] [.int (y0)] := by
        intro x1 x2 x3 x5 y0 h
        unfold X5_isTooLong_b70 at h
        refine ww_iconst (v := 0) hx hb dX5_isTooLong_70 (by decide) ?_
        exact ww_sub (lv1 := [(0, .ref (q 0)), (1, .int (x1)), (2, .int (x2)), (3, .int (x3)), (5, .int (x5))]) [0, 1, 2, 3, 4] rfl (bk71 _ _ _ _ _ _ h)
      have bk37 : ∀ (x1 : Int32) (x2 : Int32) (x3 : Int32) (x4 : Int32) (x5 : Int32) (y0 : Int32), X5_isTooLong_b37 (X5_isTooLong_l6 n) σ x1 x2 x3 x4 x5 y0 = some r → WW p l e (rmc 1 40 0 0) s m args below meth c D vwCl (va_A (WR q cA σ) s.heap.size) 7 0 0 (MQ below (qcW D vwCl (WR q cA σ) (WR q cA σ) (some (.int r)) s.heap.size) args s 0 0 (va_A (WR q cA σ) s.heap.size)) (WR q cA σ) 37 [(0, .ref (q 0)), (1, .int (x1)), (2, .int (x2)), (3, .int (x3)), (4, .int (x4)), (5, .int (x5))] [.int (y0)] := by
        intro x1 x2 x3 x4 x5 y0 h
        unfold X5_isTooLong_b37 at h
        refine ww_istore (i := 6) (lv1 := [(0, .ref (q 0)), (1, .int (x1)), (2, .int (x2)), (3, .int (x3)), (4, .int (x4)), (5, .int (x5)), (6, .int (y0))]) hx hb dX5_isTooLong_37 (by decide) [1, 2, 3, 4, 5, 6, 0] rfl ?_
        refine ww_iload hx hb dX5_isTooLong_39 4 rfl ?_
        refine ww_iload hx hb dX5_isTooLong_41 6 rfl ?_
        refine ww_eq0 (tgt := 70) hx hb dX5_isTooLong_43 (by decide) (fun c_5 => ?_) (fun c_5 => ?_)
        · replace h := it_p c_5 h
          exact ww_sub (lv1 := [(0, .ref (q 0)), (1, .int (x1)), (2, .int (x2)), (3, .int (x3)), (5, .int (x5))]) [0, 1, 2, 3, 5] rfl (bk70 _ _ _ _ _ h)
        · replace h := it_n c_5 h
          refine ww_aload_n hx hb dX5_isTooLong_46 rfl 0 rfl ?_
          refine ww_iload hx hb dX5_isTooLong_47 5 rfl ?_
          refine ww_iload_n hx hb dX5_isTooLong_49 rfl 2 rfl ?_
          refine ww_iload_n hx hb dX5_isTooLong_50 rfl 3 rfl ?_
          obtain ⟨r_6, e_6, h⟩ := ob h
          refine ww_callV (ws1 := WR q cA σ) (st1 := [.int (r_6), .int (x4)]) hx hb hml hown hts hK hN hA (hDD _) (Nat.zero_le _) (Nat.zero_le _) [.int (x5), .int (x2), .int (x3)] [.int (x4)] (m_X5_plays _ _ _ _ _ e_6) cs_X5_87 rfl (by decide) 0 rfl rfl rfl (Nat.le_of_ble_eq_true rfl) dX5_isTooLong_51 rfl ?_
          refine ww_aload_n hx hb dX5_isTooLong_54 rfl 0 rfl ?_
          refine ww_get (C := RX5) (T := TX5) (N := 36) hx hb hown hts hK inA5 0 rfl rfl 1 (by decide) kw_269 rfl rfl dX5_isTooLong_55 ?_
          refine ww_iload_n hx hb dX5_isTooLong_58 rfl 1 rfl ?_
          obtain ⟨g_7, h⟩ := og h
          refine ww_iald hx hb hown hts hK 1 0 rfl rfl g_7 dX5_isTooLong_59 ?_
          refine ww_iadd hx hb dX5_isTooLong_60 ?_
          refine ww_bipush (v := 6) hx hb dX5_isTooLong_61 (by decide) ?_
          refine ww_le2 (tgt := 70) hx hb dX5_isTooLong_63 (by decide) (fun c_8 => ?_) (fun c_8 => ?_)
          · replace h := it_p c_8 h
            exact ww_sub (lv1 := [(0, .ref (q 0)), (1, .int (x1)), (2, .int (x2)), (3, .int (x3)), (5, .int (x5))]) [0, 1, 2, 3, 5] rfl (bk70 _ _ _ _ _ h)
          · replace h := it_n c_8 h
            refine ww_iconst (v := 1) hx hb dX5_isTooLong_66 (by decide) ?_
            refine ww_goto (tgt := 71) hx hb dX5_isTooLong_67 (by decide) ?_
            exact ww_sub (lv1 := [(0, .ref (q 0)), (1, .int (x1)), (2, .int (x2)), (3, .int (x3)), (5, .int (x5))]) [0, 1, 2, 3, 5] rfl (bk71 _ _ _ _ _ _ h)
      intro x1 x2 x3 x4 x5 h
      rw [X5_isTooLong_l6] at h
      refine ww_iload hx hb dX5_isTooLong_6 5 rfl ?_
      refine ww_bipush (v := 6) hx hb dX5_isTooLong_8 (by decide) ?_
      refine ww_ge2 (tgt := 80) hx hb dX5_isTooLong_10 (by decide) (fun c_1 => ?_) (fun c_1 => ?_)
      · replace h := it_p c_1 h
        refine ww_iload hx hb dX5_isTooLong_80 4 rfl ?_
        obtain ⟨g_2, h⟩ := og h
        obtain rfl := os1 h
        exact ww_zret hx hb hr hlk g_2 rfl dX5_isTooLong_82
      · replace h := it_n c_1 h
        refine ww_aload_n hx hb dX5_isTooLong_13 rfl 0 rfl ?_
        refine ww_get (C := RX5) (T := TX5) (N := 36) hx hb hown hts hK inA5 0 rfl rfl 8 (by decide) kw_271 rfl rfl dX5_isTooLong_14 ?_
        refine ww_aload_n hx hb dX5_isTooLong_17 rfl 0 rfl ?_
        refine ww_get (C := RX5) (T := TX5) (N := 36) hx hb hown hts hK inA5 0 rfl rfl 3 (by decide) kw_270 rfl rfl dX5_isTooLong_18 ?_
        refine ww_iload_n hx hb dX5_isTooLong_21 rfl 1 rfl ?_
        obtain ⟨g_3, h⟩ := og h
        refine ww_iald hx hb hown hts hK 3 0 rfl rfl g_3 dX5_isTooLong_22 ?_
        refine ww_iand hx hb dX5_isTooLong_23 ?_
        refine ww_iconst (v := 1) hx hb dX5_isTooLong_24 (by decide) ?_
        refine ww_iload hx hb dX5_isTooLong_25 5 rfl ?_
        refine ww_ishl hx hb dX5_isTooLong_27 ?_
        refine ww_iand hx hb dX5_isTooLong_28 ?_
        refine ww_eq0 (tgt := 36) hx hb dX5_isTooLong_29 (by decide) (fun c_4 => ?_) (fun c_4 => ?_)
        · replace h := it_p c_4 h
          refine ww_iconst (v := 0) hx hb dX5_isTooLong_36 (by decide) ?_
          exact ww_sub (lv1 := [(0, .ref (q 0)), (1, .int (x1)), (2, .int (x2)), (3, .int (x3)), (4, .int (x4)), (5, .int (x5))]) [0, 1, 2, 3, 4, 5] rfl (bk37 _ _ _ _ _ _ h)
        · replace h := it_n c_4 h
          refine ww_iconst (v := 1) hx hb dX5_isTooLong_32 (by decide) ?_
          refine ww_goto (tgt := 37) hx hb dX5_isTooLong_33 (by decide) ?_
          exact ww_sub (lv1 := [(0, .ref (q 0)), (1, .int (x1)), (2, .int (x2)), (3, .int (x3)), (4, .int (x4)), (5, .int (x5))]) [0, 1, 2, 3, 4, 5] rfl (bk37 _ _ _ _ _ _ h)
  refine ww_sub (lv1 := [(0, .ref (q 0)), (1, .int (x1)), (2, .int (x2)), (3, .int (x3))]) [0, 1, 2, 3] rfl ?_
  refine ww_iconst (v := 0) hx hb dX5_isTooLong_0 (by decide) ?_
  refine ww_istore (i := 4) (lv1 := [(0, .ref (q 0)), (1, .int (x1)), (2, .int (x2)), (3, .int (x3)), (4, .int ((0 : Int32)))]) hx hb dX5_isTooLong_1 (by decide) [1, 2, 3, 4, 0] rfl ?_
  refine ww_iconst (v := 0) hx hb dX5_isTooLong_3 (by decide) ?_
  refine ww_istore (i := 5) (lv1 := [(0, .ref (q 0)), (1, .int (x1)), (2, .int (x2)), (3, .int (x3)), (4, .int ((0 : Int32))), (5, .int ((0 : Int32)))]) hx hb dX5_isTooLong_4 (by decide) [1, 2, 3, 4, 5, 0] rfl ?_
  exact ww_sub (lv1 := [(0, .ref (q 0)), (1, .int (x1)), (2, .int (x2)), (3, .int (x3)), (4, .int ((0 : Int32))), (5, .int ((0 : Int32)))]) [0, 1, 2, 3, 4, 5] rfl (lp6 _ _ _ _ _ _ h)
set_option maxHeartbeats 4000000 in
set_option maxRecDepth 100000 in
theorem m_X5_begin (σ : SS) (x1 : Int32) (r : Int32) (h : X5_begin σ x1 = some r) : Ct l yX5_begin cX5_begin 8 (some .int) 2 80 D vwCl [(cA, .int)] (WR q cA σ) (WR q cA σ) [.ref (q 0), .int (x1)] (some (.int r)) := by
  refine ct_of (by decide +kernel) (Nat.le_of_ble_eq_true rfl) ?_
  intro p e s m args below meth c hx hb hr hlk hml hown hts hK hD hN hA
  have hown : s.vm.findClass RX5 = some m.cls := hown
  have hDD : ∀ τ : SS, va_D (va_A (WR q cA σ) s.heap.size) (WR q cA τ) := fun τ => hD.adr rfl
  unfold X5_begin at h
  have lp33 : ∀ (n : Nat) (x1 : Int32) (x2 : Int32) (x3 : Int32) (x4 : Int32), X5_begin_l33 n σ x1 x2 x3 x4 = some r → WW p l e (rmc 2 80 0 0) s m args below meth c D vwCl (va_A (WR q cA σ) s.heap.size) 8 0 0 (MQ below (qcW D vwCl (WR q cA σ) (WR q cA σ) (some (.int r)) s.heap.size) args s 0 0 (va_A (WR q cA σ) s.heap.size)) (WR q cA σ) 33 [(0, .ref (q 0)), (1, .int (x1)), (2, .int (x2)), (3, .int (x3)), (4, .int (x4))] [] := by
    intro n
    induction n with
    | zero => intro x1 x2 x3 x4 h; rw [X5_begin_l33] at h; cases h
    | succ n ih =>
      have bk232 : ∀ (x1 : Int32) (x2 : Int32) (x3 : Int32) (y0 : Int32), X5_begin_b232 (X5_begin_l33 n) σ x1 x2 x3 y0 = some r → WW p l e (rmc 2 80 0 0) s m args below meth c D vwCl (va_A (WR q cA σ) s.heap.size) 8 0 0 (MQ below (qcW D vwCl (WR q cA σ) (WR q cA σ) (some (.int r)) s.heap.size) args s 0 0 (va_A (WR q cA σ) s.heap.size)) (WR q cA σ) 232 [(0, .ref (q 0)), (1, .int (x1)), (2, .int (x2)), (3, .int (x3))] [.int (y0)] := by
        intro x1 x2 x3 y0 h
        unfold X5_begin_b232 at h
        refine ww_istore (i := 4) (lv1 := [(0, .ref (q 0)), (1, .int (x1)), (2, .int (x2)), (3, .int (x3)), (4, .int (y0))]) hx hb dX5_begin_232 (by decide) [1, 2, 3, 4, 0] rfl ?_
        refine ww_iinc (i := 3) (k := 3) (v := 1) (lv1 := [(0, .ref (q 0)), (1, .int (x1)), (2, .int (x2)), (3, .int (x3 + 1)), (4, .int (y0))]) hx hb dX5_begin_234 rfl (by decide) (by decide) [1, 2, 3, 0, 4] rfl ?_
        refine ww_goto (tgt := 33) hx hb dX5_begin_237 (by decide) ?_
        exact ww_sub (lv1 := [(0, .ref (q 0)), (1, .int (x1)), (2, .int (x2)), (3, .int (x3 + 1)), (4, .int (y0))]) [0, 1, 2, 3, 4] rfl (ih _ _ _ _ h)
      have bk231 : ∀ (x1 : Int32) (x2 : Int32) (x3 : Int32), X5_begin_b231 (X5_begin_l33 n) σ x1 x2 x3 = some r → WW p l e (rmc 2 80 0 0) s m args below meth c D vwCl (va_A (WR q cA σ) s.heap.size) 8 0 0 (MQ below (qcW D vwCl (WR q cA σ) (WR q cA σ) (some (.int r)) s.heap.size) args s 0 0 (va_A (WR q cA σ) s.heap.size)) (WR q cA σ) 231 [(0, .ref (q 0)), (1, .int (x1)), (2, .int (x2)), (3, .int (x3))] [] := by
        intro x1 x2 x3 h
        unfold X5_begin_b231 at h
        refine ww_iconst (v := -1) hx hb dX5_begin_231 (by decide) ?_
        exact ww_sub (lv1 := [(0, .ref (q 0)), (1, .int (x1)), (2, .int (x2)), (3, .int (x3))]) [0, 1, 2, 3] rfl (bk232 _ _ _ _ h)
      have bk204 : ∀ (x1 : Int32) (x2 : Int32) (x3 : Int32) (x5 : Int32) (y0 : Int32), X5_begin_b204 (X5_begin_l33 n) σ x1 x2 x3 x5 y0 = some r → WW p l e (rmc 2 80 0 0) s m args below meth c D vwCl (va_A (WR q cA σ) s.heap.size) 8 0 0 (MQ below (qcW D vwCl (WR q cA σ) (WR q cA σ) (some (.int r)) s.heap.size) args s 0 0 (va_A (WR q cA σ) s.heap.size)) (WR q cA σ) 204 [(0, .ref (q 0)), (1, .int (x1)), (2, .int (x2)), (3, .int (x3)), (5, .int (x5))] [.int (y0)] := by
        intro x1 x2 x3 x5 y0 h
        unfold X5_begin_b204 at h
        refine ww_istore (i := 7) (lv1 := [(0, .ref (q 0)), (1, .int (x1)), (2, .int (x2)), (3, .int (x3)), (5, .int (x5)), (7, .int (y0))]) hx hb dX5_begin_204 (by decide) [1, 2, 3, 4, 5, 0] rfl ?_
        refine ww_iload hx hb dX5_begin_206 5 rfl ?_
        refine ww_eq0 (tgt := 231) hx hb dX5_begin_208 (by decide) (fun c_22 => ?_) (fun c_22 => ?_)
        · replace h := it_p c_22 h
          exact ww_sub (lv1 := [(0, .ref (q 0)), (1, .int (x1)), (2, .int (x2)), (3, .int (x3))]) [0, 1, 2, 3] rfl (bk231 _ _ _ h)
        · replace h := it_n c_22 h
          refine ww_aload_n hx hb dX5_begin_211 rfl 0 rfl ?_
          refine ww_iload_n hx hb dX5_begin_212 rfl 2 rfl ?_
          refine ww_iload_n hx hb dX5_begin_213 rfl 3 rfl ?_
          refine ww_iload_n hx hb dX5_begin_214 rfl 1 rfl ?_
          obtain ⟨r_23, e_23, h⟩ := ob h
          refine ww_callV (ws1 := WR q cA σ) (st1 := [.int (r_23)]) hx hb hml hown hts hK hN hA (hDD _) (Nat.zero_le _) (Nat.zero_le _) [.int (x2), .int (x3), .int (x1)] [] (m_X5_isTooLong _ _ _ _ _ e_23) cs_X5_97 rfl (by decide) 0 rfl rfl rfl (Nat.le_of_ble_eq_true rfl) dX5_begin_215 rfl ?_
          refine ww_ne0 (tgt := 231) hx hb dX5_begin_218 (by decide) (fun c_24 => ?_) (fun c_24 => ?_)
          · replace h := it_n c_24 h
            exact ww_sub (lv1 := [(0, .ref (q 0)), (1, .int (x1)), (2, .int (x2)), (3, .int (x3))]) [0, 1, 2, 3] rfl (bk231 _ _ _ h)
          · replace h := it_p c_24 h
            refine ww_bipush (v := 24) hx hb dX5_begin_221 (by decide) ?_
            refine ww_iload_n hx hb dX5_begin_223 rfl 3 rfl ?_
            refine ww_imul hx hb dX5_begin_224 ?_
            refine ww_iload hx hb dX5_begin_225 4 rfl ?_
            refine ww_iadd hx hb dX5_begin_227 ?_
            refine ww_goto (tgt := 232) hx hb dX5_begin_228 (by decide) ?_
            exact ww_sub (lv1 := [(0, .ref (q 0)), (1, .int (x1)), (2, .int (x2)), (3, .int (x3))]) [0, 1, 2, 3] rfl (bk232 _ _ _ _ h)
      have bk196 : ∀ (x1 : Int32) (x2 : Int32) (x3 : Int32) (x5 : Int32) (y0 : Int32) (y1 : Int32), X5_begin_b196 (X5_begin_l33 n) σ x1 x2 x3 x5 y0 y1 = some r → WW p l e (rmc 2 80 0 0) s m args below meth c D vwCl (va_A (WR q cA σ) s.heap.size) 8 0 0 (MQ below (qcW D vwCl (WR q cA σ) (WR q cA σ) (some (.int r)) s.heap.size) args s 0 0 (va_A (WR q cA σ) s.heap.size)) (WR q cA σ) 196 [(0, .ref (q 0)), (1, .int (x1)), (2, .int (x2)), (3, .int (x3)), (5, .int (x5))] [.int (y1), .int (y0)] := by
        intro x1 x2 x3 x5 y0 y1 h
        unfold X5_begin_b196 at h
        refine ww_gt2 (tgt := 203) hx hb dX5_begin_196 (by decide) (fun c_21 => ?_) (fun c_21 => ?_)
        · replace h := it_p c_21 h
          refine ww_iconst (v := 0) hx hb dX5_begin_203 (by decide) ?_
          exact ww_sub (lv1 := [(0, .ref (q 0)), (1, .int (x1)), (2, .int (x2)), (3, .int (x3)), (5, .int (x5))]) [0, 1, 2, 3, 4] rfl (bk204 _ _ _ _ _ h)
        · replace h := it_n c_21 h
          refine ww_iconst (v := 1) hx hb dX5_begin_199 (by decide) ?_
          refine ww_goto (tgt := 204) hx hb dX5_begin_200 (by decide) ?_
          exact ww_sub (lv1 := [(0, .ref (q 0)), (1, .int (x1)), (2, .int (x2)), (3, .int (x3)), (5, .int (x5))]) [0, 1, 2, 3, 4] rfl (bk204 _ _ _ _ _ h)
      have bk168 : ∀ (x1 : Int32) (x2 : Int32) (x3 : Int32) (y0 : Int32), X5_begin_b168 (X5_begin_l33 n) σ x1 x2 x3 y0 = some r → WW p l e (rmc 2 80 0 0) s m args below meth c D vwCl (va_A (WR q cA σ) s.heap.size) 8 0 0 (MQ below (qcW D vwCl (WR q cA σ) (WR q cA σ) (some (.int r)) s.heap.size) args s 0 0 (va_A (WR q cA σ) s.heap.size)) (WR q cA σ) 168 [(0, .ref (q 0)), (1, .int (x1)), (2, .int (x2)), (3, .int (x3))] [.int (y0)] := by
        intro x1 x2 x3 y0 h
        unfold X5_begin_b168 at h
        refine ww_istore (i := 5) (lv1 := [(0, .ref (q 0)), (1, .int (x1)), (2, .int (x2)), (3, .int (x3)), (5, .int (y0))]) hx hb dX5_begin_168 (by decide) [1, 2, 3, 4, 0] rfl ?_
        refine ww_iload hx hb dX5_begin_170 4 rfl ?_
        refine ww_aload_n hx hb dX5_begin_172 rfl 0 rfl ?_
        refine ww_get (C := RX5) (T := TX5) (N := 36) hx hb hown hts hK inA5 0 rfl rfl 1 (by decide) kw_269 rfl rfl dX5_begin_173 ?_
        refine ww_iload_n hx hb dX5_begin_176 rfl 2 rfl ?_
        obtain ⟨g_18, h⟩ := og h
        refine ww_iald hx hb hown hts hK 1 0 rfl rfl g_18 dX5_begin_177 ?_
        refine ww_iadd hx hb dX5_begin_178 ?_
        refine ww_aload_n hx hb dX5_begin_179 rfl 0 rfl ?_
        refine ww_get (C := RX5) (T := TX5) (N := 36) hx hb hown hts hK inA5 0 rfl rfl 4 (by decide) kw_277 rfl rfl dX5_begin_180 ?_
        refine ww_iload_n hx hb dX5_begin_183 rfl 2 rfl ?_
        obtain ⟨g_19, h⟩ := og h
        refine ww_iald hx hb hown hts hK 4 0 rfl rfl g_19 dX5_begin_184 ?_
        refine ww_iconst (v := 1) hx hb dX5_begin_185 (by decide) ?_
        refine ww_ne2 (tgt := 194) hx hb dX5_begin_186 (by decide) (fun c_20 => ?_) (fun c_20 => ?_)
        · replace h := it_n c_20 h
          refine ww_bipush (v := 24) hx hb dX5_begin_194 (by decide) ?_
          exact ww_sub (lv1 := [(0, .ref (q 0)), (1, .int (x1)), (2, .int (x2)), (3, .int (x3)), (5, .int (y0))]) [0, 1, 2, 3, 4] rfl (bk196 _ _ _ _ _ _ h)
        · replace h := it_p c_20 h
          refine ww_bipush (v := 18) hx hb dX5_begin_189 (by decide) ?_
          refine ww_goto (tgt := 196) hx hb dX5_begin_191 (by decide) ?_
          exact ww_sub (lv1 := [(0, .ref (q 0)), (1, .int (x1)), (2, .int (x2)), (3, .int (x3)), (5, .int (y0))]) [0, 1, 2, 3, 4] rfl (bk196 _ _ _ _ _ _ h)
      have bk145 : ∀ (x1 : Int32) (x2 : Int32) (x3 : Int32) (x5 : Int32), X5_begin_b145 (X5_begin_l33 n) σ x1 x2 x3 x5 = some r → WW p l e (rmc 2 80 0 0) s m args below meth c D vwCl (va_A (WR q cA σ) s.heap.size) 8 0 0 (MQ below (qcW D vwCl (WR q cA σ) (WR q cA σ) (some (.int r)) s.heap.size) args s 0 0 (va_A (WR q cA σ) s.heap.size)) (WR q cA σ) 145 [(0, .ref (q 0)), (1, .int (x1)), (2, .int (x2)), (3, .int (x3)), (5, .int (x5))] [] := by
        intro x1 x2 x3 x5 h
        unfold X5_begin_b145 at h
        refine ww_aload_n hx hb dX5_begin_145 rfl 0 rfl ?_
        refine ww_iload_n hx hb dX5_begin_146 rfl 2 rfl ?_
        refine ww_iload_n hx hb dX5_begin_147 rfl 3 rfl ?_
        refine ww_iload_n hx hb dX5_begin_148 rfl 1 rfl ?_
        obtain ⟨r_16, e_16, h⟩ := ob h
        refine ww_callV (ws1 := WR q cA σ) (st1 := [.int (r_16)]) hx hb hml hown hts hK hN hA (hDD _) (Nat.zero_le _) (Nat.zero_le _) [.int (x2), .int (x3), .int (x1)] [] (m_X5_rested _ _ _ _ _ e_16) cs_X5_94 rfl (by decide) 0 rfl rfl rfl (Nat.le_of_ble_eq_true rfl) dX5_begin_149 rfl ?_
        refine ww_istore (i := 6) (lv1 := [(0, .ref (q 0)), (1, .int (x1)), (2, .int (x2)), (3, .int (x3)), (5, .int (x5)), (6, .int (r_16))]) hx hb dX5_begin_152 (by decide) [1, 2, 3, 4, 5, 0] rfl ?_
        refine ww_iload hx hb dX5_begin_154 5 rfl ?_
        refine ww_iload hx hb dX5_begin_156 4 rfl ?_
        refine ww_le2 (tgt := 166) hx hb dX5_begin_158 (by decide) (fun c_17 => ?_) (fun c_17 => ?_)
        · replace h := it_p c_17 h
          refine ww_iload hx hb dX5_begin_166 4 rfl ?_
          exact ww_sub (lv1 := [(0, .ref (q 0)), (1, .int (x1)), (2, .int (x2)), (3, .int (x3))]) [0, 1, 2, 3] rfl (bk168 _ _ _ _ h)
        · replace h := it_n c_17 h
          refine ww_iload hx hb dX5_begin_161 5 rfl ?_
          refine ww_goto (tgt := 168) hx hb dX5_begin_163 (by decide) ?_
          exact ww_sub (lv1 := [(0, .ref (q 0)), (1, .int (x1)), (2, .int (x2)), (3, .int (x3))]) [0, 1, 2, 3] rfl (bk168 _ _ _ _ h)
      have bk143 : ∀ (x1 : Int32) (x2 : Int32) (x3 : Int32) (y0 : Int32), X5_begin_b143 (X5_begin_l33 n) σ x1 x2 x3 y0 = some r → WW p l e (rmc 2 80 0 0) s m args below meth c D vwCl (va_A (WR q cA σ) s.heap.size) 8 0 0 (MQ below (qcW D vwCl (WR q cA σ) (WR q cA σ) (some (.int r)) s.heap.size) args s 0 0 (va_A (WR q cA σ) s.heap.size)) (WR q cA σ) 143 [(0, .ref (q 0)), (1, .int (x1)), (2, .int (x2)), (3, .int (x3))] [.int (y0)] := by
        intro x1 x2 x3 y0 h
        unfold X5_begin_b143 at h
        refine ww_istore (i := 5) (lv1 := [(0, .ref (q 0)), (1, .int (x1)), (2, .int (x2)), (3, .int (x3)), (5, .int (y0))]) hx hb dX5_begin_143 (by decide) [1, 2, 3, 4, 0] rfl ?_
        exact ww_sub (lv1 := [(0, .ref (q 0)), (1, .int (x1)), (2, .int (x2)), (3, .int (x3)), (5, .int (y0))]) [0, 1, 2, 3, 4] rfl (bk145 _ _ _ _ h)
      have bk126 : ∀ (x1 : Int32) (x2 : Int32) (x3 : Int32) (x5 : Int32) (y0 : Int32) (y1 : Int32), X5_begin_b126 (X5_begin_l33 n) σ x1 x2 x3 x5 y0 y1 = some r → WW p l e (rmc 2 80 0 0) s m args below meth c D vwCl (va_A (WR q cA σ) s.heap.size) 8 0 0 (MQ below (qcW D vwCl (WR q cA σ) (WR q cA σ) (some (.int r)) s.heap.size) args s 0 0 (va_A (WR q cA σ) s.heap.size)) (WR q cA σ) 126 [(0, .ref (q 0)), (1, .int (x1)), (2, .int (x2)), (3, .int (x3)), (5, .int (x5))] [.int (y1), .int (y0)] := by
        intro x1 x2 x3 x5 y0 y1 h
        unfold X5_begin_b126 at h
        refine ww_iadd hx hb dX5_begin_126 ?_
        refine ww_istore (i := 7) (lv1 := [(0, .ref (q 0)), (1, .int (x1)), (2, .int (x2)), (3, .int (x3)), (5, .int (x5)), (7, .int (y0 + y1))]) hx hb dX5_begin_127 (by decide) [1, 2, 3, 4, 5, 0] rfl ?_
        refine ww_iload hx hb dX5_begin_129 5 rfl ?_
        refine ww_iload hx hb dX5_begin_131 4 rfl ?_
        refine ww_le2 (tgt := 141) hx hb dX5_begin_133 (by decide) (fun c_25 => ?_) (fun c_25 => ?_)
        · replace h := it_p c_25 h
          refine ww_iload hx hb dX5_begin_141 4 rfl ?_
          exact ww_sub (lv1 := [(0, .ref (q 0)), (1, .int (x1)), (2, .int (x2)), (3, .int (x3))]) [0, 1, 2, 3] rfl (bk143 _ _ _ _ h)
        · replace h := it_n c_25 h
          refine ww_iload hx hb dX5_begin_136 5 rfl ?_
          refine ww_goto (tgt := 143) hx hb dX5_begin_138 (by decide) ?_
          exact ww_sub (lv1 := [(0, .ref (q 0)), (1, .int (x1)), (2, .int (x2)), (3, .int (x3))]) [0, 1, 2, 3] rfl (bk143 _ _ _ _ h)
      have bk55 : ∀ (x1 : Int32) (x2 : Int32) (x3 : Int32) (y0 : Int32), X5_begin_b55 (X5_begin_l33 n) σ x1 x2 x3 y0 = some r → WW p l e (rmc 2 80 0 0) s m args below meth c D vwCl (va_A (WR q cA σ) s.heap.size) 8 0 0 (MQ below (qcW D vwCl (WR q cA σ) (WR q cA σ) (some (.int r)) s.heap.size) args s 0 0 (va_A (WR q cA σ) s.heap.size)) (WR q cA σ) 55 [(0, .ref (q 0)), (1, .int (x1)), (2, .int (x2)), (3, .int (x3))] [.int (y0)] := by
        intro x1 x2 x3 y0 h
        unfold X5_begin_b55 at h
        refine ww_istore (i := 5) (lv1 := [(0, .ref (q 0)), (1, .int (x1)), (2, .int (x2)), (3, .int (x3)), (5, .int (y0))]) hx hb dX5_begin_55 (by decide) [1, 2, 3, 4, 0] rfl ?_
        refine ww_iload_n hx hb dX5_begin_57 rfl 1 rfl ?_
        refine ww_le0 (tgt := 145) hx hb dX5_begin_58 (by decide) (fun c_7 => ?_) (fun c_7 => ?_)
        · replace h := it_p c_7 h
          exact ww_sub (lv1 := [(0, .ref (q 0)), (1, .int (x1)), (2, .int (x2)), (3, .int (x3)), (5, .int (y0))]) [0, 1, 2, 3, 4] rfl (bk145 _ _ _ _ h)
        · replace h := it_n c_7 h
          refine ww_aload_n hx hb dX5_begin_61 rfl 0 rfl ?_
          refine ww_get (C := RX5) (T := TX5) (N := 36) hx hb hown hts hK inA5 0 rfl rfl 20 (by decide) kw_266 rfl rfl dX5_begin_62 ?_
          refine ww_iload_n hx hb dX5_begin_65 rfl 1 rfl ?_
          refine ww_iconst (v := 1) hx hb dX5_begin_66 (by decide) ?_
          refine ww_isub hx hb dX5_begin_67 ?_
          obtain ⟨g_8, h⟩ := og h
          refine ww_iald hx hb hown hts hK 10 0 rfl rfl g_8 dX5_begin_68 ?_
          refine ww_bipush (v := 24) hx hb dX5_begin_69 (by decide) ?_
          refine ww_idiv hx hb dX5_begin_71 (by decide) ?_
          refine ww_iload_n hx hb dX5_begin_72 rfl 3 rfl ?_
          refine ww_ne2 (tgt := 145) hx hb dX5_begin_73 (by decide) (fun c_9 => ?_) (fun c_9 => ?_)
          · replace h := it_n c_9 h
            exact ww_sub (lv1 := [(0, .ref (q 0)), (1, .int (x1)), (2, .int (x2)), (3, .int (x3)), (5, .int (y0))]) [0, 1, 2, 3, 4] rfl (bk145 _ _ _ _ h)
          · replace h := it_p c_9 h
            refine ww_aload_n hx hb dX5_begin_76 rfl 0 rfl ?_
            refine ww_get (C := RX5) (T := TX5) (N := 36) hx hb hown hts hK inA5 0 rfl rfl 19 (by decide) kw_265 rfl rfl dX5_begin_77 ?_
            refine ww_iload_n hx hb dX5_begin_80 rfl 1 rfl ?_
            refine ww_iconst (v := 1) hx hb dX5_begin_81 (by decide) ?_
            refine ww_isub hx hb dX5_begin_82 ?_
            obtain ⟨g_10, h⟩ := og h
            refine ww_iald hx hb hown hts hK 9 0 rfl rfl g_10 dX5_begin_83 ?_
            refine ww_istore (i := 6) (lv1 := [(0, .ref (q 0)), (1, .int (x1)), (2, .int (x2)), (3, .int (x3)), (5, .int (y0)), (6, .int (σ 9 (Int32.toNatClampNeg (x1 - (1 : Int32)))))]) hx hb dX5_begin_84 (by decide) [1, 2, 3, 4, 5, 0] rfl ?_
            refine ww_aload_n hx hb dX5_begin_86 rfl 0 rfl ?_
            refine ww_get (C := RX5) (T := TX5) (N := 36) hx hb hown hts hK inA5 0 rfl rfl 20 (by decide) kw_266 rfl rfl dX5_begin_87 ?_
            refine ww_iload_n hx hb dX5_begin_90 rfl 1 rfl ?_
            refine ww_iconst (v := 1) hx hb dX5_begin_91 (by decide) ?_
            refine ww_isub hx hb dX5_begin_92 ?_
            obtain ⟨g_11, h⟩ := og h
            refine ww_iald hx hb hown hts hK 10 0 rfl rfl g_11 dX5_begin_93 ?_
            refine ww_bipush (v := 24) hx hb dX5_begin_94 (by decide) ?_
            refine ww_irem hx hb dX5_begin_96 (by decide) ?_
            refine ww_aload_n hx hb dX5_begin_97 rfl 0 rfl ?_
            refine ww_get (C := RX5) (T := TX5) (N := 36) hx hb hown hts hK inA5 0 rfl rfl 1 (by decide) kw_269 rfl rfl dX5_begin_98 ?_
            refine ww_iload hx hb dX5_begin_101 5 rfl ?_
            obtain ⟨g_12, h⟩ := og h
            refine ww_iald hx hb hown hts hK 1 0 rfl rfl g_12 dX5_begin_103 ?_
            refine ww_iadd hx hb dX5_begin_104 ?_
            refine ww_aload_n hx hb dX5_begin_105 rfl 0 rfl ?_
            refine ww_get (C := RX5) (T := TX5) (N := 36) hx hb hown hts hK inA5 0 rfl rfl 2 (by decide) kw_278 rfl rfl dX5_begin_106 ?_
            refine ww_iload hx hb dX5_begin_109 5 rfl ?_
            obtain ⟨g_13, h⟩ := og h
            refine ww_iald hx hb hown hts hK 2 0 rfl rfl g_13 dX5_begin_111 ?_
            refine ww_aload_n hx hb dX5_begin_112 rfl 0 rfl ?_
            refine ww_get (C := RX5) (T := TX5) (N := 36) hx hb hown hts hK inA5 0 rfl rfl 2 (by decide) kw_278 rfl rfl dX5_begin_113 ?_
            refine ww_iload_n hx hb dX5_begin_116 rfl 2 rfl ?_
            obtain ⟨g_14, h⟩ := og h
            refine ww_iald hx hb hown hts hK 2 0 rfl rfl g_14 dX5_begin_117 ?_
            refine ww_ne2 (tgt := 125) hx hb dX5_begin_118 (by decide) (fun c_15 => ?_) (fun c_15 => ?_)
            · replace h := it_n c_15 h
              refine ww_iconst (v := 1) hx hb dX5_begin_125 (by decide) ?_
              exact ww_sub (lv1 := [(0, .ref (q 0)), (1, .int (x1)), (2, .int (x2)), (3, .int (x3)), (5, .int (y0))]) [0, 1, 2, 3, 4] rfl (bk126 _ _ _ _ _ _ h)
            · replace h := it_p c_15 h
              refine ww_iconst (v := 0) hx hb dX5_begin_121 (by decide) ?_
              refine ww_goto (tgt := 126) hx hb dX5_begin_122 (by decide) ?_
              exact ww_sub (lv1 := [(0, .ref (q 0)), (1, .int (x1)), (2, .int (x2)), (3, .int (x3)), (5, .int (y0))]) [0, 1, 2, 3, 4] rfl (bk126 _ _ _ _ _ _ h)
      intro x1 x2 x3 x4 h
      rw [X5_begin_l33] at h
      refine ww_iload hx hb dX5_begin_33 4 rfl ?_
      refine ww_ge0 (tgt := 240) hx hb dX5_begin_35 (by decide) (fun c_4 => ?_) (fun c_4 => ?_)
      · replace h := it_p c_4 h
        refine ww_iload hx hb dX5_begin_240 4 rfl ?_
        obtain rfl := os1 h
        exact ww_iret hx hb hr hlk rfl dX5_begin_242
      · replace h := it_n c_4 h
        refine ww_aload_n hx hb dX5_begin_38 rfl 0 rfl ?_
        refine ww_get (C := RX5) (T := TX5) (N := 36) hx hb hown hts hK inA5 0 rfl rfl 4 (by decide) kw_277 rfl rfl dX5_begin_39 ?_
        refine ww_iload_n hx hb dX5_begin_42 rfl 2 rfl ?_
        obtain ⟨g_5, h⟩ := og h
        refine ww_iald hx hb hown hts hK 4 0 rfl rfl g_5 dX5_begin_43 ?_
        refine ww_iconst (v := 2) hx hb dX5_begin_44 (by decide) ?_
        refine ww_ne2 (tgt := 53) hx hb dX5_begin_45 (by decide) (fun c_6 => ?_) (fun c_6 => ?_)
        · replace h := it_n c_6 h
          refine ww_bipush (v := 8) hx hb dX5_begin_53 (by decide) ?_
          exact ww_sub (lv1 := [(0, .ref (q 0)), (1, .int (x1)), (2, .int (x2)), (3, .int (x3))]) [0, 1, 2, 3] rfl (bk55 _ _ _ _ h)
        · replace h := it_p c_6 h
          refine ww_bipush (v := 18) hx hb dX5_begin_48 (by decide) ?_
          refine ww_goto (tgt := 55) hx hb dX5_begin_50 (by decide) ?_
          exact ww_sub (lv1 := [(0, .ref (q 0)), (1, .int (x1)), (2, .int (x2)), (3, .int (x3))]) [0, 1, 2, 3] rfl (bk55 _ _ _ _ h)
  have bk29 : ∀ (x1 : Int32) (x2 : Int32) (y0 : Int32), X5_begin_b29 σ x1 x2 y0 = some r → WW p l e (rmc 2 80 0 0) s m args below meth c D vwCl (va_A (WR q cA σ) s.heap.size) 8 0 0 (MQ below (qcW D vwCl (WR q cA σ) (WR q cA σ) (some (.int r)) s.heap.size) args s 0 0 (va_A (WR q cA σ) s.heap.size)) (WR q cA σ) 29 [(0, .ref (q 0)), (1, .int (x1)), (2, .int (x2))] [.int (y0)] := by
    intro x1 x2 y0 h
    unfold X5_begin_b29 at h
    refine ww_istore_n (i := 3) (lv1 := [(0, .ref (q 0)), (1, .int (x1)), (2, .int (x2)), (3, .int (y0))]) hx hb dX5_begin_29 rfl (by decide) [1, 2, 3, 0] rfl ?_
    refine ww_iconst (v := -1) hx hb dX5_begin_30 (by decide) ?_
    refine ww_istore (i := 4) (lv1 := [(0, .ref (q 0)), (1, .int (x1)), (2, .int (x2)), (3, .int (y0)), (4, .int ((-1 : Int32)))]) hx hb dX5_begin_31 (by decide) [1, 2, 3, 4, 0] rfl ?_
    exact ww_sub (lv1 := [(0, .ref (q 0)), (1, .int (x1)), (2, .int (x2)), (3, .int (y0)), (4, .int ((-1 : Int32)))]) [0, 1, 2, 3, 4] rfl (lp33 _ _ _ _ _ h)
  refine ww_sub (lv1 := [(0, .ref (q 0)), (1, .int (x1))]) [0, 1] rfl ?_
  refine ww_aload_n hx hb dX5_begin_0 rfl 0 rfl ?_
  refine ww_get (C := RX5) (T := TX5) (N := 36) hx hb hown hts hK inA5 0 rfl rfl 19 (by decide) kw_265 rfl rfl dX5_begin_1 ?_
  refine ww_iload_n hx hb dX5_begin_4 rfl 1 rfl ?_
  obtain ⟨g_1, h⟩ := og h
  refine ww_iald hx hb hown hts hK 9 0 rfl rfl g_1 dX5_begin_5 ?_
  refine ww_istore_n (i := 2) (lv1 := [(0, .ref (q 0)), (1, .int (x1)), (2, .int (σ 9 (Int32.toNatClampNeg x1)))]) hx hb dX5_begin_6 rfl (by decide) [1, 2, 0] rfl ?_
  refine ww_iload_n hx hb dX5_begin_7 rfl 1 rfl ?_
  refine ww_ne0 (tgt := 18) hx hb dX5_begin_8 (by decide) (fun c_2 => ?_) (fun c_2 => ?_)
  · replace h := it_n c_2 h
    refine ww_aload_n hx hb dX5_begin_18 rfl 0 rfl ?_
    refine ww_get (C := RX5) (T := TX5) (N := 36) hx hb hown hts hK inA5 0 rfl rfl 20 (by decide) kw_266 rfl rfl dX5_begin_19 ?_
    refine ww_iload_n hx hb dX5_begin_22 rfl 1 rfl ?_
    refine ww_iconst (v := 1) hx hb dX5_begin_23 (by decide) ?_
    refine ww_isub hx hb dX5_begin_24 ?_
    obtain ⟨g_3, h⟩ := og h
    refine ww_iald hx hb hown hts hK 10 0 rfl rfl g_3 dX5_begin_25 ?_
    refine ww_bipush (v := 24) hx hb dX5_begin_26 (by decide) ?_
    refine ww_idiv hx hb dX5_begin_28 (by decide) ?_
    exact ww_sub (lv1 := [(0, .ref (q 0)), (1, .int (x1)), (2, .int (σ 9 (Int32.toNatClampNeg x1)))]) [0, 1, 2] rfl (bk29 _ _ _ h)
  · replace h := it_p c_2 h
    refine ww_aload_n hx hb dX5_begin_11 rfl 0 rfl ?_
    refine ww_get (C := RX5) (T := TX5) (N := 36) hx hb hown hts hK inA5 0 rfl rfl 10 (by decide) kw_276 rfl rfl dX5_begin_12 ?_
    refine ww_goto (tgt := 29) hx hb dX5_begin_15 (by decide) ?_
    exact ww_sub (lv1 := [(0, .ref (q 0)), (1, .int (x1)), (2, .int (σ 9 (Int32.toNatClampNeg x1)))]) [0, 1, 2] rfl (bk29 _ _ _ h)
set_option maxHeartbeats 4000000 in
set_option maxRecDepth 100000 in
theorem m_X5_may (σ : SS) (x1 : Int32) (r : Int32) (h : X5_may σ x1 = some r) : Ct l yX5_may cX5_may 5 (some .boolean) 0 0 D vwCl [(cA, .int)] (WR q cA σ) (WR q cA σ) [.ref (q 0), .int (x1)] (some (.int r)) := by
  refine ct_of (by decide +kernel) (Nat.le_of_ble_eq_true rfl) ?_
  intro p e s m args below meth c hx hb hr hlk hml hown hts hK hD hN hA
  have hown : s.vm.findClass RX5 = some m.cls := hown
  have hDD : ∀ τ : SS, va_D (va_A (WR q cA σ) s.heap.size) (WR q cA τ) := fun τ => hD.adr rfl
  unfold X5_may at h
  have lp15 : ∀ (n : Nat) (x1 : Int32) (x2 : Int32) (x3 : Int32) (x4 : Int32), X5_may_l15 n σ x1 x2 x3 x4 = some r → WW p l e (rmc 0 0 0 0) s m args below meth c D vwCl (va_A (WR q cA σ) s.heap.size) 5 0 0 (MQ below (qcW D vwCl (WR q cA σ) (WR q cA σ) (some (.int r)) s.heap.size) args s 0 0 (va_A (WR q cA σ) s.heap.size)) (WR q cA σ) 15 [(0, .ref (q 0)), (1, .int (x1)), (2, .int (x2)), (3, .int (x3)), (4, .int (x4))] [] := by
    intro n
    induction n with
    | zero => intro x1 x2 x3 x4 h; rw [X5_may_l15] at h; cases h
    | succ n ih =>
      intro x1 x2 x3 x4 h
      rw [X5_may_l15] at h
      refine ww_iload hx hb dX5_may_15 4 rfl ?_
      refine ww_iload_n hx hb dX5_may_17 rfl 1 rfl ?_
      refine ww_ge2 (tgt := 39) hx hb dX5_may_18 (by decide) (fun c_2 => ?_) (fun c_2 => ?_)
      · replace h := it_p c_2 h
        refine ww_iload_n hx hb dX5_may_39 rfl 3 rfl ?_
        refine ww_iload_n hx hb dX5_may_40 rfl 2 rfl ?_
        refine ww_ishr hx hb dX5_may_41 ?_
        refine ww_iconst (v := 1) hx hb dX5_may_42 (by decide) ?_
        refine ww_iand hx hb dX5_may_43 ?_
        refine ww_ne0 (tgt := 64) hx hb dX5_may_44 (by decide) (fun c_3 => ?_) (fun c_3 => ?_)
        · replace h := it_n c_3 h
          refine ww_iconst (v := 0) hx hb dX5_may_64 (by decide) ?_
          obtain rfl := os1 h
          exact ww_zret hx hb hr hlk (by decide) rfl dX5_may_65
        · replace h := it_p c_3 h
          refine ww_aload_n hx hb dX5_may_47 rfl 0 rfl ?_
          refine ww_get (C := RX5) (T := TX5) (N := 36) hx hb hown hts hK inA5 0 rfl rfl 5 (by decide) kw_287 rfl rfl dX5_may_48 ?_
          refine ww_iload_n hx hb dX5_may_51 rfl 2 rfl ?_
          obtain ⟨g_4, h⟩ := og h
          refine ww_iald hx hb hown hts hK 5 0 rfl rfl g_4 dX5_may_52 ?_
          refine ww_iload_n hx hb dX5_may_53 rfl 3 rfl ?_
          refine ww_iconst (v := -1) hx hb dX5_may_54 (by decide) ?_
          refine ww_ixor hx hb dX5_may_55 ?_
          refine ww_iand hx hb dX5_may_56 ?_
          refine ww_ne0 (tgt := 64) hx hb dX5_may_57 (by decide) (fun c_5 => ?_) (fun c_5 => ?_)
          · replace h := it_n c_5 h
            refine ww_iconst (v := 0) hx hb dX5_may_64 (by decide) ?_
            obtain rfl := os1 h
            exact ww_zret hx hb hr hlk (by decide) rfl dX5_may_65
          · replace h := it_p c_5 h
            refine ww_iconst (v := 1) hx hb dX5_may_60 (by decide) ?_
            refine ww_goto (tgt := 65) hx hb dX5_may_61 (by decide) ?_
            obtain rfl := os1 h
            exact ww_zret hx hb hr hlk (by decide) rfl dX5_may_65
      · replace h := it_n c_2 h
        refine ww_iload_n hx hb dX5_may_21 rfl 3 rfl ?_
        refine ww_iconst (v := 1) hx hb dX5_may_22 (by decide) ?_
        refine ww_aload_n hx hb dX5_may_23 rfl 0 rfl ?_
        refine ww_get (C := RX5) (T := TX5) (N := 36) hx hb hown hts hK inA5 0 rfl rfl 19 (by decide) kw_265 rfl rfl dX5_may_24 ?_
        refine ww_iload hx hb dX5_may_27 4 rfl ?_
        obtain ⟨g_6, h⟩ := og h
        refine ww_iald hx hb hown hts hK 9 0 rfl rfl g_6 dX5_may_29 ?_
        refine ww_ishl hx hb dX5_may_30 ?_
        refine ww_ior hx hb dX5_may_31 ?_
        refine ww_istore_n (i := 3) (lv1 := [(0, .ref (q 0)), (1, .int (x1)), (2, .int (x2)), (3, .int (x3 ||| ((1 : Int32) <<< ((σ 9 (Int32.toNatClampNeg x4)) &&& 31)))), (4, .int (x4))]) hx hb dX5_may_32 rfl (by decide) [1, 2, 3, 0, 4] rfl ?_
        refine ww_iinc (i := 4) (k := 4) (v := 1) (lv1 := [(0, .ref (q 0)), (1, .int (x1)), (2, .int (x2)), (3, .int (x3 ||| ((1 : Int32) <<< ((σ 9 (Int32.toNatClampNeg x4)) &&& 31)))), (4, .int (x4 + 1))]) hx hb dX5_may_33 rfl (by decide) (by decide) [1, 2, 3, 4, 0] rfl ?_
        refine ww_goto (tgt := 15) hx hb dX5_may_36 (by decide) ?_
        exact ww_sub (lv1 := [(0, .ref (q 0)), (1, .int (x1)), (2, .int (x2)), (3, .int (x3 ||| ((1 : Int32) <<< ((σ 9 (Int32.toNatClampNeg x4)) &&& 31)))), (4, .int (x4 + 1))]) [0, 1, 2, 3, 4] rfl (ih _ _ _ _ h)
  refine ww_sub (lv1 := [(0, .ref (q 0)), (1, .int (x1))]) [0, 1] rfl ?_
  refine ww_aload_n hx hb dX5_may_0 rfl 0 rfl ?_
  refine ww_get (C := RX5) (T := TX5) (N := 36) hx hb hown hts hK inA5 0 rfl rfl 19 (by decide) kw_265 rfl rfl dX5_may_1 ?_
  refine ww_iload_n hx hb dX5_may_4 rfl 1 rfl ?_
  obtain ⟨g_1, h⟩ := og h
  refine ww_iald hx hb hown hts hK 9 0 rfl rfl g_1 dX5_may_5 ?_
  refine ww_istore_n (i := 2) (lv1 := [(0, .ref (q 0)), (1, .int (x1)), (2, .int (σ 9 (Int32.toNatClampNeg x1)))]) hx hb dX5_may_6 rfl (by decide) [1, 2, 0] rfl ?_
  refine ww_aload_n hx hb dX5_may_7 rfl 0 rfl ?_
  refine ww_get (C := RX5) (T := TX5) (N := 36) hx hb hown hts hK inA5 0 rfl rfl 6 (by decide) kw_267 rfl rfl dX5_may_8 ?_
  refine ww_istore_n (i := 3) (lv1 := [(0, .ref (q 0)), (1, .int (x1)), (2, .int (σ 9 (Int32.toNatClampNeg x1))), (3, .int (σ 0 6))]) hx hb dX5_may_11 rfl (by decide) [1, 2, 3, 0] rfl ?_
  refine ww_iconst (v := 0) hx hb dX5_may_12 (by decide) ?_
  refine ww_istore (i := 4) (lv1 := [(0, .ref (q 0)), (1, .int (x1)), (2, .int (σ 9 (Int32.toNatClampNeg x1))), (3, .int (σ 0 6)), (4, .int ((0 : Int32)))]) hx hb dX5_may_13 (by decide) [1, 2, 3, 4, 0] rfl ?_
  exact ww_sub (lv1 := [(0, .ref (q 0)), (1, .int (x1)), (2, .int (σ 9 (Int32.toNatClampNeg x1))), (3, .int (σ 0 6)), (4, .int ((0 : Int32)))]) [0, 1, 2, 3, 4] rfl (lp15 _ _ _ _ _ h)
set_option maxHeartbeats 4000000 in
set_option maxRecDepth 100000 in
theorem m_X5_keeps (σ : SS) (σ1 : SS) (h : X5_keeps σ = some σ1) : Ct l yX5_keeps cX5_keeps 2 none 0 0 D vwCl [(cA, .int)] (WR q cA σ) (WR q cA σ1) [.ref (q 0)] none := by
  refine ct_of (by decide +kernel) (Nat.le_of_ble_eq_true rfl) ?_
  intro p e s m args below meth c hx hb hr hlk hml hown hts hK hD hN hA
  have hown : s.vm.findClass RX5 = some m.cls := hown
  have hDD : ∀ τ : SS, va_D (va_A (WR q cA σ) s.heap.size) (WR q cA τ) := fun τ => hD.adr rfl
  unfold X5_keeps at h
  have lp2 : ∀ (n : Nat) (τ : SS) (x1 : Int32), X5_keeps_l2 n τ x1 = some σ1 → WW p l e (rmc 0 0 0 0) s m args below meth c D vwCl (va_A (WR q cA σ) s.heap.size) 2 0 0 (MQ below (qcW D vwCl (WR q cA σ) (WR q cA σ1) none s.heap.size) args s 0 0 (va_A (WR q cA σ) s.heap.size)) (WR q cA τ) 2 [(0, .ref (q 0)), (1, .int (x1))] [] := by
    intro n
    induction n with
    | zero => intro τ x1 h; rw [X5_keeps_l2] at h; cases h
    | succ n ih =>
      intro τ x1 h
      rw [X5_keeps_l2] at h
      refine ww_iload_n hx hb dX5_keeps_2 rfl 1 rfl ?_
      refine ww_aload_n hx hb dX5_keeps_3 rfl 0 rfl ?_
      refine ww_get (C := RX5) (T := TX5) (N := 36) hx hb hown hts hK inA5 0 rfl rfl 16 (by decide) kw_288 rfl rfl dX5_keeps_4 ?_
      refine ww_ge2 (tgt := 40) hx hb dX5_keeps_7 (by decide) (fun c_1 => ?_) (fun c_1 => ?_)
      · replace h := it_p c_1 h
        obtain rfl := os1 h
        exact ww_vret hx hb hr hlk dX5_keeps_40
      · replace h := it_n c_1 h
        refine ww_aload_n hx hb dX5_keeps_10 rfl 0 rfl ?_
        refine ww_get (C := RX5) (T := TX5) (N := 36) hx hb hown hts hK inA5 0 rfl rfl 14 (by decide) kw_289 rfl rfl dX5_keeps_11 ?_
        refine ww_iload_n hx hb dX5_keeps_14 rfl 1 rfl ?_
        refine ww_aload_n hx hb dX5_keeps_15 rfl 0 rfl ?_
        refine ww_get (C := RX5) (T := TX5) (N := 36) hx hb hown hts hK inA5 0 rfl rfl 19 (by decide) kw_265 rfl rfl dX5_keeps_16 ?_
        refine ww_iload_n hx hb dX5_keeps_19 rfl 1 rfl ?_
        obtain ⟨g_2, h⟩ := og h
        refine ww_iald hx hb hown hts hK 9 0 rfl rfl g_2 dX5_keeps_20 ?_
        obtain ⟨g_3, h⟩ := og h
        obtain ⟨σ_4, e_4, h⟩ := lt_e h
        refine ww_iast (ws1 := WR q cA (σ_4)) hx hb hown hts hK (hDD _) 7 0 rfl rfl g_3 dX5_keeps_21 (e_4 ▸ rfl) ?_
        refine ww_aload_n hx hb dX5_keeps_22 rfl 0 rfl ?_
        refine ww_get (C := RX5) (T := TX5) (N := 36) hx hb hown hts hK inA5 0 rfl rfl 15 (by decide) kw_290 rfl rfl dX5_keeps_23 ?_
        refine ww_iload_n hx hb dX5_keeps_26 rfl 1 rfl ?_
        refine ww_aload_n hx hb dX5_keeps_27 rfl 0 rfl ?_
        refine ww_get (C := RX5) (T := TX5) (N := 36) hx hb hown hts hK inA5 0 rfl rfl 20 (by decide) kw_266 rfl rfl dX5_keeps_28 ?_
        refine ww_iload_n hx hb dX5_keeps_31 rfl 1 rfl ?_
        obtain ⟨g_5, h⟩ := og h
        refine ww_iald hx hb hown hts hK 10 0 rfl rfl g_5 dX5_keeps_32 ?_
        obtain ⟨g_6, h⟩ := og h
        obtain ⟨σ_7, e_7, h⟩ := lt_e h
        refine ww_iast (ws1 := WR q cA (σ_7)) hx hb hown hts hK (hDD _) 8 0 rfl rfl g_6 dX5_keeps_33 (e_7 ▸ rfl) ?_
        refine ww_iinc (i := 1) (k := 1) (v := 1) (lv1 := [(0, .ref (q 0)), (1, .int (x1 + 1))]) hx hb dX5_keeps_34 rfl (by decide) (by decide) [1, 0] rfl ?_
        refine ww_goto (tgt := 2) hx hb dX5_keeps_37 (by decide) ?_
        exact ww_sub (lv1 := [(0, .ref (q 0)), (1, .int (x1 + 1))]) [0, 1] rfl (ih _ _ h)
  refine ww_sub (lv1 := [(0, .ref (q 0))]) [0] rfl ?_
  refine ww_iconst (v := 0) hx hb dX5_keeps_0 (by decide) ?_
  refine ww_istore_n (i := 1) (lv1 := [(0, .ref (q 0)), (1, .int ((0 : Int32)))]) hx hb dX5_keeps_1 rfl (by decide) [1, 0] rfl ?_
  exact ww_sub (lv1 := [(0, .ref (q 0)), (1, .int ((0 : Int32)))]) [0, 1] rfl (lp2 _ _ _ h)
set_option maxHeartbeats 4000000 in
set_option maxRecDepth 100000 in
theorem m_X5_finds (σ : SS) (σ1 : SS) (h : X5_finds σ = some σ1) : Ct l yX5_finds cX5_finds 3 none 3 120 D vwCl [(cA, .int)] (WR q cA σ) (WR q cA σ1) [.ref (q 0)] none := by
  refine ct_of (by decide +kernel) (Nat.le_of_ble_eq_true rfl) ?_
  intro p e s m args below meth c hx hb hr hlk hml hown hts hK hD hN hA
  have hown : s.vm.findClass RX5 = some m.cls := hown
  have hDD : ∀ τ : SS, va_D (va_A (WR q cA σ) s.heap.size) (WR q cA τ) := fun τ => hD.adr rfl
  unfold X5_finds at h
  have lp83 : ∀ (n : Nat) (τ : SS) (x1 : Int32), X5_finds_l83 n τ x1 = some σ1 → WW p l e (rmc 3 120 0 0) s m args below meth c D vwCl (va_A (WR q cA σ) s.heap.size) 3 0 0 (MQ below (qcW D vwCl (WR q cA σ) (WR q cA σ1) none s.heap.size) args s 0 0 (va_A (WR q cA σ) s.heap.size)) (WR q cA τ) 83 [(0, .ref (q 0)), (1, .int (x1))] [] := by
    intro n
    induction n with
    | zero => intro τ x1 h; rw [X5_finds_l83] at h; cases h
    | succ n ih =>
      have bk200 : ∀ (τ : SS) (x1 : Int32), X5_finds_b200 (X5_finds_l83 n) τ x1 = some σ1 → WW p l e (rmc 3 120 0 0) s m args below meth c D vwCl (va_A (WR q cA σ) s.heap.size) 3 0 0 (MQ below (qcW D vwCl (WR q cA σ) (WR q cA σ1) none s.heap.size) args s 0 0 (va_A (WR q cA σ) s.heap.size)) (WR q cA τ) 200 [(0, .ref (q 0)), (1, .int (x1))] [] := by
        intro τ x1 h
        unfold X5_finds_b200 at h
        refine ww_goto (tgt := 83) hx hb dX5_finds_200 (by decide) ?_
        exact ww_sub (lv1 := [(0, .ref (q 0)), (1, .int (x1))]) [0, 1] rfl (ih _ _ h)
      have bk182 : ∀ (τ : SS) (x1 : Int32) (x2 : Int32), X5_finds_b182 (X5_finds_l83 n) τ x1 x2 = some σ1 → WW p l e (rmc 3 120 0 0) s m args below meth c D vwCl (va_A (WR q cA σ) s.heap.size) 3 0 0 (MQ below (qcW D vwCl (WR q cA σ) (WR q cA σ1) none s.heap.size) args s 0 0 (va_A (WR q cA σ) s.heap.size)) (WR q cA τ) 182 [(0, .ref (q 0)), (1, .int (x1)), (2, .int (x2))] [] := by
        intro τ x1 x2 h
        unfold X5_finds_b182 at h
        refine ww_iload_n hx hb dX5_finds_182 rfl 2 rfl ?_
        refine ww_aload_n hx hb dX5_finds_183 rfl 0 rfl ?_
        refine ww_get (C := RX5) (T := TX5) (N := 36) hx hb hown hts hK inA5 0 rfl rfl 17 (by decide) kw_292 rfl rfl dX5_finds_184 ?_
        refine ww_ge2 (tgt := 200) hx hb dX5_finds_187 (by decide) (fun c_26 => ?_) (fun c_26 => ?_)
        · replace h := it_p c_26 h
          exact ww_sub (lv1 := [(0, .ref (q 0)), (1, .int (x1))]) [0, 1] rfl (bk200 _ _ h)
        · replace h := it_n c_26 h
          refine ww_iinc (i := 1) (k := 1) (v := 1) (lv1 := [(0, .ref (q 0)), (1, .int (x1 + 1))]) hx hb dX5_finds_190 rfl (by decide) (by decide) [1, 0] rfl ?_
          refine ww_aload_n hx hb dX5_finds_193 rfl 0 rfl ?_
          refine ww_get (C := RX5) (T := TX5) (N := 36) hx hb hown hts hK inA5 0 rfl rfl 19 (by decide) kw_265 rfl rfl dX5_finds_194 ?_
          refine ww_iload_n hx hb dX5_finds_197 rfl 1 rfl ?_
          refine ww_iconst (v := -1) hx hb dX5_finds_198 (by decide) ?_
          obtain ⟨g_27, h⟩ := og h
          obtain ⟨σ_28, e_28, h⟩ := lt_e h
          refine ww_iast (ws1 := WR q cA (σ_28)) hx hb hown hts hK (hDD _) 9 0 rfl rfl g_27 dX5_finds_199 (e_28 ▸ rfl) ?_
          exact ww_sub (lv1 := [(0, .ref (q 0)), (1, .int (x1 + 1))]) [0, 1] rfl (bk200 _ _ h)
      intro τ x1 h
      rw [X5_finds_l83] at h
      refine ww_iload_n hx hb dX5_finds_83 rfl 1 rfl ?_
      refine ww_lt0 (tgt := 203) hx hb dX5_finds_84 (by decide) (fun c_9 => ?_) (fun c_9 => ?_)
      · replace h := it_p c_9 h
        refine ww_aload_n hx hb dX5_finds_203 rfl 0 rfl ?_
        refine ww_iconst (v := 0) hx hb dX5_finds_204 (by decide) ?_
        obtain ⟨σ_10, e_10, h⟩ := lt_e h
        refine ww_put (C := RX5) (T := TX5) (N := 36) (ty := .boolean) (ws1 := WR q cA (σ_10)) hx hb hown hts hK inA5 tyX5 tyX5_ok nmX5 (hDD _) 0 rfl rfl 18 (by decide) kw_293 rfl rfl rfl (isZ_narrow (by decide)) (isZ_fits (by decide)) (Nat.le_of_ble_eq_true rfl) dX5_finds_205 (e_10 ▸ rfl) ?_
        obtain rfl := os1 h
        exact ww_vret hx hb hr hlk dX5_finds_208
      · replace h := it_n c_9 h
        refine ww_aload_n hx hb dX5_finds_87 rfl 0 rfl ?_
        refine ww_get (C := RX5) (T := TX5) (N := 36) hx hb hown hts hK inA5 0 rfl rfl 19 (by decide) kw_265 rfl rfl dX5_finds_88 ?_
        refine ww_iload_n hx hb dX5_finds_91 rfl 1 rfl ?_
        refine ww_dup2 hx hb dX5_finds_92 rfl rfl ?_
        obtain ⟨g_11, h⟩ := og h
        refine ww_iald hx hb hown hts hK 9 0 rfl rfl g_11 dX5_finds_93 ?_
        refine ww_iconst (v := 1) hx hb dX5_finds_94 (by decide) ?_
        refine ww_iadd hx hb dX5_finds_95 ?_
        obtain ⟨g_12, h⟩ := og h
        obtain ⟨σ_13, e_13, h⟩ := lt_e h
        refine ww_iast (ws1 := WR q cA (σ_13)) hx hb hown hts hK (hDD _) 9 0 rfl rfl g_12 dX5_finds_96 (e_13 ▸ rfl) ?_
        refine ww_aload_n hx hb dX5_finds_97 rfl 0 rfl ?_
        refine ww_get (C := RX5) (T := TX5) (N := 36) hx hb hown hts hK inA5 0 rfl rfl 19 (by decide) kw_265 rfl rfl dX5_finds_98 ?_
        refine ww_iload_n hx hb dX5_finds_101 rfl 1 rfl ?_
        obtain ⟨g_14, h⟩ := og h
        refine ww_iald hx hb hown hts hK 9 0 rfl rfl g_14 dX5_finds_102 ?_
        refine ww_aload_n hx hb dX5_finds_103 rfl 0 rfl ?_
        refine ww_get (C := RX5) (T := TX5) (N := 36) hx hb hown hts hK inA5 0 rfl rfl 0 (by decide) kw_264 rfl rfl dX5_finds_104 ?_
        refine ww_lt2 (tgt := 116) hx hb dX5_finds_107 (by decide) (fun c_15 => ?_) (fun c_15 => ?_)
        · replace h := it_p c_15 h
          refine ww_aload_n hx hb dX5_finds_116 rfl 0 rfl ?_
          refine ww_iload_n hx hb dX5_finds_117 rfl 1 rfl ?_
          obtain ⟨r_16, e_16, h⟩ := ob h
          refine ww_callV (ws1 := WR q cA σ_13) (st1 := [.int (r_16)]) hx hb hml hown hts hK hN hA (hDD _) (Nat.zero_le _) (Nat.zero_le _) [.int (x1)] [] (m_X5_may _ _ _ e_16) cs_X5_107 rfl (by decide) 0 rfl rfl rfl (Nat.le_of_ble_eq_true rfl) dX5_finds_118 rfl ?_
          refine ww_eq0 (tgt := 83) hx hb dX5_finds_121 (by decide) (fun c_17 => ?_) (fun c_17 => ?_)
          · replace h := it_p c_17 h
            exact ww_sub (lv1 := [(0, .ref (q 0)), (1, .int (x1))]) [0, 1] rfl (ih _ _ h)
          · replace h := it_n c_17 h
            refine ww_aload_n hx hb dX5_finds_124 rfl 0 rfl ?_
            refine ww_get (C := RX5) (T := TX5) (N := 36) hx hb hown hts hK inA5 0 rfl rfl 20 (by decide) kw_266 rfl rfl dX5_finds_125 ?_
            refine ww_iload_n hx hb dX5_finds_128 rfl 1 rfl ?_
            refine ww_aload_n hx hb dX5_finds_129 rfl 0 rfl ?_
            refine ww_iload_n hx hb dX5_finds_130 rfl 1 rfl ?_
            obtain ⟨r_18, e_18, h⟩ := ob h
            refine ww_callV (ws1 := WR q cA σ_13) (st1 := [.int (r_18), .int (x1), .ref (q 10)]) hx hb hml hown hts hK hN hA (hDD _) (Nat.zero_le _) (Nat.zero_le _) [.int (x1)] [.int (x1), .ref (q 10)] (m_X5_begin _ _ _ e_18) cs_X5_111 rfl (by decide) 0 rfl rfl rfl (Nat.le_of_ble_eq_true rfl) dX5_finds_131 rfl ?_
            obtain ⟨g_19, h⟩ := og h
            obtain ⟨σ_20, e_20, h⟩ := lt_e h
            refine ww_iast (ws1 := WR q cA (σ_20)) hx hb hown hts hK (hDD _) 10 0 rfl rfl g_19 dX5_finds_134 (e_20 ▸ rfl) ?_
            refine ww_aload_n hx hb dX5_finds_135 rfl 0 rfl ?_
            refine ww_get (C := RX5) (T := TX5) (N := 36) hx hb hown hts hK inA5 0 rfl rfl 20 (by decide) kw_266 rfl rfl dX5_finds_136 ?_
            refine ww_iload_n hx hb dX5_finds_139 rfl 1 rfl ?_
            obtain ⟨g_21, h⟩ := og h
            refine ww_iald hx hb hown hts hK 10 0 rfl rfl g_21 dX5_finds_140 ?_
            refine ww_bipush (v := 24) hx hb dX5_finds_141 (by decide) ?_
            refine ww_idiv hx hb dX5_finds_143 (by decide) ?_
            refine ww_aload_n hx hb dX5_finds_144 rfl 0 rfl ?_
            refine ww_get (C := RX5) (T := TX5) (N := 36) hx hb hown hts hK inA5 0 rfl rfl 10 (by decide) kw_276 rfl rfl dX5_finds_145 ?_
            refine ww_isub hx hb dX5_finds_148 ?_
            refine ww_iconst (v := 1) hx hb dX5_finds_149 (by decide) ?_
            refine ww_iadd hx hb dX5_finds_150 ?_
            refine ww_istore_n (i := 2) (lv1 := [(0, .ref (q 0)), (1, .int (x1)), (2, .int ((((σ_20 10 (Int32.toNatClampNeg x1)) / (24 : Int32)) - (σ_20 0 10)) + (1 : Int32)))]) hx hb dX5_finds_151 rfl (by decide) [1, 2, 0] rfl ?_
            refine ww_iload_n hx hb dX5_finds_152 rfl 2 rfl ?_
            refine ww_aload_n hx hb dX5_finds_153 rfl 0 rfl ?_
            refine ww_get (C := RX5) (T := TX5) (N := 36) hx hb hown hts hK inA5 0 rfl rfl 17 (by decide) kw_292 rfl rfl dX5_finds_154 ?_
            refine ww_ge2 (tgt := 182) hx hb dX5_finds_157 (by decide) (fun c_22 => ?_) (fun c_22 => ?_)
            · replace h := it_p c_22 h
              exact ww_sub (lv1 := [(0, .ref (q 0)), (1, .int (x1)), (2, .int ((((σ_20 10 (Int32.toNatClampNeg x1)) / (24 : Int32)) - (σ_20 0 10)) + (1 : Int32)))]) [0, 1, 2] rfl (bk182 _ _ _ h)
            · replace h := it_n c_22 h
              refine ww_iload_n hx hb dX5_finds_160 rfl 1 rfl ?_
              refine ww_iconst (v := 1) hx hb dX5_finds_161 (by decide) ?_
              refine ww_iadd hx hb dX5_finds_162 ?_
              refine ww_aload_n hx hb dX5_finds_163 rfl 0 rfl ?_
              refine ww_get (C := RX5) (T := TX5) (N := 36) hx hb hown hts hK inA5 0 rfl rfl 16 (by decide) kw_288 rfl rfl dX5_finds_164 ?_
              refine ww_ne2 (tgt := 182) hx hb dX5_finds_167 (by decide) (fun c_23 => ?_) (fun c_23 => ?_)
              · replace h := it_n c_23 h
                exact ww_sub (lv1 := [(0, .ref (q 0)), (1, .int (x1)), (2, .int ((((σ_20 10 (Int32.toNatClampNeg x1)) / (24 : Int32)) - (σ_20 0 10)) + (1 : Int32)))]) [0, 1, 2] rfl (bk182 _ _ _ h)
              · replace h := it_p c_23 h
                refine ww_aload_n hx hb dX5_finds_170 rfl 0 rfl ?_
                refine ww_iload_n hx hb dX5_finds_171 rfl 2 rfl ?_
                obtain ⟨σ_24, e_24, h⟩ := lt_e h
                refine ww_put (C := RX5) (T := TX5) (N := 36) (ty := .int) (ws1 := WR q cA (σ_24)) hx hb hown hts hK inA5 tyX5 tyX5_ok nmX5 (hDD _) 0 rfl rfl 17 (by decide) kw_292 rfl rfl rfl rfl rfl (Nat.le_of_ble_eq_true rfl) dX5_finds_172 (e_24 ▸ rfl) ?_
                refine ww_aload_n hx hb dX5_finds_175 rfl 0 rfl ?_
                obtain ⟨σ_25, e_25, h⟩ := ob h
                refine ww_callV (ws1 := WR q cA σ_25) (st1 := []) hx hb hml hown hts hK hN hA (hDD _) (Nat.zero_le _) (Nat.zero_le _) [] [] (m_X5_keeps _  _ e_25) cs_X5_115 rfl (by decide) 0 rfl rfl rfl (Nat.le_of_ble_eq_true rfl) dX5_finds_176 rfl ?_
                refine ww_goto (tgt := 200) hx hb dX5_finds_179 (by decide) ?_
                exact ww_sub (lv1 := [(0, .ref (q 0)), (1, .int (x1))]) [0, 1] rfl (bk200 _ _ h)
        · replace h := it_n c_15 h
          refine ww_iinc (i := 1) (k := 1) (v := (-1)) (lv1 := [(0, .ref (q 0)), (1, .int (x1 + (-1)))]) hx hb dX5_finds_110 rfl (by decide) (by decide) [1, 0] rfl ?_
          refine ww_goto (tgt := 83) hx hb dX5_finds_113 (by decide) ?_
          exact ww_sub (lv1 := [(0, .ref (q 0)), (1, .int (x1 + (-1)))]) [0, 1] rfl (ih _ _ h)
  have bk75 : ∀ (τ : SS) (y0 : Int32), X5_finds_b75 τ y0 = some σ1 → WW p l e (rmc 3 120 0 0) s m args below meth c D vwCl (va_A (WR q cA σ) s.heap.size) 3 0 0 (MQ below (qcW D vwCl (WR q cA σ) (WR q cA σ1) none s.heap.size) args s 0 0 (va_A (WR q cA σ) s.heap.size)) (WR q cA τ) 75 [(0, .ref (q 0))] [.int (y0)] := by
    intro τ y0 h
    unfold X5_finds_b75 at h
    refine ww_istore_n (i := 1) (lv1 := [(0, .ref (q 0)), (1, .int (y0))]) hx hb dX5_finds_75 rfl (by decide) [1, 0] rfl ?_
    refine ww_aload_n hx hb dX5_finds_76 rfl 0 rfl ?_
    refine ww_get (C := RX5) (T := TX5) (N := 36) hx hb hown hts hK inA5 0 rfl rfl 19 (by decide) kw_265 rfl rfl dX5_finds_77 ?_
    refine ww_iconst (v := 0) hx hb dX5_finds_80 (by decide) ?_
    refine ww_iconst (v := -1) hx hb dX5_finds_81 (by decide) ?_
    obtain ⟨g_7, h⟩ := og h
    obtain ⟨σ_8, e_8, h⟩ := lt_e h
    refine ww_iast (ws1 := WR q cA (σ_8)) hx hb hown hts hK (hDD _) 9 0 rfl rfl g_7 dX5_finds_82 (e_8 ▸ rfl) ?_
    exact ww_sub (lv1 := [(0, .ref (q 0)), (1, .int (y0))]) [0, 1] rfl (lp83 _ _ _ h)
  have bk60 : ∀ (τ : SS) (y1 : Int32), X5_finds_b60 τ y1 = some σ1 → WW p l e (rmc 3 120 0 0) s m args below meth c D vwCl (va_A (WR q cA σ) s.heap.size) 3 0 0 (MQ below (qcW D vwCl (WR q cA σ) (WR q cA σ1) none s.heap.size) args s 0 0 (va_A (WR q cA σ) s.heap.size)) (WR q cA τ) 60 [(0, .ref (q 0))] [.int (y1), .ref (q 0)] := by
    intro τ y1 h
    unfold X5_finds_b60 at h
    obtain ⟨σ_5, e_5, h⟩ := lt_e h
    refine ww_put (C := RX5) (T := TX5) (N := 36) (ty := .int) (ws1 := WR q cA (σ_5)) hx hb hown hts hK inA5 tyX5 tyX5_ok nmX5 (hDD _) 0 rfl rfl 17 (by decide) kw_292 rfl rfl rfl rfl rfl (Nat.le_of_ble_eq_true rfl) dX5_finds_60 (e_5 ▸ rfl) ?_
    refine ww_aload_n hx hb dX5_finds_63 rfl 0 rfl ?_
    refine ww_get (C := RX5) (T := TX5) (N := 36) hx hb hown hts hK inA5 0 rfl rfl 16 (by decide) kw_288 rfl rfl dX5_finds_64 ?_
    refine ww_ne0 (tgt := 74) hx hb dX5_finds_67 (by decide) (fun c_6 => ?_) (fun c_6 => ?_)
    · replace h := it_n c_6 h
      refine ww_iconst (v := 0) hx hb dX5_finds_74 (by decide) ?_
      exact ww_sub (lv1 := [(0, .ref (q 0))]) [0] rfl (bk75 _ _ h)
    · replace h := it_p c_6 h
      refine ww_iconst (v := -1) hx hb dX5_finds_70 (by decide) ?_
      refine ww_goto (tgt := 75) hx hb dX5_finds_71 (by decide) ?_
      exact ww_sub (lv1 := [(0, .ref (q 0))]) [0] rfl (bk75 _ _ h)
  have lp7 : ∀ (n : Nat) (τ : SS) (x1 : Int32), X5_finds_l7 n τ x1 = some σ1 → WW p l e (rmc 3 120 0 0) s m args below meth c D vwCl (va_A (WR q cA σ) s.heap.size) 3 0 0 (MQ below (qcW D vwCl (WR q cA σ) (WR q cA σ1) none s.heap.size) args s 0 0 (va_A (WR q cA σ) s.heap.size)) (WR q cA τ) 7 [(0, .ref (q 0)), (1, .int (x1))] [] := by
    intro n
    induction n with
    | zero => intro τ x1 h; rw [X5_finds_l7] at h; cases h
    | succ n ih =>
      have bk36 : ∀ (τ : SS) (x1 : Int32) (y1 : Int32) (y2 : Int32), X5_finds_b36 (X5_finds_l7 n) τ x1 y1 y2 = some σ1 → WW p l e (rmc 3 120 0 0) s m args below meth c D vwCl (va_A (WR q cA σ) s.heap.size) 3 0 0 (MQ below (qcW D vwCl (WR q cA σ) (WR q cA σ1) none s.heap.size) args s 0 0 (va_A (WR q cA σ) s.heap.size)) (WR q cA τ) 36 [(0, .ref (q 0)), (1, .int (x1))] [.int (y2), .int (y1), .ref (q 0)] := by
        intro τ x1 y1 y2 h
        unfold X5_finds_b36 at h
        refine ww_iadd hx hb dX5_finds_36 ?_
        obtain ⟨σ_29, e_29, h⟩ := lt_e h
        refine ww_put (C := RX5) (T := TX5) (N := 36) (ty := .int) (ws1 := WR q cA (σ_29)) hx hb hown hts hK inA5 tyX5 tyX5_ok nmX5 (hDD _) 0 rfl rfl 16 (by decide) kw_288 rfl rfl rfl rfl rfl (Nat.le_of_ble_eq_true rfl) dX5_finds_37 (e_29 ▸ rfl) ?_
        refine ww_iinc (i := 1) (k := 1) (v := 1) (lv1 := [(0, .ref (q 0)), (1, .int (x1 + 1))]) hx hb dX5_finds_40 rfl (by decide) (by decide) [1, 0] rfl ?_
        refine ww_goto (tgt := 7) hx hb dX5_finds_43 (by decide) ?_
        exact ww_sub (lv1 := [(0, .ref (q 0)), (1, .int (x1 + 1))]) [0, 1] rfl (ih _ _ h)
      intro τ x1 h
      rw [X5_finds_l7] at h
      refine ww_iload_n hx hb dX5_finds_7 rfl 1 rfl ?_
      refine ww_aload_n hx hb dX5_finds_8 rfl 0 rfl ?_
      refine ww_get (C := RX5) (T := TX5) (N := 36) hx hb hown hts hK inA5 0 rfl rfl 0 (by decide) kw_264 rfl rfl dX5_finds_9 ?_
      refine ww_ge2 (tgt := 46) hx hb dX5_finds_12 (by decide) (fun c_2 => ?_) (fun c_2 => ?_)
      · replace h := it_p c_2 h
        refine ww_aload_n hx hb dX5_finds_46 rfl 0 rfl ?_
        refine ww_aload_n hx hb dX5_finds_47 rfl 0 rfl ?_
        refine ww_get (C := RX5) (T := TX5) (N := 36) hx hb hown hts hK inA5 0 rfl rfl 16 (by decide) kw_288 rfl rfl dX5_finds_48 ?_
        refine ww_ne0 (tgt := 58) hx hb dX5_finds_51 (by decide) (fun c_3 => ?_) (fun c_3 => ?_)
        · replace h := it_n c_3 h
          refine ww_ldc hx hb hown hts kw_291 dX5_finds_58 ?_
          exact ww_sub (lv1 := [(0, .ref (q 0))]) [0] rfl (bk60 _ _ h)
        · replace h := it_p c_3 h
          refine ww_iconst (v := 0) hx hb dX5_finds_54 (by decide) ?_
          refine ww_goto (tgt := 60) hx hb dX5_finds_55 (by decide) ?_
          exact ww_sub (lv1 := [(0, .ref (q 0))]) [0] rfl (bk60 _ _ h)
      · replace h := it_n c_2 h
        refine ww_aload_n hx hb dX5_finds_15 rfl 0 rfl ?_
        refine ww_dup hx hb dX5_finds_16 rfl ?_
        refine ww_get (C := RX5) (T := TX5) (N := 36) hx hb hown hts hK inA5 0 rfl rfl 16 (by decide) kw_288 rfl rfl dX5_finds_17 ?_
        refine ww_aload_n hx hb dX5_finds_20 rfl 0 rfl ?_
        refine ww_get (C := RX5) (T := TX5) (N := 36) hx hb hown hts hK inA5 0 rfl rfl 6 (by decide) kw_267 rfl rfl dX5_finds_21 ?_
        refine ww_iload_n hx hb dX5_finds_24 rfl 1 rfl ?_
        refine ww_ishr hx hb dX5_finds_25 ?_
        refine ww_iconst (v := 1) hx hb dX5_finds_26 (by decide) ?_
        refine ww_iand hx hb dX5_finds_27 ?_
        refine ww_ne0 (tgt := 35) hx hb dX5_finds_28 (by decide) (fun c_4 => ?_) (fun c_4 => ?_)
        · replace h := it_n c_4 h
          refine ww_iconst (v := 0) hx hb dX5_finds_35 (by decide) ?_
          exact ww_sub (lv1 := [(0, .ref (q 0)), (1, .int (x1))]) [0, 1] rfl (bk36 _ _ _ _ h)
        · replace h := it_p c_4 h
          refine ww_iconst (v := 1) hx hb dX5_finds_31 (by decide) ?_
          refine ww_goto (tgt := 36) hx hb dX5_finds_32 (by decide) ?_
          exact ww_sub (lv1 := [(0, .ref (q 0)), (1, .int (x1))]) [0, 1] rfl (bk36 _ _ _ _ h)
  refine ww_sub (lv1 := [(0, .ref (q 0))]) [0] rfl ?_
  refine ww_aload_n hx hb dX5_finds_0 rfl 0 rfl ?_
  refine ww_iconst (v := 0) hx hb dX5_finds_1 (by decide) ?_
  obtain ⟨σ_1, e_1, h⟩ := lt_e h
  refine ww_put (C := RX5) (T := TX5) (N := 36) (ty := .int) (ws1 := WR q cA (σ_1)) hx hb hown hts hK inA5 tyX5 tyX5_ok nmX5 (hDD _) 0 rfl rfl 16 (by decide) kw_288 rfl rfl rfl rfl rfl (Nat.le_of_ble_eq_true rfl) dX5_finds_2 (e_1 ▸ rfl) ?_
  refine ww_iconst (v := 0) hx hb dX5_finds_5 (by decide) ?_
  refine ww_istore_n (i := 1) (lv1 := [(0, .ref (q 0)), (1, .int ((0 : Int32)))]) hx hb dX5_finds_6 rfl (by decide) [1, 0] rfl ?_
  exact ww_sub (lv1 := [(0, .ref (q 0)), (1, .int ((0 : Int32)))]) [0, 1] rfl (lp7 _ _ _ h)
set_option maxHeartbeats 4000000 in
set_option maxRecDepth 100000 in
theorem m_X5_plans (σ : SS) (σ1 : SS) (h : X5_plans σ = some σ1) : Ct l yX5_plans cX5_plans 1 none 4 160 D vwCl [(cA, .int)] (WR q cA σ) (WR q cA σ1) [.ref (q 0)] none := by
  refine ct_of (by decide +kernel) (Nat.le_of_ble_eq_true rfl) ?_
  intro p e s m args below meth c hx hb hr hlk hml hown hts hK hD hN hA
  have hown : s.vm.findClass RX5 = some m.cls := hown
  have hDD : ∀ τ : SS, va_D (va_A (WR q cA σ) s.heap.size) (WR q cA τ) := fun τ => hD.adr rfl
  unfold X5_plans at h
  refine ww_sub (lv1 := [(0, .ref (q 0))]) [0] rfl ?_
  refine ww_aload_n hx hb dX5_plans_0 rfl 0 rfl ?_
  refine ww_get (C := RX5) (T := TX5) (N := 36) hx hb hown hts hK inA5 0 rfl rfl 18 (by decide) kw_293 rfl rfl dX5_plans_1 ?_
  refine ww_eq0 (tgt := 11) hx hb dX5_plans_4 (by decide) (fun c_1 => ?_) (fun c_1 => ?_)
  · replace h := it_p c_1 h
    obtain rfl := os1 h
    exact ww_vret hx hb hr hlk dX5_plans_11
  · replace h := it_n c_1 h
    refine ww_aload_n hx hb dX5_plans_7 rfl 0 rfl ?_
    obtain ⟨σ_2, e_2, h⟩ := ob h
    refine ww_callV (ws1 := WR q cA σ_2) (st1 := []) hx hb hml hown hts hK hN hA (hDD _) (Nat.zero_le _) (Nat.zero_le _) [] [] (m_X5_finds _  _ e_2) cs_X5_122 rfl (by decide) 0 rfl rfl rfl (Nat.le_of_ble_eq_true rfl) dX5_plans_8 rfl ?_
    obtain rfl := os1 h
    exact ww_vret hx hb hr hlk dX5_plans_11
set_option maxHeartbeats 4000000 in
set_option maxRecDepth 100000 in
theorem m_X5_addScene (σ : SS) (x1 x2 x3 x4 x5 : Int32) (r : Int32) (σ1 : SS) (h : X5_addScene σ x1 x2 x3 x4 x5 = some (r, σ1)) : Ct l yX5_addScene cX5_addScene 7 (some .int) 2 80 D vwCl [(cA, .int)] (WR q cA σ) (WR q cA σ1) [.ref (q 0), .int (x1), .int (x2), .int (x3), .int (x4), .int (x5)] (some (.int r)) := by
  refine ct_of (by decide +kernel) (Nat.le_of_ble_eq_true rfl) ?_
  intro p e s m args below meth c hx hb hr hlk hml hown hts hK hD hN hA
  have hown : s.vm.findClass RX5 = some m.cls := hown
  have hDD : ∀ τ : SS, va_D (va_A (WR q cA σ) s.heap.size) (WR q cA τ) := fun τ => hD.adr rfl
  unfold X5_addScene at h
  have bk85 : ∀ (τ : SS) (x1 : Int32) (x2 : Int32) (x3 : Int32) (x4 : Int32) (x5 : Int32) (y1 : Int32), X5_addScene_b85 τ x1 x2 x3 x4 x5 y1 = some (r, σ1) → WW p l e (rmc 2 80 0 0) s m args below meth c D vwCl (va_A (WR q cA σ) s.heap.size) 7 0 0 (MQ below (qcW D vwCl (WR q cA σ) (WR q cA σ1) (some (.int r)) s.heap.size) args s 0 0 (va_A (WR q cA σ) s.heap.size)) (WR q cA τ) 85 [(0, .ref (q 0)), (1, .int (x1)), (2, .int (x2)), (3, .int (x3)), (4, .int (x4)), (5, .int (x5))] [.int (y1), .ref (q 0)] := by
    intro τ x1 x2 x3 x4 x5 y1 h
    unfold X5_addScene_b85 at h
    obtain ⟨σ_8, e_8, h⟩ := lt_e h
    refine ww_put (C := RX5) (T := TX5) (N := 36) (ty := .int) (ws1 := WR q cA (σ_8)) hx hb hown hts hK inA5 tyX5 tyX5_ok nmX5 (hDD _) 0 rfl rfl 35 (by decide) kw_259 rfl rfl rfl rfl rfl (Nat.le_of_ble_eq_true rfl) dX5_addScene_85 (e_8 ▸ rfl) ?_
    refine ww_aload_n hx hb dX5_addScene_88 rfl 0 rfl ?_
    refine ww_get (C := RX5) (T := TX5) (N := 36) hx hb hown hts hK inA5 0 rfl rfl 35 (by decide) kw_259 rfl rfl dX5_addScene_89 ?_
    refine ww_le0 (tgt := 97) hx hb dX5_addScene_92 (by decide) (fun c_9 => ?_) (fun c_9 => ?_)
    · replace h := it_p c_9 h
      refine ww_aload_n hx hb dX5_addScene_97 rfl 0 rfl ?_
      refine ww_get (C := RX5) (T := TX5) (N := 36) hx hb hown hts hK inA5 0 rfl rfl 1 (by decide) kw_269 rfl rfl dX5_addScene_98 ?_
      refine ww_aload_n hx hb dX5_addScene_101 rfl 0 rfl ?_
      refine ww_get (C := RX5) (T := TX5) (N := 36) hx hb hown hts hK inA5 0 rfl rfl 0 (by decide) kw_264 rfl rfl dX5_addScene_102 ?_
      refine ww_iload_n hx hb dX5_addScene_105 rfl 1 rfl ?_
      obtain ⟨g_10, h⟩ := og h
      obtain ⟨σ_11, e_11, h⟩ := lt_e h
      refine ww_iast (ws1 := WR q cA (σ_11)) hx hb hown hts hK (hDD _) 1 0 rfl rfl g_10 dX5_addScene_106 (e_11 ▸ rfl) ?_
      refine ww_aload_n hx hb dX5_addScene_107 rfl 0 rfl ?_
      refine ww_get (C := RX5) (T := TX5) (N := 36) hx hb hown hts hK inA5 0 rfl rfl 2 (by decide) kw_278 rfl rfl dX5_addScene_108 ?_
      refine ww_aload_n hx hb dX5_addScene_111 rfl 0 rfl ?_
      refine ww_get (C := RX5) (T := TX5) (N := 36) hx hb hown hts hK inA5 0 rfl rfl 0 (by decide) kw_264 rfl rfl dX5_addScene_112 ?_
      refine ww_iload_n hx hb dX5_addScene_115 rfl 2 rfl ?_
      obtain ⟨g_12, h⟩ := og h
      obtain ⟨σ_13, e_13, h⟩ := lt_e h
      refine ww_iast (ws1 := WR q cA (σ_13)) hx hb hown hts hK (hDD _) 2 0 rfl rfl g_12 dX5_addScene_116 (e_13 ▸ rfl) ?_
      refine ww_aload_n hx hb dX5_addScene_117 rfl 0 rfl ?_
      refine ww_get (C := RX5) (T := TX5) (N := 36) hx hb hown hts hK inA5 0 rfl rfl 3 (by decide) kw_270 rfl rfl dX5_addScene_118 ?_
      refine ww_aload_n hx hb dX5_addScene_121 rfl 0 rfl ?_
      refine ww_get (C := RX5) (T := TX5) (N := 36) hx hb hown hts hK inA5 0 rfl rfl 0 (by decide) kw_264 rfl rfl dX5_addScene_122 ?_
      refine ww_iload_n hx hb dX5_addScene_125 rfl 3 rfl ?_
      obtain ⟨g_14, h⟩ := og h
      obtain ⟨σ_15, e_15, h⟩ := lt_e h
      refine ww_iast (ws1 := WR q cA (σ_15)) hx hb hown hts hK (hDD _) 3 0 rfl rfl g_14 dX5_addScene_126 (e_15 ▸ rfl) ?_
      refine ww_aload_n hx hb dX5_addScene_127 rfl 0 rfl ?_
      refine ww_get (C := RX5) (T := TX5) (N := 36) hx hb hown hts hK inA5 0 rfl rfl 4 (by decide) kw_277 rfl rfl dX5_addScene_128 ?_
      refine ww_aload_n hx hb dX5_addScene_131 rfl 0 rfl ?_
      refine ww_get (C := RX5) (T := TX5) (N := 36) hx hb hown hts hK inA5 0 rfl rfl 0 (by decide) kw_264 rfl rfl dX5_addScene_132 ?_
      refine ww_iload hx hb dX5_addScene_135 4 rfl ?_
      obtain ⟨g_16, h⟩ := og h
      obtain ⟨σ_17, e_17, h⟩ := lt_e h
      refine ww_iast (ws1 := WR q cA (σ_17)) hx hb hown hts hK (hDD _) 4 0 rfl rfl g_16 dX5_addScene_137 (e_17 ▸ rfl) ?_
      refine ww_aload_n hx hb dX5_addScene_138 rfl 0 rfl ?_
      refine ww_get (C := RX5) (T := TX5) (N := 36) hx hb hown hts hK inA5 0 rfl rfl 5 (by decide) kw_287 rfl rfl dX5_addScene_139 ?_
      refine ww_aload_n hx hb dX5_addScene_142 rfl 0 rfl ?_
      refine ww_get (C := RX5) (T := TX5) (N := 36) hx hb hown hts hK inA5 0 rfl rfl 0 (by decide) kw_264 rfl rfl dX5_addScene_143 ?_
      refine ww_iload hx hb dX5_addScene_146 5 rfl ?_
      obtain ⟨g_18, h⟩ := og h
      obtain ⟨σ_19, e_19, h⟩ := lt_e h
      refine ww_iast (ws1 := WR q cA (σ_19)) hx hb hown hts hK (hDD _) 5 0 rfl rfl g_18 dX5_addScene_148 (e_19 ▸ rfl) ?_
      refine ww_aload_n hx hb dX5_addScene_149 rfl 0 rfl ?_
      refine ww_dup hx hb dX5_addScene_150 rfl ?_
      refine ww_get (C := RX5) (T := TX5) (N := 36) hx hb hown hts hK inA5 0 rfl rfl 0 (by decide) kw_264 rfl rfl dX5_addScene_151 ?_
      refine ww_iconst (v := 1) hx hb dX5_addScene_154 (by decide) ?_
      refine ww_iadd hx hb dX5_addScene_155 ?_
      obtain ⟨σ_20, e_20, h⟩ := lt_e h
      refine ww_put (C := RX5) (T := TX5) (N := 36) (ty := .int) (ws1 := WR q cA (σ_20)) hx hb hown hts hK inA5 tyX5 tyX5_ok nmX5 (hDD _) 0 rfl rfl 0 (by decide) kw_264 rfl rfl rfl rfl rfl (Nat.le_of_ble_eq_true rfl) dX5_addScene_156 (e_20 ▸ rfl) ?_
      refine ww_aload_n hx hb dX5_addScene_159 rfl 0 rfl ?_
      refine ww_iconst (v := 1) hx hb dX5_addScene_160 (by decide) ?_
      obtain ⟨σ_21, e_21, h⟩ := lt_e h
      refine ww_put (C := RX5) (T := TX5) (N := 36) (ty := .boolean) (ws1 := WR q cA (σ_21)) hx hb hown hts hK inA5 tyX5 tyX5_ok nmX5 (hDD _) 0 rfl rfl 18 (by decide) kw_293 rfl rfl rfl (isZ_narrow (by decide)) (isZ_fits (by decide)) (Nat.le_of_ble_eq_true rfl) dX5_addScene_161 (e_21 ▸ rfl) ?_
      refine ww_aload_n hx hb dX5_addScene_164 rfl 0 rfl ?_
      refine ww_get (C := RX5) (T := TX5) (N := 36) hx hb hown hts hK inA5 0 rfl rfl 0 (by decide) kw_264 rfl rfl dX5_addScene_165 ?_
      refine ww_iconst (v := 1) hx hb dX5_addScene_168 (by decide) ?_
      refine ww_isub hx hb dX5_addScene_169 ?_
      obtain ⟨rfl, rfl⟩ := os2 h
      exact ww_iret hx hb hr hlk rfl dX5_addScene_170
    · replace h := it_n c_9 h
      refine ww_iconst (v := 0) hx hb dX5_addScene_95 (by decide) ?_
      obtain ⟨rfl, rfl⟩ := os2 h
      exact ww_iret hx hb hr hlk rfl dX5_addScene_96
  have bk59 : ∀ (τ : SS) (x1 : Int32) (x2 : Int32) (x3 : Int32) (x4 : Int32) (x5 : Int32) (y0 : Int32), X5_addScene_b59 τ x1 x2 x3 x4 x5 y0 = some (r, σ1) → WW p l e (rmc 2 80 0 0) s m args below meth c D vwCl (va_A (WR q cA σ) s.heap.size) 7 0 0 (MQ below (qcW D vwCl (WR q cA σ) (WR q cA σ1) (some (.int r)) s.heap.size) args s 0 0 (va_A (WR q cA σ) s.heap.size)) (WR q cA τ) 59 [(0, .ref (q 0)), (1, .int (x1)), (2, .int (x2)), (3, .int (x3)), (4, .int (x4)), (5, .int (x5))] [.int (y0)] := by
    intro τ x1 x2 x3 x4 x5 y0 h
    unfold X5_addScene_b59 at h
    refine ww_istore (i := 6) (lv1 := [(0, .ref (q 0)), (1, .int (x1)), (2, .int (x2)), (3, .int (x3)), (4, .int (x4)), (5, .int (x5)), (6, .int (y0))]) hx hb dX5_addScene_59 (by decide) [1, 2, 3, 4, 5, 6, 0] rfl ?_
    refine ww_aload_n hx hb dX5_addScene_61 rfl 0 rfl ?_
    refine ww_iload hx hb dX5_addScene_62 6 rfl ?_
    refine ww_ne0 (tgt := 71) hx hb dX5_addScene_64 (by decide) (fun c_6 => ?_) (fun c_6 => ?_)
    · replace h := it_n c_6 h
      refine ww_aload_n hx hb dX5_addScene_71 rfl 0 rfl ?_
      refine ww_get (C := RX5) (T := TX5) (N := 36) hx hb hown hts hK inA5 0 rfl rfl 0 (by decide) kw_264 rfl rfl dX5_addScene_72 ?_
      refine ww_bipush (v := 8) hx hb dX5_addScene_75 (by decide) ?_
      refine ww_ne2 (tgt := 84) hx hb dX5_addScene_77 (by decide) (fun c_7 => ?_) (fun c_7 => ?_)
      · replace h := it_n c_7 h
        refine ww_iconst (v := 0) hx hb dX5_addScene_84 (by decide) ?_
        exact ww_sub (lv1 := [(0, .ref (q 0)), (1, .int (x1)), (2, .int (x2)), (3, .int (x3)), (4, .int (x4)), (5, .int (x5))]) [0, 1, 2, 3, 4, 5] rfl (bk85 _ _ _ _ _ _ _ h)
      · replace h := it_p c_7 h
        refine ww_iconst (v := 2) hx hb dX5_addScene_80 (by decide) ?_
        refine ww_goto (tgt := 85) hx hb dX5_addScene_81 (by decide) ?_
        exact ww_sub (lv1 := [(0, .ref (q 0)), (1, .int (x1)), (2, .int (x2)), (3, .int (x3)), (4, .int (x4)), (5, .int (x5))]) [0, 1, 2, 3, 4, 5] rfl (bk85 _ _ _ _ _ _ _ h)
    · replace h := it_p c_6 h
      refine ww_iconst (v := 1) hx hb dX5_addScene_67 (by decide) ?_
      refine ww_goto (tgt := 85) hx hb dX5_addScene_68 (by decide) ?_
      exact ww_sub (lv1 := [(0, .ref (q 0)), (1, .int (x1)), (2, .int (x2)), (3, .int (x3)), (4, .int (x4)), (5, .int (x5))]) [0, 1, 2, 3, 4, 5] rfl (bk85 _ _ _ _ _ _ _ h)
  have bk58 : ∀ (τ : SS) (x1 : Int32) (x2 : Int32) (x3 : Int32) (x4 : Int32) (x5 : Int32), X5_addScene_b58 τ x1 x2 x3 x4 x5 = some (r, σ1) → WW p l e (rmc 2 80 0 0) s m args below meth c D vwCl (va_A (WR q cA σ) s.heap.size) 7 0 0 (MQ below (qcW D vwCl (WR q cA σ) (WR q cA σ1) (some (.int r)) s.heap.size) args s 0 0 (va_A (WR q cA σ) s.heap.size)) (WR q cA τ) 58 [(0, .ref (q 0)), (1, .int (x1)), (2, .int (x2)), (3, .int (x3)), (4, .int (x4)), (5, .int (x5))] [] := by
    intro τ x1 x2 x3 x4 x5 h
    unfold X5_addScene_b58 at h
    refine ww_iconst (v := 0) hx hb dX5_addScene_58 (by decide) ?_
    exact ww_sub (lv1 := [(0, .ref (q 0)), (1, .int (x1)), (2, .int (x2)), (3, .int (x3)), (4, .int (x4)), (5, .int (x5))]) [0, 1, 2, 3, 4, 5] rfl (bk59 _ _ _ _ _ _ _ h)
  refine ww_sub (lv1 := [(0, .ref (q 0)), (1, .int (x1)), (2, .int (x2)), (3, .int (x3)), (4, .int (x4)), (5, .int (x5))]) [0, 1, 2, 3, 4, 5] rfl ?_
  refine ww_iload_n hx hb dX5_addScene_0 rfl 1 rfl ?_
  refine ww_iconst (v := 1) hx hb dX5_addScene_1 (by decide) ?_
  refine ww_bipush (v := 6) hx hb dX5_addScene_2 (by decide) ?_
  refine ww_callS (ws1 := WR q cA σ) (st1 := [.int (X5_isIn x1 (1 : Int32) (6 : Int32))]) hx hb hml hown hts hK hN hA (hDD _) (Nat.zero_le _) (Nat.zero_le _) [.int (x1), .int ((1 : Int32)), .int ((6 : Int32))] [] (m_X5_isIn σ x1 (1 : Int32) (6 : Int32)) cs_X5_74 rfl (by decide) rfl (Nat.le_of_ble_eq_true rfl) dX5_addScene_4 rfl ?_
  refine ww_eq0 (tgt := 58) hx hb dX5_addScene_7 (by decide) (fun c_1 => ?_) (fun c_1 => ?_)
  · replace h := it_p c_1 h
    exact ww_sub (lv1 := [(0, .ref (q 0)), (1, .int (x1)), (2, .int (x2)), (3, .int (x3)), (4, .int (x4)), (5, .int (x5))]) [0, 1, 2, 3, 4, 5] rfl (bk58 _ _ _ _ _ _ h)
  · replace h := it_n c_1 h
    refine ww_iload_n hx hb dX5_addScene_10 rfl 2 rfl ?_
    refine ww_callS (ws1 := WR q cA σ) (st1 := [.int (X5_isIn4 x2)]) hx hb hml hown hts hK hN hA (hDD _) (Nat.zero_le _) (Nat.zero_le _) [.int (x2)] [] (m_X5_isIn4 σ x2) cs_X5_125 rfl (by decide) rfl (Nat.le_of_ble_eq_true rfl) dX5_addScene_11 rfl ?_
    refine ww_eq0 (tgt := 58) hx hb dX5_addScene_14 (by decide) (fun c_2 => ?_) (fun c_2 => ?_)
    · replace h := it_p c_2 h
      exact ww_sub (lv1 := [(0, .ref (q 0)), (1, .int (x1)), (2, .int (x2)), (3, .int (x3)), (4, .int (x4)), (5, .int (x5))]) [0, 1, 2, 3, 4, 5] rfl (bk58 _ _ _ _ _ _ h)
    · replace h := it_n c_2 h
      refine ww_iload_n hx hb dX5_addScene_17 rfl 3 rfl ?_
      refine ww_iconst (v := 0) hx hb dX5_addScene_18 (by decide) ?_
      refine ww_bipush (v := 63) hx hb dX5_addScene_19 (by decide) ?_
      refine ww_callS (ws1 := WR q cA σ) (st1 := [.int (X5_isIn x3 (0 : Int32) (63 : Int32))]) hx hb hml hown hts hK hN hA (hDD _) (Nat.zero_le _) (Nat.zero_le _) [.int (x3), .int ((0 : Int32)), .int ((63 : Int32))] [] (m_X5_isIn σ x3 (0 : Int32) (63 : Int32)) cs_X5_74 rfl (by decide) rfl (Nat.le_of_ble_eq_true rfl) dX5_addScene_21 rfl ?_
      refine ww_eq0 (tgt := 58) hx hb dX5_addScene_24 (by decide) (fun c_3 => ?_) (fun c_3 => ?_)
      · replace h := it_p c_3 h
        exact ww_sub (lv1 := [(0, .ref (q 0)), (1, .int (x1)), (2, .int (x2)), (3, .int (x3)), (4, .int (x4)), (5, .int (x5))]) [0, 1, 2, 3, 4, 5] rfl (bk58 _ _ _ _ _ _ h)
      · replace h := it_n c_3 h
        refine ww_iload hx hb dX5_addScene_27 4 rfl ?_
        refine ww_iconst (v := 0) hx hb dX5_addScene_29 (by decide) ?_
        refine ww_iconst (v := 2) hx hb dX5_addScene_30 (by decide) ?_
        refine ww_callS (ws1 := WR q cA σ) (st1 := [.int (X5_isIn x4 (0 : Int32) (2 : Int32))]) hx hb hml hown hts hK hN hA (hDD _) (Nat.zero_le _) (Nat.zero_le _) [.int (x4), .int ((0 : Int32)), .int ((2 : Int32))] [] (m_X5_isIn σ x4 (0 : Int32) (2 : Int32)) cs_X5_74 rfl (by decide) rfl (Nat.le_of_ble_eq_true rfl) dX5_addScene_31 rfl ?_
        refine ww_eq0 (tgt := 58) hx hb dX5_addScene_34 (by decide) (fun c_4 => ?_) (fun c_4 => ?_)
        · replace h := it_p c_4 h
          exact ww_sub (lv1 := [(0, .ref (q 0)), (1, .int (x1)), (2, .int (x2)), (3, .int (x3)), (4, .int (x4)), (5, .int (x5))]) [0, 1, 2, 3, 4, 5] rfl (bk58 _ _ _ _ _ _ h)
        · replace h := it_n c_4 h
          refine ww_iload hx hb dX5_addScene_37 5 rfl ?_
          refine ww_iconst (v := 0) hx hb dX5_addScene_39 (by decide) ?_
          refine ww_iconst (v := 1) hx hb dX5_addScene_40 (by decide) ?_
          refine ww_aload_n hx hb dX5_addScene_41 rfl 0 rfl ?_
          refine ww_get (C := RX5) (T := TX5) (N := 36) hx hb hown hts hK inA5 0 rfl rfl 0 (by decide) kw_264 rfl rfl dX5_addScene_42 ?_
          refine ww_ishl hx hb dX5_addScene_45 ?_
          refine ww_iconst (v := 1) hx hb dX5_addScene_46 (by decide) ?_
          refine ww_isub hx hb dX5_addScene_47 ?_
          refine ww_callS (ws1 := WR q cA σ) (st1 := [.int (X5_isIn x5 (0 : Int32) (((1 : Int32) <<< ((σ 0 0) &&& 31)) - (1 : Int32)))]) hx hb hml hown hts hK hN hA (hDD _) (Nat.zero_le _) (Nat.zero_le _) [.int (x5), .int ((0 : Int32)), .int (((1 : Int32) <<< ((σ 0 0) &&& 31)) - (1 : Int32))] [] (m_X5_isIn σ x5 (0 : Int32) (((1 : Int32) <<< ((σ 0 0) &&& 31)) - (1 : Int32))) cs_X5_74 rfl (by decide) rfl (Nat.le_of_ble_eq_true rfl) dX5_addScene_48 rfl ?_
          refine ww_eq0 (tgt := 58) hx hb dX5_addScene_51 (by decide) (fun c_5 => ?_) (fun c_5 => ?_)
          · replace h := it_p c_5 h
            exact ww_sub (lv1 := [(0, .ref (q 0)), (1, .int (x1)), (2, .int (x2)), (3, .int (x3)), (4, .int (x4)), (5, .int (x5))]) [0, 1, 2, 3, 4, 5] rfl (bk58 _ _ _ _ _ _ h)
          · replace h := it_n c_5 h
            refine ww_iconst (v := 1) hx hb dX5_addScene_54 (by decide) ?_
            refine ww_goto (tgt := 59) hx hb dX5_addScene_55 (by decide) ?_
            exact ww_sub (lv1 := [(0, .ref (q 0)), (1, .int (x1)), (2, .int (x2)), (3, .int (x3)), (4, .int (x4)), (5, .int (x5))]) [0, 1, 2, 3, 4, 5] rfl (bk59 _ _ _ _ _ _ _ h)
set_option maxHeartbeats 4000000 in
set_option maxRecDepth 100000 in
theorem m_X5_setOut (σ : SS) (x1 x2 : Int32) (r : Int32) (σ1 : SS) (h : X5_setOut σ x1 x2 = some (r, σ1)) : Ct l yX5_setOut cX5_setOut 4 (some .boolean) 2 80 D vwCl [(cA, .int)] (WR q cA σ) (WR q cA σ1) [.ref (q 0), .int (x1), .int (x2)] (some (.int r)) := by
  refine ct_of (by decide +kernel) (Nat.le_of_ble_eq_true rfl) ?_
  intro p e s m args below meth c hx hb hr hlk hml hown hts hK hD hN hA
  have hown : s.vm.findClass RX5 = some m.cls := hown
  have hDD : ∀ τ : SS, va_D (va_A (WR q cA σ) s.heap.size) (WR q cA τ) := fun τ => hD.adr rfl
  unfold X5_setOut at h
  have bk69 : ∀ (τ : SS) (x3 : Int32) (y1 : Int32), X5_setOut_b69 τ x3 y1 = some (r, σ1) → WW p l e (rmc 2 80 0 0) s m args below meth c D vwCl (va_A (WR q cA σ) s.heap.size) 4 0 0 (MQ below (qcW D vwCl (WR q cA σ) (WR q cA σ1) (some (.int r)) s.heap.size) args s 0 0 (va_A (WR q cA σ) s.heap.size)) (WR q cA τ) 69 [(3, .int (x3))] [.int (y1), .ref (q 0)] := by
    intro τ x3 y1 h
    unfold X5_setOut_b69 at h
    obtain ⟨σ_6, e_6, h⟩ := lt_e h
    refine ww_put (C := RX5) (T := TX5) (N := 36) (ty := .int) (ws1 := WR q cA (σ_6)) hx hb hown hts hK inA5 tyX5 tyX5_ok nmX5 (hDD _) 0 rfl rfl 9 (by decide) kw_313 rfl rfl rfl rfl rfl (Nat.le_of_ble_eq_true rfl) dX5_setOut_69 (e_6 ▸ rfl) ?_
    refine ww_iload_n hx hb dX5_setOut_72 rfl 0 rfl ?_
    obtain ⟨g_7, h⟩ := og h
    obtain ⟨rfl, rfl⟩ := os2 h
    exact ww_zret hx hb hr hlk g_7 rfl dX5_setOut_73
  have bk42 : ∀ (τ : SS) (x1 : Int32) (x2 : Int32) (y0 : Int32), X5_setOut_b42 τ x1 x2 y0 = some (r, σ1) → WW p l e (rmc 2 80 0 0) s m args below meth c D vwCl (va_A (WR q cA σ) s.heap.size) 4 0 0 (MQ below (qcW D vwCl (WR q cA σ) (WR q cA σ1) (some (.int r)) s.heap.size) args s 0 0 (va_A (WR q cA σ) s.heap.size)) (WR q cA τ) 42 [(0, .ref (q 0)), (1, .int (x1)), (2, .int (x2))] [.int (y0)] := by
    intro τ x1 x2 y0 h
    unfold X5_setOut_b42 at h
    refine ww_istore_n (i := 3) (lv1 := [(0, .ref (q 0)), (1, .int (x1)), (2, .int (x2)), (3, .int (y0))]) hx hb dX5_setOut_42 rfl (by decide) [1, 2, 3, 0] rfl ?_
    refine ww_aload_n hx hb dX5_setOut_43 rfl 0 rfl ?_
    refine ww_iload_n hx hb dX5_setOut_44 rfl 2 rfl ?_
    refine ww_eq0 (tgt := 59) hx hb dX5_setOut_45 (by decide) (fun c_5 => ?_) (fun c_5 => ?_)
    · replace h := it_p c_5 h
      refine ww_aload_n hx hb dX5_setOut_59 rfl 0 rfl ?_
      refine ww_get (C := RX5) (T := TX5) (N := 36) hx hb hown hts hK inA5 0 rfl rfl 9 (by decide) kw_313 rfl rfl dX5_setOut_60 ?_
      refine ww_iconst (v := 1) hx hb dX5_setOut_63 (by decide) ?_
      refine ww_iload_n hx hb dX5_setOut_64 rfl 1 rfl ?_
      refine ww_ishl hx hb dX5_setOut_65 ?_
      refine ww_iconst (v := -1) hx hb dX5_setOut_66 (by decide) ?_
      refine ww_ixor hx hb dX5_setOut_67 ?_
      refine ww_iand hx hb dX5_setOut_68 ?_
      exact ww_sub (lv1 := [(3, .int (y0))]) [3] rfl (bk69 _ _ _ h)
    · replace h := it_n c_5 h
      refine ww_aload_n hx hb dX5_setOut_48 rfl 0 rfl ?_
      refine ww_get (C := RX5) (T := TX5) (N := 36) hx hb hown hts hK inA5 0 rfl rfl 9 (by decide) kw_313 rfl rfl dX5_setOut_49 ?_
      refine ww_iconst (v := 1) hx hb dX5_setOut_52 (by decide) ?_
      refine ww_iload_n hx hb dX5_setOut_53 rfl 1 rfl ?_
      refine ww_ishl hx hb dX5_setOut_54 ?_
      refine ww_ior hx hb dX5_setOut_55 ?_
      refine ww_goto (tgt := 69) hx hb dX5_setOut_56 (by decide) ?_
      exact ww_sub (lv1 := [(3, .int (y0))]) [3] rfl (bk69 _ _ _ h)
  have bk13 : ∀ (τ : SS) (x1 : Int32) (x2 : Int32) (y1 : Int32), X5_setOut_b13 τ x1 x2 y1 = some (r, σ1) → WW p l e (rmc 2 80 0 0) s m args below meth c D vwCl (va_A (WR q cA σ) s.heap.size) 4 0 0 (MQ below (qcW D vwCl (WR q cA σ) (WR q cA σ1) (some (.int r)) s.heap.size) args s 0 0 (va_A (WR q cA σ) s.heap.size)) (WR q cA τ) 13 [(0, .ref (q 0)), (1, .int (x1)), (2, .int (x2))] [.int (y1), .ref (q 0)] := by
    intro τ x1 x2 y1 h
    unfold X5_setOut_b13 at h
    obtain ⟨σ_2, e_2, h⟩ := lt_e h
    refine ww_put (C := RX5) (T := TX5) (N := 36) (ty := .int) (ws1 := WR q cA (σ_2)) hx hb hown hts hK inA5 tyX5 tyX5_ok nmX5 (hDD _) 0 rfl rfl 35 (by decide) kw_259 rfl rfl rfl rfl rfl (Nat.le_of_ble_eq_true rfl) dX5_setOut_13 (e_2 ▸ rfl) ?_
    refine ww_aload_n hx hb dX5_setOut_16 rfl 0 rfl ?_
    refine ww_get (C := RX5) (T := TX5) (N := 36) hx hb hown hts hK inA5 0 rfl rfl 35 (by decide) kw_259 rfl rfl dX5_setOut_17 ?_
    refine ww_le0 (tgt := 25) hx hb dX5_setOut_20 (by decide) (fun c_3 => ?_) (fun c_3 => ?_)
    · replace h := it_p c_3 h
      refine ww_aload_n hx hb dX5_setOut_25 rfl 0 rfl ?_
      refine ww_get (C := RX5) (T := TX5) (N := 36) hx hb hown hts hK inA5 0 rfl rfl 9 (by decide) kw_313 rfl rfl dX5_setOut_26 ?_
      refine ww_iload_n hx hb dX5_setOut_29 rfl 1 rfl ?_
      refine ww_ishr hx hb dX5_setOut_30 ?_
      refine ww_iconst (v := 1) hx hb dX5_setOut_31 (by decide) ?_
      refine ww_iand hx hb dX5_setOut_32 ?_
      refine ww_iconst (v := 1) hx hb dX5_setOut_33 (by decide) ?_
      refine ww_ne2 (tgt := 41) hx hb dX5_setOut_34 (by decide) (fun c_4 => ?_) (fun c_4 => ?_)
      · replace h := it_n c_4 h
        refine ww_iconst (v := 0) hx hb dX5_setOut_41 (by decide) ?_
        exact ww_sub (lv1 := [(0, .ref (q 0)), (1, .int (x1)), (2, .int (x2))]) [0, 1, 2] rfl (bk42 _ _ _ _ h)
      · replace h := it_p c_4 h
        refine ww_iconst (v := 1) hx hb dX5_setOut_37 (by decide) ?_
        refine ww_goto (tgt := 42) hx hb dX5_setOut_38 (by decide) ?_
        exact ww_sub (lv1 := [(0, .ref (q 0)), (1, .int (x1)), (2, .int (x2))]) [0, 1, 2] rfl (bk42 _ _ _ _ h)
    · replace h := it_n c_3 h
      refine ww_iconst (v := 0) hx hb dX5_setOut_23 (by decide) ?_
      obtain ⟨rfl, rfl⟩ := os2 h
      exact ww_zret hx hb hr hlk (by decide) rfl dX5_setOut_24
  refine ww_sub (lv1 := [(0, .ref (q 0)), (1, .int (x1)), (2, .int (x2))]) [0, 1, 2] rfl ?_
  refine ww_aload_n hx hb dX5_setOut_0 rfl 0 rfl ?_
  refine ww_iload_n hx hb dX5_setOut_1 rfl 1 rfl ?_
  refine ww_callS (ws1 := WR q cA σ) (st1 := [.int (X5_isIn4 x1), .ref (q 0)]) hx hb hml hown hts hK hN hA (hDD _) (Nat.zero_le _) (Nat.zero_le _) [.int (x1)] [.ref (q 0)] (m_X5_isIn4 σ x1) cs_X5_125 rfl (by decide) rfl (Nat.le_of_ble_eq_true rfl) dX5_setOut_2 rfl ?_
  refine ww_eq0 (tgt := 12) hx hb dX5_setOut_5 (by decide) (fun c_1 => ?_) (fun c_1 => ?_)
  · replace h := it_p c_1 h
    refine ww_iconst (v := 1) hx hb dX5_setOut_12 (by decide) ?_
    exact ww_sub (lv1 := [(0, .ref (q 0)), (1, .int (x1)), (2, .int (x2))]) [0, 1, 2] rfl (bk13 _ _ _ _ h)
  · replace h := it_n c_1 h
    refine ww_iconst (v := 0) hx hb dX5_setOut_8 (by decide) ?_
    refine ww_goto (tgt := 13) hx hb dX5_setOut_9 (by decide) ?_
    exact ww_sub (lv1 := [(0, .ref (q 0)), (1, .int (x1)), (2, .int (x2))]) [0, 1, 2] rfl (bk13 _ _ _ _ h)
set_option maxHeartbeats 4000000 in
set_option maxRecDepth 100000 in
theorem m_X5_setChild (σ : SS) (x1 x2 : Int32) (r : Int32) (σ1 : SS) (h : X5_setChild σ x1 x2 = some (r, σ1)) : Ct l yX5_setChild cX5_setChild 4 (some .boolean) 2 80 D vwCl [(cA, .int)] (WR q cA σ) (WR q cA σ1) [.ref (q 0), .int (x1), .int (x2)] (some (.int r)) := by
  refine ct_of (by decide +kernel) (Nat.le_of_ble_eq_true rfl) ?_
  intro p e s m args below meth c hx hb hr hlk hml hown hts hK hD hN hA
  have hown : s.vm.findClass RX5 = some m.cls := hown
  have hDD : ∀ τ : SS, va_D (va_A (WR q cA σ) s.heap.size) (WR q cA τ) := fun τ => hD.adr rfl
  unfold X5_setChild at h
  have bk69 : ∀ (τ : SS) (x3 : Int32) (y1 : Int32), X5_setChild_b69 τ x3 y1 = some (r, σ1) → WW p l e (rmc 2 80 0 0) s m args below meth c D vwCl (va_A (WR q cA σ) s.heap.size) 4 0 0 (MQ below (qcW D vwCl (WR q cA σ) (WR q cA σ1) (some (.int r)) s.heap.size) args s 0 0 (va_A (WR q cA σ) s.heap.size)) (WR q cA τ) 69 [(0, .ref (q 0)), (3, .int (x3))] [.int (y1), .ref (q 0)] := by
    intro τ x3 y1 h
    unfold X5_setChild_b69 at h
    obtain ⟨σ_6, e_6, h⟩ := lt_e h
    refine ww_put (C := RX5) (T := TX5) (N := 36) (ty := .int) (ws1 := WR q cA (σ_6)) hx hb hown hts hK inA5 tyX5 tyX5_ok nmX5 (hDD _) 0 rfl rfl 8 (by decide) kw_271 rfl rfl rfl rfl rfl (Nat.le_of_ble_eq_true rfl) dX5_setChild_69 (e_6 ▸ rfl) ?_
    refine ww_aload_n hx hb dX5_setChild_72 rfl 0 rfl ?_
    refine ww_iconst (v := 1) hx hb dX5_setChild_73 (by decide) ?_
    obtain ⟨σ_7, e_7, h⟩ := lt_e h
    refine ww_put (C := RX5) (T := TX5) (N := 36) (ty := .boolean) (ws1 := WR q cA (σ_7)) hx hb hown hts hK inA5 tyX5 tyX5_ok nmX5 (hDD _) 0 rfl rfl 18 (by decide) kw_293 rfl rfl rfl (isZ_narrow (by decide)) (isZ_fits (by decide)) (Nat.le_of_ble_eq_true rfl) dX5_setChild_74 (e_7 ▸ rfl) ?_
    refine ww_iload_n hx hb dX5_setChild_77 rfl 1 rfl ?_
    obtain ⟨g_8, h⟩ := og h
    obtain ⟨rfl, rfl⟩ := os2 h
    exact ww_zret hx hb hr hlk g_8 rfl dX5_setChild_78
  have bk42 : ∀ (τ : SS) (x1 : Int32) (x2 : Int32) (y0 : Int32), X5_setChild_b42 τ x1 x2 y0 = some (r, σ1) → WW p l e (rmc 2 80 0 0) s m args below meth c D vwCl (va_A (WR q cA σ) s.heap.size) 4 0 0 (MQ below (qcW D vwCl (WR q cA σ) (WR q cA σ1) (some (.int r)) s.heap.size) args s 0 0 (va_A (WR q cA σ) s.heap.size)) (WR q cA τ) 42 [(0, .ref (q 0)), (1, .int (x1)), (2, .int (x2))] [.int (y0)] := by
    intro τ x1 x2 y0 h
    unfold X5_setChild_b42 at h
    refine ww_istore_n (i := 3) (lv1 := [(0, .ref (q 0)), (1, .int (x1)), (2, .int (x2)), (3, .int (y0))]) hx hb dX5_setChild_42 rfl (by decide) [1, 2, 3, 0] rfl ?_
    refine ww_aload_n hx hb dX5_setChild_43 rfl 0 rfl ?_
    refine ww_iload_n hx hb dX5_setChild_44 rfl 2 rfl ?_
    refine ww_eq0 (tgt := 59) hx hb dX5_setChild_45 (by decide) (fun c_5 => ?_) (fun c_5 => ?_)
    · replace h := it_p c_5 h
      refine ww_aload_n hx hb dX5_setChild_59 rfl 0 rfl ?_
      refine ww_get (C := RX5) (T := TX5) (N := 36) hx hb hown hts hK inA5 0 rfl rfl 8 (by decide) kw_271 rfl rfl dX5_setChild_60 ?_
      refine ww_iconst (v := 1) hx hb dX5_setChild_63 (by decide) ?_
      refine ww_iload_n hx hb dX5_setChild_64 rfl 1 rfl ?_
      refine ww_ishl hx hb dX5_setChild_65 ?_
      refine ww_iconst (v := -1) hx hb dX5_setChild_66 (by decide) ?_
      refine ww_ixor hx hb dX5_setChild_67 ?_
      refine ww_iand hx hb dX5_setChild_68 ?_
      exact ww_sub (lv1 := [(0, .ref (q 0)), (3, .int (y0))]) [0, 3] rfl (bk69 _ _ _ h)
    · replace h := it_n c_5 h
      refine ww_aload_n hx hb dX5_setChild_48 rfl 0 rfl ?_
      refine ww_get (C := RX5) (T := TX5) (N := 36) hx hb hown hts hK inA5 0 rfl rfl 8 (by decide) kw_271 rfl rfl dX5_setChild_49 ?_
      refine ww_iconst (v := 1) hx hb dX5_setChild_52 (by decide) ?_
      refine ww_iload_n hx hb dX5_setChild_53 rfl 1 rfl ?_
      refine ww_ishl hx hb dX5_setChild_54 ?_
      refine ww_ior hx hb dX5_setChild_55 ?_
      refine ww_goto (tgt := 69) hx hb dX5_setChild_56 (by decide) ?_
      exact ww_sub (lv1 := [(0, .ref (q 0)), (3, .int (y0))]) [0, 3] rfl (bk69 _ _ _ h)
  have bk13 : ∀ (τ : SS) (x1 : Int32) (x2 : Int32) (y1 : Int32), X5_setChild_b13 τ x1 x2 y1 = some (r, σ1) → WW p l e (rmc 2 80 0 0) s m args below meth c D vwCl (va_A (WR q cA σ) s.heap.size) 4 0 0 (MQ below (qcW D vwCl (WR q cA σ) (WR q cA σ1) (some (.int r)) s.heap.size) args s 0 0 (va_A (WR q cA σ) s.heap.size)) (WR q cA τ) 13 [(0, .ref (q 0)), (1, .int (x1)), (2, .int (x2))] [.int (y1), .ref (q 0)] := by
    intro τ x1 x2 y1 h
    unfold X5_setChild_b13 at h
    obtain ⟨σ_2, e_2, h⟩ := lt_e h
    refine ww_put (C := RX5) (T := TX5) (N := 36) (ty := .int) (ws1 := WR q cA (σ_2)) hx hb hown hts hK inA5 tyX5 tyX5_ok nmX5 (hDD _) 0 rfl rfl 35 (by decide) kw_259 rfl rfl rfl rfl rfl (Nat.le_of_ble_eq_true rfl) dX5_setChild_13 (e_2 ▸ rfl) ?_
    refine ww_aload_n hx hb dX5_setChild_16 rfl 0 rfl ?_
    refine ww_get (C := RX5) (T := TX5) (N := 36) hx hb hown hts hK inA5 0 rfl rfl 35 (by decide) kw_259 rfl rfl dX5_setChild_17 ?_
    refine ww_le0 (tgt := 25) hx hb dX5_setChild_20 (by decide) (fun c_3 => ?_) (fun c_3 => ?_)
    · replace h := it_p c_3 h
      refine ww_aload_n hx hb dX5_setChild_25 rfl 0 rfl ?_
      refine ww_get (C := RX5) (T := TX5) (N := 36) hx hb hown hts hK inA5 0 rfl rfl 8 (by decide) kw_271 rfl rfl dX5_setChild_26 ?_
      refine ww_iload_n hx hb dX5_setChild_29 rfl 1 rfl ?_
      refine ww_ishr hx hb dX5_setChild_30 ?_
      refine ww_iconst (v := 1) hx hb dX5_setChild_31 (by decide) ?_
      refine ww_iand hx hb dX5_setChild_32 ?_
      refine ww_iconst (v := 1) hx hb dX5_setChild_33 (by decide) ?_
      refine ww_ne2 (tgt := 41) hx hb dX5_setChild_34 (by decide) (fun c_4 => ?_) (fun c_4 => ?_)
      · replace h := it_n c_4 h
        refine ww_iconst (v := 0) hx hb dX5_setChild_41 (by decide) ?_
        exact ww_sub (lv1 := [(0, .ref (q 0)), (1, .int (x1)), (2, .int (x2))]) [0, 1, 2] rfl (bk42 _ _ _ _ h)
      · replace h := it_p c_4 h
        refine ww_iconst (v := 1) hx hb dX5_setChild_37 (by decide) ?_
        refine ww_goto (tgt := 42) hx hb dX5_setChild_38 (by decide) ?_
        exact ww_sub (lv1 := [(0, .ref (q 0)), (1, .int (x1)), (2, .int (x2))]) [0, 1, 2] rfl (bk42 _ _ _ _ h)
    · replace h := it_n c_3 h
      refine ww_iconst (v := 0) hx hb dX5_setChild_23 (by decide) ?_
      obtain ⟨rfl, rfl⟩ := os2 h
      exact ww_zret hx hb hr hlk (by decide) rfl dX5_setChild_24
  refine ww_sub (lv1 := [(0, .ref (q 0)), (1, .int (x1)), (2, .int (x2))]) [0, 1, 2] rfl ?_
  refine ww_aload_n hx hb dX5_setChild_0 rfl 0 rfl ?_
  refine ww_iload_n hx hb dX5_setChild_1 rfl 1 rfl ?_
  refine ww_callS (ws1 := WR q cA σ) (st1 := [.int (X5_isPerson x1), .ref (q 0)]) hx hb hml hown hts hK hN hA (hDD _) (Nat.zero_le _) (Nat.zero_le _) [.int (x1)] [.ref (q 0)] (m_X5_isPerson σ x1) cs_X5_131 rfl (by decide) rfl (Nat.le_of_ble_eq_true rfl) dX5_setChild_2 rfl ?_
  refine ww_eq0 (tgt := 12) hx hb dX5_setChild_5 (by decide) (fun c_1 => ?_) (fun c_1 => ?_)
  · replace h := it_p c_1 h
    refine ww_iconst (v := 1) hx hb dX5_setChild_12 (by decide) ?_
    exact ww_sub (lv1 := [(0, .ref (q 0)), (1, .int (x1)), (2, .int (x2))]) [0, 1, 2] rfl (bk13 _ _ _ _ h)
  · replace h := it_n c_1 h
    refine ww_iconst (v := 0) hx hb dX5_setChild_8 (by decide) ?_
    refine ww_goto (tgt := 13) hx hb dX5_setChild_9 (by decide) ?_
    exact ww_sub (lv1 := [(0, .ref (q 0)), (1, .int (x1)), (2, .int (x2))]) [0, 1, 2] rfl (bk13 _ _ _ _ h)
set_option maxHeartbeats 4000000 in
set_option maxRecDepth 100000 in
theorem m_X5_setRates (σ : SS) (x1 x2 : Int32) (r : Int32) (σ1 : SS) (h : X5_setRates σ x1 x2 = some (r, σ1)) : Ct l yX5_setRates cX5_setRates 4 (some .int) 1 40 D vwCl [(cA, .int)] (WR q cA σ) (WR q cA σ1) [.ref (q 0), .int (x1), .int (x2)] (some (.int r)) := by
  refine ct_of (by decide +kernel) (Nat.le_of_ble_eq_true rfl) ?_
  intro p e s m args below meth c hx hb hr hlk hml hown hts hK hD hN hA
  have hown : s.vm.findClass RX5 = some m.cls := hown
  have hDD : ∀ τ : SS, va_D (va_A (WR q cA σ) s.heap.size) (WR q cA τ) := fun τ => hD.adr rfl
  unfold X5_setRates at h
  have bk28 : ∀ (τ : SS) (x1 : Int32) (x2 : Int32) (y1 : Int32), X5_setRates_b28 τ x1 x2 y1 = some (r, σ1) → WW p l e (rmc 1 40 0 0) s m args below meth c D vwCl (va_A (WR q cA σ) s.heap.size) 4 0 0 (MQ below (qcW D vwCl (WR q cA σ) (WR q cA σ1) (some (.int r)) s.heap.size) args s 0 0 (va_A (WR q cA σ) s.heap.size)) (WR q cA τ) 28 [(0, .ref (q 0)), (1, .int (x1)), (2, .int (x2))] [.int (y1), .ref (q 0)] := by
    intro τ x1 x2 y1 h
    unfold X5_setRates_b28 at h
    obtain ⟨σ_3, e_3, h⟩ := lt_e h
    refine ww_put (C := RX5) (T := TX5) (N := 36) (ty := .int) (ws1 := WR q cA (σ_3)) hx hb hown hts hK inA5 tyX5 tyX5_ok nmX5 (hDD _) 0 rfl rfl 35 (by decide) kw_259 rfl rfl rfl rfl rfl (Nat.le_of_ble_eq_true rfl) dX5_setRates_28 (e_3 ▸ rfl) ?_
    refine ww_aload_n hx hb dX5_setRates_31 rfl 0 rfl ?_
    refine ww_get (C := RX5) (T := TX5) (N := 36) hx hb hown hts hK inA5 0 rfl rfl 35 (by decide) kw_259 rfl rfl dX5_setRates_32 ?_
    refine ww_le0 (tgt := 40) hx hb dX5_setRates_35 (by decide) (fun c_4 => ?_) (fun c_4 => ?_)
    · replace h := it_p c_4 h
      refine ww_aload_n hx hb dX5_setRates_40 rfl 0 rfl ?_
      refine ww_get (C := RX5) (T := TX5) (N := 36) hx hb hown hts hK inA5 0 rfl rfl 11 (by decide) kw_317 rfl rfl dX5_setRates_41 ?_
      refine ww_istore_n (i := 3) (lv1 := [(0, .ref (q 0)), (1, .int (x1)), (2, .int (x2)), (3, .int (σ_3 0 11))]) hx hb dX5_setRates_44 rfl (by decide) [1, 2, 3, 0] rfl ?_
      refine ww_aload_n hx hb dX5_setRates_45 rfl 0 rfl ?_
      refine ww_iload_n hx hb dX5_setRates_46 rfl 1 rfl ?_
      obtain ⟨σ_5, e_5, h⟩ := lt_e h
      refine ww_put (C := RX5) (T := TX5) (N := 36) (ty := .int) (ws1 := WR q cA (σ_5)) hx hb hown hts hK inA5 tyX5 tyX5_ok nmX5 (hDD _) 0 rfl rfl 11 (by decide) kw_317 rfl rfl rfl rfl rfl (Nat.le_of_ble_eq_true rfl) dX5_setRates_47 (e_5 ▸ rfl) ?_
      refine ww_aload_n hx hb dX5_setRates_50 rfl 0 rfl ?_
      refine ww_iload_n hx hb dX5_setRates_51 rfl 2 rfl ?_
      obtain ⟨σ_6, e_6, h⟩ := lt_e h
      refine ww_put (C := RX5) (T := TX5) (N := 36) (ty := .int) (ws1 := WR q cA (σ_6)) hx hb hown hts hK inA5 tyX5 tyX5_ok nmX5 (hDD _) 0 rfl rfl 12 (by decide) kw_318 rfl rfl rfl rfl rfl (Nat.le_of_ble_eq_true rfl) dX5_setRates_52 (e_6 ▸ rfl) ?_
      refine ww_iload_n hx hb dX5_setRates_55 rfl 3 rfl ?_
      obtain ⟨rfl, rfl⟩ := os2 h
      exact ww_iret hx hb hr hlk rfl dX5_setRates_56
    · replace h := it_n c_4 h
      refine ww_iconst (v := 0) hx hb dX5_setRates_38 (by decide) ?_
      obtain ⟨rfl, rfl⟩ := os2 h
      exact ww_iret hx hb hr hlk rfl dX5_setRates_39
  have bk27 : ∀ (τ : SS) (x1 : Int32) (x2 : Int32), X5_setRates_b27 τ x1 x2 = some (r, σ1) → WW p l e (rmc 1 40 0 0) s m args below meth c D vwCl (va_A (WR q cA σ) s.heap.size) 4 0 0 (MQ below (qcW D vwCl (WR q cA σ) (WR q cA σ1) (some (.int r)) s.heap.size) args s 0 0 (va_A (WR q cA σ) s.heap.size)) (WR q cA τ) 27 [(0, .ref (q 0)), (1, .int (x1)), (2, .int (x2))] [.ref (q 0)] := by
    intro τ x1 x2 h
    unfold X5_setRates_b27 at h
    refine ww_iconst (v := 1) hx hb dX5_setRates_27 (by decide) ?_
    exact ww_sub (lv1 := [(0, .ref (q 0)), (1, .int (x1)), (2, .int (x2))]) [0, 1, 2] rfl (bk28 _ _ _ _ h)
  refine ww_sub (lv1 := [(0, .ref (q 0)), (1, .int (x1)), (2, .int (x2))]) [0, 1, 2] rfl ?_
  refine ww_aload_n hx hb dX5_setRates_0 rfl 0 rfl ?_
  refine ww_iload_n hx hb dX5_setRates_1 rfl 1 rfl ?_
  refine ww_iconst (v := 0) hx hb dX5_setRates_2 (by decide) ?_
  refine ww_sipush (v := 1000) hx hb dX5_setRates_3 (by decide) ?_
  refine ww_callS (ws1 := WR q cA σ) (st1 := [.int (X5_isIn x1 (0 : Int32) (1000 : Int32)), .ref (q 0)]) hx hb hml hown hts hK hN hA (hDD _) (Nat.zero_le _) (Nat.zero_le _) [.int (x1), .int ((0 : Int32)), .int ((1000 : Int32))] [.ref (q 0)] (m_X5_isIn σ x1 (0 : Int32) (1000 : Int32)) cs_X5_74 rfl (by decide) rfl (Nat.le_of_ble_eq_true rfl) dX5_setRates_6 rfl ?_
  refine ww_eq0 (tgt := 27) hx hb dX5_setRates_9 (by decide) (fun c_1 => ?_) (fun c_1 => ?_)
  · replace h := it_p c_1 h
    exact ww_sub (lv1 := [(0, .ref (q 0)), (1, .int (x1)), (2, .int (x2))]) [0, 1, 2] rfl (bk27 _ _ _ h)
  · replace h := it_n c_1 h
    refine ww_iload_n hx hb dX5_setRates_12 rfl 2 rfl ?_
    refine ww_iconst (v := 0) hx hb dX5_setRates_13 (by decide) ?_
    refine ww_sipush (v := 1000) hx hb dX5_setRates_14 (by decide) ?_
    refine ww_callS (ws1 := WR q cA σ) (st1 := [.int (X5_isIn x2 (0 : Int32) (1000 : Int32)), .ref (q 0)]) hx hb hml hown hts hK hN hA (hDD _) (Nat.zero_le _) (Nat.zero_le _) [.int (x2), .int ((0 : Int32)), .int ((1000 : Int32))] [.ref (q 0)] (m_X5_isIn σ x2 (0 : Int32) (1000 : Int32)) cs_X5_74 rfl (by decide) rfl (Nat.le_of_ble_eq_true rfl) dX5_setRates_17 rfl ?_
    refine ww_eq0 (tgt := 27) hx hb dX5_setRates_20 (by decide) (fun c_2 => ?_) (fun c_2 => ?_)
    · replace h := it_p c_2 h
      exact ww_sub (lv1 := [(0, .ref (q 0)), (1, .int (x1)), (2, .int (x2))]) [0, 1, 2] rfl (bk27 _ _ _ h)
    · replace h := it_n c_2 h
      refine ww_iconst (v := 0) hx hb dX5_setRates_23 (by decide) ?_
      refine ww_goto (tgt := 28) hx hb dX5_setRates_24 (by decide) ?_
      exact ww_sub (lv1 := [(0, .ref (q 0)), (1, .int (x1)), (2, .int (x2))]) [0, 1, 2] rfl (bk28 _ _ _ _ h)
set_option maxHeartbeats 4000000 in
set_option maxRecDepth 100000 in
theorem m_X5_hold (σ : SS) (x1 : Int32) (r : Int32) (σ1 : SS) (h : X5_hold σ x1 = some (r, σ1)) : Ct l yX5_hold cX5_hold 3 (some .boolean) 0 0 D vwCl [(cA, .int)] (WR q cA σ) (WR q cA σ1) [.ref (q 0), .int (x1)] (some (.int r)) := by
  refine ct_of (by decide +kernel) (Nat.le_of_ble_eq_true rfl) ?_
  intro p e s m args below meth c hx hb hr hlk hml hown hts hK hD hN hA
  have hown : s.vm.findClass RX5 = some m.cls := hown
  have hDD : ∀ τ : SS, va_D (va_A (WR q cA σ) s.heap.size) (WR q cA τ) := fun τ => hD.adr rfl
  unfold X5_hold at h
  refine ww_sub (lv1 := [(0, .ref (q 0)), (1, .int (x1))]) [0, 1] rfl ?_
  refine ww_aload_n hx hb dX5_hold_0 rfl 0 rfl ?_
  refine ww_iconst (v := 0) hx hb dX5_hold_1 (by decide) ?_
  obtain ⟨σ_1, e_1, h⟩ := lt_e h
  refine ww_put (C := RX5) (T := TX5) (N := 36) (ty := .int) (ws1 := WR q cA (σ_1)) hx hb hown hts hK inA5 tyX5 tyX5_ok nmX5 (hDD _) 0 rfl rfl 35 (by decide) kw_259 rfl rfl rfl rfl rfl (Nat.le_of_ble_eq_true rfl) dX5_hold_2 (e_1 ▸ rfl) ?_
  refine ww_aload_n hx hb dX5_hold_5 rfl 0 rfl ?_
  refine ww_get (C := RX5) (T := TX5) (N := 36) hx hb hown hts hK inA5 0 rfl rfl 13 (by decide) kw_319 rfl rfl dX5_hold_6 ?_
  refine ww_istore_n (i := 2) (lv1 := [(0, .ref (q 0)), (1, .int (x1)), (2, .int (σ_1 0 13))]) hx hb dX5_hold_9 rfl (by decide) [1, 2, 0] rfl ?_
  refine ww_aload_n hx hb dX5_hold_10 rfl 0 rfl ?_
  refine ww_iload_n hx hb dX5_hold_11 rfl 1 rfl ?_
  obtain ⟨g_2, h⟩ := og h
  obtain ⟨σ_3, e_3, h⟩ := lt_e h
  refine ww_put (C := RX5) (T := TX5) (N := 36) (ty := .boolean) (ws1 := WR q cA (σ_3)) hx hb hown hts hK inA5 tyX5 tyX5_ok nmX5 (hDD _) 0 rfl rfl 13 (by decide) kw_319 rfl rfl rfl (isZ_narrow g_2) (isZ_fits g_2) (Nat.le_of_ble_eq_true rfl) dX5_hold_12 (e_3 ▸ rfl) ?_
  refine ww_iload_n hx hb dX5_hold_15 rfl 2 rfl ?_
  obtain ⟨g_4, h⟩ := og h
  obtain ⟨rfl, rfl⟩ := os2 h
  exact ww_zret hx hb hr hlk g_4 rfl dX5_hold_16
set_option maxHeartbeats 4000000 in
set_option maxRecDepth 100000 in
theorem m_X5_lacks (σ : SS) (x1 x2 : Int32) (r : Int32) (h : X5_lacks σ x1 x2 = some r) : Ct l yX5_lacks cX5_lacks 3 (some .int) 0 0 D vwCl [(cA, .int)] (WR q cA σ) (WR q cA σ) [.ref (q 0), .int (x1), .int (x2)] (some (.int r)) := by
  refine ct_of (by decide +kernel) (Nat.le_of_ble_eq_true rfl) ?_
  intro p e s m args below meth c hx hb hr hlk hml hown hts hK hD hN hA
  have hown : s.vm.findClass RX5 = some m.cls := hown
  have hDD : ∀ τ : SS, va_D (va_A (WR q cA σ) s.heap.size) (WR q cA τ) := fun τ => hD.adr rfl
  unfold X5_lacks at h
  refine ww_sub (lv1 := [(0, .ref (q 0)), (1, .int (x1)), (2, .int (x2))]) [0, 1, 2] rfl ?_
  refine ww_iload_n hx hb dX5_lacks_0 rfl 2 rfl ?_
  refine ww_aload_n hx hb dX5_lacks_1 rfl 0 rfl ?_
  refine ww_get (C := RX5) (T := TX5) (N := 36) hx hb hown hts hK inA5 0 rfl rfl 21 (by decide) kw_320 rfl rfl dX5_lacks_2 ?_
  refine ww_iload_n hx hb dX5_lacks_5 rfl 1 rfl ?_
  obtain ⟨g_1, h⟩ := og h
  refine ww_iald hx hb hown hts hK 11 0 rfl rfl g_1 dX5_lacks_6 ?_
  refine ww_le2 (tgt := 21) hx hb dX5_lacks_7 (by decide) (fun c_2 => ?_) (fun c_2 => ?_)
  · replace h := it_p c_2 h
    refine ww_iconst (v := 0) hx hb dX5_lacks_21 (by decide) ?_
    obtain rfl := os1 h
    exact ww_iret hx hb hr hlk rfl dX5_lacks_22
  · replace h := it_n c_2 h
    refine ww_iload_n hx hb dX5_lacks_10 rfl 2 rfl ?_
    refine ww_aload_n hx hb dX5_lacks_11 rfl 0 rfl ?_
    refine ww_get (C := RX5) (T := TX5) (N := 36) hx hb hown hts hK inA5 0 rfl rfl 21 (by decide) kw_320 rfl rfl dX5_lacks_12 ?_
    refine ww_iload_n hx hb dX5_lacks_15 rfl 1 rfl ?_
    obtain ⟨g_3, h⟩ := og h
    refine ww_iald hx hb hown hts hK 11 0 rfl rfl g_3 dX5_lacks_16 ?_
    refine ww_isub hx hb dX5_lacks_17 ?_
    refine ww_goto (tgt := 22) hx hb dX5_lacks_18 (by decide) ?_
    obtain rfl := os1 h
    exact ww_iret hx hb hr hlk rfl dX5_lacks_22
set_option maxHeartbeats 4000000 in
set_option maxRecDepth 100000 in
theorem m_X5_pays (σ : SS) (x1 x2 : Int32) (σ1 : SS) (h : X5_pays σ x1 x2 = some σ1) : Ct l yX5_pays cX5_pays 4 none 1 40 D vwCl [(cA, .int)] (WR q cA σ) (WR q cA σ1) [.ref (q 0), .int (x1), .int (x2)] none := by
  refine ct_of (by decide +kernel) (Nat.le_of_ble_eq_true rfl) ?_
  intro p e s m args below meth c hx hb hr hlk hml hown hts hK hD hN hA
  have hown : s.vm.findClass RX5 = some m.cls := hown
  have hDD : ∀ τ : SS, va_D (va_A (WR q cA σ) s.heap.size) (WR q cA τ) := fun τ => hD.adr rfl
  unfold X5_pays at h
  refine ww_sub (lv1 := [(0, .ref (q 0)), (1, .int (x1)), (2, .int (x2))]) [0, 1, 2] rfl ?_
  refine ww_aload_n hx hb dX5_pays_0 rfl 0 rfl ?_
  refine ww_iload_n hx hb dX5_pays_1 rfl 1 rfl ?_
  refine ww_iload_n hx hb dX5_pays_2 rfl 2 rfl ?_
  obtain ⟨r_1, e_1, h⟩ := ob h
  refine ww_callV (ws1 := WR q cA σ) (st1 := [.int (r_1)]) hx hb hml hown hts hK hN hA (hDD _) (Nat.zero_le _) (Nat.zero_le _) [.int (x1), .int (x2)] [] (m_X5_lacks _ _ _ _ e_1) cs_X5_137 rfl (by decide) 0 rfl rfl rfl (Nat.le_of_ble_eq_true rfl) dX5_pays_3 rfl ?_
  refine ww_istore_n (i := 3) (lv1 := [(0, .ref (q 0)), (1, .int (x1)), (2, .int (x2)), (3, .int (r_1))]) hx hb dX5_pays_6 rfl (by decide) [1, 2, 3, 0] rfl ?_
  refine ww_aload_n hx hb dX5_pays_7 rfl 0 rfl ?_
  refine ww_get (C := RX5) (T := TX5) (N := 36) hx hb hown hts hK inA5 0 rfl rfl 21 (by decide) kw_320 rfl rfl dX5_pays_8 ?_
  refine ww_iload_n hx hb dX5_pays_11 rfl 1 rfl ?_
  refine ww_dup2 hx hb dX5_pays_12 rfl rfl ?_
  obtain ⟨g_2, h⟩ := og h
  refine ww_iald hx hb hown hts hK 11 0 rfl rfl g_2 dX5_pays_13 ?_
  refine ww_iload_n hx hb dX5_pays_14 rfl 2 rfl ?_
  refine ww_iload_n hx hb dX5_pays_15 rfl 3 rfl ?_
  refine ww_isub hx hb dX5_pays_16 ?_
  refine ww_isub hx hb dX5_pays_17 ?_
  obtain ⟨g_3, h⟩ := og h
  obtain ⟨σ_4, e_4, h⟩ := lt_e h
  refine ww_iast (ws1 := WR q cA (σ_4)) hx hb hown hts hK (hDD _) 11 0 rfl rfl g_3 dX5_pays_18 (e_4 ▸ rfl) ?_
  refine ww_aload_n hx hb dX5_pays_19 rfl 0 rfl ?_
  refine ww_dup hx hb dX5_pays_20 rfl ?_
  refine ww_get (C := RX5) (T := TX5) (N := 36) hx hb hown hts hK inA5 0 rfl rfl 22 (by decide) kw_325 rfl rfl dX5_pays_21 ?_
  refine ww_iload_n hx hb dX5_pays_24 rfl 3 rfl ?_
  refine ww_isub hx hb dX5_pays_25 ?_
  obtain ⟨σ_5, e_5, h⟩ := lt_e h
  refine ww_put (C := RX5) (T := TX5) (N := 36) (ty := .int) (ws1 := WR q cA (σ_5)) hx hb hown hts hK inA5 tyX5 tyX5_ok nmX5 (hDD _) 0 rfl rfl 22 (by decide) kw_325 rfl rfl rfl rfl rfl (Nat.le_of_ble_eq_true rfl) dX5_pays_26 (e_5 ▸ rfl) ?_
  refine ww_aload_n hx hb dX5_pays_29 rfl 0 rfl ?_
  refine ww_dup hx hb dX5_pays_30 rfl ?_
  refine ww_get (C := RX5) (T := TX5) (N := 36) hx hb hown hts hK inA5 0 rfl rfl 23 (by decide) kw_326 rfl rfl dX5_pays_31 ?_
  refine ww_iload_n hx hb dX5_pays_34 rfl 2 rfl ?_
  refine ww_iadd hx hb dX5_pays_35 ?_
  obtain ⟨σ_6, e_6, h⟩ := lt_e h
  refine ww_put (C := RX5) (T := TX5) (N := 36) (ty := .int) (ws1 := WR q cA (σ_6)) hx hb hown hts hK inA5 tyX5 tyX5_ok nmX5 (hDD _) 0 rfl rfl 23 (by decide) kw_326 rfl rfl rfl rfl rfl (Nat.le_of_ble_eq_true rfl) dX5_pays_36 (e_6 ▸ rfl) ?_
  refine ww_aload_n hx hb dX5_pays_39 rfl 0 rfl ?_
  refine ww_dup hx hb dX5_pays_40 rfl ?_
  refine ww_get (C := RX5) (T := TX5) (N := 36) hx hb hown hts hK inA5 0 rfl rfl 24 (by decide) kw_327 rfl rfl dX5_pays_41 ?_
  refine ww_iload_n hx hb dX5_pays_44 rfl 2 rfl ?_
  refine ww_iadd hx hb dX5_pays_45 ?_
  obtain ⟨σ_7, e_7, h⟩ := lt_e h
  refine ww_put (C := RX5) (T := TX5) (N := 36) (ty := .int) (ws1 := WR q cA (σ_7)) hx hb hown hts hK inA5 tyX5 tyX5_ok nmX5 (hDD _) 0 rfl rfl 24 (by decide) kw_327 rfl rfl rfl rfl rfl (Nat.le_of_ble_eq_true rfl) dX5_pays_46 (e_7 ▸ rfl) ?_
  obtain rfl := os1 h
  exact ww_vret hx hb hr hlk dX5_pays_49
set_option maxHeartbeats 4000000 in
set_option maxRecDepth 100000 in
theorem m_X5_shoot (σ : SS) (x1 : Int32) (r : Int32) (σ1 : SS) (h : X5_shoot σ x1 = some (r, σ1)) : Ct l yX5_shoot cX5_shoot 7 (some .int) 5 200 D vwCl [(cA, .int)] (WR q cA σ) (WR q cA σ1) [.ref (q 0), .int (x1)] (some (.int r)) := by
  refine ct_of (by decide +kernel) (Nat.le_of_ble_eq_true rfl) ?_
  intro p e s m args below meth c hx hb hr hlk hml hown hts hK hD hN hA
  have hown : s.vm.findClass RX5 = some m.cls := hown
  have hDD : ∀ τ : SS, va_D (va_A (WR q cA σ) s.heap.size) (WR q cA τ) := fun τ => hD.adr rfl
  unfold X5_shoot at h
  have lp217 : ∀ (n : Nat) (τ : SS) (x2 : Int32) (x5 : Int32) (x6 : Int32), X5_shoot_l217 n τ x2 x5 x6 = some (r, σ1) → WW p l e (rmc 5 200 0 0) s m args below meth c D vwCl (va_A (WR q cA σ) s.heap.size) 7 0 0 (MQ below (qcW D vwCl (WR q cA σ) (WR q cA σ1) (some (.int r)) s.heap.size) args s 0 0 (va_A (WR q cA σ) s.heap.size)) (WR q cA τ) 217 [(0, .ref (q 0)), (2, .int (x2)), (5, .int (x5)), (6, .int (x6))] [] := by
    intro n
    induction n with
    | zero => intro τ x2 x5 x6 h; rw [X5_shoot_l217] at h; cases h
    | succ n ih =>
      have bk269 : ∀ (τ : SS) (x2 : Int32) (x5 : Int32) (x6 : Int32), X5_shoot_b269 (X5_shoot_l217 n) τ x2 x5 x6 = some (r, σ1) → WW p l e (rmc 5 200 0 0) s m args below meth c D vwCl (va_A (WR q cA σ) s.heap.size) 7 0 0 (MQ below (qcW D vwCl (WR q cA σ) (WR q cA σ1) (some (.int r)) s.heap.size) args s 0 0 (va_A (WR q cA σ) s.heap.size)) (WR q cA τ) 269 [(0, .ref (q 0)), (2, .int (x2)), (5, .int (x5)), (6, .int (x6))] [] := by
        intro τ x2 x5 x6 h
        unfold X5_shoot_b269 at h
        refine ww_iinc (i := 6) (k := 3) (v := 1) (lv1 := [(0, .ref (q 0)), (2, .int (x2)), (5, .int (x5)), (6, .int (x6 + 1))]) hx hb dX5_shoot_269 rfl (by decide) (by decide) [1, 2, 3, 0] rfl ?_
        refine ww_goto (tgt := 217) hx hb dX5_shoot_272 (by decide) ?_
        exact ww_sub (lv1 := [(0, .ref (q 0)), (2, .int (x2)), (5, .int (x5)), (6, .int (x6 + 1))]) [0, 1, 2, 3] rfl (ih _ _ _ _ h)
      intro τ x2 x5 x6 h
      rw [X5_shoot_l217] at h
      refine ww_iload hx hb dX5_shoot_217 3 rfl ?_
      refine ww_aload_n hx hb dX5_shoot_219 rfl 0 rfl ?_
      refine ww_get (C := RX5) (T := TX5) (N := 36) hx hb hown hts hK inA5 0 rfl rfl 16 (by decide) kw_288 rfl rfl dX5_shoot_220 ?_
      refine ww_ge2 (tgt := 275) hx hb dX5_shoot_223 (by decide) (fun c_17 => ?_) (fun c_17 => ?_)
      · replace h := it_p c_17 h
        refine ww_aload_n hx hb dX5_shoot_275 rfl 0 rfl ?_
        refine ww_iload_n hx hb dX5_shoot_276 rfl 1 rfl ?_
        obtain ⟨σ_18, e_18, h⟩ := lt_e h
        refine ww_put (C := RX5) (T := TX5) (N := 36) (ty := .int) (ws1 := WR q cA (σ_18)) hx hb hown hts hK inA5 tyX5 tyX5_ok nmX5 (hDD _) 0 rfl rfl 6 (by decide) kw_267 rfl rfl rfl rfl rfl (Nat.le_of_ble_eq_true rfl) dX5_shoot_277 (e_18 ▸ rfl) ?_
        refine ww_aload_n hx hb dX5_shoot_280 rfl 0 rfl ?_
        refine ww_dup hx hb dX5_shoot_281 rfl ?_
        refine ww_get (C := RX5) (T := TX5) (N := 36) hx hb hown hts hK inA5 0 rfl rfl 10 (by decide) kw_276 rfl rfl dX5_shoot_282 ?_
        refine ww_iconst (v := 1) hx hb dX5_shoot_285 (by decide) ?_
        refine ww_iadd hx hb dX5_shoot_286 ?_
        obtain ⟨σ_19, e_19, h⟩ := lt_e h
        refine ww_put (C := RX5) (T := TX5) (N := 36) (ty := .int) (ws1 := WR q cA (σ_19)) hx hb hown hts hK inA5 tyX5 tyX5_ok nmX5 (hDD _) 0 rfl rfl 10 (by decide) kw_276 rfl rfl rfl rfl rfl (Nat.le_of_ble_eq_true rfl) dX5_shoot_287 (e_19 ▸ rfl) ?_
        refine ww_aload_n hx hb dX5_shoot_290 rfl 0 rfl ?_
        refine ww_iconst (v := 1) hx hb dX5_shoot_291 (by decide) ?_
        obtain ⟨σ_20, e_20, h⟩ := lt_e h
        refine ww_put (C := RX5) (T := TX5) (N := 36) (ty := .boolean) (ws1 := WR q cA (σ_20)) hx hb hown hts hK inA5 tyX5 tyX5_ok nmX5 (hDD _) 0 rfl rfl 18 (by decide) kw_293 rfl rfl rfl (isZ_narrow (by decide)) (isZ_fits (by decide)) (Nat.le_of_ble_eq_true rfl) dX5_shoot_292 (e_20 ▸ rfl) ?_
        refine ww_iload hx hb dX5_shoot_295 2 rfl ?_
        obtain ⟨rfl, rfl⟩ := os2 h
        exact ww_iret hx hb hr hlk rfl dX5_shoot_297
      · replace h := it_n c_17 h
        refine ww_iload_n hx hb dX5_shoot_226 rfl 1 rfl ?_
        refine ww_aload_n hx hb dX5_shoot_227 rfl 0 rfl ?_
        refine ww_get (C := RX5) (T := TX5) (N := 36) hx hb hown hts hK inA5 0 rfl rfl 6 (by decide) kw_267 rfl rfl dX5_shoot_228 ?_
        refine ww_iconst (v := -1) hx hb dX5_shoot_231 (by decide) ?_
        refine ww_ixor hx hb dX5_shoot_232 ?_
        refine ww_iand hx hb dX5_shoot_233 ?_
        refine ww_iconst (v := 1) hx hb dX5_shoot_234 (by decide) ?_
        refine ww_aload_n hx hb dX5_shoot_235 rfl 0 rfl ?_
        refine ww_get (C := RX5) (T := TX5) (N := 36) hx hb hown hts hK inA5 0 rfl rfl 14 (by decide) kw_289 rfl rfl dX5_shoot_236 ?_
        refine ww_iload hx hb dX5_shoot_239 3 rfl ?_
        obtain ⟨g_21, h⟩ := og h
        refine ww_iald hx hb hown hts hK 7 0 rfl rfl g_21 dX5_shoot_241 ?_
        refine ww_ishl hx hb dX5_shoot_242 ?_
        refine ww_iand hx hb dX5_shoot_243 ?_
        refine ww_eq0 (tgt := 269) hx hb dX5_shoot_244 (by decide) (fun c_22 => ?_) (fun c_22 => ?_)
        · replace h := it_p c_22 h
          exact ww_sub (lv1 := [(0, .ref (q 0)), (2, .int (x2)), (5, .int (x5)), (6, .int (x6))]) [0, 1, 2, 3] rfl (bk269 _ _ _ _ h)
        · replace h := it_n c_22 h
          refine ww_aload_n hx hb dX5_shoot_247 rfl 0 rfl ?_
          refine ww_get (C := RX5) (T := TX5) (N := 36) hx hb hown hts hK inA5 0 rfl rfl 7 (by decide) kw_268 rfl rfl dX5_shoot_248 ?_
          refine ww_aload_n hx hb dX5_shoot_251 rfl 0 rfl ?_
          refine ww_get (C := RX5) (T := TX5) (N := 36) hx hb hown hts hK inA5 0 rfl rfl 14 (by decide) kw_289 rfl rfl dX5_shoot_252 ?_
          refine ww_iload hx hb dX5_shoot_255 3 rfl ?_
          obtain ⟨g_23, h⟩ := og h
          refine ww_iald hx hb hown hts hK 7 0 rfl rfl g_23 dX5_shoot_257 ?_
          refine ww_aload_n hx hb dX5_shoot_258 rfl 0 rfl ?_
          refine ww_get (C := RX5) (T := TX5) (N := 36) hx hb hown hts hK inA5 0 rfl rfl 15 (by decide) kw_290 rfl rfl dX5_shoot_259 ?_
          refine ww_iload hx hb dX5_shoot_262 3 rfl ?_
          obtain ⟨g_24, h⟩ := og h
          refine ww_iald hx hb hown hts hK 8 0 rfl rfl g_24 dX5_shoot_264 ?_
          obtain ⟨g_25, h⟩ := og h
          obtain ⟨σ_26, e_26, h⟩ := lt_e h
          refine ww_iast (ws1 := WR q cA (σ_26)) hx hb hown hts hK (hDD _) 6 0 rfl rfl g_25 dX5_shoot_265 (e_26 ▸ rfl) ?_
          refine ww_iinc (i := 5) (k := 2) (v := 1) (lv1 := [(0, .ref (q 0)), (2, .int (x2)), (5, .int (x5 + 1)), (6, .int (x6))]) hx hb dX5_shoot_266 rfl (by decide) (by decide) [1, 2, 0, 3] rfl ?_
          exact ww_sub (lv1 := [(0, .ref (q 0)), (2, .int (x2)), (5, .int (x5 + 1)), (6, .int (x6))]) [0, 1, 2, 3] rfl (bk269 _ _ _ _ h)
  have bk186 : ∀ (τ : SS) (x2 : Int32) (x3 : Int32) (x4 : Int32) (y1 : Int32), X5_shoot_b186 τ x2 x3 x4 y1 = some (r, σ1) → WW p l e (rmc 5 200 0 0) s m args below meth c D vwCl (va_A (WR q cA σ) s.heap.size) 7 0 0 (MQ below (qcW D vwCl (WR q cA σ) (WR q cA σ1) (some (.int r)) s.heap.size) args s 0 0 (va_A (WR q cA σ) s.heap.size)) (WR q cA τ) 186 [(0, .ref (q 0)), (2, .int (x2)), (3, .int (x3)), (4, .int (x4))] [.int (y1), .ref (q 0)] := by
    intro τ x2 x3 x4 y1 h
    unfold X5_shoot_b186 at h
    obtain ⟨σ_13, e_13, h⟩ := lt_e h
    refine ww_put (C := RX5) (T := TX5) (N := 36) (ty := .int) (ws1 := WR q cA (σ_13)) hx hb hown hts hK inA5 tyX5 tyX5_ok nmX5 (hDD _) 0 rfl rfl 35 (by decide) kw_259 rfl rfl rfl rfl rfl (Nat.le_of_ble_eq_true rfl) dX5_shoot_186 (e_13 ▸ rfl) ?_
    refine ww_aload_n hx hb dX5_shoot_189 rfl 0 rfl ?_
    refine ww_get (C := RX5) (T := TX5) (N := 36) hx hb hown hts hK inA5 0 rfl rfl 35 (by decide) kw_259 rfl rfl dX5_shoot_190 ?_
    refine ww_le0 (tgt := 198) hx hb dX5_shoot_193 (by decide) (fun c_14 => ?_) (fun c_14 => ?_)
    · replace h := it_p c_14 h
      refine ww_aload_n hx hb dX5_shoot_198 rfl 0 rfl ?_
      refine ww_iconst (v := 0) hx hb dX5_shoot_199 (by decide) ?_
      refine ww_iload_n hx hb dX5_shoot_200 rfl 2 rfl ?_
      obtain ⟨σ_15, e_15, h⟩ := ob h
      refine ww_callV (ws1 := WR q cA σ_15) (st1 := []) hx hb hml hown hts hK hN hA (hDD _) (Nat.zero_le _) (Nat.zero_le _) [.int ((0 : Int32)), .int (x3)] [] (m_X5_pays _ _ _ _ e_15) cs_X5_153 rfl (by decide) 0 rfl rfl rfl (Nat.le_of_ble_eq_true rfl) dX5_shoot_201 rfl ?_
      refine ww_aload_n hx hb dX5_shoot_204 rfl 0 rfl ?_
      refine ww_iconst (v := 1) hx hb dX5_shoot_205 (by decide) ?_
      refine ww_iload hx hb dX5_shoot_206 3 rfl ?_
      obtain ⟨σ_16, e_16, h⟩ := ob h
      refine ww_callV (ws1 := WR q cA σ_16) (st1 := []) hx hb hml hown hts hK hN hA (hDD _) (Nat.zero_le _) (Nat.zero_le _) [.int ((1 : Int32)), .int (x4)] [] (m_X5_pays _ _ _ _ e_16) cs_X5_153 rfl (by decide) 0 rfl rfl rfl (Nat.le_of_ble_eq_true rfl) dX5_shoot_208 rfl ?_
      refine ww_iconst (v := 0) hx hb dX5_shoot_211 (by decide) ?_
      refine ww_istore (i := 5) (lv1 := [(0, .ref (q 0)), (2, .int (x2)), (5, .int ((0 : Int32)))]) hx hb dX5_shoot_212 (by decide) [1, 2, 0] rfl ?_
      refine ww_iconst (v := 0) hx hb dX5_shoot_214 (by decide) ?_
      refine ww_istore (i := 6) (lv1 := [(0, .ref (q 0)), (2, .int (x2)), (5, .int ((0 : Int32))), (6, .int ((0 : Int32)))]) hx hb dX5_shoot_215 (by decide) [1, 2, 3, 0] rfl ?_
      exact ww_sub (lv1 := [(0, .ref (q 0)), (2, .int (x2)), (5, .int ((0 : Int32))), (6, .int ((0 : Int32)))]) [0, 1, 2, 3] rfl (lp217 _ _ _ _ _ h)
    · replace h := it_n c_14 h
      refine ww_iconst (v := 0) hx hb dX5_shoot_196 (by decide) ?_
      obtain ⟨rfl, rfl⟩ := os2 h
      exact ww_iret hx hb hr hlk rfl dX5_shoot_197
  have bk181 : ∀ (τ : SS) (x2 : Int32) (x3 : Int32) (x4 : Int32), X5_shoot_b181 τ x2 x3 x4 = some (r, σ1) → WW p l e (rmc 5 200 0 0) s m args below meth c D vwCl (va_A (WR q cA σ) s.heap.size) 7 0 0 (MQ below (qcW D vwCl (WR q cA σ) (WR q cA σ1) (some (.int r)) s.heap.size) args s 0 0 (va_A (WR q cA σ) s.heap.size)) (WR q cA τ) 181 [(0, .ref (q 0)), (2, .int (x2)), (3, .int (x3)), (4, .int (x4))] [.ref (q 0)] := by
    intro τ x2 x3 x4 h
    unfold X5_shoot_b181 at h
    refine ww_iconst (v := 1) hx hb dX5_shoot_181 (by decide) ?_
    refine ww_goto (tgt := 186) hx hb dX5_shoot_182 (by decide) ?_
    exact ww_sub (lv1 := [(0, .ref (q 0)), (2, .int (x2)), (3, .int (x3)), (4, .int (x4))]) [0, 1, 2, 3] rfl (bk186 _ _ _ _ _ h)
  have bk147 : ∀ (τ : SS) (x2 : Int32) (x3 : Int32) (y0 : Int32), X5_shoot_b147 τ x2 x3 y0 = some (r, σ1) → WW p l e (rmc 5 200 0 0) s m args below meth c D vwCl (va_A (WR q cA σ) s.heap.size) 7 0 0 (MQ below (qcW D vwCl (WR q cA σ) (WR q cA σ1) (some (.int r)) s.heap.size) args s 0 0 (va_A (WR q cA σ) s.heap.size)) (WR q cA τ) 147 [(0, .ref (q 0)), (2, .int (x2)), (3, .int (x3))] [.int (y0)] := by
    intro τ x2 x3 y0 h
    unfold X5_shoot_b147 at h
    refine ww_istore (i := 4) (lv1 := [(0, .ref (q 0)), (2, .int (x2)), (3, .int (x3)), (4, .int (y0))]) hx hb dX5_shoot_147 (by decide) [1, 2, 3, 0] rfl ?_
    refine ww_aload_n hx hb dX5_shoot_149 rfl 0 rfl ?_
    refine ww_aload_n hx hb dX5_shoot_150 rfl 0 rfl ?_
    refine ww_iconst (v := 0) hx hb dX5_shoot_151 (by decide) ?_
    refine ww_iload_n hx hb dX5_shoot_152 rfl 2 rfl ?_
    obtain ⟨r_9, e_9, h⟩ := ob h
    refine ww_callV (ws1 := WR q cA τ) (st1 := [.int (r_9), .ref (q 0)]) hx hb hml hown hts hK hN hA (hDD _) (Nat.zero_le _) (Nat.zero_le _) [.int ((0 : Int32)), .int (x3)] [.ref (q 0)] (m_X5_lacks _ _ _ _ e_9) cs_X5_137 rfl (by decide) 0 rfl rfl rfl (Nat.le_of_ble_eq_true rfl) dX5_shoot_153 rfl ?_
    refine ww_aload_n hx hb dX5_shoot_156 rfl 0 rfl ?_
    refine ww_iconst (v := 1) hx hb dX5_shoot_157 (by decide) ?_
    refine ww_iload hx hb dX5_shoot_158 3 rfl ?_
    obtain ⟨r_10, e_10, h⟩ := ob h
    refine ww_callV (ws1 := WR q cA τ) (st1 := [.int (r_10), .int (r_9), .ref (q 0)]) hx hb hml hown hts hK hN hA (hDD _) (Nat.zero_le _) (Nat.zero_le _) [.int ((1 : Int32)), .int (y0)] [.int (r_9), .ref (q 0)] (m_X5_lacks _ _ _ _ e_10) cs_X5_137 rfl (by decide) 0 rfl rfl rfl (Nat.le_of_ble_eq_true rfl) dX5_shoot_160 rfl ?_
    refine ww_iadd hx hb dX5_shoot_163 ?_
    refine ww_aload_n hx hb dX5_shoot_164 rfl 0 rfl ?_
    refine ww_get (C := RX5) (T := TX5) (N := 36) hx hb hown hts hK inA5 0 rfl rfl 22 (by decide) kw_325 rfl rfl dX5_shoot_165 ?_
    refine ww_gt2 (tgt := 181) hx hb dX5_shoot_168 (by decide) (fun c_11 => ?_) (fun c_11 => ?_)
    · replace h := it_p c_11 h
      exact ww_sub (lv1 := [(0, .ref (q 0)), (2, .int (x2)), (3, .int (x3)), (4, .int (y0))]) [0, 1, 2, 3] rfl (bk181 _ _ _ _ h)
    · replace h := it_n c_11 h
      refine ww_aload_n hx hb dX5_shoot_171 rfl 0 rfl ?_
      refine ww_get (C := RX5) (T := TX5) (N := 36) hx hb hown hts hK inA5 0 rfl rfl 10 (by decide) kw_276 rfl rfl dX5_shoot_172 ?_
      refine ww_sipush (v := 1000) hx hb dX5_shoot_175 (by decide) ?_
      refine ww_ne2 (tgt := 185) hx hb dX5_shoot_178 (by decide) (fun c_12 => ?_) (fun c_12 => ?_)
      · replace h := it_n c_12 h
        refine ww_iconst (v := 0) hx hb dX5_shoot_185 (by decide) ?_
        exact ww_sub (lv1 := [(0, .ref (q 0)), (2, .int (x2)), (3, .int (x3)), (4, .int (y0))]) [0, 1, 2, 3] rfl (bk186 _ _ _ _ _ h)
      · replace h := it_p c_12 h
        exact ww_sub (lv1 := [(0, .ref (q 0)), (2, .int (x2)), (3, .int (x3)), (4, .int (y0))]) [0, 1, 2, 3] rfl (bk181 _ _ _ _ h)
  have lp14 : ∀ (n : Nat) (τ : SS) (x1 : Int32) (x2 : Int32) (x3 : Int32) (x4 : Int32), X5_shoot_l14 n τ x1 x2 x3 x4 = some (r, σ1) → WW p l e (rmc 5 200 0 0) s m args below meth c D vwCl (va_A (WR q cA σ) s.heap.size) 7 0 0 (MQ below (qcW D vwCl (WR q cA σ) (WR q cA σ1) (some (.int r)) s.heap.size) args s 0 0 (va_A (WR q cA σ) s.heap.size)) (WR q cA τ) 14 [(0, .ref (q 0)), (1, .int (x1)), (2, .int (x2)), (3, .int (x3)), (4, .int (x4))] [] := by
    intro n
    induction n with
    | zero => intro τ x1 x2 x3 x4 h; rw [X5_shoot_l14] at h; cases h
    | succ n ih =>
      have bk126 : ∀ (τ : SS) (x1 : Int32) (x2 : Int32) (x3 : Int32) (x4 : Int32), X5_shoot_b126 (X5_shoot_l14 n) τ x1 x2 x3 x4 = some (r, σ1) → WW p l e (rmc 5 200 0 0) s m args below meth c D vwCl (va_A (WR q cA σ) s.heap.size) 7 0 0 (MQ below (qcW D vwCl (WR q cA σ) (WR q cA σ1) (some (.int r)) s.heap.size) args s 0 0 (va_A (WR q cA σ) s.heap.size)) (WR q cA τ) 126 [(0, .ref (q 0)), (1, .int (x1)), (2, .int (x2)), (3, .int (x3)), (4, .int (x4))] [] := by
        intro τ x1 x2 x3 x4 h
        unfold X5_shoot_b126 at h
        refine ww_iinc (i := 4) (k := 4) (v := 1) (lv1 := [(0, .ref (q 0)), (1, .int (x1)), (2, .int (x2)), (3, .int (x3)), (4, .int (x4 + 1))]) hx hb dX5_shoot_126 rfl (by decide) (by decide) [1, 2, 3, 4, 0] rfl ?_
        refine ww_goto (tgt := 14) hx hb dX5_shoot_129 (by decide) ?_
        exact ww_sub (lv1 := [(0, .ref (q 0)), (1, .int (x1)), (2, .int (x2)), (3, .int (x3)), (4, .int (x4 + 1))]) [0, 1, 2, 3, 4] rfl (ih _ _ _ _ _ h)
      have bk66 : ∀ (τ : SS) (x1 : Int32) (x2 : Int32) (x3 : Int32) (x4 : Int32) (x5 : Int32) (y0 : Int32), X5_shoot_b66 (X5_shoot_l14 n) τ x1 x2 x3 x4 x5 y0 = some (r, σ1) → WW p l e (rmc 5 200 0 0) s m args below meth c D vwCl (va_A (WR q cA σ) s.heap.size) 7 0 0 (MQ below (qcW D vwCl (WR q cA σ) (WR q cA σ1) (some (.int r)) s.heap.size) args s 0 0 (va_A (WR q cA σ) s.heap.size)) (WR q cA τ) 66 [(0, .ref (q 0)), (1, .int (x1)), (2, .int (x2)), (3, .int (x3)), (4, .int (x4)), (5, .int (x5))] [.int (y0)] := by
        intro τ x1 x2 x3 x4 x5 y0 h
        unfold X5_shoot_b66 at h
        refine ww_istore (i := 6) (lv1 := [(0, .ref (q 0)), (1, .int (x1)), (2, .int (x2)), (3, .int (x3)), (4, .int (x4)), (5, .int (x5)), (6, .int (y0))]) hx hb dX5_shoot_66 (by decide) [1, 2, 3, 4, 5, 6, 0] rfl ?_
        refine ww_aload_n hx hb dX5_shoot_68 rfl 0 rfl ?_
        refine ww_get (C := RX5) (T := TX5) (N := 36) hx hb hown hts hK inA5 0 rfl rfl 15 (by decide) kw_290 rfl rfl dX5_shoot_69 ?_
        refine ww_iload hx hb dX5_shoot_72 4 rfl ?_
        obtain ⟨g_27, h⟩ := og h
        refine ww_iald hx hb hown hts hK 8 0 rfl rfl g_27 dX5_shoot_74 ?_
        refine ww_bipush (v := 24) hx hb dX5_shoot_75 (by decide) ?_
        refine ww_idiv hx hb dX5_shoot_77 (by decide) ?_
        refine ww_aload_n hx hb dX5_shoot_78 rfl 0 rfl ?_
        refine ww_get (C := RX5) (T := TX5) (N := 36) hx hb hown hts hK inA5 0 rfl rfl 10 (by decide) kw_276 rfl rfl dX5_shoot_79 ?_
        refine ww_ne2 (tgt := 126) hx hb dX5_shoot_82 (by decide) (fun c_28 => ?_) (fun c_28 => ?_)
        · replace h := it_n c_28 h
          exact ww_sub (lv1 := [(0, .ref (q 0)), (1, .int (x1)), (2, .int (x2)), (3, .int (x3)), (4, .int (x4))]) [0, 1, 2, 3, 4] rfl (bk126 _ _ _ _ _ h)
        · replace h := it_p c_28 h
          refine ww_iload hx hb dX5_shoot_85 6 rfl ?_
          refine ww_ne0 (tgt := 126) hx hb dX5_shoot_87 (by decide) (fun c_29 => ?_) (fun c_29 => ?_)
          · replace h := it_n c_29 h
            exact ww_sub (lv1 := [(0, .ref (q 0)), (1, .int (x1)), (2, .int (x2)), (3, .int (x3)), (4, .int (x4))]) [0, 1, 2, 3, 4] rfl (bk126 _ _ _ _ _ h)
          · replace h := it_p c_29 h
            refine ww_aload_n hx hb dX5_shoot_90 rfl 0 rfl ?_
            refine ww_get (C := RX5) (T := TX5) (N := 36) hx hb hown hts hK inA5 0 rfl rfl 5 (by decide) kw_287 rfl rfl dX5_shoot_91 ?_
            refine ww_iload hx hb dX5_shoot_94 5 rfl ?_
            obtain ⟨g_30, h⟩ := og h
            refine ww_iald hx hb hown hts hK 5 0 rfl rfl g_30 dX5_shoot_96 ?_
            refine ww_iload_n hx hb dX5_shoot_97 rfl 2 rfl ?_
            refine ww_iconst (v := -1) hx hb dX5_shoot_98 (by decide) ?_
            refine ww_ixor hx hb dX5_shoot_99 ?_
            refine ww_iand hx hb dX5_shoot_100 ?_
            refine ww_ne0 (tgt := 126) hx hb dX5_shoot_101 (by decide) (fun c_31 => ?_) (fun c_31 => ?_)
            · replace h := it_n c_31 h
              exact ww_sub (lv1 := [(0, .ref (q 0)), (1, .int (x1)), (2, .int (x2)), (3, .int (x3)), (4, .int (x4))]) [0, 1, 2, 3, 4] rfl (bk126 _ _ _ _ _ h)
            · replace h := it_p c_31 h
              refine ww_iload_n hx hb dX5_shoot_104 rfl 2 rfl ?_
              refine ww_iconst (v := 1) hx hb dX5_shoot_105 (by decide) ?_
              refine ww_iload hx hb dX5_shoot_106 5 rfl ?_
              refine ww_ishl hx hb dX5_shoot_108 ?_
              refine ww_ior hx hb dX5_shoot_109 ?_
              refine ww_istore_n (i := 2) (lv1 := [(0, .ref (q 0)), (1, .int (x1)), (2, .int (x2 ||| ((1 : Int32) <<< (x5 &&& 31)))), (3, .int (x3)), (4, .int (x4)), (5, .int (x5))]) hx hb dX5_shoot_110 rfl (by decide) [1, 2, 0, 3, 4, 5] rfl ?_
              refine ww_iload_n hx hb dX5_shoot_111 rfl 3 rfl ?_
              refine ww_aload_n hx hb dX5_shoot_112 rfl 0 rfl ?_
              refine ww_get (C := RX5) (T := TX5) (N := 36) hx hb hown hts hK inA5 0 rfl rfl 1 (by decide) kw_269 rfl rfl dX5_shoot_113 ?_
              refine ww_iload hx hb dX5_shoot_116 5 rfl ?_
              obtain ⟨g_32, h⟩ := og h
              refine ww_iald hx hb hown hts hK 1 0 rfl rfl g_32 dX5_shoot_118 ?_
              refine ww_aload_n hx hb dX5_shoot_119 rfl 0 rfl ?_
              refine ww_get (C := RX5) (T := TX5) (N := 36) hx hb hown hts hK inA5 0 rfl rfl 11 (by decide) kw_317 rfl rfl dX5_shoot_120 ?_
              refine ww_imul hx hb dX5_shoot_123 ?_
              refine ww_iadd hx hb dX5_shoot_124 ?_
              refine ww_istore_n (i := 3) (lv1 := [(0, .ref (q 0)), (1, .int (x1)), (2, .int (x2 ||| ((1 : Int32) <<< (x5 &&& 31)))), (3, .int (x3 + ((τ 1 (Int32.toNatClampNeg x5)) * (τ 0 11)))), (4, .int (x4))]) hx hb dX5_shoot_125 rfl (by decide) [1, 2, 3, 0, 4] rfl ?_
              exact ww_sub (lv1 := [(0, .ref (q 0)), (1, .int (x1)), (2, .int (x2 ||| ((1 : Int32) <<< (x5 &&& 31)))), (3, .int (x3 + ((τ 1 (Int32.toNatClampNeg x5)) * (τ 0 11)))), (4, .int (x4))]) [0, 1, 2, 3, 4] rfl (bk126 _ _ _ _ _ h)
      have bk65 : ∀ (τ : SS) (x1 : Int32) (x2 : Int32) (x3 : Int32) (x4 : Int32) (x5 : Int32), X5_shoot_b65 (X5_shoot_l14 n) τ x1 x2 x3 x4 x5 = some (r, σ1) → WW p l e (rmc 5 200 0 0) s m args below meth c D vwCl (va_A (WR q cA σ) s.heap.size) 7 0 0 (MQ below (qcW D vwCl (WR q cA σ) (WR q cA σ1) (some (.int r)) s.heap.size) args s 0 0 (va_A (WR q cA σ) s.heap.size)) (WR q cA τ) 65 [(0, .ref (q 0)), (1, .int (x1)), (2, .int (x2)), (3, .int (x3)), (4, .int (x4)), (5, .int (x5))] [] := by
        intro τ x1 x2 x3 x4 x5 h
        unfold X5_shoot_b65 at h
        refine ww_iconst (v := 0) hx hb dX5_shoot_65 (by decide) ?_
        exact ww_sub (lv1 := [(0, .ref (q 0)), (1, .int (x1)), (2, .int (x2)), (3, .int (x3)), (4, .int (x4)), (5, .int (x5))]) [0, 1, 2, 3, 4, 5] rfl (bk66 _ _ _ _ _ _ _ h)
      intro τ x1 x2 x3 x4 h
      rw [X5_shoot_l14] at h
      refine ww_iload hx hb dX5_shoot_14 4 rfl ?_
      refine ww_aload_n hx hb dX5_shoot_16 rfl 0 rfl ?_
      refine ww_get (C := RX5) (T := TX5) (N := 36) hx hb hown hts hK inA5 0 rfl rfl 16 (by decide) kw_288 rfl rfl dX5_shoot_17 ?_
      refine ww_ge2 (tgt := 132) hx hb dX5_shoot_20 (by decide) (fun c_2 => ?_) (fun c_2 => ?_)
      · replace h := it_p c_2 h
        refine ww_aload_n hx hb dX5_shoot_132 rfl 0 rfl ?_
        refine ww_get (C := RX5) (T := TX5) (N := 36) hx hb hown hts hK inA5 0 rfl rfl 13 (by decide) kw_319 rfl rfl dX5_shoot_133 ?_
        refine ww_eq0 (tgt := 146) hx hb dX5_shoot_136 (by decide) (fun c_3 => ?_) (fun c_3 => ?_)
        · replace h := it_p c_3 h
          refine ww_iconst (v := 0) hx hb dX5_shoot_146 (by decide) ?_
          exact ww_sub (lv1 := [(0, .ref (q 0)), (2, .int (x2)), (3, .int (x3))]) [0, 2, 3] rfl (bk147 _ _ _ _ h)
        · replace h := it_n c_3 h
          refine ww_aload_n hx hb dX5_shoot_139 rfl 0 rfl ?_
          refine ww_get (C := RX5) (T := TX5) (N := 36) hx hb hown hts hK inA5 0 rfl rfl 12 (by decide) kw_318 rfl rfl dX5_shoot_140 ?_
          refine ww_goto (tgt := 147) hx hb dX5_shoot_143 (by decide) ?_
          exact ww_sub (lv1 := [(0, .ref (q 0)), (2, .int (x2)), (3, .int (x3))]) [0, 2, 3] rfl (bk147 _ _ _ _ h)
      · replace h := it_n c_2 h
        refine ww_aload_n hx hb dX5_shoot_23 rfl 0 rfl ?_
        refine ww_get (C := RX5) (T := TX5) (N := 36) hx hb hown hts hK inA5 0 rfl rfl 14 (by decide) kw_289 rfl rfl dX5_shoot_24 ?_
        refine ww_iload hx hb dX5_shoot_27 4 rfl ?_
        obtain ⟨g_4, h⟩ := og h
        refine ww_iald hx hb hown hts hK 7 0 rfl rfl g_4 dX5_shoot_29 ?_
        refine ww_istore (i := 5) (lv1 := [(0, .ref (q 0)), (1, .int (x1)), (2, .int (x2)), (3, .int (x3)), (4, .int (x4)), (5, .int (τ 7 (Int32.toNatClampNeg x4)))]) hx hb dX5_shoot_30 (by decide) [1, 2, 3, 4, 5, 0] rfl ?_
        refine ww_iload_n hx hb dX5_shoot_32 rfl 1 rfl ?_
        refine ww_eq0 (tgt := 65) hx hb dX5_shoot_33 (by decide) (fun c_5 => ?_) (fun c_5 => ?_)
        · replace h := it_p c_5 h
          exact ww_sub (lv1 := [(0, .ref (q 0)), (1, .int (x1)), (2, .int (x2)), (3, .int (x3)), (4, .int (x4)), (5, .int (τ 7 (Int32.toNatClampNeg x4)))]) [0, 1, 2, 3, 4, 5] rfl (bk65 _ _ _ _ _ _ h)
        · replace h := it_n c_5 h
          refine ww_aload_n hx hb dX5_shoot_36 rfl 0 rfl ?_
          refine ww_get (C := RX5) (T := TX5) (N := 36) hx hb hown hts hK inA5 0 rfl rfl 13 (by decide) kw_319 rfl rfl dX5_shoot_37 ?_
          refine ww_ne0 (tgt := 65) hx hb dX5_shoot_40 (by decide) (fun c_6 => ?_) (fun c_6 => ?_)
          · replace h := it_n c_6 h
            exact ww_sub (lv1 := [(0, .ref (q 0)), (1, .int (x1)), (2, .int (x2)), (3, .int (x3)), (4, .int (x4)), (5, .int (τ 7 (Int32.toNatClampNeg x4)))]) [0, 1, 2, 3, 4, 5] rfl (bk65 _ _ _ _ _ _ h)
          · replace h := it_p c_6 h
            refine ww_aload_n hx hb dX5_shoot_43 rfl 0 rfl ?_
            refine ww_get (C := RX5) (T := TX5) (N := 36) hx hb hown hts hK inA5 0 rfl rfl 9 (by decide) kw_313 rfl rfl dX5_shoot_44 ?_
            refine ww_aload_n hx hb dX5_shoot_47 rfl 0 rfl ?_
            refine ww_get (C := RX5) (T := TX5) (N := 36) hx hb hown hts hK inA5 0 rfl rfl 2 (by decide) kw_278 rfl rfl dX5_shoot_48 ?_
            refine ww_iload hx hb dX5_shoot_51 5 rfl ?_
            obtain ⟨g_7, h⟩ := og h
            refine ww_iald hx hb hown hts hK 2 0 rfl rfl g_7 dX5_shoot_53 ?_
            refine ww_ishr hx hb dX5_shoot_54 ?_
            refine ww_iconst (v := 1) hx hb dX5_shoot_55 (by decide) ?_
            refine ww_iand hx hb dX5_shoot_56 ?_
            refine ww_iconst (v := 1) hx hb dX5_shoot_57 (by decide) ?_
            refine ww_ne2 (tgt := 65) hx hb dX5_shoot_58 (by decide) (fun c_8 => ?_) (fun c_8 => ?_)
            · replace h := it_n c_8 h
              exact ww_sub (lv1 := [(0, .ref (q 0)), (1, .int (x1)), (2, .int (x2)), (3, .int (x3)), (4, .int (x4)), (5, .int (τ 7 (Int32.toNatClampNeg x4)))]) [0, 1, 2, 3, 4, 5] rfl (bk65 _ _ _ _ _ _ h)
            · replace h := it_p c_8 h
              refine ww_iconst (v := 1) hx hb dX5_shoot_61 (by decide) ?_
              refine ww_goto (tgt := 66) hx hb dX5_shoot_62 (by decide) ?_
              exact ww_sub (lv1 := [(0, .ref (q 0)), (1, .int (x1)), (2, .int (x2)), (3, .int (x3)), (4, .int (x4)), (5, .int (τ 7 (Int32.toNatClampNeg x4)))]) [0, 1, 2, 3, 4, 5] rfl (bk66 _ _ _ _ _ _ _ h)
  refine ww_sub (lv1 := [(0, .ref (q 0)), (1, .int (x1))]) [0, 1] rfl ?_
  refine ww_aload_n hx hb dX5_shoot_0 rfl 0 rfl ?_
  obtain ⟨σ_1, e_1, h⟩ := ob h
  refine ww_callV (ws1 := WR q cA σ_1) (st1 := []) hx hb hml hown hts hK hN hA (hDD _) (Nat.zero_le _) (Nat.zero_le _) [] [] (m_X5_plans _  _ e_1) cs_X5_150 rfl (by decide) 0 rfl rfl rfl (Nat.le_of_ble_eq_true rfl) dX5_shoot_1 rfl ?_
  refine ww_aload_n hx hb dX5_shoot_4 rfl 0 rfl ?_
  refine ww_get (C := RX5) (T := TX5) (N := 36) hx hb hown hts hK inA5 0 rfl rfl 6 (by decide) kw_267 rfl rfl dX5_shoot_5 ?_
  refine ww_istore_n (i := 2) (lv1 := [(0, .ref (q 0)), (1, .int (x1)), (2, .int (σ_1 0 6))]) hx hb dX5_shoot_8 rfl (by decide) [1, 2, 0] rfl ?_
  refine ww_iconst (v := 0) hx hb dX5_shoot_9 (by decide) ?_
  refine ww_istore_n (i := 3) (lv1 := [(0, .ref (q 0)), (1, .int (x1)), (2, .int (σ_1 0 6)), (3, .int ((0 : Int32)))]) hx hb dX5_shoot_10 rfl (by decide) [1, 2, 3, 0] rfl ?_
  refine ww_iconst (v := 0) hx hb dX5_shoot_11 (by decide) ?_
  refine ww_istore (i := 4) (lv1 := [(0, .ref (q 0)), (1, .int (x1)), (2, .int (σ_1 0 6)), (3, .int ((0 : Int32))), (4, .int ((0 : Int32)))]) hx hb dX5_shoot_12 (by decide) [1, 2, 3, 4, 0] rfl ?_
  exact ww_sub (lv1 := [(0, .ref (q 0)), (1, .int (x1)), (2, .int (σ_1 0 6)), (3, .int ((0 : Int32))), (4, .int ((0 : Int32)))]) [0, 1, 2, 3, 4] rfl (lp14 _ _ _ _ _ _ h)
set_option maxHeartbeats 4000000 in
set_option maxRecDepth 100000 in
theorem m_X5_isLine (σ : SS) (x1 : Int32) (r : Int32) (σ1 : SS) (h : X5_isLine σ x1 = some (r, σ1)) : Ct l yX5_isLine cX5_isLine 2 (some .boolean) 2 80 D vwCl [(cA, .int)] (WR q cA σ) (WR q cA σ1) [.ref (q 0), .int (x1)] (some (.int r)) := by
  refine ct_of (by decide +kernel) (Nat.le_of_ble_eq_true rfl) ?_
  intro p e s m args below meth c hx hb hr hlk hml hown hts hK hD hN hA
  have hown : s.vm.findClass RX5 = some m.cls := hown
  have hDD : ∀ τ : SS, va_D (va_A (WR q cA σ) s.heap.size) (WR q cA τ) := fun τ => hD.adr rfl
  unfold X5_isLine at h
  have bk13 : ∀ (τ : SS) (y1 : Int32), X5_isLine_b13 τ y1 = some (r, σ1) → WW p l e (rmc 2 80 0 0) s m args below meth c D vwCl (va_A (WR q cA σ) s.heap.size) 2 0 0 (MQ below (qcW D vwCl (WR q cA σ) (WR q cA σ1) (some (.int r)) s.heap.size) args s 0 0 (va_A (WR q cA σ) s.heap.size)) (WR q cA τ) 13 [(0, .ref (q 0))] [.int (y1), .ref (q 0)] := by
    intro τ y1 h
    unfold X5_isLine_b13 at h
    obtain ⟨σ_2, e_2, h⟩ := lt_e h
    refine ww_put (C := RX5) (T := TX5) (N := 36) (ty := .int) (ws1 := WR q cA (σ_2)) hx hb hown hts hK inA5 tyX5 tyX5_ok nmX5 (hDD _) 0 rfl rfl 35 (by decide) kw_259 rfl rfl rfl rfl rfl (Nat.le_of_ble_eq_true rfl) dX5_isLine_13 (e_2 ▸ rfl) ?_
    refine ww_aload_n hx hb dX5_isLine_16 rfl 0 rfl ?_
    refine ww_get (C := RX5) (T := TX5) (N := 36) hx hb hown hts hK inA5 0 rfl rfl 35 (by decide) kw_259 rfl rfl dX5_isLine_17 ?_
    refine ww_ne0 (tgt := 27) hx hb dX5_isLine_20 (by decide) (fun c_3 => ?_) (fun c_3 => ?_)
    · replace h := it_n c_3 h
      refine ww_iconst (v := 0) hx hb dX5_isLine_27 (by decide) ?_
      obtain ⟨rfl, rfl⟩ := os2 h
      exact ww_zret hx hb hr hlk (by decide) rfl dX5_isLine_28
    · replace h := it_p c_3 h
      refine ww_iconst (v := 1) hx hb dX5_isLine_23 (by decide) ?_
      refine ww_goto (tgt := 28) hx hb dX5_isLine_24 (by decide) ?_
      obtain ⟨rfl, rfl⟩ := os2 h
      exact ww_zret hx hb hr hlk (by decide) rfl dX5_isLine_28
  refine ww_sub (lv1 := [(0, .ref (q 0)), (1, .int (x1))]) [0, 1] rfl ?_
  refine ww_aload_n hx hb dX5_isLine_0 rfl 0 rfl ?_
  refine ww_iload_n hx hb dX5_isLine_1 rfl 1 rfl ?_
  refine ww_callS (ws1 := WR q cA σ) (st1 := [.int (X5_isIn4 x1), .ref (q 0)]) hx hb hml hown hts hK hN hA (hDD _) (Nat.zero_le _) (Nat.zero_le _) [.int (x1)] [.ref (q 0)] (m_X5_isIn4 σ x1) cs_X5_125 rfl (by decide) rfl (Nat.le_of_ble_eq_true rfl) dX5_isLine_2 rfl ?_
  refine ww_eq0 (tgt := 12) hx hb dX5_isLine_5 (by decide) (fun c_1 => ?_) (fun c_1 => ?_)
  · replace h := it_p c_1 h
    refine ww_iconst (v := 1) hx hb dX5_isLine_12 (by decide) ?_
    exact ww_sub (lv1 := [(0, .ref (q 0))]) [0] rfl (bk13 _ _ h)
  · replace h := it_n c_1 h
    refine ww_iconst (v := 0) hx hb dX5_isLine_8 (by decide) ?_
    refine ww_goto (tgt := 13) hx hb dX5_isLine_9 (by decide) ?_
    exact ww_sub (lv1 := [(0, .ref (q 0))]) [0] rfl (bk13 _ _ h)
set_option maxHeartbeats 4000000 in
set_option maxRecDepth 100000 in
theorem m_X5_isMoney (σ : SS) (x0 : Int32) : Ct l yX5_isMoney cX5_isMoney 1 (some .boolean) 1 40 D vwCl [(cA, .int)] (WR q cA σ) (WR q cA σ) [.int (x0)] (some (.int (X5_isMoney x0))) := by
  refine ct_of (by decide +kernel) (Nat.le_of_ble_eq_true rfl) ?_
  intro p e s m args below meth c hx hb hr hlk hml hown hts hK hD hN hA
  have hown : s.vm.findClass RX5 = some m.cls := hown
  have hDD : ∀ τ : SS, va_D (va_A (WR q cA σ) s.heap.size) (WR q cA τ) := fun τ => hD.adr rfl
  obtain ⟨r, h⟩ : ∃ r, X5_isMoney x0 = r := ⟨_, rfl⟩
  rw [h]
  unfold X5_isMoney at h
  refine ww_sub (lv1 := [(0, .int (x0))]) [0] rfl ?_
  refine ww_iload_n hx hb dX5_isMoney_0 rfl 0 rfl ?_
  refine ww_iconst (v := 1) hx hb dX5_isMoney_1 (by decide) ?_
  refine ww_ldc hx hb hown hts kw_336 dX5_isMoney_2 ?_
  refine ww_callS (ws1 := WR q cA σ) (st1 := [.int (X5_isIn x0 (1 : Int32) (100000 : Int32))]) hx hb hml hown hts hK hN hA (hDD _) (Nat.zero_le _) (Nat.zero_le _) [.int (x0), .int ((1 : Int32)), .int ((100000 : Int32))] [] (m_X5_isIn σ x0 (1 : Int32) (100000 : Int32)) cs_X5_74 rfl (by decide) rfl (Nat.le_of_ble_eq_true rfl) dX5_isMoney_4 rfl ?_
  obtain rfl := h
  exact ww_zret hx hb hr hlk (z_X5_isIn x0 (1 : Int32) (100000 : Int32)) rfl dX5_isMoney_7
set_option maxHeartbeats 4000000 in
set_option maxRecDepth 100000 in
theorem m_X5_approve (σ : SS) (x1 x2 : Int32) (r : Int32) (σ1 : SS) (h : X5_approve σ x1 x2 = some (r, σ1)) : Ct l yX5_approve cX5_approve 3 (some .int) 2 80 D vwCl [(cA, .int)] (WR q cA σ) (WR q cA σ1) [.ref (q 0), .int (x1), .int (x2)] (some (.int r)) := by
  refine ct_of (by decide +kernel) (Nat.le_of_ble_eq_true rfl) ?_
  intro p e s m args below meth c hx hb hr hlk hml hown hts hK hD hN hA
  have hown : s.vm.findClass RX5 = some m.cls := hown
  have hDD : ∀ τ : SS, va_D (va_A (WR q cA σ) s.heap.size) (WR q cA τ) := fun τ => hD.adr rfl
  unfold X5_approve at h
  have bk24 : ∀ (τ : SS) (x1 : Int32) (x2 : Int32) (y1 : Int32), X5_approve_b24 τ x1 x2 y1 = some (r, σ1) → WW p l e (rmc 2 80 0 0) s m args below meth c D vwCl (va_A (WR q cA σ) s.heap.size) 3 0 0 (MQ below (qcW D vwCl (WR q cA σ) (WR q cA σ1) (some (.int r)) s.heap.size) args s 0 0 (va_A (WR q cA σ) s.heap.size)) (WR q cA τ) 24 [(0, .ref (q 0)), (1, .int (x1)), (2, .int (x2))] [.int (y1), .ref (q 0)] := by
    intro τ x1 x2 y1 h
    unfold X5_approve_b24 at h
    obtain ⟨σ_3, e_3, h⟩ := lt_e h
    refine ww_put (C := RX5) (T := TX5) (N := 36) (ty := .int) (ws1 := WR q cA (σ_3)) hx hb hown hts hK inA5 tyX5 tyX5_ok nmX5 (hDD _) 0 rfl rfl 35 (by decide) kw_259 rfl rfl rfl rfl rfl (Nat.le_of_ble_eq_true rfl) dX5_approve_24 (e_3 ▸ rfl) ?_
    refine ww_aload_n hx hb dX5_approve_27 rfl 0 rfl ?_
    refine ww_get (C := RX5) (T := TX5) (N := 36) hx hb hown hts hK inA5 0 rfl rfl 35 (by decide) kw_259 rfl rfl dX5_approve_28 ?_
    refine ww_le0 (tgt := 36) hx hb dX5_approve_31 (by decide) (fun c_4 => ?_) (fun c_4 => ?_)
    · replace h := it_p c_4 h
      refine ww_aload_n hx hb dX5_approve_36 rfl 0 rfl ?_
      refine ww_get (C := RX5) (T := TX5) (N := 36) hx hb hown hts hK inA5 0 rfl rfl 21 (by decide) kw_320 rfl rfl dX5_approve_37 ?_
      refine ww_iload_n hx hb dX5_approve_40 rfl 1 rfl ?_
      refine ww_dup2 hx hb dX5_approve_41 rfl rfl ?_
      obtain ⟨g_5, h⟩ := og h
      refine ww_iald hx hb hown hts hK 11 0 rfl rfl g_5 dX5_approve_42 ?_
      refine ww_iload_n hx hb dX5_approve_43 rfl 2 rfl ?_
      refine ww_iadd hx hb dX5_approve_44 ?_
      obtain ⟨g_6, h⟩ := og h
      obtain ⟨σ_7, e_7, h⟩ := lt_e h
      refine ww_iast (ws1 := WR q cA (σ_7)) hx hb hown hts hK (hDD _) 11 0 rfl rfl g_6 dX5_approve_45 (e_7 ▸ rfl) ?_
      refine ww_aload_n hx hb dX5_approve_46 rfl 0 rfl ?_
      refine ww_get (C := RX5) (T := TX5) (N := 36) hx hb hown hts hK inA5 0 rfl rfl 21 (by decide) kw_320 rfl rfl dX5_approve_47 ?_
      refine ww_iload_n hx hb dX5_approve_50 rfl 1 rfl ?_
      obtain ⟨g_8, h⟩ := og h
      refine ww_iald hx hb hown hts hK 11 0 rfl rfl g_8 dX5_approve_51 ?_
      obtain ⟨rfl, rfl⟩ := os2 h
      exact ww_iret hx hb hr hlk rfl dX5_approve_52
    · replace h := it_n c_4 h
      refine ww_iconst (v := 0) hx hb dX5_approve_34 (by decide) ?_
      obtain ⟨rfl, rfl⟩ := os2 h
      exact ww_iret hx hb hr hlk rfl dX5_approve_35
  refine ww_sub (lv1 := [(0, .ref (q 0)), (1, .int (x1)), (2, .int (x2))]) [0, 1, 2] rfl ?_
  refine ww_aload_n hx hb dX5_approve_0 rfl 0 rfl ?_
  refine ww_iload_n hx hb dX5_approve_1 rfl 1 rfl ?_
  refine ww_callS (ws1 := WR q cA σ) (st1 := [.int (X5_isIn4 x1), .ref (q 0)]) hx hb hml hown hts hK hN hA (hDD _) (Nat.zero_le _) (Nat.zero_le _) [.int (x1)] [.ref (q 0)] (m_X5_isIn4 σ x1) cs_X5_125 rfl (by decide) rfl (Nat.le_of_ble_eq_true rfl) dX5_approve_2 rfl ?_
  refine ww_ne0 (tgt := 12) hx hb dX5_approve_5 (by decide) (fun c_1 => ?_) (fun c_1 => ?_)
  · replace h := it_n c_1 h
    refine ww_iload_n hx hb dX5_approve_12 rfl 2 rfl ?_
    refine ww_callS (ws1 := WR q cA σ) (st1 := [.int (X5_isMoney x2), .ref (q 0)]) hx hb hml hown hts hK hN hA (hDD _) (Nat.zero_le _) (Nat.zero_le _) [.int (x2)] [.ref (q 0)] (m_X5_isMoney σ x2) cs_X5_158 rfl (by decide) rfl (Nat.le_of_ble_eq_true rfl) dX5_approve_13 rfl ?_
    refine ww_eq0 (tgt := 23) hx hb dX5_approve_16 (by decide) (fun c_2 => ?_) (fun c_2 => ?_)
    · replace h := it_p c_2 h
      refine ww_iconst (v := 2) hx hb dX5_approve_23 (by decide) ?_
      exact ww_sub (lv1 := [(0, .ref (q 0)), (1, .int (x1)), (2, .int (x2))]) [0, 1, 2] rfl (bk24 _ _ _ _ h)
    · replace h := it_n c_2 h
      refine ww_iconst (v := 0) hx hb dX5_approve_19 (by decide) ?_
      refine ww_goto (tgt := 24) hx hb dX5_approve_20 (by decide) ?_
      exact ww_sub (lv1 := [(0, .ref (q 0)), (1, .int (x1)), (2, .int (x2))]) [0, 1, 2] rfl (bk24 _ _ _ _ h)
  · replace h := it_p c_1 h
    refine ww_iconst (v := 1) hx hb dX5_approve_8 (by decide) ?_
    refine ww_goto (tgt := 24) hx hb dX5_approve_9 (by decide) ?_
    exact ww_sub (lv1 := [(0, .ref (q 0)), (1, .int (x1)), (2, .int (x2))]) [0, 1, 2] rfl (bk24 _ _ _ _ h)
set_option maxHeartbeats 4000000 in
set_option maxRecDepth 100000 in
theorem m_X5_grant (σ : SS) (x1 : Int32) (r : Int32) (σ1 : SS) (h : X5_grant σ x1 = some (r, σ1)) : Ct l yX5_grant cX5_grant 2 (some .int) 2 80 D vwCl [(cA, .int)] (WR q cA σ) (WR q cA σ1) [.ref (q 0), .int (x1)] (some (.int r)) := by
  refine ct_of (by decide +kernel) (Nat.le_of_ble_eq_true rfl) ?_
  intro p e s m args below meth c hx hb hr hlk hml hown hts hK hD hN hA
  have hown : s.vm.findClass RX5 = some m.cls := hown
  have hDD : ∀ τ : SS, va_D (va_A (WR q cA σ) s.heap.size) (WR q cA τ) := fun τ => hD.adr rfl
  unfold X5_grant at h
  have bk13 : ∀ (τ : SS) (x1 : Int32) (y1 : Int32), X5_grant_b13 τ x1 y1 = some (r, σ1) → WW p l e (rmc 2 80 0 0) s m args below meth c D vwCl (va_A (WR q cA σ) s.heap.size) 2 0 0 (MQ below (qcW D vwCl (WR q cA σ) (WR q cA σ1) (some (.int r)) s.heap.size) args s 0 0 (va_A (WR q cA σ) s.heap.size)) (WR q cA τ) 13 [(0, .ref (q 0)), (1, .int (x1))] [.int (y1), .ref (q 0)] := by
    intro τ x1 y1 h
    unfold X5_grant_b13 at h
    obtain ⟨σ_2, e_2, h⟩ := lt_e h
    refine ww_put (C := RX5) (T := TX5) (N := 36) (ty := .int) (ws1 := WR q cA (σ_2)) hx hb hown hts hK inA5 tyX5 tyX5_ok nmX5 (hDD _) 0 rfl rfl 35 (by decide) kw_259 rfl rfl rfl rfl rfl (Nat.le_of_ble_eq_true rfl) dX5_grant_13 (e_2 ▸ rfl) ?_
    refine ww_aload_n hx hb dX5_grant_16 rfl 0 rfl ?_
    refine ww_get (C := RX5) (T := TX5) (N := 36) hx hb hown hts hK inA5 0 rfl rfl 35 (by decide) kw_259 rfl rfl dX5_grant_17 ?_
    refine ww_le0 (tgt := 25) hx hb dX5_grant_20 (by decide) (fun c_3 => ?_) (fun c_3 => ?_)
    · replace h := it_p c_3 h
      refine ww_aload_n hx hb dX5_grant_25 rfl 0 rfl ?_
      refine ww_dup hx hb dX5_grant_26 rfl ?_
      refine ww_get (C := RX5) (T := TX5) (N := 36) hx hb hown hts hK inA5 0 rfl rfl 22 (by decide) kw_325 rfl rfl dX5_grant_27 ?_
      refine ww_iload_n hx hb dX5_grant_30 rfl 1 rfl ?_
      refine ww_iadd hx hb dX5_grant_31 ?_
      obtain ⟨σ_4, e_4, h⟩ := lt_e h
      refine ww_put (C := RX5) (T := TX5) (N := 36) (ty := .int) (ws1 := WR q cA (σ_4)) hx hb hown hts hK inA5 tyX5 tyX5_ok nmX5 (hDD _) 0 rfl rfl 22 (by decide) kw_325 rfl rfl rfl rfl rfl (Nat.le_of_ble_eq_true rfl) dX5_grant_32 (e_4 ▸ rfl) ?_
      refine ww_aload_n hx hb dX5_grant_35 rfl 0 rfl ?_
      refine ww_get (C := RX5) (T := TX5) (N := 36) hx hb hown hts hK inA5 0 rfl rfl 22 (by decide) kw_325 rfl rfl dX5_grant_36 ?_
      obtain ⟨rfl, rfl⟩ := os2 h
      exact ww_iret hx hb hr hlk rfl dX5_grant_39
    · replace h := it_n c_3 h
      refine ww_iconst (v := 0) hx hb dX5_grant_23 (by decide) ?_
      obtain ⟨rfl, rfl⟩ := os2 h
      exact ww_iret hx hb hr hlk rfl dX5_grant_24
  refine ww_sub (lv1 := [(0, .ref (q 0)), (1, .int (x1))]) [0, 1] rfl ?_
  refine ww_aload_n hx hb dX5_grant_0 rfl 0 rfl ?_
  refine ww_iload_n hx hb dX5_grant_1 rfl 1 rfl ?_
  refine ww_callS (ws1 := WR q cA σ) (st1 := [.int (X5_isMoney x1), .ref (q 0)]) hx hb hml hown hts hK hN hA (hDD _) (Nat.zero_le _) (Nat.zero_le _) [.int (x1)] [.ref (q 0)] (m_X5_isMoney σ x1) cs_X5_158 rfl (by decide) rfl (Nat.le_of_ble_eq_true rfl) dX5_grant_2 rfl ?_
  refine ww_eq0 (tgt := 12) hx hb dX5_grant_5 (by decide) (fun c_1 => ?_) (fun c_1 => ?_)
  · replace h := it_p c_1 h
    refine ww_iconst (v := 1) hx hb dX5_grant_12 (by decide) ?_
    exact ww_sub (lv1 := [(0, .ref (q 0)), (1, .int (x1))]) [0, 1] rfl (bk13 _ _ _ h)
  · replace h := it_n c_1 h
    refine ww_iconst (v := 0) hx hb dX5_grant_8 (by decide) ?_
    refine ww_goto (tgt := 13) hx hb dX5_grant_9 (by decide) ?_
    exact ww_sub (lv1 := [(0, .ref (q 0)), (1, .int (x1))]) [0, 1] rfl (bk13 _ _ _ h)
set_option maxHeartbeats 4000000 in
set_option maxRecDepth 100000 in
theorem m_X5_bill (σ : SS) (x1 x2 : Int32) (r : Int32) (σ1 : SS) (h : X5_bill σ x1 x2 = some (r, σ1)) : Ct l yX5_bill cX5_bill 4 (some .int) 2 80 D vwCl [(cA, .int)] (WR q cA σ) (WR q cA σ1) [.ref (q 0), .int (x1), .int (x2)] (some (.int r)) := by
  refine ct_of (by decide +kernel) (Nat.le_of_ble_eq_true rfl) ?_
  intro p e s m args below meth c hx hb hr hlk hml hown hts hK hD hN hA
  have hown : s.vm.findClass RX5 = some m.cls := hown
  have hDD : ∀ τ : SS, va_D (va_A (WR q cA σ) s.heap.size) (WR q cA τ) := fun τ => hD.adr rfl
  unfold X5_bill at h
  have bk57 : ∀ (τ : SS) (x1 : Int32) (x2 : Int32) (x3 : Int32) (y1 : Int32), X5_bill_b57 τ x1 x2 x3 y1 = some (r, σ1) → WW p l e (rmc 2 80 0 0) s m args below meth c D vwCl (va_A (WR q cA σ) s.heap.size) 4 0 0 (MQ below (qcW D vwCl (WR q cA σ) (WR q cA σ1) (some (.int r)) s.heap.size) args s 0 0 (va_A (WR q cA σ) s.heap.size)) (WR q cA τ) 57 [(0, .ref (q 0)), (1, .int (x1)), (2, .int (x2)), (3, .int (x3))] [.int (y1), .ref (q 0)] := by
    intro τ x1 x2 x3 y1 h
    unfold X5_bill_b57 at h
    obtain ⟨σ_7, e_7, h⟩ := lt_e h
    refine ww_put (C := RX5) (T := TX5) (N := 36) (ty := .int) (ws1 := WR q cA (σ_7)) hx hb hown hts hK inA5 tyX5 tyX5_ok nmX5 (hDD _) 0 rfl rfl 35 (by decide) kw_259 rfl rfl rfl rfl rfl (Nat.le_of_ble_eq_true rfl) dX5_bill_57 (e_7 ▸ rfl) ?_
    refine ww_aload_n hx hb dX5_bill_60 rfl 0 rfl ?_
    refine ww_get (C := RX5) (T := TX5) (N := 36) hx hb hown hts hK inA5 0 rfl rfl 35 (by decide) kw_259 rfl rfl dX5_bill_61 ?_
    refine ww_le0 (tgt := 69) hx hb dX5_bill_64 (by decide) (fun c_8 => ?_) (fun c_8 => ?_)
    · replace h := it_p c_8 h
      refine ww_aload_n hx hb dX5_bill_69 rfl 0 rfl ?_
      refine ww_iload_n hx hb dX5_bill_70 rfl 1 rfl ?_
      refine ww_iload_n hx hb dX5_bill_71 rfl 2 rfl ?_
      obtain ⟨σ_9, e_9, h⟩ := ob h
      refine ww_callV (ws1 := WR q cA σ_9) (st1 := []) hx hb hml hown hts hK hN hA (hDD _) (Nat.zero_le _) (Nat.zero_le _) [.int (x1), .int (x2)] [] (m_X5_pays _ _ _ _ e_9) cs_X5_153 rfl (by decide) 0 rfl rfl rfl (Nat.le_of_ble_eq_true rfl) dX5_bill_72 rfl ?_
      refine ww_iload_n hx hb dX5_bill_75 rfl 3 rfl ?_
      obtain ⟨rfl, rfl⟩ := os2 h
      exact ww_iret hx hb hr hlk rfl dX5_bill_76
    · replace h := it_n c_8 h
      refine ww_iconst (v := 0) hx hb dX5_bill_67 (by decide) ?_
      obtain ⟨rfl, rfl⟩ := os2 h
      exact ww_iret hx hb hr hlk rfl dX5_bill_68
  have bk24 : ∀ (τ : SS) (x1 : Int32) (x2 : Int32) (y1 : Int32), X5_bill_b24 τ x1 x2 y1 = some (r, σ1) → WW p l e (rmc 2 80 0 0) s m args below meth c D vwCl (va_A (WR q cA σ) s.heap.size) 4 0 0 (MQ below (qcW D vwCl (WR q cA σ) (WR q cA σ1) (some (.int r)) s.heap.size) args s 0 0 (va_A (WR q cA σ) s.heap.size)) (WR q cA τ) 24 [(0, .ref (q 0)), (1, .int (x1)), (2, .int (x2))] [.int (y1), .ref (q 0)] := by
    intro τ x1 x2 y1 h
    unfold X5_bill_b24 at h
    obtain ⟨σ_3, e_3, h⟩ := lt_e h
    refine ww_put (C := RX5) (T := TX5) (N := 36) (ty := .int) (ws1 := WR q cA (σ_3)) hx hb hown hts hK inA5 tyX5 tyX5_ok nmX5 (hDD _) 0 rfl rfl 35 (by decide) kw_259 rfl rfl rfl rfl rfl (Nat.le_of_ble_eq_true rfl) dX5_bill_24 (e_3 ▸ rfl) ?_
    refine ww_aload_n hx hb dX5_bill_27 rfl 0 rfl ?_
    refine ww_get (C := RX5) (T := TX5) (N := 36) hx hb hown hts hK inA5 0 rfl rfl 35 (by decide) kw_259 rfl rfl dX5_bill_28 ?_
    refine ww_le0 (tgt := 36) hx hb dX5_bill_31 (by decide) (fun c_4 => ?_) (fun c_4 => ?_)
    · replace h := it_p c_4 h
      refine ww_aload_n hx hb dX5_bill_36 rfl 0 rfl ?_
      refine ww_iload_n hx hb dX5_bill_37 rfl 1 rfl ?_
      refine ww_iload_n hx hb dX5_bill_38 rfl 2 rfl ?_
      obtain ⟨r_5, e_5, h⟩ := ob h
      refine ww_callV (ws1 := WR q cA σ_3) (st1 := [.int (r_5)]) hx hb hml hown hts hK hN hA (hDD _) (Nat.zero_le _) (Nat.zero_le _) [.int (x1), .int (x2)] [] (m_X5_lacks _ _ _ _ e_5) cs_X5_137 rfl (by decide) 0 rfl rfl rfl (Nat.le_of_ble_eq_true rfl) dX5_bill_39 rfl ?_
      refine ww_istore_n (i := 3) (lv1 := [(0, .ref (q 0)), (1, .int (x1)), (2, .int (x2)), (3, .int (r_5))]) hx hb dX5_bill_42 rfl (by decide) [1, 2, 3, 0] rfl ?_
      refine ww_aload_n hx hb dX5_bill_43 rfl 0 rfl ?_
      refine ww_iload_n hx hb dX5_bill_44 rfl 3 rfl ?_
      refine ww_aload_n hx hb dX5_bill_45 rfl 0 rfl ?_
      refine ww_get (C := RX5) (T := TX5) (N := 36) hx hb hown hts hK inA5 0 rfl rfl 22 (by decide) kw_325 rfl rfl dX5_bill_46 ?_
      refine ww_le2 (tgt := 56) hx hb dX5_bill_49 (by decide) (fun c_6 => ?_) (fun c_6 => ?_)
      · replace h := it_p c_6 h
        refine ww_iconst (v := 0) hx hb dX5_bill_56 (by decide) ?_
        exact ww_sub (lv1 := [(0, .ref (q 0)), (1, .int (x1)), (2, .int (x2)), (3, .int (r_5))]) [0, 1, 2, 3] rfl (bk57 _ _ _ _ _ h)
      · replace h := it_n c_6 h
        refine ww_iconst (v := 3) hx hb dX5_bill_52 (by decide) ?_
        refine ww_goto (tgt := 57) hx hb dX5_bill_53 (by decide) ?_
        exact ww_sub (lv1 := [(0, .ref (q 0)), (1, .int (x1)), (2, .int (x2)), (3, .int (r_5))]) [0, 1, 2, 3] rfl (bk57 _ _ _ _ _ h)
    · replace h := it_n c_4 h
      refine ww_iconst (v := 0) hx hb dX5_bill_34 (by decide) ?_
      obtain ⟨rfl, rfl⟩ := os2 h
      exact ww_iret hx hb hr hlk rfl dX5_bill_35
  refine ww_sub (lv1 := [(0, .ref (q 0)), (1, .int (x1)), (2, .int (x2))]) [0, 1, 2] rfl ?_
  refine ww_aload_n hx hb dX5_bill_0 rfl 0 rfl ?_
  refine ww_iload_n hx hb dX5_bill_1 rfl 1 rfl ?_
  refine ww_callS (ws1 := WR q cA σ) (st1 := [.int (X5_isIn4 x1), .ref (q 0)]) hx hb hml hown hts hK hN hA (hDD _) (Nat.zero_le _) (Nat.zero_le _) [.int (x1)] [.ref (q 0)] (m_X5_isIn4 σ x1) cs_X5_125 rfl (by decide) rfl (Nat.le_of_ble_eq_true rfl) dX5_bill_2 rfl ?_
  refine ww_ne0 (tgt := 12) hx hb dX5_bill_5 (by decide) (fun c_1 => ?_) (fun c_1 => ?_)
  · replace h := it_n c_1 h
    refine ww_iload_n hx hb dX5_bill_12 rfl 2 rfl ?_
    refine ww_callS (ws1 := WR q cA σ) (st1 := [.int (X5_isMoney x2), .ref (q 0)]) hx hb hml hown hts hK hN hA (hDD _) (Nat.zero_le _) (Nat.zero_le _) [.int (x2)] [.ref (q 0)] (m_X5_isMoney σ x2) cs_X5_158 rfl (by decide) rfl (Nat.le_of_ble_eq_true rfl) dX5_bill_13 rfl ?_
    refine ww_eq0 (tgt := 23) hx hb dX5_bill_16 (by decide) (fun c_2 => ?_) (fun c_2 => ?_)
    · replace h := it_p c_2 h
      refine ww_iconst (v := 2) hx hb dX5_bill_23 (by decide) ?_
      exact ww_sub (lv1 := [(0, .ref (q 0)), (1, .int (x1)), (2, .int (x2))]) [0, 1, 2] rfl (bk24 _ _ _ _ h)
    · replace h := it_n c_2 h
      refine ww_iconst (v := 0) hx hb dX5_bill_19 (by decide) ?_
      refine ww_goto (tgt := 24) hx hb dX5_bill_20 (by decide) ?_
      exact ww_sub (lv1 := [(0, .ref (q 0)), (1, .int (x1)), (2, .int (x2))]) [0, 1, 2] rfl (bk24 _ _ _ _ h)
  · replace h := it_p c_1 h
    refine ww_iconst (v := 1) hx hb dX5_bill_8 (by decide) ?_
    refine ww_goto (tgt := 24) hx hb dX5_bill_9 (by decide) ?_
    exact ww_sub (lv1 := [(0, .ref (q 0)), (1, .int (x1)), (2, .int (x2))]) [0, 1, 2] rfl (bk24 _ _ _ _ h)
set_option maxHeartbeats 4000000 in
set_option maxRecDepth 100000 in
theorem m_X5_loan (σ : SS) (x1 x2 : Int32) (r : Int32) (σ1 : SS) (h : X5_loan σ x1 x2 = some (r, σ1)) : Ct l yX5_loan cX5_loan 3 (some .int) 2 80 D vwCl [(cA, .int)] (WR q cA σ) (WR q cA σ1) [.ref (q 0), .int (x1), .int (x2)] (some (.int r)) := by
  refine ct_of (by decide +kernel) (Nat.le_of_ble_eq_true rfl) ?_
  intro p e s m args below meth c hx hb hr hlk hml hown hts hK hD hN hA
  have hown : s.vm.findClass RX5 = some m.cls := hown
  have hDD : ∀ τ : SS, va_D (va_A (WR q cA σ) s.heap.size) (WR q cA τ) := fun τ => hD.adr rfl
  unfold X5_loan at h
  have bk37 : ∀ (τ : SS) (x1 : Int32) (x2 : Int32) (y1 : Int32), X5_loan_b37 τ x1 x2 y1 = some (r, σ1) → WW p l e (rmc 2 80 0 0) s m args below meth c D vwCl (va_A (WR q cA σ) s.heap.size) 3 0 0 (MQ below (qcW D vwCl (WR q cA σ) (WR q cA σ1) (some (.int r)) s.heap.size) args s 0 0 (va_A (WR q cA σ) s.heap.size)) (WR q cA τ) 37 [(0, .ref (q 0)), (1, .int (x1)), (2, .int (x2))] [.int (y1), .ref (q 0)] := by
    intro τ x1 x2 y1 h
    unfold X5_loan_b37 at h
    obtain ⟨σ_4, e_4, h⟩ := lt_e h
    refine ww_put (C := RX5) (T := TX5) (N := 36) (ty := .int) (ws1 := WR q cA (σ_4)) hx hb hown hts hK inA5 tyX5 tyX5_ok nmX5 (hDD _) 0 rfl rfl 35 (by decide) kw_259 rfl rfl rfl rfl rfl (Nat.le_of_ble_eq_true rfl) dX5_loan_37 (e_4 ▸ rfl) ?_
    refine ww_aload_n hx hb dX5_loan_40 rfl 0 rfl ?_
    refine ww_get (C := RX5) (T := TX5) (N := 36) hx hb hown hts hK inA5 0 rfl rfl 35 (by decide) kw_259 rfl rfl dX5_loan_41 ?_
    refine ww_le0 (tgt := 49) hx hb dX5_loan_44 (by decide) (fun c_5 => ?_) (fun c_5 => ?_)
    · replace h := it_p c_5 h
      refine ww_aload_n hx hb dX5_loan_49 rfl 0 rfl ?_
      refine ww_get (C := RX5) (T := TX5) (N := 36) hx hb hown hts hK inA5 0 rfl rfl 26 (by decide) kw_341 rfl rfl dX5_loan_50 ?_
      refine ww_aload_n hx hb dX5_loan_53 rfl 0 rfl ?_
      refine ww_get (C := RX5) (T := TX5) (N := 36) hx hb hown hts hK inA5 0 rfl rfl 25 (by decide) kw_340 rfl rfl dX5_loan_54 ?_
      refine ww_iload_n hx hb dX5_loan_57 rfl 1 rfl ?_
      obtain ⟨g_6, h⟩ := og h
      obtain ⟨σ_7, e_7, h⟩ := lt_e h
      refine ww_iast (ws1 := WR q cA (σ_7)) hx hb hown hts hK (hDD _) 12 0 rfl rfl g_6 dX5_loan_58 (e_7 ▸ rfl) ?_
      refine ww_aload_n hx hb dX5_loan_59 rfl 0 rfl ?_
      refine ww_get (C := RX5) (T := TX5) (N := 36) hx hb hown hts hK inA5 0 rfl rfl 27 (by decide) kw_342 rfl rfl dX5_loan_60 ?_
      refine ww_aload_n hx hb dX5_loan_63 rfl 0 rfl ?_
      refine ww_get (C := RX5) (T := TX5) (N := 36) hx hb hown hts hK inA5 0 rfl rfl 25 (by decide) kw_340 rfl rfl dX5_loan_64 ?_
      refine ww_iload_n hx hb dX5_loan_67 rfl 2 rfl ?_
      obtain ⟨g_8, h⟩ := og h
      obtain ⟨σ_9, e_9, h⟩ := lt_e h
      refine ww_iast (ws1 := WR q cA (σ_9)) hx hb hown hts hK (hDD _) 13 0 rfl rfl g_8 dX5_loan_68 (e_9 ▸ rfl) ?_
      refine ww_aload_n hx hb dX5_loan_69 rfl 0 rfl ?_
      refine ww_dup hx hb dX5_loan_70 rfl ?_
      refine ww_get (C := RX5) (T := TX5) (N := 36) hx hb hown hts hK inA5 0 rfl rfl 25 (by decide) kw_340 rfl rfl dX5_loan_71 ?_
      refine ww_iconst (v := 1) hx hb dX5_loan_74 (by decide) ?_
      refine ww_iadd hx hb dX5_loan_75 ?_
      obtain ⟨σ_10, e_10, h⟩ := lt_e h
      refine ww_put (C := RX5) (T := TX5) (N := 36) (ty := .int) (ws1 := WR q cA (σ_10)) hx hb hown hts hK inA5 tyX5 tyX5_ok nmX5 (hDD _) 0 rfl rfl 25 (by decide) kw_340 rfl rfl rfl rfl rfl (Nat.le_of_ble_eq_true rfl) dX5_loan_76 (e_10 ▸ rfl) ?_
      refine ww_aload_n hx hb dX5_loan_79 rfl 0 rfl ?_
      refine ww_get (C := RX5) (T := TX5) (N := 36) hx hb hown hts hK inA5 0 rfl rfl 25 (by decide) kw_340 rfl rfl dX5_loan_80 ?_
      refine ww_iconst (v := 1) hx hb dX5_loan_83 (by decide) ?_
      refine ww_isub hx hb dX5_loan_84 ?_
      obtain ⟨rfl, rfl⟩ := os2 h
      exact ww_iret hx hb hr hlk rfl dX5_loan_85
    · replace h := it_n c_5 h
      refine ww_iconst (v := 0) hx hb dX5_loan_47 (by decide) ?_
      obtain ⟨rfl, rfl⟩ := os2 h
      exact ww_iret hx hb hr hlk rfl dX5_loan_48
  refine ww_sub (lv1 := [(0, .ref (q 0)), (1, .int (x1)), (2, .int (x2))]) [0, 1, 2] rfl ?_
  refine ww_aload_n hx hb dX5_loan_0 rfl 0 rfl ?_
  refine ww_iload_n hx hb dX5_loan_1 rfl 1 rfl ?_
  refine ww_callS (ws1 := WR q cA σ) (st1 := [.int (X5_isPerson x1), .ref (q 0)]) hx hb hml hown hts hK hN hA (hDD _) (Nat.zero_le _) (Nat.zero_le _) [.int (x1)] [.ref (q 0)] (m_X5_isPerson σ x1) cs_X5_131 rfl (by decide) rfl (Nat.le_of_ble_eq_true rfl) dX5_loan_2 rfl ?_
  refine ww_ne0 (tgt := 12) hx hb dX5_loan_5 (by decide) (fun c_1 => ?_) (fun c_1 => ?_)
  · replace h := it_n c_1 h
    refine ww_iload_n hx hb dX5_loan_12 rfl 2 rfl ?_
    refine ww_callS (ws1 := WR q cA σ) (st1 := [.int (X5_isMoney x2), .ref (q 0)]) hx hb hml hown hts hK hN hA (hDD _) (Nat.zero_le _) (Nat.zero_le _) [.int (x2)] [.ref (q 0)] (m_X5_isMoney σ x2) cs_X5_158 rfl (by decide) rfl (Nat.le_of_ble_eq_true rfl) dX5_loan_13 rfl ?_
    refine ww_ne0 (tgt := 23) hx hb dX5_loan_16 (by decide) (fun c_2 => ?_) (fun c_2 => ?_)
    · replace h := it_n c_2 h
      refine ww_aload_n hx hb dX5_loan_23 rfl 0 rfl ?_
      refine ww_get (C := RX5) (T := TX5) (N := 36) hx hb hown hts hK inA5 0 rfl rfl 25 (by decide) kw_340 rfl rfl dX5_loan_24 ?_
      refine ww_bipush (v := 10) hx hb dX5_loan_27 (by decide) ?_
      refine ww_ne2 (tgt := 36) hx hb dX5_loan_29 (by decide) (fun c_3 => ?_) (fun c_3 => ?_)
      · replace h := it_n c_3 h
        refine ww_iconst (v := 0) hx hb dX5_loan_36 (by decide) ?_
        exact ww_sub (lv1 := [(0, .ref (q 0)), (1, .int (x1)), (2, .int (x2))]) [0, 1, 2] rfl (bk37 _ _ _ _ h)
      · replace h := it_p c_3 h
        refine ww_iconst (v := 3) hx hb dX5_loan_32 (by decide) ?_
        refine ww_goto (tgt := 37) hx hb dX5_loan_33 (by decide) ?_
        exact ww_sub (lv1 := [(0, .ref (q 0)), (1, .int (x1)), (2, .int (x2))]) [0, 1, 2] rfl (bk37 _ _ _ _ h)
    · replace h := it_p c_2 h
      refine ww_iconst (v := 2) hx hb dX5_loan_19 (by decide) ?_
      refine ww_goto (tgt := 37) hx hb dX5_loan_20 (by decide) ?_
      exact ww_sub (lv1 := [(0, .ref (q 0)), (1, .int (x1)), (2, .int (x2))]) [0, 1, 2] rfl (bk37 _ _ _ _ h)
  · replace h := it_p c_1 h
    refine ww_iconst (v := 1) hx hb dX5_loan_8 (by decide) ?_
    refine ww_goto (tgt := 37) hx hb dX5_loan_9 (by decide) ?_
    exact ww_sub (lv1 := [(0, .ref (q 0)), (1, .int (x1)), (2, .int (x2))]) [0, 1, 2] rfl (bk37 _ _ _ _ h)
set_option maxHeartbeats 4000000 in
set_option maxRecDepth 100000 in
theorem m_X5_part (σ : SS) (x1 x2 x3 : Int32) (r : Int32) (σ1 : SS) (h : X5_part σ x1 x2 x3 = some (r, σ1)) : Ct l yX5_part cX5_part 7 (some .int) 2 80 D vwCl [(cA, .int)] (WR q cA σ) (WR q cA σ1) [.ref (q 0), .int (x1), .int (x2), .int (x3)] (some (.int r)) := by
  refine ct_of (by decide +kernel) (Nat.le_of_ble_eq_true rfl) ?_
  intro p e s m args below meth c hx hb hr hlk hml hown hts hK hD hN hA
  have hown : s.vm.findClass RX5 = some m.cls := hown
  have hDD : ∀ τ : SS, va_D (va_A (WR q cA σ) s.heap.size) (WR q cA τ) := fun τ => hD.adr rfl
  unfold X5_part at h
  have bk140 : ∀ (τ : SS) (x1 : Int32) (x2 : Int32) (x3 : Int32) (y1 : Int32), X5_part_b140 τ x1 x2 x3 y1 = some (r, σ1) → WW p l e (rmc 2 80 0 0) s m args below meth c D vwCl (va_A (WR q cA σ) s.heap.size) 7 0 0 (MQ below (qcW D vwCl (WR q cA σ) (WR q cA σ1) (some (.int r)) s.heap.size) args s 0 0 (va_A (WR q cA σ) s.heap.size)) (WR q cA τ) 140 [(0, .ref (q 0)), (1, .int (x1)), (2, .int (x2)), (3, .int (x3))] [.int (y1), .ref (q 0)] := by
    intro τ x1 x2 x3 y1 h
    unfold X5_part_b140 at h
    obtain ⟨σ_14, e_14, h⟩ := lt_e h
    refine ww_put (C := RX5) (T := TX5) (N := 36) (ty := .int) (ws1 := WR q cA (σ_14)) hx hb hown hts hK inA5 tyX5 tyX5_ok nmX5 (hDD _) 0 rfl rfl 35 (by decide) kw_259 rfl rfl rfl rfl rfl (Nat.le_of_ble_eq_true rfl) dX5_part_140 (e_14 ▸ rfl) ?_
    refine ww_aload_n hx hb dX5_part_143 rfl 0 rfl ?_
    refine ww_get (C := RX5) (T := TX5) (N := 36) hx hb hown hts hK inA5 0 rfl rfl 35 (by decide) kw_259 rfl rfl dX5_part_144 ?_
    refine ww_le0 (tgt := 152) hx hb dX5_part_147 (by decide) (fun c_15 => ?_) (fun c_15 => ?_)
    · replace h := it_p c_15 h
      refine ww_aload_n hx hb dX5_part_152 rfl 0 rfl ?_
      refine ww_get (C := RX5) (T := TX5) (N := 36) hx hb hown hts hK inA5 0 rfl rfl 29 (by decide) kw_344 rfl rfl dX5_part_153 ?_
      refine ww_aload_n hx hb dX5_part_156 rfl 0 rfl ?_
      refine ww_get (C := RX5) (T := TX5) (N := 36) hx hb hown hts hK inA5 0 rfl rfl 28 (by decide) kw_343 rfl rfl dX5_part_157 ?_
      refine ww_iload_n hx hb dX5_part_160 rfl 1 rfl ?_
      obtain ⟨g_16, h⟩ := og h
      obtain ⟨σ_17, e_17, h⟩ := lt_e h
      refine ww_iast (ws1 := WR q cA (σ_17)) hx hb hown hts hK (hDD _) 14 0 rfl rfl g_16 dX5_part_161 (e_17 ▸ rfl) ?_
      refine ww_aload_n hx hb dX5_part_162 rfl 0 rfl ?_
      refine ww_get (C := RX5) (T := TX5) (N := 36) hx hb hown hts hK inA5 0 rfl rfl 30 (by decide) kw_346 rfl rfl dX5_part_163 ?_
      refine ww_aload_n hx hb dX5_part_166 rfl 0 rfl ?_
      refine ww_get (C := RX5) (T := TX5) (N := 36) hx hb hown hts hK inA5 0 rfl rfl 28 (by decide) kw_343 rfl rfl dX5_part_167 ?_
      refine ww_iload_n hx hb dX5_part_170 rfl 2 rfl ?_
      obtain ⟨g_18, h⟩ := og h
      obtain ⟨σ_19, e_19, h⟩ := lt_e h
      refine ww_iast (ws1 := WR q cA (σ_19)) hx hb hown hts hK (hDD _) 15 0 rfl rfl g_18 dX5_part_171 (e_19 ▸ rfl) ?_
      refine ww_aload_n hx hb dX5_part_172 rfl 0 rfl ?_
      refine ww_get (C := RX5) (T := TX5) (N := 36) hx hb hown hts hK inA5 0 rfl rfl 31 (by decide) kw_345 rfl rfl dX5_part_173 ?_
      refine ww_aload_n hx hb dX5_part_176 rfl 0 rfl ?_
      refine ww_get (C := RX5) (T := TX5) (N := 36) hx hb hown hts hK inA5 0 rfl rfl 28 (by decide) kw_343 rfl rfl dX5_part_177 ?_
      refine ww_iload_n hx hb dX5_part_180 rfl 3 rfl ?_
      obtain ⟨g_20, h⟩ := og h
      obtain ⟨σ_21, e_21, h⟩ := lt_e h
      refine ww_iast (ws1 := WR q cA (σ_21)) hx hb hown hts hK (hDD _) 16 0 rfl rfl g_20 dX5_part_181 (e_21 ▸ rfl) ?_
      refine ww_aload_n hx hb dX5_part_182 rfl 0 rfl ?_
      refine ww_dup hx hb dX5_part_183 rfl ?_
      refine ww_get (C := RX5) (T := TX5) (N := 36) hx hb hown hts hK inA5 0 rfl rfl 28 (by decide) kw_343 rfl rfl dX5_part_184 ?_
      refine ww_iconst (v := 1) hx hb dX5_part_187 (by decide) ?_
      refine ww_iadd hx hb dX5_part_188 ?_
      obtain ⟨σ_22, e_22, h⟩ := lt_e h
      refine ww_put (C := RX5) (T := TX5) (N := 36) (ty := .int) (ws1 := WR q cA (σ_22)) hx hb hown hts hK inA5 tyX5 tyX5_ok nmX5 (hDD _) 0 rfl rfl 28 (by decide) kw_343 rfl rfl rfl rfl rfl (Nat.le_of_ble_eq_true rfl) dX5_part_189 (e_22 ▸ rfl) ?_
      refine ww_aload_n hx hb dX5_part_192 rfl 0 rfl ?_
      refine ww_get (C := RX5) (T := TX5) (N := 36) hx hb hown hts hK inA5 0 rfl rfl 28 (by decide) kw_343 rfl rfl dX5_part_193 ?_
      refine ww_iconst (v := 1) hx hb dX5_part_196 (by decide) ?_
      refine ww_isub hx hb dX5_part_197 ?_
      obtain ⟨rfl, rfl⟩ := os2 h
      exact ww_iret hx hb hr hlk rfl dX5_part_198
    · replace h := it_n c_15 h
      refine ww_iconst (v := 0) hx hb dX5_part_150 (by decide) ?_
      obtain ⟨rfl, rfl⟩ := os2 h
      exact ww_iret hx hb hr hlk rfl dX5_part_151
  have bk135 : ∀ (τ : SS) (x1 : Int32) (x2 : Int32) (x3 : Int32), X5_part_b135 τ x1 x2 x3 = some (r, σ1) → WW p l e (rmc 2 80 0 0) s m args below meth c D vwCl (va_A (WR q cA σ) s.heap.size) 7 0 0 (MQ below (qcW D vwCl (WR q cA σ) (WR q cA σ1) (some (.int r)) s.heap.size) args s 0 0 (va_A (WR q cA σ) s.heap.size)) (WR q cA τ) 135 [(0, .ref (q 0)), (1, .int (x1)), (2, .int (x2)), (3, .int (x3))] [.ref (q 0)] := by
    intro τ x1 x2 x3 h
    unfold X5_part_b135 at h
    refine ww_iconst (v := 3) hx hb dX5_part_135 (by decide) ?_
    refine ww_goto (tgt := 140) hx hb dX5_part_136 (by decide) ?_
    exact ww_sub (lv1 := [(0, .ref (q 0)), (1, .int (x1)), (2, .int (x2)), (3, .int (x3))]) [0, 1, 2, 3] rfl (bk140 _ _ _ _ _ h)
  have lp76 : ∀ (n : Nat) (τ : SS) (x1 : Int32) (x2 : Int32) (x3 : Int32) (x5 : Int32) (x6 : Int32), X5_part_l76 n τ x1 x2 x3 x5 x6 = some (r, σ1) → WW p l e (rmc 2 80 0 0) s m args below meth c D vwCl (va_A (WR q cA σ) s.heap.size) 7 0 0 (MQ below (qcW D vwCl (WR q cA σ) (WR q cA σ1) (some (.int r)) s.heap.size) args s 0 0 (va_A (WR q cA σ) s.heap.size)) (WR q cA τ) 76 [(0, .ref (q 0)), (1, .int (x1)), (2, .int (x2)), (3, .int (x3)), (5, .int (x5)), (6, .int (x6))] [] := by
    intro n
    induction n with
    | zero => intro τ x1 x2 x3 x5 x6 h; rw [X5_part_l76] at h; cases h
    | succ n ih =>
      have bk109 : ∀ (τ : SS) (x1 : Int32) (x2 : Int32) (x3 : Int32) (x6 : Int32) (y0 : Int32) (y1 : Int32), X5_part_b109 (X5_part_l76 n) τ x1 x2 x3 x6 y0 y1 = some (r, σ1) → WW p l e (rmc 2 80 0 0) s m args below meth c D vwCl (va_A (WR q cA σ) s.heap.size) 7 0 0 (MQ below (qcW D vwCl (WR q cA σ) (WR q cA σ1) (some (.int r)) s.heap.size) args s 0 0 (va_A (WR q cA σ) s.heap.size)) (WR q cA τ) 109 [(0, .ref (q 0)), (1, .int (x1)), (2, .int (x2)), (3, .int (x3)), (6, .int (x6))] [.int (y1), .int (y0)] := by
        intro τ x1 x2 x3 x6 y0 y1 h
        unfold X5_part_b109 at h
        refine ww_iadd hx hb dX5_part_109 ?_
        refine ww_istore (i := 5) (lv1 := [(0, .ref (q 0)), (1, .int (x1)), (2, .int (x2)), (3, .int (x3)), (5, .int (y0 + y1)), (6, .int (x6))]) hx hb dX5_part_110 (by decide) [1, 2, 3, 4, 0, 5] rfl ?_
        refine ww_iinc (i := 6) (k := 5) (v := 1) (lv1 := [(0, .ref (q 0)), (1, .int (x1)), (2, .int (x2)), (3, .int (x3)), (5, .int (y0 + y1)), (6, .int (x6 + 1))]) hx hb dX5_part_112 rfl (by decide) (by decide) [1, 2, 3, 4, 5, 0] rfl ?_
        refine ww_goto (tgt := 76) hx hb dX5_part_115 (by decide) ?_
        exact ww_sub (lv1 := [(0, .ref (q 0)), (1, .int (x1)), (2, .int (x2)), (3, .int (x3)), (5, .int (y0 + y1)), (6, .int (x6 + 1))]) [0, 1, 2, 3, 4, 5] rfl (ih _ _ _ _ _ _ h)
      intro τ x1 x2 x3 x5 x6 h
      rw [X5_part_l76] at h
      refine ww_iload hx hb dX5_part_76 5 rfl ?_
      refine ww_aload_n hx hb dX5_part_78 rfl 0 rfl ?_
      refine ww_get (C := RX5) (T := TX5) (N := 36) hx hb hown hts hK inA5 0 rfl rfl 28 (by decide) kw_343 rfl rfl dX5_part_79 ?_
      refine ww_ge2 (tgt := 118) hx hb dX5_part_82 (by decide) (fun c_8 => ?_) (fun c_8 => ?_)
      · replace h := it_p c_8 h
        refine ww_aload_n hx hb dX5_part_118 rfl 0 rfl ?_
        refine ww_aload_n hx hb dX5_part_119 rfl 0 rfl ?_
        refine ww_get (C := RX5) (T := TX5) (N := 36) hx hb hown hts hK inA5 0 rfl rfl 28 (by decide) kw_343 rfl rfl dX5_part_120 ?_
        refine ww_bipush (v := 12) hx hb dX5_part_123 (by decide) ?_
        refine ww_eq2 (tgt := 135) hx hb dX5_part_125 (by decide) (fun c_9 => ?_) (fun c_9 => ?_)
        · replace h := it_p c_9 h
          exact ww_sub (lv1 := [(0, .ref (q 0)), (1, .int (x1)), (2, .int (x2)), (3, .int (x3))]) [0, 1, 2, 3] rfl (bk135 _ _ _ _ h)
        · replace h := it_n c_9 h
          refine ww_iload hx hb dX5_part_128 4 rfl ?_
          refine ww_bipush (v := 100) hx hb dX5_part_130 (by decide) ?_
          refine ww_le2 (tgt := 139) hx hb dX5_part_132 (by decide) (fun c_10 => ?_) (fun c_10 => ?_)
          · replace h := it_p c_10 h
            refine ww_iconst (v := 0) hx hb dX5_part_139 (by decide) ?_
            exact ww_sub (lv1 := [(0, .ref (q 0)), (1, .int (x1)), (2, .int (x2)), (3, .int (x3))]) [0, 1, 2, 3] rfl (bk140 _ _ _ _ _ h)
          · replace h := it_n c_10 h
            exact ww_sub (lv1 := [(0, .ref (q 0)), (1, .int (x1)), (2, .int (x2)), (3, .int (x3))]) [0, 1, 2, 3] rfl (bk135 _ _ _ _ h)
      · replace h := it_n c_8 h
        refine ww_iload hx hb dX5_part_85 4 rfl ?_
        refine ww_aload_n hx hb dX5_part_87 rfl 0 rfl ?_
        refine ww_get (C := RX5) (T := TX5) (N := 36) hx hb hown hts hK inA5 0 rfl rfl 29 (by decide) kw_344 rfl rfl dX5_part_88 ?_
        refine ww_iload hx hb dX5_part_91 5 rfl ?_
        obtain ⟨g_11, h⟩ := og h
        refine ww_iald hx hb hown hts hK 14 0 rfl rfl g_11 dX5_part_93 ?_
        refine ww_iload_n hx hb dX5_part_94 rfl 1 rfl ?_
        refine ww_ne2 (tgt := 108) hx hb dX5_part_95 (by decide) (fun c_12 => ?_) (fun c_12 => ?_)
        · replace h := it_n c_12 h
          refine ww_iconst (v := 0) hx hb dX5_part_108 (by decide) ?_
          exact ww_sub (lv1 := [(0, .ref (q 0)), (1, .int (x1)), (2, .int (x2)), (3, .int (x3)), (6, .int (x6))]) [0, 1, 2, 3, 5] rfl (bk109 _ _ _ _ _ _ _ h)
        · replace h := it_p c_12 h
          refine ww_aload_n hx hb dX5_part_98 rfl 0 rfl ?_
          refine ww_get (C := RX5) (T := TX5) (N := 36) hx hb hown hts hK inA5 0 rfl rfl 31 (by decide) kw_345 rfl rfl dX5_part_99 ?_
          refine ww_iload hx hb dX5_part_102 5 rfl ?_
          obtain ⟨g_13, h⟩ := og h
          refine ww_iald hx hb hown hts hK 16 0 rfl rfl g_13 dX5_part_104 ?_
          refine ww_goto (tgt := 109) hx hb dX5_part_105 (by decide) ?_
          exact ww_sub (lv1 := [(0, .ref (q 0)), (1, .int (x1)), (2, .int (x2)), (3, .int (x3)), (6, .int (x6))]) [0, 1, 2, 3, 5] rfl (bk109 _ _ _ _ _ _ _ h)
  have bk58 : ∀ (τ : SS) (x1 : Int32) (x2 : Int32) (x3 : Int32) (y1 : Int32), X5_part_b58 τ x1 x2 x3 y1 = some (r, σ1) → WW p l e (rmc 2 80 0 0) s m args below meth c D vwCl (va_A (WR q cA σ) s.heap.size) 7 0 0 (MQ below (qcW D vwCl (WR q cA σ) (WR q cA σ1) (some (.int r)) s.heap.size) args s 0 0 (va_A (WR q cA σ) s.heap.size)) (WR q cA τ) 58 [(0, .ref (q 0)), (1, .int (x1)), (2, .int (x2)), (3, .int (x3))] [.int (y1), .ref (q 0)] := by
    intro τ x1 x2 x3 y1 h
    unfold X5_part_b58 at h
    obtain ⟨σ_6, e_6, h⟩ := lt_e h
    refine ww_put (C := RX5) (T := TX5) (N := 36) (ty := .int) (ws1 := WR q cA (σ_6)) hx hb hown hts hK inA5 tyX5 tyX5_ok nmX5 (hDD _) 0 rfl rfl 35 (by decide) kw_259 rfl rfl rfl rfl rfl (Nat.le_of_ble_eq_true rfl) dX5_part_58 (e_6 ▸ rfl) ?_
    refine ww_aload_n hx hb dX5_part_61 rfl 0 rfl ?_
    refine ww_get (C := RX5) (T := TX5) (N := 36) hx hb hown hts hK inA5 0 rfl rfl 35 (by decide) kw_259 rfl rfl dX5_part_62 ?_
    refine ww_le0 (tgt := 70) hx hb dX5_part_65 (by decide) (fun c_7 => ?_) (fun c_7 => ?_)
    · replace h := it_p c_7 h
      refine ww_iload_n hx hb dX5_part_70 rfl 3 rfl ?_
      refine ww_istore (i := 5) (lv1 := [(0, .ref (q 0)), (1, .int (x1)), (2, .int (x2)), (3, .int (x3)), (5, .int (x3))]) hx hb dX5_part_71 (by decide) [1, 2, 3, 4, 0] rfl ?_
      refine ww_iconst (v := 0) hx hb dX5_part_73 (by decide) ?_
      refine ww_istore (i := 6) (lv1 := [(0, .ref (q 0)), (1, .int (x1)), (2, .int (x2)), (3, .int (x3)), (5, .int (x3)), (6, .int ((0 : Int32)))]) hx hb dX5_part_74 (by decide) [1, 2, 3, 4, 5, 0] rfl ?_
      exact ww_sub (lv1 := [(0, .ref (q 0)), (1, .int (x1)), (2, .int (x2)), (3, .int (x3)), (5, .int (x3)), (6, .int ((0 : Int32)))]) [0, 1, 2, 3, 4, 5] rfl (lp76 _ _ _ _ _ _ _ h)
    · replace h := it_n c_7 h
      refine ww_iconst (v := 0) hx hb dX5_part_68 (by decide) ?_
      obtain ⟨rfl, rfl⟩ := os2 h
      exact ww_iret hx hb hr hlk rfl dX5_part_69
  have bk39 : ∀ (τ : SS) (x1 : Int32) (x2 : Int32) (x3 : Int32), X5_part_b39 τ x1 x2 x3 = some (r, σ1) → WW p l e (rmc 2 80 0 0) s m args below meth c D vwCl (va_A (WR q cA σ) s.heap.size) 7 0 0 (MQ below (qcW D vwCl (WR q cA σ) (WR q cA σ1) (some (.int r)) s.heap.size) args s 0 0 (va_A (WR q cA σ) s.heap.size)) (WR q cA τ) 39 [(0, .ref (q 0)), (1, .int (x1)), (2, .int (x2)), (3, .int (x3))] [.ref (q 0)] := by
    intro τ x1 x2 x3 h
    unfold X5_part_b39 at h
    refine ww_iconst (v := 1) hx hb dX5_part_39 (by decide) ?_
    refine ww_goto (tgt := 58) hx hb dX5_part_40 (by decide) ?_
    exact ww_sub (lv1 := [(0, .ref (q 0)), (1, .int (x1)), (2, .int (x2)), (3, .int (x3))]) [0, 1, 2, 3] rfl (bk58 _ _ _ _ _ h)
  have bk24 : ∀ (τ : SS) (x1 : Int32) (x2 : Int32) (x3 : Int32) (y0 : Int32), X5_part_b24 τ x1 x2 x3 y0 = some (r, σ1) → WW p l e (rmc 2 80 0 0) s m args below meth c D vwCl (va_A (WR q cA σ) s.heap.size) 7 0 0 (MQ below (qcW D vwCl (WR q cA σ) (WR q cA σ1) (some (.int r)) s.heap.size) args s 0 0 (va_A (WR q cA σ) s.heap.size)) (WR q cA τ) 24 [(0, .ref (q 0)), (1, .int (x1)), (2, .int (x2)), (3, .int (x3))] [.int (y0)] := by
    intro τ x1 x2 x3 y0 h
    unfold X5_part_b24 at h
    refine ww_istore (i := 4) (lv1 := [(0, .ref (q 0)), (1, .int (x1)), (2, .int (x2)), (3, .int (x3)), (4, .int (y0))]) hx hb dX5_part_24 (by decide) [1, 2, 3, 4, 0] rfl ?_
    refine ww_aload_n hx hb dX5_part_26 rfl 0 rfl ?_
    refine ww_iload hx hb dX5_part_27 4 rfl ?_
    refine ww_eq0 (tgt := 39) hx hb dX5_part_29 (by decide) (fun c_3 => ?_) (fun c_3 => ?_)
    · replace h := it_p c_3 h
      exact ww_sub (lv1 := [(0, .ref (q 0)), (1, .int (x1)), (2, .int (x2)), (3, .int (x3))]) [0, 1, 2, 3] rfl (bk39 _ _ _ _ h)
    · replace h := it_n c_3 h
      refine ww_iload_n hx hb dX5_part_32 rfl 2 rfl ?_
      refine ww_callS (ws1 := WR q cA τ) (st1 := [.int (X5_isPerson x2), .ref (q 0)]) hx hb hml hown hts hK hN hA (hDD _) (Nat.zero_le _) (Nat.zero_le _) [.int (x2)] [.ref (q 0)] (m_X5_isPerson τ x2) cs_X5_131 rfl (by decide) rfl (Nat.le_of_ble_eq_true rfl) dX5_part_33 rfl ?_
      refine ww_ne0 (tgt := 43) hx hb dX5_part_36 (by decide) (fun c_4 => ?_) (fun c_4 => ?_)
      · replace h := it_n c_4 h
        refine ww_iload_n hx hb dX5_part_43 rfl 3 rfl ?_
        refine ww_iconst (v := 1) hx hb dX5_part_44 (by decide) ?_
        refine ww_bipush (v := 100) hx hb dX5_part_45 (by decide) ?_
        refine ww_callS (ws1 := WR q cA τ) (st1 := [.int (X5_isIn x3 (1 : Int32) (100 : Int32)), .ref (q 0)]) hx hb hml hown hts hK hN hA (hDD _) (Nat.zero_le _) (Nat.zero_le _) [.int (x3), .int ((1 : Int32)), .int ((100 : Int32))] [.ref (q 0)] (m_X5_isIn τ x3 (1 : Int32) (100 : Int32)) cs_X5_74 rfl (by decide) rfl (Nat.le_of_ble_eq_true rfl) dX5_part_47 rfl ?_
        refine ww_eq0 (tgt := 57) hx hb dX5_part_50 (by decide) (fun c_5 => ?_) (fun c_5 => ?_)
        · replace h := it_p c_5 h
          refine ww_iconst (v := 2) hx hb dX5_part_57 (by decide) ?_
          exact ww_sub (lv1 := [(0, .ref (q 0)), (1, .int (x1)), (2, .int (x2)), (3, .int (x3))]) [0, 1, 2, 3] rfl (bk58 _ _ _ _ _ h)
        · replace h := it_n c_5 h
          refine ww_iconst (v := 0) hx hb dX5_part_53 (by decide) ?_
          refine ww_goto (tgt := 58) hx hb dX5_part_54 (by decide) ?_
          exact ww_sub (lv1 := [(0, .ref (q 0)), (1, .int (x1)), (2, .int (x2)), (3, .int (x3))]) [0, 1, 2, 3] rfl (bk58 _ _ _ _ _ h)
      · replace h := it_p c_4 h
        exact ww_sub (lv1 := [(0, .ref (q 0)), (1, .int (x1)), (2, .int (x2)), (3, .int (x3))]) [0, 1, 2, 3] rfl (bk39 _ _ _ _ h)
  have bk19 : ∀ (τ : SS) (x1 : Int32) (x2 : Int32) (x3 : Int32), X5_part_b19 τ x1 x2 x3 = some (r, σ1) → WW p l e (rmc 2 80 0 0) s m args below meth c D vwCl (va_A (WR q cA σ) s.heap.size) 7 0 0 (MQ below (qcW D vwCl (WR q cA σ) (WR q cA σ1) (some (.int r)) s.heap.size) args s 0 0 (va_A (WR q cA σ) s.heap.size)) (WR q cA τ) 19 [(0, .ref (q 0)), (1, .int (x1)), (2, .int (x2)), (3, .int (x3))] [] := by
    intro τ x1 x2 x3 h
    unfold X5_part_b19 at h
    refine ww_iconst (v := 1) hx hb dX5_part_19 (by decide) ?_
    refine ww_goto (tgt := 24) hx hb dX5_part_20 (by decide) ?_
    exact ww_sub (lv1 := [(0, .ref (q 0)), (1, .int (x1)), (2, .int (x2)), (3, .int (x3))]) [0, 1, 2, 3] rfl (bk24 _ _ _ _ _ h)
  refine ww_sub (lv1 := [(0, .ref (q 0)), (1, .int (x1)), (2, .int (x2)), (3, .int (x3))]) [0, 1, 2, 3] rfl ?_
  refine ww_iload_n hx hb dX5_part_0 rfl 1 rfl ?_
  refine ww_iconst (v := -1) hx hb dX5_part_1 (by decide) ?_
  refine ww_eq2 (tgt := 19) hx hb dX5_part_2 (by decide) (fun c_1 => ?_) (fun c_1 => ?_)
  · replace h := it_p c_1 h
    exact ww_sub (lv1 := [(0, .ref (q 0)), (1, .int (x1)), (2, .int (x2)), (3, .int (x3))]) [0, 1, 2, 3] rfl (bk19 _ _ _ _ h)
  · replace h := it_n c_1 h
    refine ww_iload_n hx hb dX5_part_5 rfl 1 rfl ?_
    refine ww_iconst (v := 0) hx hb dX5_part_6 (by decide) ?_
    refine ww_aload_n hx hb dX5_part_7 rfl 0 rfl ?_
    refine ww_get (C := RX5) (T := TX5) (N := 36) hx hb hown hts hK inA5 0 rfl rfl 28 (by decide) kw_343 rfl rfl dX5_part_8 ?_
    refine ww_iconst (v := 1) hx hb dX5_part_11 (by decide) ?_
    refine ww_isub hx hb dX5_part_12 ?_
    refine ww_callS (ws1 := WR q cA σ) (st1 := [.int (X5_isIn x1 (0 : Int32) ((σ 0 28) - (1 : Int32)))]) hx hb hml hown hts hK hN hA (hDD _) (Nat.zero_le _) (Nat.zero_le _) [.int (x1), .int ((0 : Int32)), .int ((σ 0 28) - (1 : Int32))] [] (m_X5_isIn σ x1 (0 : Int32) ((σ 0 28) - (1 : Int32))) cs_X5_74 rfl (by decide) rfl (Nat.le_of_ble_eq_true rfl) dX5_part_13 rfl ?_
    refine ww_eq0 (tgt := 23) hx hb dX5_part_16 (by decide) (fun c_2 => ?_) (fun c_2 => ?_)
    · replace h := it_p c_2 h
      refine ww_iconst (v := 0) hx hb dX5_part_23 (by decide) ?_
      exact ww_sub (lv1 := [(0, .ref (q 0)), (1, .int (x1)), (2, .int (x2)), (3, .int (x3))]) [0, 1, 2, 3] rfl (bk24 _ _ _ _ _ h)
    · replace h := it_n c_2 h
      exact ww_sub (lv1 := [(0, .ref (q 0)), (1, .int (x1)), (2, .int (x2)), (3, .int (x3))]) [0, 1, 2, 3] rfl (bk19 _ _ _ _ h)
set_option maxHeartbeats 4000000 in
set_option maxRecDepth 100000 in
theorem m_X5_income (σ : SS) (x1 : Int32) (r : Int32) (σ1 : SS) (h : X5_income σ x1 = some (r, σ1)) : Ct l yX5_income cX5_income 6 (some .int) 1 40 D vwCl [(cA, .int)] (WR q cA σ) (WR q cA σ1) [.ref (q 0), .int (x1)] (some (.int r)) := by
  refine ct_of (by decide +kernel) (Nat.le_of_ble_eq_true rfl) ?_
  intro p e s m args below meth c hx hb hr hlk hml hown hts hK hD hN hA
  have hown : s.vm.findClass RX5 = some m.cls := hown
  have hDD : ∀ τ : SS, va_D (va_A (WR q cA σ) s.heap.size) (WR q cA τ) := fun τ => hD.adr rfl
  unfold X5_income at h
  have lp148 : ∀ (n : Nat) (τ : SS) (x3 : Int32) (x4 : Int32), X5_income_l148 n τ x3 x4 = some (r, σ1) → WW p l e (rmc 1 40 0 0) s m args below meth c D vwCl (va_A (WR q cA σ) s.heap.size) 6 0 0 (MQ below (qcW D vwCl (WR q cA σ) (WR q cA σ1) (some (.int r)) s.heap.size) args s 0 0 (va_A (WR q cA σ) s.heap.size)) (WR q cA τ) 148 [(0, .ref (q 0)), (3, .int (x3)), (4, .int (x4))] [] := by
    intro n
    induction n with
    | zero => intro τ x3 x4 h; rw [X5_income_l148] at h; cases h
    | succ n ih =>
      have bk279 : ∀ (τ : SS) (x3 : Int32) (x4 : Int32), X5_income_b279 (X5_income_l148 n) τ x3 x4 = some (r, σ1) → WW p l e (rmc 1 40 0 0) s m args below meth c D vwCl (va_A (WR q cA σ) s.heap.size) 6 0 0 (MQ below (qcW D vwCl (WR q cA σ) (WR q cA σ1) (some (.int r)) s.heap.size) args s 0 0 (va_A (WR q cA σ) s.heap.size)) (WR q cA τ) 279 [(0, .ref (q 0)), (3, .int (x3)), (4, .int (x4))] [] := by
        intro τ x3 x4 h
        unfold X5_income_b279 at h
        refine ww_iinc (i := 4) (k := 2) (v := 1) (lv1 := [(0, .ref (q 0)), (3, .int (x3)), (4, .int (x4 + 1))]) hx hb dX5_income_279 rfl (by decide) (by decide) [1, 2, 0] rfl ?_
        refine ww_goto (tgt := 148) hx hb dX5_income_282 (by decide) ?_
        exact ww_sub (lv1 := [(0, .ref (q 0)), (3, .int (x3)), (4, .int (x4 + 1))]) [0, 1, 2] rfl (ih _ _ _ h)
      have bk189 : ∀ (τ : SS) (x3 : Int32) (x4 : Int32) (y1 : Int32) (y2 : Int32), X5_income_b189 (X5_income_l148 n) τ x3 x4 y1 y2 = some (r, σ1) → WW p l e (rmc 1 40 0 0) s m args below meth c D vwCl (va_A (WR q cA σ) s.heap.size) 6 0 0 (MQ below (qcW D vwCl (WR q cA σ) (WR q cA σ1) (some (.int r)) s.heap.size) args s 0 0 (va_A (WR q cA σ) s.heap.size)) (WR q cA τ) 189 [(0, .ref (q 0)), (3, .int (x3)), (4, .int (x4))] [.int (y2), .int (y1), .ref (q 17)] := by
        intro τ x3 x4 y1 y2 h
        unfold X5_income_b189 at h
        refine ww_aload_n hx hb dX5_income_189 rfl 0 rfl ?_
        refine ww_get (C := RX5) (T := TX5) (N := 36) hx hb hown hts hK inA5 0 rfl rfl 31 (by decide) kw_345 rfl rfl dX5_income_190 ?_
        refine ww_iload hx hb dX5_income_193 2 rfl ?_
        obtain ⟨g_16, h⟩ := og h
        refine ww_iald hx hb hown hts hK 16 0 rfl rfl g_16 dX5_income_195 ?_
        refine ww_imul hx hb dX5_income_196 ?_
        refine ww_bipush (v := 100) hx hb dX5_income_197 (by decide) ?_
        refine ww_idiv hx hb dX5_income_199 (by decide) ?_
        obtain ⟨g_17, h⟩ := og h
        obtain ⟨σ_18, e_18, h⟩ := lt_e h
        refine ww_iast (ws1 := WR q cA (σ_18)) hx hb hown hts hK (hDD _) 17 0 rfl rfl g_17 dX5_income_200 (e_18 ▸ rfl) ?_
        refine ww_aload_n hx hb dX5_income_201 rfl 0 rfl ?_
        refine ww_get (C := RX5) (T := TX5) (N := 36) hx hb hown hts hK inA5 0 rfl rfl 33 (by decide) kw_349 rfl rfl dX5_income_202 ?_
        refine ww_aload_n hx hb dX5_income_205 rfl 0 rfl ?_
        refine ww_get (C := RX5) (T := TX5) (N := 36) hx hb hown hts hK inA5 0 rfl rfl 30 (by decide) kw_346 rfl rfl dX5_income_206 ?_
        refine ww_iload hx hb dX5_income_209 2 rfl ?_
        obtain ⟨g_19, h⟩ := og h
        refine ww_iald hx hb hown hts hK 15 0 rfl rfl g_19 dX5_income_211 ?_
        refine ww_dup2 hx hb dX5_income_212 rfl rfl ?_
        obtain ⟨g_20, h⟩ := og h
        refine ww_iald hx hb hown hts hK 18 0 rfl rfl g_20 dX5_income_213 ?_
        refine ww_aload_n hx hb dX5_income_214 rfl 0 rfl ?_
        refine ww_get (C := RX5) (T := TX5) (N := 36) hx hb hown hts hK inA5 0 rfl rfl 32 (by decide) kw_348 rfl rfl dX5_income_215 ?_
        refine ww_iload hx hb dX5_income_218 2 rfl ?_
        obtain ⟨g_21, h⟩ := og h
        refine ww_iald hx hb hown hts hK 17 0 rfl rfl g_21 dX5_income_220 ?_
        refine ww_iadd hx hb dX5_income_221 ?_
        obtain ⟨g_22, h⟩ := og h
        obtain ⟨σ_23, e_23, h⟩ := lt_e h
        refine ww_iast (ws1 := WR q cA (σ_23)) hx hb hown hts hK (hDD _) 18 0 rfl rfl g_22 dX5_income_222 (e_23 ▸ rfl) ?_
        refine ww_aload_n hx hb dX5_income_223 rfl 0 rfl ?_
        refine ww_get (C := RX5) (T := TX5) (N := 36) hx hb hown hts hK inA5 0 rfl rfl 29 (by decide) kw_344 rfl rfl dX5_income_224 ?_
        refine ww_iload hx hb dX5_income_227 2 rfl ?_
        obtain ⟨g_24, h⟩ := og h
        refine ww_iald hx hb hown hts hK 14 0 rfl rfl g_24 dX5_income_229 ?_
        refine ww_ge0 (tgt := 252) hx hb dX5_income_230 (by decide) (fun c_25 => ?_) (fun c_25 => ?_)
        · replace h := it_p c_25 h
          refine ww_aload_n hx hb dX5_income_252 rfl 0 rfl ?_
          refine ww_get (C := RX5) (T := TX5) (N := 36) hx hb hown hts hK inA5 0 rfl rfl 33 (by decide) kw_349 rfl rfl dX5_income_253 ?_
          refine ww_aload_n hx hb dX5_income_256 rfl 0 rfl ?_
          refine ww_get (C := RX5) (T := TX5) (N := 36) hx hb hown hts hK inA5 0 rfl rfl 30 (by decide) kw_346 rfl rfl dX5_income_257 ?_
          refine ww_aload_n hx hb dX5_income_260 rfl 0 rfl ?_
          refine ww_get (C := RX5) (T := TX5) (N := 36) hx hb hown hts hK inA5 0 rfl rfl 29 (by decide) kw_344 rfl rfl dX5_income_261 ?_
          refine ww_iload hx hb dX5_income_264 2 rfl ?_
          obtain ⟨g_26, h⟩ := og h
          refine ww_iald hx hb hown hts hK 14 0 rfl rfl g_26 dX5_income_266 ?_
          obtain ⟨g_27, h⟩ := og h
          refine ww_iald hx hb hown hts hK 15 0 rfl rfl g_27 dX5_income_267 ?_
          refine ww_dup2 hx hb dX5_income_268 rfl rfl ?_
          obtain ⟨g_28, h⟩ := og h
          refine ww_iald hx hb hown hts hK 18 0 rfl rfl g_28 dX5_income_269 ?_
          refine ww_aload_n hx hb dX5_income_270 rfl 0 rfl ?_
          refine ww_get (C := RX5) (T := TX5) (N := 36) hx hb hown hts hK inA5 0 rfl rfl 32 (by decide) kw_348 rfl rfl dX5_income_271 ?_
          refine ww_iload hx hb dX5_income_274 2 rfl ?_
          obtain ⟨g_29, h⟩ := og h
          refine ww_iald hx hb hown hts hK 17 0 rfl rfl g_29 dX5_income_276 ?_
          refine ww_isub hx hb dX5_income_277 ?_
          obtain ⟨g_30, h⟩ := og h
          obtain ⟨σ_31, e_31, h⟩ := lt_e h
          refine ww_iast (ws1 := WR q cA (σ_31)) hx hb hown hts hK (hDD _) 18 0 rfl rfl g_30 dX5_income_278 (e_31 ▸ rfl) ?_
          exact ww_sub (lv1 := [(0, .ref (q 0)), (3, .int (x3)), (4, .int (x4))]) [0, 1, 2] rfl (bk279 _ _ _ h)
        · replace h := it_n c_25 h
          refine ww_aload_n hx hb dX5_income_233 rfl 0 rfl ?_
          refine ww_dup hx hb dX5_income_234 rfl ?_
          refine ww_get (C := RX5) (T := TX5) (N := 36) hx hb hown hts hK inA5 0 rfl rfl 34 (by decide) kw_347 rfl rfl dX5_income_235 ?_
          refine ww_aload_n hx hb dX5_income_238 rfl 0 rfl ?_
          refine ww_get (C := RX5) (T := TX5) (N := 36) hx hb hown hts hK inA5 0 rfl rfl 32 (by decide) kw_348 rfl rfl dX5_income_239 ?_
          refine ww_iload hx hb dX5_income_242 2 rfl ?_
          obtain ⟨g_32, h⟩ := og h
          refine ww_iald hx hb hown hts hK 17 0 rfl rfl g_32 dX5_income_244 ?_
          refine ww_isub hx hb dX5_income_245 ?_
          obtain ⟨σ_33, e_33, h⟩ := lt_e h
          refine ww_put (C := RX5) (T := TX5) (N := 36) (ty := .int) (ws1 := WR q cA (σ_33)) hx hb hown hts hK inA5 tyX5 tyX5_ok nmX5 (hDD _) 0 rfl rfl 34 (by decide) kw_347 rfl rfl rfl rfl rfl (Nat.le_of_ble_eq_true rfl) dX5_income_246 (e_33 ▸ rfl) ?_
          refine ww_goto (tgt := 279) hx hb dX5_income_249 (by decide) ?_
          exact ww_sub (lv1 := [(0, .ref (q 0)), (3, .int (x3)), (4, .int (x4))]) [0, 1, 2] rfl (bk279 _ _ _ h)
      intro τ x3 x4 h
      rw [X5_income_l148] at h
      refine ww_iload hx hb dX5_income_148 2 rfl ?_
      refine ww_aload_n hx hb dX5_income_150 rfl 0 rfl ?_
      refine ww_get (C := RX5) (T := TX5) (N := 36) hx hb hown hts hK inA5 0 rfl rfl 28 (by decide) kw_343 rfl rfl dX5_income_151 ?_
      refine ww_ge2 (tgt := 285) hx hb dX5_income_154 (by decide) (fun c_11 => ?_) (fun c_11 => ?_)
      · replace h := it_p c_11 h
        refine ww_iload_n hx hb dX5_income_285 rfl 1 rfl ?_
        obtain ⟨rfl, rfl⟩ := os2 h
        exact ww_iret hx hb hr hlk rfl dX5_income_286
      · replace h := it_n c_11 h
        refine ww_aload_n hx hb dX5_income_157 rfl 0 rfl ?_
        refine ww_get (C := RX5) (T := TX5) (N := 36) hx hb hown hts hK inA5 0 rfl rfl 32 (by decide) kw_348 rfl rfl dX5_income_158 ?_
        refine ww_iload hx hb dX5_income_161 2 rfl ?_
        refine ww_aload_n hx hb dX5_income_163 rfl 0 rfl ?_
        refine ww_get (C := RX5) (T := TX5) (N := 36) hx hb hown hts hK inA5 0 rfl rfl 29 (by decide) kw_344 rfl rfl dX5_income_164 ?_
        refine ww_iload hx hb dX5_income_167 2 rfl ?_
        obtain ⟨g_12, h⟩ := og h
        refine ww_iald hx hb hown hts hK 14 0 rfl rfl g_12 dX5_income_169 ?_
        refine ww_ge0 (tgt := 177) hx hb dX5_income_170 (by decide) (fun c_13 => ?_) (fun c_13 => ?_)
        · replace h := it_p c_13 h
          refine ww_aload_n hx hb dX5_income_177 rfl 0 rfl ?_
          refine ww_get (C := RX5) (T := TX5) (N := 36) hx hb hown hts hK inA5 0 rfl rfl 32 (by decide) kw_348 rfl rfl dX5_income_178 ?_
          refine ww_aload_n hx hb dX5_income_181 rfl 0 rfl ?_
          refine ww_get (C := RX5) (T := TX5) (N := 36) hx hb hown hts hK inA5 0 rfl rfl 29 (by decide) kw_344 rfl rfl dX5_income_182 ?_
          refine ww_iload hx hb dX5_income_185 2 rfl ?_
          obtain ⟨g_14, h⟩ := og h
          refine ww_iald hx hb hown hts hK 14 0 rfl rfl g_14 dX5_income_187 ?_
          obtain ⟨g_15, h⟩ := og h
          refine ww_iald hx hb hown hts hK 17 0 rfl rfl g_15 dX5_income_188 ?_
          exact ww_sub (lv1 := [(0, .ref (q 0)), (3, .int (x3)), (4, .int (x4))]) [0, 1, 2] rfl (bk189 _ _ _ _ _ h)
        · replace h := it_n c_13 h
          refine ww_iload_n hx hb dX5_income_173 rfl 1 rfl ?_
          refine ww_goto (tgt := 189) hx hb dX5_income_174 (by decide) ?_
          exact ww_sub (lv1 := [(0, .ref (q 0)), (3, .int (x3)), (4, .int (x4))]) [0, 1, 2] rfl (bk189 _ _ _ _ _ h)
  have lp62 : ∀ (n : Nat) (τ : SS) (x3 : Int32) (x4 : Int32), X5_income_l62 n τ x3 x4 = some (r, σ1) → WW p l e (rmc 1 40 0 0) s m args below meth c D vwCl (va_A (WR q cA σ) s.heap.size) 6 0 0 (MQ below (qcW D vwCl (WR q cA σ) (WR q cA σ1) (some (.int r)) s.heap.size) args s 0 0 (va_A (WR q cA σ) s.heap.size)) (WR q cA τ) 62 [(0, .ref (q 0)), (3, .int (x3)), (4, .int (x4))] [] := by
    intro n
    induction n with
    | zero => intro τ x3 x4 h; rw [X5_income_l62] at h; cases h
    | succ n ih =>
      have bk93 : ∀ (τ : SS) (x3 : Int32) (x4 : Int32) (y0 : Int32), X5_income_b93 (X5_income_l62 n) τ x3 x4 y0 = some (r, σ1) → WW p l e (rmc 1 40 0 0) s m args below meth c D vwCl (va_A (WR q cA σ) s.heap.size) 6 0 0 (MQ below (qcW D vwCl (WR q cA σ) (WR q cA σ1) (some (.int r)) s.heap.size) args s 0 0 (va_A (WR q cA σ) s.heap.size)) (WR q cA τ) 93 [(0, .ref (q 0)), (3, .int (x3)), (4, .int (x4))] [.int (y0)] := by
        intro τ x3 x4 y0 h
        unfold X5_income_b93 at h
        refine ww_istore (i := 5) (lv1 := [(0, .ref (q 0)), (3, .int (x3)), (4, .int (x4)), (5, .int (y0))]) hx hb dX5_income_93 (by decide) [1, 2, 3, 0] rfl ?_
        refine ww_aload_n hx hb dX5_income_95 rfl 0 rfl ?_
        refine ww_get (C := RX5) (T := TX5) (N := 36) hx hb hown hts hK inA5 0 rfl rfl 27 (by decide) kw_342 rfl rfl dX5_income_96 ?_
        refine ww_iload hx hb dX5_income_99 2 rfl ?_
        refine ww_dup2 hx hb dX5_income_101 rfl rfl ?_
        obtain ⟨g_34, h⟩ := og h
        refine ww_iald hx hb hown hts hK 13 0 rfl rfl g_34 dX5_income_102 ?_
        refine ww_iload hx hb dX5_income_103 3 rfl ?_
        refine ww_isub hx hb dX5_income_105 ?_
        obtain ⟨g_35, h⟩ := og h
        obtain ⟨σ_36, e_36, h⟩ := lt_e h
        refine ww_iast (ws1 := WR q cA (σ_36)) hx hb hown hts hK (hDD _) 13 0 rfl rfl g_35 dX5_income_106 (e_36 ▸ rfl) ?_
        refine ww_aload_n hx hb dX5_income_107 rfl 0 rfl ?_
        refine ww_get (C := RX5) (T := TX5) (N := 36) hx hb hown hts hK inA5 0 rfl rfl 33 (by decide) kw_349 rfl rfl dX5_income_108 ?_
        refine ww_aload_n hx hb dX5_income_111 rfl 0 rfl ?_
        refine ww_get (C := RX5) (T := TX5) (N := 36) hx hb hown hts hK inA5 0 rfl rfl 26 (by decide) kw_341 rfl rfl dX5_income_112 ?_
        refine ww_iload hx hb dX5_income_115 2 rfl ?_
        obtain ⟨g_37, h⟩ := og h
        refine ww_iald hx hb hown hts hK 12 0 rfl rfl g_37 dX5_income_117 ?_
        refine ww_dup2 hx hb dX5_income_118 rfl rfl ?_
        obtain ⟨g_38, h⟩ := og h
        refine ww_iald hx hb hown hts hK 18 0 rfl rfl g_38 dX5_income_119 ?_
        refine ww_iload hx hb dX5_income_120 3 rfl ?_
        refine ww_iadd hx hb dX5_income_122 ?_
        obtain ⟨g_39, h⟩ := og h
        obtain ⟨σ_40, e_40, h⟩ := lt_e h
        refine ww_iast (ws1 := WR q cA (σ_40)) hx hb hown hts hK (hDD _) 18 0 rfl rfl g_39 dX5_income_123 (e_40 ▸ rfl) ?_
        refine ww_iload_n hx hb dX5_income_124 rfl 1 rfl ?_
        refine ww_iload hx hb dX5_income_125 3 rfl ?_
        refine ww_isub hx hb dX5_income_127 ?_
        refine ww_istore_n (i := 3) (lv1 := [(0, .ref (q 0)), (3, .int (x3 - y0)), (4, .int (x4))]) hx hb dX5_income_128 rfl (by decide) [1, 0, 2] rfl ?_
        refine ww_iinc (i := 4) (k := 2) (v := 1) (lv1 := [(0, .ref (q 0)), (3, .int (x3 - y0)), (4, .int (x4 + 1))]) hx hb dX5_income_129 rfl (by decide) (by decide) [1, 2, 0] rfl ?_
        refine ww_goto (tgt := 62) hx hb dX5_income_132 (by decide) ?_
        exact ww_sub (lv1 := [(0, .ref (q 0)), (3, .int (x3 - y0)), (4, .int (x4 + 1))]) [0, 1, 2] rfl (ih _ _ _ h)
      intro τ x3 x4 h
      rw [X5_income_l62] at h
      refine ww_iload hx hb dX5_income_62 2 rfl ?_
      refine ww_aload_n hx hb dX5_income_64 rfl 0 rfl ?_
      refine ww_get (C := RX5) (T := TX5) (N := 36) hx hb hown hts hK inA5 0 rfl rfl 25 (by decide) kw_340 rfl rfl dX5_income_65 ?_
      refine ww_ge2 (tgt := 135) hx hb dX5_income_68 (by decide) (fun c_6 => ?_) (fun c_6 => ?_)
      · replace h := it_p c_6 h
        refine ww_aload_n hx hb dX5_income_135 rfl 0 rfl ?_
        refine ww_dup hx hb dX5_income_136 rfl ?_
        refine ww_get (C := RX5) (T := TX5) (N := 36) hx hb hown hts hK inA5 0 rfl rfl 34 (by decide) kw_347 rfl rfl dX5_income_137 ?_
        refine ww_iload_n hx hb dX5_income_140 rfl 1 rfl ?_
        refine ww_iadd hx hb dX5_income_141 ?_
        obtain ⟨σ_7, e_7, h⟩ := lt_e h
        refine ww_put (C := RX5) (T := TX5) (N := 36) (ty := .int) (ws1 := WR q cA (σ_7)) hx hb hown hts hK inA5 tyX5 tyX5_ok nmX5 (hDD _) 0 rfl rfl 34 (by decide) kw_347 rfl rfl rfl rfl rfl (Nat.le_of_ble_eq_true rfl) dX5_income_142 (e_7 ▸ rfl) ?_
        refine ww_iconst (v := 0) hx hb dX5_income_145 (by decide) ?_
        refine ww_istore (i := 4) (lv1 := [(0, .ref (q 0)), (3, .int (x3)), (4, .int ((0 : Int32)))]) hx hb dX5_income_146 (by decide) [1, 2, 0] rfl ?_
        exact ww_sub (lv1 := [(0, .ref (q 0)), (3, .int (x3)), (4, .int ((0 : Int32)))]) [0, 1, 2] rfl (lp148 _ _ _ _ h)
      · replace h := it_n c_6 h
        refine ww_aload_n hx hb dX5_income_71 rfl 0 rfl ?_
        refine ww_get (C := RX5) (T := TX5) (N := 36) hx hb hown hts hK inA5 0 rfl rfl 27 (by decide) kw_342 rfl rfl dX5_income_72 ?_
        refine ww_iload hx hb dX5_income_75 2 rfl ?_
        obtain ⟨g_8, h⟩ := og h
        refine ww_iald hx hb hown hts hK 13 0 rfl rfl g_8 dX5_income_77 ?_
        refine ww_iload_n hx hb dX5_income_78 rfl 1 rfl ?_
        refine ww_ge2 (tgt := 92) hx hb dX5_income_79 (by decide) (fun c_9 => ?_) (fun c_9 => ?_)
        · replace h := it_p c_9 h
          refine ww_iload_n hx hb dX5_income_92 rfl 1 rfl ?_
          exact ww_sub (lv1 := [(0, .ref (q 0)), (3, .int (x3)), (4, .int (x4))]) [0, 1, 2] rfl (bk93 _ _ _ _ h)
        · replace h := it_n c_9 h
          refine ww_aload_n hx hb dX5_income_82 rfl 0 rfl ?_
          refine ww_get (C := RX5) (T := TX5) (N := 36) hx hb hown hts hK inA5 0 rfl rfl 27 (by decide) kw_342 rfl rfl dX5_income_83 ?_
          refine ww_iload hx hb dX5_income_86 2 rfl ?_
          obtain ⟨g_10, h⟩ := og h
          refine ww_iald hx hb hown hts hK 13 0 rfl rfl g_10 dX5_income_88 ?_
          refine ww_goto (tgt := 93) hx hb dX5_income_89 (by decide) ?_
          exact ww_sub (lv1 := [(0, .ref (q 0)), (3, .int (x3)), (4, .int (x4))]) [0, 1, 2] rfl (bk93 _ _ _ _ h)
  have bk44 : ∀ (τ : SS) (x1 : Int32) (y0 : Int32), X5_income_b44 τ x1 y0 = some (r, σ1) → WW p l e (rmc 1 40 0 0) s m args below meth c D vwCl (va_A (WR q cA σ) s.heap.size) 6 0 0 (MQ below (qcW D vwCl (WR q cA σ) (WR q cA σ1) (some (.int r)) s.heap.size) args s 0 0 (va_A (WR q cA σ) s.heap.size)) (WR q cA τ) 44 [(0, .ref (q 0)), (1, .int (x1))] [.int (y0)] := by
    intro τ x1 y0 h
    unfold X5_income_b44 at h
    refine ww_istore_n (i := 2) (lv1 := [(0, .ref (q 0)), (1, .int (x1)), (2, .int (y0))]) hx hb dX5_income_44 rfl (by decide) [1, 2, 0] rfl ?_
    refine ww_aload_n hx hb dX5_income_45 rfl 0 rfl ?_
    refine ww_dup hx hb dX5_income_46 rfl ?_
    refine ww_get (C := RX5) (T := TX5) (N := 36) hx hb hown hts hK inA5 0 rfl rfl 24 (by decide) kw_327 rfl rfl dX5_income_47 ?_
    refine ww_iload_n hx hb dX5_income_50 rfl 2 rfl ?_
    refine ww_isub hx hb dX5_income_51 ?_
    obtain ⟨σ_5, e_5, h⟩ := lt_e h
    refine ww_put (C := RX5) (T := TX5) (N := 36) (ty := .int) (ws1 := WR q cA (σ_5)) hx hb hown hts hK inA5 tyX5 tyX5_ok nmX5 (hDD _) 0 rfl rfl 24 (by decide) kw_327 rfl rfl rfl rfl rfl (Nat.le_of_ble_eq_true rfl) dX5_income_52 (e_5 ▸ rfl) ?_
    refine ww_iload_n hx hb dX5_income_55 rfl 1 rfl ?_
    refine ww_iload_n hx hb dX5_income_56 rfl 2 rfl ?_
    refine ww_isub hx hb dX5_income_57 ?_
    refine ww_istore_n (i := 3) (lv1 := [(0, .ref (q 0)), (3, .int (x1 - y0))]) hx hb dX5_income_58 rfl (by decide) [1, 0] rfl ?_
    refine ww_iconst (v := 0) hx hb dX5_income_59 (by decide) ?_
    refine ww_istore (i := 4) (lv1 := [(0, .ref (q 0)), (3, .int (x1 - y0)), (4, .int ((0 : Int32)))]) hx hb dX5_income_60 (by decide) [1, 2, 0] rfl ?_
    exact ww_sub (lv1 := [(0, .ref (q 0)), (3, .int (x1 - y0)), (4, .int ((0 : Int32)))]) [0, 1, 2] rfl (lp62 _ _ _ _ h)
  have bk16 : ∀ (τ : SS) (x1 : Int32) (y1 : Int32), X5_income_b16 τ x1 y1 = some (r, σ1) → WW p l e (rmc 1 40 0 0) s m args below meth c D vwCl (va_A (WR q cA σ) s.heap.size) 6 0 0 (MQ below (qcW D vwCl (WR q cA σ) (WR q cA σ1) (some (.int r)) s.heap.size) args s 0 0 (va_A (WR q cA σ) s.heap.size)) (WR q cA τ) 16 [(0, .ref (q 0)), (1, .int (x1))] [.int (y1), .ref (q 0)] := by
    intro τ x1 y1 h
    unfold X5_income_b16 at h
    obtain ⟨σ_2, e_2, h⟩ := lt_e h
    refine ww_put (C := RX5) (T := TX5) (N := 36) (ty := .int) (ws1 := WR q cA (σ_2)) hx hb hown hts hK inA5 tyX5 tyX5_ok nmX5 (hDD _) 0 rfl rfl 35 (by decide) kw_259 rfl rfl rfl rfl rfl (Nat.le_of_ble_eq_true rfl) dX5_income_16 (e_2 ▸ rfl) ?_
    refine ww_aload_n hx hb dX5_income_19 rfl 0 rfl ?_
    refine ww_get (C := RX5) (T := TX5) (N := 36) hx hb hown hts hK inA5 0 rfl rfl 35 (by decide) kw_259 rfl rfl dX5_income_20 ?_
    refine ww_le0 (tgt := 28) hx hb dX5_income_23 (by decide) (fun c_3 => ?_) (fun c_3 => ?_)
    · replace h := it_p c_3 h
      refine ww_aload_n hx hb dX5_income_28 rfl 0 rfl ?_
      refine ww_get (C := RX5) (T := TX5) (N := 36) hx hb hown hts hK inA5 0 rfl rfl 24 (by decide) kw_327 rfl rfl dX5_income_29 ?_
      refine ww_iload_n hx hb dX5_income_32 rfl 1 rfl ?_
      refine ww_ge2 (tgt := 43) hx hb dX5_income_33 (by decide) (fun c_4 => ?_) (fun c_4 => ?_)
      · replace h := it_p c_4 h
        refine ww_iload_n hx hb dX5_income_43 rfl 1 rfl ?_
        exact ww_sub (lv1 := [(0, .ref (q 0)), (1, .int (x1))]) [0, 1] rfl (bk44 _ _ _ h)
      · replace h := it_n c_4 h
        refine ww_aload_n hx hb dX5_income_36 rfl 0 rfl ?_
        refine ww_get (C := RX5) (T := TX5) (N := 36) hx hb hown hts hK inA5 0 rfl rfl 24 (by decide) kw_327 rfl rfl dX5_income_37 ?_
        refine ww_goto (tgt := 44) hx hb dX5_income_40 (by decide) ?_
        exact ww_sub (lv1 := [(0, .ref (q 0)), (1, .int (x1))]) [0, 1] rfl (bk44 _ _ _ h)
    · replace h := it_n c_3 h
      refine ww_iconst (v := 0) hx hb dX5_income_26 (by decide) ?_
      obtain ⟨rfl, rfl⟩ := os2 h
      exact ww_iret hx hb hr hlk rfl dX5_income_27
  refine ww_sub (lv1 := [(0, .ref (q 0)), (1, .int (x1))]) [0, 1] rfl ?_
  refine ww_aload_n hx hb dX5_income_0 rfl 0 rfl ?_
  refine ww_iload_n hx hb dX5_income_1 rfl 1 rfl ?_
  refine ww_iconst (v := 1) hx hb dX5_income_2 (by decide) ?_
  refine ww_ldc hx hb hown hts kw_291 dX5_income_3 ?_
  refine ww_callS (ws1 := WR q cA σ) (st1 := [.int (X5_isIn x1 (1 : Int32) (1000000 : Int32)), .ref (q 0)]) hx hb hml hown hts hK hN hA (hDD _) (Nat.zero_le _) (Nat.zero_le _) [.int (x1), .int ((1 : Int32)), .int ((1000000 : Int32))] [.ref (q 0)] (m_X5_isIn σ x1 (1 : Int32) (1000000 : Int32)) cs_X5_74 rfl (by decide) rfl (Nat.le_of_ble_eq_true rfl) dX5_income_5 rfl ?_
  refine ww_eq0 (tgt := 15) hx hb dX5_income_8 (by decide) (fun c_1 => ?_) (fun c_1 => ?_)
  · replace h := it_p c_1 h
    refine ww_iconst (v := 1) hx hb dX5_income_15 (by decide) ?_
    exact ww_sub (lv1 := [(0, .ref (q 0)), (1, .int (x1))]) [0, 1] rfl (bk16 _ _ _ h)
  · replace h := it_n c_1 h
    refine ww_iconst (v := 0) hx hb dX5_income_11 (by decide) ?_
    refine ww_goto (tgt := 16) hx hb dX5_income_12 (by decide) ?_
    exact ww_sub (lv1 := [(0, .ref (q 0)), (1, .int (x1))]) [0, 1] rfl (bk16 _ _ _ h)
set_option maxHeartbeats 4000000 in
set_option maxRecDepth 100000 in
theorem m_X5_today (σ : SS) (r : Int32) (σ1 : SS) (h : X5_today σ = some (r, σ1)) : Ct l yX5_today cX5_today 1 (some .int) 0 0 D vwCl [(cA, .int)] (WR q cA σ) (WR q cA σ1) [.ref (q 0)] (some (.int r)) := by
  refine ct_of (by decide +kernel) (Nat.le_of_ble_eq_true rfl) ?_
  intro p e s m args below meth c hx hb hr hlk hml hown hts hK hD hN hA
  have hown : s.vm.findClass RX5 = some m.cls := hown
  have hDD : ∀ τ : SS, va_D (va_A (WR q cA σ) s.heap.size) (WR q cA τ) := fun τ => hD.adr rfl
  unfold X5_today at h
  refine ww_sub (lv1 := [(0, .ref (q 0))]) [0] rfl ?_
  refine ww_aload_n hx hb dX5_today_0 rfl 0 rfl ?_
  refine ww_iconst (v := 0) hx hb dX5_today_1 (by decide) ?_
  obtain ⟨σ_1, e_1, h⟩ := lt_e h
  refine ww_put (C := RX5) (T := TX5) (N := 36) (ty := .int) (ws1 := WR q cA (σ_1)) hx hb hown hts hK inA5 tyX5 tyX5_ok nmX5 (hDD _) 0 rfl rfl 35 (by decide) kw_259 rfl rfl rfl rfl rfl (Nat.le_of_ble_eq_true rfl) dX5_today_2 (e_1 ▸ rfl) ?_
  refine ww_aload_n hx hb dX5_today_5 rfl 0 rfl ?_
  refine ww_get (C := RX5) (T := TX5) (N := 36) hx hb hown hts hK inA5 0 rfl rfl 10 (by decide) kw_276 rfl rfl dX5_today_6 ?_
  obtain ⟨rfl, rfl⟩ := os2 h
  exact ww_iret hx hb hr hlk rfl dX5_today_9
set_option maxHeartbeats 4000000 in
set_option maxRecDepth 100000 in
theorem m_X5_shot (σ : SS) (r : Int32) (σ1 : SS) (h : X5_shot σ = some (r, σ1)) : Ct l yX5_shot cX5_shot 1 (some .int) 0 0 D vwCl [(cA, .int)] (WR q cA σ) (WR q cA σ1) [.ref (q 0)] (some (.int r)) := by
  refine ct_of (by decide +kernel) (Nat.le_of_ble_eq_true rfl) ?_
  intro p e s m args below meth c hx hb hr hlk hml hown hts hK hD hN hA
  have hown : s.vm.findClass RX5 = some m.cls := hown
  have hDD : ∀ τ : SS, va_D (va_A (WR q cA σ) s.heap.size) (WR q cA τ) := fun τ => hD.adr rfl
  unfold X5_shot at h
  refine ww_sub (lv1 := [(0, .ref (q 0))]) [0] rfl ?_
  refine ww_aload_n hx hb dX5_shot_0 rfl 0 rfl ?_
  refine ww_iconst (v := 0) hx hb dX5_shot_1 (by decide) ?_
  obtain ⟨σ_1, e_1, h⟩ := lt_e h
  refine ww_put (C := RX5) (T := TX5) (N := 36) (ty := .int) (ws1 := WR q cA (σ_1)) hx hb hown hts hK inA5 tyX5 tyX5_ok nmX5 (hDD _) 0 rfl rfl 35 (by decide) kw_259 rfl rfl rfl rfl rfl (Nat.le_of_ble_eq_true rfl) dX5_shot_2 (e_1 ▸ rfl) ?_
  refine ww_aload_n hx hb dX5_shot_5 rfl 0 rfl ?_
  refine ww_get (C := RX5) (T := TX5) (N := 36) hx hb hown hts hK inA5 0 rfl rfl 6 (by decide) kw_267 rfl rfl dX5_shot_6 ?_
  obtain ⟨rfl, rfl⟩ := os2 h
  exact ww_iret hx hb hr hlk rfl dX5_shot_9
set_option maxHeartbeats 4000000 in
set_option maxRecDepth 100000 in
theorem m_X5_days (σ : SS) (r : Int32) (σ1 : SS) (h : X5_days σ = some (r, σ1)) : Ct l yX5_days cX5_days 1 (some .int) 5 200 D vwCl [(cA, .int)] (WR q cA σ) (WR q cA σ1) [.ref (q 0)] (some (.int r)) := by
  refine ct_of (by decide +kernel) (Nat.le_of_ble_eq_true rfl) ?_
  intro p e s m args below meth c hx hb hr hlk hml hown hts hK hD hN hA
  have hown : s.vm.findClass RX5 = some m.cls := hown
  have hDD : ∀ τ : SS, va_D (va_A (WR q cA σ) s.heap.size) (WR q cA τ) := fun τ => hD.adr rfl
  unfold X5_days at h
  refine ww_sub (lv1 := [(0, .ref (q 0))]) [0] rfl ?_
  refine ww_aload_n hx hb dX5_days_0 rfl 0 rfl ?_
  refine ww_iconst (v := 0) hx hb dX5_days_1 (by decide) ?_
  obtain ⟨σ_1, e_1, h⟩ := lt_e h
  refine ww_put (C := RX5) (T := TX5) (N := 36) (ty := .int) (ws1 := WR q cA (σ_1)) hx hb hown hts hK inA5 tyX5 tyX5_ok nmX5 (hDD _) 0 rfl rfl 35 (by decide) kw_259 rfl rfl rfl rfl rfl (Nat.le_of_ble_eq_true rfl) dX5_days_2 (e_1 ▸ rfl) ?_
  refine ww_aload_n hx hb dX5_days_5 rfl 0 rfl ?_
  obtain ⟨σ_2, e_2, h⟩ := ob h
  refine ww_callV (ws1 := WR q cA σ_2) (st1 := []) hx hb hml hown hts hK hN hA (hDD _) (Nat.zero_le _) (Nat.zero_le _) [] [] (m_X5_plans _  _ e_2) cs_X5_150 rfl (by decide) 0 rfl rfl rfl (Nat.le_of_ble_eq_true rfl) dX5_days_6 rfl ?_
  refine ww_aload_n hx hb dX5_days_9 rfl 0 rfl ?_
  refine ww_get (C := RX5) (T := TX5) (N := 36) hx hb hown hts hK inA5 0 rfl rfl 17 (by decide) kw_292 rfl rfl dX5_days_10 ?_
  obtain ⟨rfl, rfl⟩ := os2 h
  exact ww_iret hx hb hr hlk rfl dX5_days_13
set_option maxHeartbeats 4000000 in
set_option maxRecDepth 100000 in
theorem m_X5_daysByAll (σ : SS) (r : Int32) (σ1 : SS) (h : X5_daysByAll σ = some (r, σ1)) : Ct l yX5_daysByAll cX5_daysByAll 1 (some .int) 5 200 D vwCl [(cA, .int)] (WR q cA σ) (WR q cA σ1) [.ref (q 0)] (some (.int r)) := by
  refine ct_of (by decide +kernel) (Nat.le_of_ble_eq_true rfl) ?_
  intro p e s m args below meth c hx hb hr hlk hml hown hts hK hD hN hA
  have hown : s.vm.findClass RX5 = some m.cls := hown
  have hDD : ∀ τ : SS, va_D (va_A (WR q cA σ) s.heap.size) (WR q cA τ) := fun τ => hD.adr rfl
  unfold X5_daysByAll at h
  have bk19 : ∀ (τ : SS) (y1 : Int32), X5_daysByAll_b19 τ y1 = some (r, σ1) → WW p l e (rmc 5 200 0 0) s m args below meth c D vwCl (va_A (WR q cA σ) s.heap.size) 1 0 0 (MQ below (qcW D vwCl (WR q cA σ) (WR q cA σ1) (some (.int r)) s.heap.size) args s 0 0 (va_A (WR q cA σ) s.heap.size)) (WR q cA τ) 19 [(0, .ref (q 0))] [.int (y1), .ref (q 0)] := by
    intro τ y1 h
    unfold X5_daysByAll_b19 at h
    obtain ⟨σ_3, e_3, h⟩ := lt_e h
    refine ww_put (C := RX5) (T := TX5) (N := 36) (ty := .int) (ws1 := WR q cA (σ_3)) hx hb hown hts hK inA5 tyX5 tyX5_ok nmX5 (hDD _) 0 rfl rfl 35 (by decide) kw_259 rfl rfl rfl rfl rfl (Nat.le_of_ble_eq_true rfl) dX5_daysByAll_19 (e_3 ▸ rfl) ?_
    refine ww_aload_n hx hb dX5_daysByAll_22 rfl 0 rfl ?_
    refine ww_get (C := RX5) (T := TX5) (N := 36) hx hb hown hts hK inA5 0 rfl rfl 35 (by decide) kw_259 rfl rfl dX5_daysByAll_23 ?_
    refine ww_le0 (tgt := 33) hx hb dX5_daysByAll_26 (by decide) (fun c_4 => ?_) (fun c_4 => ?_)
    · replace h := it_p c_4 h
      refine ww_aload_n hx hb dX5_daysByAll_33 rfl 0 rfl ?_
      refine ww_get (C := RX5) (T := TX5) (N := 36) hx hb hown hts hK inA5 0 rfl rfl 17 (by decide) kw_292 rfl rfl dX5_daysByAll_34 ?_
      obtain ⟨rfl, rfl⟩ := os2 h
      exact ww_iret hx hb hr hlk rfl dX5_daysByAll_37
    · replace h := it_n c_4 h
      refine ww_iconst (v := 0) hx hb dX5_daysByAll_29 (by decide) ?_
      refine ww_goto (tgt := 37) hx hb dX5_daysByAll_30 (by decide) ?_
      obtain ⟨rfl, rfl⟩ := os2 h
      exact ww_iret hx hb hr hlk rfl dX5_daysByAll_37
  refine ww_sub (lv1 := [(0, .ref (q 0))]) [0] rfl ?_
  refine ww_aload_n hx hb dX5_daysByAll_0 rfl 0 rfl ?_
  obtain ⟨σ_1, e_1, h⟩ := ob h
  refine ww_callV (ws1 := WR q cA σ_1) (st1 := []) hx hb hml hown hts hK hN hA (hDD _) (Nat.zero_le _) (Nat.zero_le _) [] [] (m_X5_plans _  _ e_1) cs_X5_150 rfl (by decide) 0 rfl rfl rfl (Nat.le_of_ble_eq_true rfl) dX5_daysByAll_1 rfl ?_
  refine ww_aload_n hx hb dX5_daysByAll_4 rfl 0 rfl ?_
  refine ww_aload_n hx hb dX5_daysByAll_5 rfl 0 rfl ?_
  refine ww_get (C := RX5) (T := TX5) (N := 36) hx hb hown hts hK inA5 0 rfl rfl 16 (by decide) kw_288 rfl rfl dX5_daysByAll_6 ?_
  refine ww_bipush (v := 6) hx hb dX5_daysByAll_9 (by decide) ?_
  refine ww_le2 (tgt := 18) hx hb dX5_daysByAll_11 (by decide) (fun c_2 => ?_) (fun c_2 => ?_)
  · replace h := it_p c_2 h
    refine ww_iconst (v := 0) hx hb dX5_daysByAll_18 (by decide) ?_
    exact ww_sub (lv1 := [(0, .ref (q 0))]) [0] rfl (bk19 _ _ h)
  · replace h := it_n c_2 h
    refine ww_iconst (v := 1) hx hb dX5_daysByAll_14 (by decide) ?_
    refine ww_goto (tgt := 19) hx hb dX5_daysByAll_15 (by decide) ?_
    exact ww_sub (lv1 := [(0, .ref (q 0))]) [0] rfl (bk19 _ _ h)
set_option maxHeartbeats 4000000 in
set_option maxRecDepth 100000 in
theorem m_X5_planned (σ : SS) (x1 : Int32) (r : Int32) (σ1 : SS) (h : X5_planned σ x1 = some (r, σ1)) : Ct l yX5_planned cX5_planned 2 (some .int) 5 200 D vwCl [(cA, .int)] (WR q cA σ) (WR q cA σ1) [.ref (q 0), .int (x1)] (some (.int r)) := by
  refine ct_of (by decide +kernel) (Nat.le_of_ble_eq_true rfl) ?_
  intro p e s m args below meth c hx hb hr hlk hml hown hts hK hD hN hA
  have hown : s.vm.findClass RX5 = some m.cls := hown
  have hDD : ∀ τ : SS, va_D (va_A (WR q cA σ) s.heap.size) (WR q cA τ) := fun τ => hD.adr rfl
  unfold X5_planned at h
  have bk24 : ∀ (τ : SS) (x1 : Int32) (y1 : Int32), X5_planned_b24 τ x1 y1 = some (r, σ1) → WW p l e (rmc 5 200 0 0) s m args below meth c D vwCl (va_A (WR q cA σ) s.heap.size) 2 0 0 (MQ below (qcW D vwCl (WR q cA σ) (WR q cA σ1) (some (.int r)) s.heap.size) args s 0 0 (va_A (WR q cA σ) s.heap.size)) (WR q cA τ) 24 [(0, .ref (q 0)), (1, .int (x1))] [.int (y1), .ref (q 0)] := by
    intro τ x1 y1 h
    unfold X5_planned_b24 at h
    obtain ⟨σ_3, e_3, h⟩ := lt_e h
    refine ww_put (C := RX5) (T := TX5) (N := 36) (ty := .int) (ws1 := WR q cA (σ_3)) hx hb hown hts hK inA5 tyX5 tyX5_ok nmX5 (hDD _) 0 rfl rfl 35 (by decide) kw_259 rfl rfl rfl rfl rfl (Nat.le_of_ble_eq_true rfl) dX5_planned_24 (e_3 ▸ rfl) ?_
    refine ww_aload_n hx hb dX5_planned_27 rfl 0 rfl ?_
    refine ww_get (C := RX5) (T := TX5) (N := 36) hx hb hown hts hK inA5 0 rfl rfl 35 (by decide) kw_259 rfl rfl dX5_planned_28 ?_
    refine ww_le0 (tgt := 38) hx hb dX5_planned_31 (by decide) (fun c_4 => ?_) (fun c_4 => ?_)
    · replace h := it_p c_4 h
      refine ww_aload_n hx hb dX5_planned_38 rfl 0 rfl ?_
      refine ww_get (C := RX5) (T := TX5) (N := 36) hx hb hown hts hK inA5 0 rfl rfl 14 (by decide) kw_289 rfl rfl dX5_planned_39 ?_
      refine ww_iload_n hx hb dX5_planned_42 rfl 1 rfl ?_
      obtain ⟨g_5, h⟩ := og h
      refine ww_iald hx hb hown hts hK 7 0 rfl rfl g_5 dX5_planned_43 ?_
      obtain ⟨rfl, rfl⟩ := os2 h
      exact ww_iret hx hb hr hlk rfl dX5_planned_44
    · replace h := it_n c_4 h
      refine ww_iconst (v := 0) hx hb dX5_planned_34 (by decide) ?_
      refine ww_goto (tgt := 44) hx hb dX5_planned_35 (by decide) ?_
      obtain ⟨rfl, rfl⟩ := os2 h
      exact ww_iret hx hb hr hlk rfl dX5_planned_44
  refine ww_sub (lv1 := [(0, .ref (q 0)), (1, .int (x1))]) [0, 1] rfl ?_
  refine ww_aload_n hx hb dX5_planned_0 rfl 0 rfl ?_
  obtain ⟨σ_1, e_1, h⟩ := ob h
  refine ww_callV (ws1 := WR q cA σ_1) (st1 := []) hx hb hml hown hts hK hN hA (hDD _) (Nat.zero_le _) (Nat.zero_le _) [] [] (m_X5_plans _  _ e_1) cs_X5_150 rfl (by decide) 0 rfl rfl rfl (Nat.le_of_ble_eq_true rfl) dX5_planned_1 rfl ?_
  refine ww_aload_n hx hb dX5_planned_4 rfl 0 rfl ?_
  refine ww_iload_n hx hb dX5_planned_5 rfl 1 rfl ?_
  refine ww_iconst (v := 0) hx hb dX5_planned_6 (by decide) ?_
  refine ww_aload_n hx hb dX5_planned_7 rfl 0 rfl ?_
  refine ww_get (C := RX5) (T := TX5) (N := 36) hx hb hown hts hK inA5 0 rfl rfl 16 (by decide) kw_288 rfl rfl dX5_planned_8 ?_
  refine ww_iconst (v := 1) hx hb dX5_planned_11 (by decide) ?_
  refine ww_isub hx hb dX5_planned_12 ?_
  refine ww_callS (ws1 := WR q cA σ_1) (st1 := [.int (X5_isIn x1 (0 : Int32) ((σ_1 0 16) - (1 : Int32))), .ref (q 0)]) hx hb hml hown hts hK hN hA (hDD _) (Nat.zero_le _) (Nat.zero_le _) [.int (x1), .int ((0 : Int32)), .int ((σ_1 0 16) - (1 : Int32))] [.ref (q 0)] (m_X5_isIn σ_1 x1 (0 : Int32) ((σ_1 0 16) - (1 : Int32))) cs_X5_74 rfl (by decide) rfl (Nat.le_of_ble_eq_true rfl) dX5_planned_13 rfl ?_
  refine ww_eq0 (tgt := 23) hx hb dX5_planned_16 (by decide) (fun c_2 => ?_) (fun c_2 => ?_)
  · replace h := it_p c_2 h
    refine ww_iconst (v := 1) hx hb dX5_planned_23 (by decide) ?_
    exact ww_sub (lv1 := [(0, .ref (q 0)), (1, .int (x1))]) [0, 1] rfl (bk24 _ _ _ h)
  · replace h := it_n c_2 h
    refine ww_iconst (v := 0) hx hb dX5_planned_19 (by decide) ?_
    refine ww_goto (tgt := 24) hx hb dX5_planned_20 (by decide) ?_
    exact ww_sub (lv1 := [(0, .ref (q 0)), (1, .int (x1))]) [0, 1] rfl (bk24 _ _ _ h)
set_option maxHeartbeats 4000000 in
set_option maxRecDepth 100000 in
theorem m_X5_begins (σ : SS) (x1 : Int32) (r : Int32) (σ1 : SS) (h : X5_begins σ x1 = some (r, σ1)) : Ct l yX5_begins cX5_begins 4 (some .int) 5 200 D vwCl [(cA, .int)] (WR q cA σ) (WR q cA σ1) [.ref (q 0), .int (x1)] (some (.int r)) := by
  refine ct_of (by decide +kernel) (Nat.le_of_ble_eq_true rfl) ?_
  intro p e s m args below meth c hx hb hr hlk hml hown hts hK hD hN hA
  have hown : s.vm.findClass RX5 = some m.cls := hown
  have hDD : ∀ τ : SS, va_D (va_A (WR q cA σ) s.heap.size) (WR q cA τ) := fun τ => hD.adr rfl
  unfold X5_begins at h
  have lp45 : ∀ (n : Nat) (τ : SS) (x1 : Int32) (x2 : Int32) (x3 : Int32), X5_begins_l45 n τ x1 x2 x3 = some (r, σ1) → WW p l e (rmc 5 200 0 0) s m args below meth c D vwCl (va_A (WR q cA σ) s.heap.size) 4 0 0 (MQ below (qcW D vwCl (WR q cA σ) (WR q cA σ1) (some (.int r)) s.heap.size) args s 0 0 (va_A (WR q cA σ) s.heap.size)) (WR q cA τ) 45 [(0, .ref (q 0)), (1, .int (x1)), (2, .int (x2)), (3, .int (x3))] [] := by
    intro n
    induction n with
    | zero => intro τ x1 x2 x3 h; rw [X5_begins_l45] at h; cases h
    | succ n ih =>
      have bk73 : ∀ (τ : SS) (x1 : Int32) (x3 : Int32) (y0 : Int32), X5_begins_b73 (X5_begins_l45 n) τ x1 x3 y0 = some (r, σ1) → WW p l e (rmc 5 200 0 0) s m args below meth c D vwCl (va_A (WR q cA σ) s.heap.size) 4 0 0 (MQ below (qcW D vwCl (WR q cA σ) (WR q cA σ1) (some (.int r)) s.heap.size) args s 0 0 (va_A (WR q cA σ) s.heap.size)) (WR q cA τ) 73 [(0, .ref (q 0)), (1, .int (x1)), (3, .int (x3))] [.int (y0)] := by
        intro τ x1 x3 y0 h
        unfold X5_begins_b73 at h
        refine ww_istore_n (i := 2) (lv1 := [(0, .ref (q 0)), (1, .int (x1)), (2, .int (y0)), (3, .int (x3))]) hx hb dX5_begins_73 rfl (by decide) [1, 2, 0, 3] rfl ?_
        refine ww_iinc (i := 3) (k := 3) (v := 1) (lv1 := [(0, .ref (q 0)), (1, .int (x1)), (2, .int (y0)), (3, .int (x3 + 1))]) hx hb dX5_begins_74 rfl (by decide) (by decide) [1, 2, 3, 0] rfl ?_
        refine ww_goto (tgt := 45) hx hb dX5_begins_77 (by decide) ?_
        exact ww_sub (lv1 := [(0, .ref (q 0)), (1, .int (x1)), (2, .int (y0)), (3, .int (x3 + 1))]) [0, 1, 2, 3] rfl (ih _ _ _ _ h)
      intro τ x1 x2 x3 h
      rw [X5_begins_l45] at h
      refine ww_iload_n hx hb dX5_begins_45 rfl 3 rfl ?_
      refine ww_aload_n hx hb dX5_begins_46 rfl 0 rfl ?_
      refine ww_get (C := RX5) (T := TX5) (N := 36) hx hb hown hts hK inA5 0 rfl rfl 16 (by decide) kw_288 rfl rfl dX5_begins_47 ?_
      refine ww_ge2 (tgt := 80) hx hb dX5_begins_50 (by decide) (fun c_6 => ?_) (fun c_6 => ?_)
      · replace h := it_p c_6 h
        refine ww_iload_n hx hb dX5_begins_80 rfl 2 rfl ?_
        obtain ⟨rfl, rfl⟩ := os2 h
        exact ww_iret hx hb hr hlk rfl dX5_begins_81
      · replace h := it_n c_6 h
        refine ww_aload_n hx hb dX5_begins_53 rfl 0 rfl ?_
        refine ww_get (C := RX5) (T := TX5) (N := 36) hx hb hown hts hK inA5 0 rfl rfl 14 (by decide) kw_289 rfl rfl dX5_begins_54 ?_
        refine ww_iload_n hx hb dX5_begins_57 rfl 3 rfl ?_
        obtain ⟨g_7, h⟩ := og h
        refine ww_iald hx hb hown hts hK 7 0 rfl rfl g_7 dX5_begins_58 ?_
        refine ww_iload_n hx hb dX5_begins_59 rfl 1 rfl ?_
        refine ww_ne2 (tgt := 72) hx hb dX5_begins_60 (by decide) (fun c_8 => ?_) (fun c_8 => ?_)
        · replace h := it_n c_8 h
          refine ww_iload_n hx hb dX5_begins_72 rfl 2 rfl ?_
          exact ww_sub (lv1 := [(0, .ref (q 0)), (1, .int (x1)), (3, .int (x3))]) [0, 1, 3] rfl (bk73 _ _ _ _ h)
        · replace h := it_p c_8 h
          refine ww_aload_n hx hb dX5_begins_63 rfl 0 rfl ?_
          refine ww_get (C := RX5) (T := TX5) (N := 36) hx hb hown hts hK inA5 0 rfl rfl 15 (by decide) kw_290 rfl rfl dX5_begins_64 ?_
          refine ww_iload_n hx hb dX5_begins_67 rfl 3 rfl ?_
          obtain ⟨g_9, h⟩ := og h
          refine ww_iald hx hb hown hts hK 8 0 rfl rfl g_9 dX5_begins_68 ?_
          refine ww_goto (tgt := 73) hx hb dX5_begins_69 (by decide) ?_
          exact ww_sub (lv1 := [(0, .ref (q 0)), (1, .int (x1)), (3, .int (x3))]) [0, 1, 3] rfl (bk73 _ _ _ _ h)
  have bk24 : ∀ (τ : SS) (x1 : Int32) (y1 : Int32), X5_begins_b24 τ x1 y1 = some (r, σ1) → WW p l e (rmc 5 200 0 0) s m args below meth c D vwCl (va_A (WR q cA σ) s.heap.size) 4 0 0 (MQ below (qcW D vwCl (WR q cA σ) (WR q cA σ1) (some (.int r)) s.heap.size) args s 0 0 (va_A (WR q cA σ) s.heap.size)) (WR q cA τ) 24 [(0, .ref (q 0)), (1, .int (x1))] [.int (y1), .ref (q 0)] := by
    intro τ x1 y1 h
    unfold X5_begins_b24 at h
    obtain ⟨σ_3, e_3, h⟩ := lt_e h
    refine ww_put (C := RX5) (T := TX5) (N := 36) (ty := .int) (ws1 := WR q cA (σ_3)) hx hb hown hts hK inA5 tyX5 tyX5_ok nmX5 (hDD _) 0 rfl rfl 35 (by decide) kw_259 rfl rfl rfl rfl rfl (Nat.le_of_ble_eq_true rfl) dX5_begins_24 (e_3 ▸ rfl) ?_
    refine ww_aload_n hx hb dX5_begins_27 rfl 0 rfl ?_
    refine ww_get (C := RX5) (T := TX5) (N := 36) hx hb hown hts hK inA5 0 rfl rfl 35 (by decide) kw_259 rfl rfl dX5_begins_28 ?_
    refine ww_le0 (tgt := 36) hx hb dX5_begins_31 (by decide) (fun c_4 => ?_) (fun c_4 => ?_)
    · replace h := it_p c_4 h
      refine ww_aload_n hx hb dX5_begins_36 rfl 0 rfl ?_
      refine ww_get (C := RX5) (T := TX5) (N := 36) hx hb hown hts hK inA5 0 rfl rfl 7 (by decide) kw_268 rfl rfl dX5_begins_37 ?_
      refine ww_iload_n hx hb dX5_begins_40 rfl 1 rfl ?_
      obtain ⟨g_5, h⟩ := og h
      refine ww_iald hx hb hown hts hK 6 0 rfl rfl g_5 dX5_begins_41 ?_
      refine ww_istore_n (i := 2) (lv1 := [(0, .ref (q 0)), (1, .int (x1)), (2, .int (σ_3 6 (Int32.toNatClampNeg x1)))]) hx hb dX5_begins_42 rfl (by decide) [1, 2, 0] rfl ?_
      refine ww_iconst (v := 0) hx hb dX5_begins_43 (by decide) ?_
      refine ww_istore_n (i := 3) (lv1 := [(0, .ref (q 0)), (1, .int (x1)), (2, .int (σ_3 6 (Int32.toNatClampNeg x1))), (3, .int ((0 : Int32)))]) hx hb dX5_begins_44 rfl (by decide) [1, 2, 3, 0] rfl ?_
      exact ww_sub (lv1 := [(0, .ref (q 0)), (1, .int (x1)), (2, .int (σ_3 6 (Int32.toNatClampNeg x1))), (3, .int ((0 : Int32)))]) [0, 1, 2, 3] rfl (lp45 _ _ _ _ _ h)
    · replace h := it_n c_4 h
      refine ww_iconst (v := 0) hx hb dX5_begins_34 (by decide) ?_
      obtain ⟨rfl, rfl⟩ := os2 h
      exact ww_iret hx hb hr hlk rfl dX5_begins_35
  refine ww_sub (lv1 := [(0, .ref (q 0)), (1, .int (x1))]) [0, 1] rfl ?_
  refine ww_aload_n hx hb dX5_begins_0 rfl 0 rfl ?_
  obtain ⟨σ_1, e_1, h⟩ := ob h
  refine ww_callV (ws1 := WR q cA σ_1) (st1 := []) hx hb hml hown hts hK hN hA (hDD _) (Nat.zero_le _) (Nat.zero_le _) [] [] (m_X5_plans _  _ e_1) cs_X5_150 rfl (by decide) 0 rfl rfl rfl (Nat.le_of_ble_eq_true rfl) dX5_begins_1 rfl ?_
  refine ww_aload_n hx hb dX5_begins_4 rfl 0 rfl ?_
  refine ww_iload_n hx hb dX5_begins_5 rfl 1 rfl ?_
  refine ww_iconst (v := 0) hx hb dX5_begins_6 (by decide) ?_
  refine ww_aload_n hx hb dX5_begins_7 rfl 0 rfl ?_
  refine ww_get (C := RX5) (T := TX5) (N := 36) hx hb hown hts hK inA5 0 rfl rfl 0 (by decide) kw_264 rfl rfl dX5_begins_8 ?_
  refine ww_iconst (v := 1) hx hb dX5_begins_11 (by decide) ?_
  refine ww_isub hx hb dX5_begins_12 ?_
  refine ww_callS (ws1 := WR q cA σ_1) (st1 := [.int (X5_isIn x1 (0 : Int32) ((σ_1 0 0) - (1 : Int32))), .ref (q 0)]) hx hb hml hown hts hK hN hA (hDD _) (Nat.zero_le _) (Nat.zero_le _) [.int (x1), .int ((0 : Int32)), .int ((σ_1 0 0) - (1 : Int32))] [.ref (q 0)] (m_X5_isIn σ_1 x1 (0 : Int32) ((σ_1 0 0) - (1 : Int32))) cs_X5_74 rfl (by decide) rfl (Nat.le_of_ble_eq_true rfl) dX5_begins_13 rfl ?_
  refine ww_eq0 (tgt := 23) hx hb dX5_begins_16 (by decide) (fun c_2 => ?_) (fun c_2 => ?_)
  · replace h := it_p c_2 h
    refine ww_iconst (v := 1) hx hb dX5_begins_23 (by decide) ?_
    exact ww_sub (lv1 := [(0, .ref (q 0)), (1, .int (x1))]) [0, 1] rfl (bk24 _ _ _ h)
  · replace h := it_n c_2 h
    refine ww_iconst (v := 0) hx hb dX5_begins_19 (by decide) ?_
    refine ww_goto (tgt := 24) hx hb dX5_begins_20 (by decide) ?_
    exact ww_sub (lv1 := [(0, .ref (q 0)), (1, .int (x1))]) [0, 1] rfl (bk24 _ _ _ h)
set_option maxHeartbeats 4000000 in
set_option maxRecDepth 100000 in
theorem m_X5_left (σ : SS) (x1 : Int32) (r : Int32) (σ1 : SS) (h : X5_left σ x1 = some (r, σ1)) : Ct l yX5_left cX5_left 2 (some .int) 3 120 D vwCl [(cA, .int)] (WR q cA σ) (WR q cA σ1) [.ref (q 0), .int (x1)] (some (.int r)) := by
  refine ct_of (by decide +kernel) (Nat.le_of_ble_eq_true rfl) ?_
  intro p e s m args below meth c hx hb hr hlk hml hown hts hK hD hN hA
  have hown : s.vm.findClass RX5 = some m.cls := hown
  have hDD : ∀ τ : SS, va_D (va_A (WR q cA σ) s.heap.size) (WR q cA τ) := fun τ => hD.adr rfl
  unfold X5_left at h
  refine ww_sub (lv1 := [(0, .ref (q 0)), (1, .int (x1))]) [0, 1] rfl ?_
  refine ww_aload_n hx hb dX5_left_0 rfl 0 rfl ?_
  refine ww_iload_n hx hb dX5_left_1 rfl 1 rfl ?_
  obtain ⟨r_1, σ_1, e_1, h⟩ := ob2 h
  refine ww_callV (ws1 := WR q cA σ_1) (st1 := [.int (r_1)]) hx hb hml hown hts hK hN hA (hDD _) (Nat.zero_le _) (Nat.zero_le _) [.int (x1)] [] (m_X5_isLine _ _ _ _ e_1) cs_X5_170 rfl (by decide) 0 rfl rfl rfl (Nat.le_of_ble_eq_true rfl) dX5_left_2 rfl ?_
  refine ww_eq0 (tgt := 17) hx hb dX5_left_5 (by decide) (fun c_2 => ?_) (fun c_2 => ?_)
  · replace h := it_p c_2 h
    refine ww_iconst (v := 0) hx hb dX5_left_17 (by decide) ?_
    obtain ⟨rfl, rfl⟩ := os2 h
    exact ww_iret hx hb hr hlk rfl dX5_left_18
  · replace h := it_n c_2 h
    refine ww_aload_n hx hb dX5_left_8 rfl 0 rfl ?_
    refine ww_get (C := RX5) (T := TX5) (N := 36) hx hb hown hts hK inA5 0 rfl rfl 21 (by decide) kw_320 rfl rfl dX5_left_9 ?_
    refine ww_iload_n hx hb dX5_left_12 rfl 1 rfl ?_
    obtain ⟨g_3, h⟩ := og h
    refine ww_iald hx hb hown hts hK 11 0 rfl rfl g_3 dX5_left_13 ?_
    refine ww_goto (tgt := 18) hx hb dX5_left_14 (by decide) ?_
    obtain ⟨rfl, rfl⟩ := os2 h
    exact ww_iret hx hb hr hlk rfl dX5_left_18
set_option maxHeartbeats 4000000 in
set_option maxRecDepth 100000 in
theorem m_X5_fee (σ : SS) (r : Int32) (σ1 : SS) (h : X5_fee σ = some (r, σ1)) : Ct l yX5_fee cX5_fee 1 (some .int) 0 0 D vwCl [(cA, .int)] (WR q cA σ) (WR q cA σ1) [.ref (q 0)] (some (.int r)) := by
  refine ct_of (by decide +kernel) (Nat.le_of_ble_eq_true rfl) ?_
  intro p e s m args below meth c hx hb hr hlk hml hown hts hK hD hN hA
  have hown : s.vm.findClass RX5 = some m.cls := hown
  have hDD : ∀ τ : SS, va_D (va_A (WR q cA σ) s.heap.size) (WR q cA τ) := fun τ => hD.adr rfl
  unfold X5_fee at h
  refine ww_sub (lv1 := [(0, .ref (q 0))]) [0] rfl ?_
  refine ww_aload_n hx hb dX5_fee_0 rfl 0 rfl ?_
  refine ww_iconst (v := 0) hx hb dX5_fee_1 (by decide) ?_
  obtain ⟨σ_1, e_1, h⟩ := lt_e h
  refine ww_put (C := RX5) (T := TX5) (N := 36) (ty := .int) (ws1 := WR q cA (σ_1)) hx hb hown hts hK inA5 tyX5 tyX5_ok nmX5 (hDD _) 0 rfl rfl 35 (by decide) kw_259 rfl rfl rfl rfl rfl (Nat.le_of_ble_eq_true rfl) dX5_fee_2 (e_1 ▸ rfl) ?_
  refine ww_aload_n hx hb dX5_fee_5 rfl 0 rfl ?_
  refine ww_get (C := RX5) (T := TX5) (N := 36) hx hb hown hts hK inA5 0 rfl rfl 22 (by decide) kw_325 rfl rfl dX5_fee_6 ?_
  obtain ⟨rfl, rfl⟩ := os2 h
  exact ww_iret hx hb hr hlk rfl dX5_fee_9
set_option maxHeartbeats 4000000 in
set_option maxRecDepth 100000 in
theorem m_X5_costs (σ : SS) (r : Int32) (σ1 : SS) (h : X5_costs σ = some (r, σ1)) : Ct l yX5_costs cX5_costs 1 (some .int) 0 0 D vwCl [(cA, .int)] (WR q cA σ) (WR q cA σ1) [.ref (q 0)] (some (.int r)) := by
  refine ct_of (by decide +kernel) (Nat.le_of_ble_eq_true rfl) ?_
  intro p e s m args below meth c hx hb hr hlk hml hown hts hK hD hN hA
  have hown : s.vm.findClass RX5 = some m.cls := hown
  have hDD : ∀ τ : SS, va_D (va_A (WR q cA σ) s.heap.size) (WR q cA τ) := fun τ => hD.adr rfl
  unfold X5_costs at h
  refine ww_sub (lv1 := [(0, .ref (q 0))]) [0] rfl ?_
  refine ww_aload_n hx hb dX5_costs_0 rfl 0 rfl ?_
  refine ww_iconst (v := 0) hx hb dX5_costs_1 (by decide) ?_
  obtain ⟨σ_1, e_1, h⟩ := lt_e h
  refine ww_put (C := RX5) (T := TX5) (N := 36) (ty := .int) (ws1 := WR q cA (σ_1)) hx hb hown hts hK inA5 tyX5 tyX5_ok nmX5 (hDD _) 0 rfl rfl 35 (by decide) kw_259 rfl rfl rfl rfl rfl (Nat.le_of_ble_eq_true rfl) dX5_costs_2 (e_1 ▸ rfl) ?_
  refine ww_aload_n hx hb dX5_costs_5 rfl 0 rfl ?_
  refine ww_get (C := RX5) (T := TX5) (N := 36) hx hb hown hts hK inA5 0 rfl rfl 23 (by decide) kw_326 rfl rfl dX5_costs_6 ?_
  obtain ⟨rfl, rfl⟩ := os2 h
  exact ww_iret hx hb hr hlk rfl dX5_costs_9
set_option maxHeartbeats 4000000 in
set_option maxRecDepth 100000 in
theorem m_X5_open (σ : SS) (r : Int32) (σ1 : SS) (h : X5_open σ = some (r, σ1)) : Ct l yX5_open cX5_open 1 (some .int) 0 0 D vwCl [(cA, .int)] (WR q cA σ) (WR q cA σ1) [.ref (q 0)] (some (.int r)) := by
  refine ct_of (by decide +kernel) (Nat.le_of_ble_eq_true rfl) ?_
  intro p e s m args below meth c hx hb hr hlk hml hown hts hK hD hN hA
  have hown : s.vm.findClass RX5 = some m.cls := hown
  have hDD : ∀ τ : SS, va_D (va_A (WR q cA σ) s.heap.size) (WR q cA τ) := fun τ => hD.adr rfl
  unfold X5_open at h
  refine ww_sub (lv1 := [(0, .ref (q 0))]) [0] rfl ?_
  refine ww_aload_n hx hb dX5_open_0 rfl 0 rfl ?_
  refine ww_iconst (v := 0) hx hb dX5_open_1 (by decide) ?_
  obtain ⟨σ_1, e_1, h⟩ := lt_e h
  refine ww_put (C := RX5) (T := TX5) (N := 36) (ty := .int) (ws1 := WR q cA (σ_1)) hx hb hown hts hK inA5 tyX5 tyX5_ok nmX5 (hDD _) 0 rfl rfl 35 (by decide) kw_259 rfl rfl rfl rfl rfl (Nat.le_of_ble_eq_true rfl) dX5_open_2 (e_1 ▸ rfl) ?_
  refine ww_aload_n hx hb dX5_open_5 rfl 0 rfl ?_
  refine ww_get (C := RX5) (T := TX5) (N := 36) hx hb hown hts hK inA5 0 rfl rfl 24 (by decide) kw_327 rfl rfl dX5_open_6 ?_
  obtain ⟨rfl, rfl⟩ := os2 h
  exact ww_iret hx hb hr hlk rfl dX5_open_9
set_option maxHeartbeats 4000000 in
set_option maxRecDepth 100000 in
theorem m_X5_openOf (σ : SS) (x1 : Int32) (r : Int32) (σ1 : SS) (h : X5_openOf σ x1 = some (r, σ1)) : Ct l yX5_openOf cX5_openOf 2 (some .int) 1 40 D vwCl [(cA, .int)] (WR q cA σ) (WR q cA σ1) [.ref (q 0), .int (x1)] (some (.int r)) := by
  refine ct_of (by decide +kernel) (Nat.le_of_ble_eq_true rfl) ?_
  intro p e s m args below meth c hx hb hr hlk hml hown hts hK hD hN hA
  have hown : s.vm.findClass RX5 = some m.cls := hown
  have hDD : ∀ τ : SS, va_D (va_A (WR q cA σ) s.heap.size) (WR q cA τ) := fun τ => hD.adr rfl
  unfold X5_openOf at h
  have bk20 : ∀ (τ : SS) (x1 : Int32) (y1 : Int32), X5_openOf_b20 τ x1 y1 = some (r, σ1) → WW p l e (rmc 1 40 0 0) s m args below meth c D vwCl (va_A (WR q cA σ) s.heap.size) 2 0 0 (MQ below (qcW D vwCl (WR q cA σ) (WR q cA σ1) (some (.int r)) s.heap.size) args s 0 0 (va_A (WR q cA σ) s.heap.size)) (WR q cA τ) 20 [(0, .ref (q 0)), (1, .int (x1))] [.int (y1), .ref (q 0)] := by
    intro τ x1 y1 h
    unfold X5_openOf_b20 at h
    obtain ⟨σ_2, e_2, h⟩ := lt_e h
    refine ww_put (C := RX5) (T := TX5) (N := 36) (ty := .int) (ws1 := WR q cA (σ_2)) hx hb hown hts hK inA5 tyX5 tyX5_ok nmX5 (hDD _) 0 rfl rfl 35 (by decide) kw_259 rfl rfl rfl rfl rfl (Nat.le_of_ble_eq_true rfl) dX5_openOf_20 (e_2 ▸ rfl) ?_
    refine ww_aload_n hx hb dX5_openOf_23 rfl 0 rfl ?_
    refine ww_get (C := RX5) (T := TX5) (N := 36) hx hb hown hts hK inA5 0 rfl rfl 35 (by decide) kw_259 rfl rfl dX5_openOf_24 ?_
    refine ww_le0 (tgt := 34) hx hb dX5_openOf_27 (by decide) (fun c_3 => ?_) (fun c_3 => ?_)
    · replace h := it_p c_3 h
      refine ww_aload_n hx hb dX5_openOf_34 rfl 0 rfl ?_
      refine ww_get (C := RX5) (T := TX5) (N := 36) hx hb hown hts hK inA5 0 rfl rfl 27 (by decide) kw_342 rfl rfl dX5_openOf_35 ?_
      refine ww_iload_n hx hb dX5_openOf_38 rfl 1 rfl ?_
      obtain ⟨g_4, h⟩ := og h
      refine ww_iald hx hb hown hts hK 13 0 rfl rfl g_4 dX5_openOf_39 ?_
      obtain ⟨rfl, rfl⟩ := os2 h
      exact ww_iret hx hb hr hlk rfl dX5_openOf_40
    · replace h := it_n c_3 h
      refine ww_iconst (v := 0) hx hb dX5_openOf_30 (by decide) ?_
      refine ww_goto (tgt := 40) hx hb dX5_openOf_31 (by decide) ?_
      obtain ⟨rfl, rfl⟩ := os2 h
      exact ww_iret hx hb hr hlk rfl dX5_openOf_40
  refine ww_sub (lv1 := [(0, .ref (q 0)), (1, .int (x1))]) [0, 1] rfl ?_
  refine ww_aload_n hx hb dX5_openOf_0 rfl 0 rfl ?_
  refine ww_iload_n hx hb dX5_openOf_1 rfl 1 rfl ?_
  refine ww_iconst (v := 0) hx hb dX5_openOf_2 (by decide) ?_
  refine ww_aload_n hx hb dX5_openOf_3 rfl 0 rfl ?_
  refine ww_get (C := RX5) (T := TX5) (N := 36) hx hb hown hts hK inA5 0 rfl rfl 25 (by decide) kw_340 rfl rfl dX5_openOf_4 ?_
  refine ww_iconst (v := 1) hx hb dX5_openOf_7 (by decide) ?_
  refine ww_isub hx hb dX5_openOf_8 ?_
  refine ww_callS (ws1 := WR q cA σ) (st1 := [.int (X5_isIn x1 (0 : Int32) ((σ 0 25) - (1 : Int32))), .ref (q 0)]) hx hb hml hown hts hK hN hA (hDD _) (Nat.zero_le _) (Nat.zero_le _) [.int (x1), .int ((0 : Int32)), .int ((σ 0 25) - (1 : Int32))] [.ref (q 0)] (m_X5_isIn σ x1 (0 : Int32) ((σ 0 25) - (1 : Int32))) cs_X5_74 rfl (by decide) rfl (Nat.le_of_ble_eq_true rfl) dX5_openOf_9 rfl ?_
  refine ww_eq0 (tgt := 19) hx hb dX5_openOf_12 (by decide) (fun c_1 => ?_) (fun c_1 => ?_)
  · replace h := it_p c_1 h
    refine ww_iconst (v := 1) hx hb dX5_openOf_19 (by decide) ?_
    exact ww_sub (lv1 := [(0, .ref (q 0)), (1, .int (x1))]) [0, 1] rfl (bk20 _ _ _ h)
  · replace h := it_n c_1 h
    refine ww_iconst (v := 0) hx hb dX5_openOf_15 (by decide) ?_
    refine ww_goto (tgt := 20) hx hb dX5_openOf_16 (by decide) ?_
    exact ww_sub (lv1 := [(0, .ref (q 0)), (1, .int (x1))]) [0, 1] rfl (bk20 _ _ _ h)
set_option maxHeartbeats 4000000 in
set_option maxRecDepth 100000 in
theorem m_X5_got (σ : SS) (x1 : Int32) (r : Int32) (σ1 : SS) (h : X5_got σ x1 = some (r, σ1)) : Ct l yX5_got cX5_got 2 (some .int) 2 80 D vwCl [(cA, .int)] (WR q cA σ) (WR q cA σ1) [.ref (q 0), .int (x1)] (some (.int r)) := by
  refine ct_of (by decide +kernel) (Nat.le_of_ble_eq_true rfl) ?_
  intro p e s m args below meth c hx hb hr hlk hml hown hts hK hD hN hA
  have hown : s.vm.findClass RX5 = some m.cls := hown
  have hDD : ∀ τ : SS, va_D (va_A (WR q cA σ) s.heap.size) (WR q cA τ) := fun τ => hD.adr rfl
  unfold X5_got at h
  have bk13 : ∀ (τ : SS) (x1 : Int32) (y1 : Int32), X5_got_b13 τ x1 y1 = some (r, σ1) → WW p l e (rmc 2 80 0 0) s m args below meth c D vwCl (va_A (WR q cA σ) s.heap.size) 2 0 0 (MQ below (qcW D vwCl (WR q cA σ) (WR q cA σ1) (some (.int r)) s.heap.size) args s 0 0 (va_A (WR q cA σ) s.heap.size)) (WR q cA τ) 13 [(0, .ref (q 0)), (1, .int (x1))] [.int (y1), .ref (q 0)] := by
    intro τ x1 y1 h
    unfold X5_got_b13 at h
    obtain ⟨σ_2, e_2, h⟩ := lt_e h
    refine ww_put (C := RX5) (T := TX5) (N := 36) (ty := .int) (ws1 := WR q cA (σ_2)) hx hb hown hts hK inA5 tyX5 tyX5_ok nmX5 (hDD _) 0 rfl rfl 35 (by decide) kw_259 rfl rfl rfl rfl rfl (Nat.le_of_ble_eq_true rfl) dX5_got_13 (e_2 ▸ rfl) ?_
    refine ww_aload_n hx hb dX5_got_16 rfl 0 rfl ?_
    refine ww_get (C := RX5) (T := TX5) (N := 36) hx hb hown hts hK inA5 0 rfl rfl 35 (by decide) kw_259 rfl rfl dX5_got_17 ?_
    refine ww_le0 (tgt := 27) hx hb dX5_got_20 (by decide) (fun c_3 => ?_) (fun c_3 => ?_)
    · replace h := it_p c_3 h
      refine ww_aload_n hx hb dX5_got_27 rfl 0 rfl ?_
      refine ww_get (C := RX5) (T := TX5) (N := 36) hx hb hown hts hK inA5 0 rfl rfl 33 (by decide) kw_349 rfl rfl dX5_got_28 ?_
      refine ww_iload_n hx hb dX5_got_31 rfl 1 rfl ?_
      obtain ⟨g_4, h⟩ := og h
      refine ww_iald hx hb hown hts hK 18 0 rfl rfl g_4 dX5_got_32 ?_
      obtain ⟨rfl, rfl⟩ := os2 h
      exact ww_iret hx hb hr hlk rfl dX5_got_33
    · replace h := it_n c_3 h
      refine ww_iconst (v := 0) hx hb dX5_got_23 (by decide) ?_
      refine ww_goto (tgt := 33) hx hb dX5_got_24 (by decide) ?_
      obtain ⟨rfl, rfl⟩ := os2 h
      exact ww_iret hx hb hr hlk rfl dX5_got_33
  refine ww_sub (lv1 := [(0, .ref (q 0)), (1, .int (x1))]) [0, 1] rfl ?_
  refine ww_aload_n hx hb dX5_got_0 rfl 0 rfl ?_
  refine ww_iload_n hx hb dX5_got_1 rfl 1 rfl ?_
  refine ww_callS (ws1 := WR q cA σ) (st1 := [.int (X5_isPerson x1), .ref (q 0)]) hx hb hml hown hts hK hN hA (hDD _) (Nat.zero_le _) (Nat.zero_le _) [.int (x1)] [.ref (q 0)] (m_X5_isPerson σ x1) cs_X5_131 rfl (by decide) rfl (Nat.le_of_ble_eq_true rfl) dX5_got_2 rfl ?_
  refine ww_eq0 (tgt := 12) hx hb dX5_got_5 (by decide) (fun c_1 => ?_) (fun c_1 => ?_)
  · replace h := it_p c_1 h
    refine ww_iconst (v := 1) hx hb dX5_got_12 (by decide) ?_
    exact ww_sub (lv1 := [(0, .ref (q 0)), (1, .int (x1))]) [0, 1] rfl (bk13 _ _ _ h)
  · replace h := it_n c_1 h
    refine ww_iconst (v := 0) hx hb dX5_got_8 (by decide) ?_
    refine ww_goto (tgt := 13) hx hb dX5_got_9 (by decide) ?_
    exact ww_sub (lv1 := [(0, .ref (q 0)), (1, .int (x1))]) [0, 1] rfl (bk13 _ _ _ h)
set_option maxHeartbeats 4000000 in
set_option maxRecDepth 100000 in
theorem m_X5_house (σ : SS) (r : Int32) (σ1 : SS) (h : X5_house σ = some (r, σ1)) : Ct l yX5_house cX5_house 1 (some .int) 0 0 D vwCl [(cA, .int)] (WR q cA σ) (WR q cA σ1) [.ref (q 0)] (some (.int r)) := by
  refine ct_of (by decide +kernel) (Nat.le_of_ble_eq_true rfl) ?_
  intro p e s m args below meth c hx hb hr hlk hml hown hts hK hD hN hA
  have hown : s.vm.findClass RX5 = some m.cls := hown
  have hDD : ∀ τ : SS, va_D (va_A (WR q cA σ) s.heap.size) (WR q cA τ) := fun τ => hD.adr rfl
  unfold X5_house at h
  refine ww_sub (lv1 := [(0, .ref (q 0))]) [0] rfl ?_
  refine ww_aload_n hx hb dX5_house_0 rfl 0 rfl ?_
  refine ww_iconst (v := 0) hx hb dX5_house_1 (by decide) ?_
  obtain ⟨σ_1, e_1, h⟩ := lt_e h
  refine ww_put (C := RX5) (T := TX5) (N := 36) (ty := .int) (ws1 := WR q cA (σ_1)) hx hb hown hts hK inA5 tyX5 tyX5_ok nmX5 (hDD _) 0 rfl rfl 35 (by decide) kw_259 rfl rfl rfl rfl rfl (Nat.le_of_ble_eq_true rfl) dX5_house_2 (e_1 ▸ rfl) ?_
  refine ww_aload_n hx hb dX5_house_5 rfl 0 rfl ?_
  refine ww_get (C := RX5) (T := TX5) (N := 36) hx hb hown hts hK inA5 0 rfl rfl 34 (by decide) kw_347 rfl rfl dX5_house_6 ?_
  obtain ⟨rfl, rfl⟩ := os2 h
  exact ww_iret hx hb hr hlk rfl dX5_house_9
end
