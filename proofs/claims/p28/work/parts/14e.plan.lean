section
variable {l : Launch} {D : va_G} {q : Nat → Nat} {cA : ClassId}
set_option maxHeartbeats 8000000 in
set_option maxRecDepth 100000 in
theorem m_L_plan (hl0 : l.stackTraces = false) (σ : SS) (x1 x2 x3 x4 : Int32) (r : Int32) (σ1 : SS) (h : L_plan σ x1 x2 x3 x4 = some (r, σ1)) : CtK l yL_plan cL_plan 5 (some .boolean) 23 920 4 24 D vwCl [(cA, .int)] (WC q cA σ) (WC q cA σ1) [.ref (q 0), .int (x1), .int (x2), .int (x3), .int (x4)] r := by
  refine ctk_of (by decide +kernel) (Nat.le_of_ble_eq_true rfl) ?_
  intro p e s m args below meth c hx hb hr hlk hml hown hts hK hD hN hA hZ
  have hown : s.vm.findClass RL = some m.cls := hown
  have hDD : ∀ τ : SS, va_D (va_A (WC q cA σ) s.heap.size) (WC q cA τ) := fun τ => hD.adr rfl
  unfold L_plan at h
  have bk57 : ∀ (cells slots : Nat) (hc : cells + 0 ≤ 4) (hs : slots + 0 ≤ 24) (τ : SS) , L_plan_b57 τ = some (r, σ1) → WW p l e (rmc 23 920 4 24) s m args below meth c D vwCl (va_A (WC q cA σ) s.heap.size) 5 cells slots (vx_MQ below (qxW D vwCl (WC q cA σ) (WC q cA σ1) (.inl r) s.heap.size) (xcW D vwCl (WC q cA σ) (WC q cA σ1) (.inl r) s.heap.size) args s 4 24 (va_A (WC q cA σ) s.heap.size)) (WC q cA τ) 57 [] [] := by
    intro cells slots hc hs τ h
    unfold L_plan_b57 at h
    refine ww_iconst (v := 1) hx hb dL_plan_57 (by decide) ?_
    refine ww_goto (tgt := 62) hx hb dL_plan_58 (by decide) ?_
    obtain ⟨rfl, rfl⟩ := os2 h
    exact ww_kzret hx hb (by omega) (by omega) hr hlk (by decide) rfl dL_plan_62
  have bk42 : ∀ (cells slots : Nat) (hc : cells + 1 ≤ 4) (hs : slots + 6 ≤ 24) (τ : SS) (x4 : Int32), L_plan_b42 τ x4 = some (r, σ1) → WW p l e (rmc 23 920 4 24) s m args below meth c D vwCl (va_A (WC q cA σ) s.heap.size) 5 cells slots (vx_MQ below (qxW D vwCl (WC q cA σ) (WC q cA σ1) (.inl r) s.heap.size) (xcW D vwCl (WC q cA σ) (WC q cA σ1) (.inl r) s.heap.size) args s 4 24 (va_A (WC q cA σ) s.heap.size)) (WC q cA τ) 42 [(0, .ref (q 0)), (4, .int (x4))] [] := by
    intro cells slots hc hs τ x4 h
    unfold L_plan_b42 at h
    refine ww_iload hx hb dL_plan_42 1 rfl ?_
    refine ww_lt0 (tgt := 57) hx hb dL_plan_44 (by decide) (fun c_11 => ?_) (fun c_11 => ?_)
    · replace h := it_p c_11 h
      exact ww_sub (lv1 := []) [] rfl (bk57 _ _ (by omega) (by omega) _ h)
    · replace h := it_n c_11 h
      refine ww_aload_n hx hb dL_plan_47 rfl 0 rfl ?_
      refine ww_iconst (v := 2) hx hb dL_plan_48 (by decide) ?_
      obtain ⟨r_12, σ_12, e_12, h⟩ := obx h
      refine ww_callXI (w01 := WC q cA σ_12) (st1 := [.int (r_12)]) hx hb hml hown hts hK hN hA hZ [.int ((2 : Int32))] [] (m_X4_begins hl0 _ _ _ _ e_12) cs_L_51 rfl ⟨Nat.le_of_ble_eq_true rfl, Nat.le_of_ble_eq_true rfl⟩ ⟨by show _ ≤ 4; omega, by show _ ≤ 24; omega⟩ (hDD _) 0 rfl rfl rfl (Nat.le_of_ble_eq_true rfl) dL_plan_49 rfl ?_
      refine ww_iload hx hb dL_plan_52 1 rfl ?_
      refine ww_ne2 (tgt := 61) hx hb dL_plan_54 (by decide) (fun c_13 => ?_) (fun c_13 => ?_)
      · replace h := it_n c_13 h
        refine ww_iconst (v := 0) hx hb dL_plan_61 (by decide) ?_
        obtain ⟨rfl, rfl⟩ := os2 h
        exact ww_kzret hx hb (by omega) (by omega) hr hlk (by decide) rfl dL_plan_62
      · replace h := it_p c_13 h
        exact ww_sub (lv1 := []) [] rfl (bk57 _ _ (by omega) (by omega) _ h)
  have bk29 : ∀ (cells slots : Nat) (hc : cells + 2 ≤ 4) (hs : slots + 12 ≤ 24) (τ : SS) (x3 : Int32) (x4 : Int32), L_plan_b29 τ x3 x4 = some (r, σ1) → WW p l e (rmc 23 920 4 24) s m args below meth c D vwCl (va_A (WC q cA σ) s.heap.size) 5 cells slots (vx_MQ below (qxW D vwCl (WC q cA σ) (WC q cA σ1) (.inl r) s.heap.size) (xcW D vwCl (WC q cA σ) (WC q cA σ1) (.inl r) s.heap.size) args s 4 24 (va_A (WC q cA σ) s.heap.size)) (WC q cA τ) 29 [(0, .ref (q 0)), (3, .int (x3)), (4, .int (x4))] [] := by
    intro cells slots hc hs τ x3 x4 h
    unfold L_plan_b29 at h
    refine ww_iload_n hx hb dL_plan_29 rfl 1 rfl ?_
    refine ww_lt0 (tgt := 42) hx hb dL_plan_30 (by decide) (fun c_8 => ?_) (fun c_8 => ?_)
    · replace h := it_p c_8 h
      exact ww_sub (lv1 := [(0, .ref (q 0)), (4, .int (x4))]) [0, 2] rfl (bk42 _ _ (by omega) (by omega) _ _ h)
    · replace h := it_n c_8 h
      refine ww_aload_n hx hb dL_plan_33 rfl 0 rfl ?_
      refine ww_iconst (v := 1) hx hb dL_plan_34 (by decide) ?_
      obtain ⟨r_9, σ_9, e_9, h⟩ := obx h
      refine ww_callXI (w01 := WC q cA σ_9) (st1 := [.int (r_9)]) hx hb hml hown hts hK hN hA hZ [.int ((1 : Int32))] [] (m_X4_begins hl0 _ _ _ _ e_9) cs_L_51 rfl ⟨Nat.le_of_ble_eq_true rfl, Nat.le_of_ble_eq_true rfl⟩ ⟨by show _ ≤ 4; omega, by show _ ≤ 24; omega⟩ (hDD _) 0 rfl rfl rfl (Nat.le_of_ble_eq_true rfl) dL_plan_35 rfl ?_
      refine ww_iload_n hx hb dL_plan_38 rfl 1 rfl ?_
      refine ww_ne2 (tgt := 61) hx hb dL_plan_39 (by decide) (fun c_10 => ?_) (fun c_10 => ?_)
      · replace h := it_n c_10 h
        refine ww_iconst (v := 0) hx hb dL_plan_61 (by decide) ?_
        obtain ⟨rfl, rfl⟩ := os2 h
        exact ww_kzret hx hb (by omega) (by omega) hr hlk (by decide) rfl dL_plan_62
      · replace h := it_p c_10 h
        exact ww_sub (lv1 := [(0, .ref (q 0)), (4, .int (x4))]) [0, 2] rfl (bk42 _ _ (by omega) (by omega) _ _ h)
  refine ww_sub (lv1 := [(0, .ref (q 0)), (1, .int (x1)), (2, .int (x2)), (3, .int (x3)), (4, .int (x4))]) [0, 1, 2, 3, 4] rfl ?_
  refine ww_aload_n hx hb dL_plan_0 rfl 0 rfl ?_
  obtain ⟨r_1, σ_1, e_1, h⟩ := ob2 h
  refine ww_callV (ws1 := WC q cA σ_1) (st1 := [.int (r_1)]) hx hb hml hown hts hK hN hA (hDD _) (by show _ ≤ 4; omega) (by show _ ≤ 24; omega) [] [] (m_X4_days _  _ _ e_1) cs_L_73 rfl ⟨Nat.le_of_ble_eq_true rfl, Nat.le_of_ble_eq_true rfl⟩ 0 rfl rfl rfl (Nat.le_of_ble_eq_true rfl) dL_plan_1 rfl ?_
  refine ww_iload_n hx hb dL_plan_4 rfl 1 rfl ?_
  refine ww_ne2 (tgt := 61) hx hb dL_plan_5 (by decide) (fun c_2 => ?_) (fun c_2 => ?_)
  · replace h := it_n c_2 h
    refine ww_iconst (v := 0) hx hb dL_plan_61 (by decide) ?_
    obtain ⟨rfl, rfl⟩ := os2 h
    exact ww_kzret hx hb (by omega) (by omega) hr hlk (by decide) rfl dL_plan_62
  · replace h := it_p c_2 h
    refine ww_aload_n hx hb dL_plan_8 rfl 0 rfl ?_
    obtain ⟨r_3, σ_3, e_3, h⟩ := obx h
    refine ww_callXI (w01 := WC q cA σ_3) (st1 := [.int (r_3)]) hx hb hml hown hts hK hN hA hZ [] [] (m_X4_daysByAll hl0 _  _ _ e_3) cs_L_44 rfl ⟨Nat.le_of_ble_eq_true rfl, Nat.le_of_ble_eq_true rfl⟩ ⟨by show _ ≤ 4; omega, by show _ ≤ 24; omega⟩ (hDD _) 0 rfl rfl rfl (Nat.le_of_ble_eq_true rfl) dL_plan_9 rfl ?_
    refine ww_iload_n hx hb dL_plan_12 rfl 1 rfl ?_
    refine ww_ne2 (tgt := 61) hx hb dL_plan_13 (by decide) (fun c_4 => ?_) (fun c_4 => ?_)
    · replace h := it_n c_4 h
      refine ww_iconst (v := 0) hx hb dL_plan_61 (by decide) ?_
      obtain ⟨rfl, rfl⟩ := os2 h
      exact ww_kzret hx hb (by omega) (by omega) hr hlk (by decide) rfl dL_plan_62
    · replace h := it_p c_4 h
      refine ww_iload_n hx hb dL_plan_16 rfl 2 rfl ?_
      refine ww_lt0 (tgt := 29) hx hb dL_plan_17 (by decide) (fun c_5 => ?_) (fun c_5 => ?_)
      · replace h := it_p c_5 h
        exact ww_sub (lv1 := [(0, .ref (q 0)), (3, .int (x3)), (4, .int (x4))]) [0, 3, 4] rfl (bk29 _ _ (by omega) (by omega) _ _ _ h)
      · replace h := it_n c_5 h
        refine ww_aload_n hx hb dL_plan_20 rfl 0 rfl ?_
        refine ww_iconst (v := 0) hx hb dL_plan_21 (by decide) ?_
        obtain ⟨r_6, σ_6, e_6, h⟩ := obx h
        refine ww_callXI (w01 := WC q cA σ_6) (st1 := [.int (r_6)]) hx hb hml hown hts hK hN hA hZ [.int ((0 : Int32))] [] (m_X4_begins hl0 _ _ _ _ e_6) cs_L_51 rfl ⟨Nat.le_of_ble_eq_true rfl, Nat.le_of_ble_eq_true rfl⟩ ⟨by show _ ≤ 4; omega, by show _ ≤ 24; omega⟩ (hDD _) 0 rfl rfl rfl (Nat.le_of_ble_eq_true rfl) dL_plan_22 rfl ?_
        refine ww_iload_n hx hb dL_plan_25 rfl 2 rfl ?_
        refine ww_ne2 (tgt := 61) hx hb dL_plan_26 (by decide) (fun c_7 => ?_) (fun c_7 => ?_)
        · replace h := it_n c_7 h
          refine ww_iconst (v := 0) hx hb dL_plan_61 (by decide) ?_
          obtain ⟨rfl, rfl⟩ := os2 h
          exact ww_kzret hx hb (by omega) (by omega) hr hlk (by decide) rfl dL_plan_62
        · replace h := it_p c_7 h
          exact ww_sub (lv1 := [(0, .ref (q 0)), (3, .int (x3)), (4, .int (x4))]) [0, 3, 4] rfl (bk29 _ _ (by omega) (by omega) _ _ _ h)
end
