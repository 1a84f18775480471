section
variable {l : Launch} {D : va_G} {q : Nat → Nat} {cA : ClassId}
set_option maxHeartbeats 8000000 in
set_option maxRecDepth 100000 in
theorem m_L_refuses (hl0 : l.stackTraces = false) (σ : SS) (x1 x2 x3 x4 : Int32) (r : Int32) (σ1 : SS) (h : L_refuses σ x1 x2 x3 x4 = some (r, σ1)) : CtK l yL_refuses cL_refuses 17 (some .boolean) 24 960 125 750 D vwCl [(cA, .int)] (WC q cA σ) (WC q cA σ1) [.ref (q 0), .int (x1), .int (x2), .int (x3), .int (x4)] r := by
  refine ctk_of (by decide +kernel) (Nat.le_of_ble_eq_true rfl) ?_
  intro p e s m args below meth c hx hb hr hlk hml hown hts hK hD hN hA hZ
  have hown : s.vm.findClass RL = some m.cls := hown
  have hDD : ∀ τ : SS, va_D (va_A (WC q cA σ) s.heap.size) (WC q cA τ) := fun τ => hD.adr rfl
  unfold L_refuses at h
  have lp31 : ∀ (n : Nat) (cells slots : Nat) (hc : cells + (0 + n * 25) ≤ 125) (hs : slots + (0 + n * 150) ≤ 750) (τ : SS) (x1 : Int32) (x2 : Int32) (x3 : Int32) (x4 : Int32) (x5 : Int32) (x6 : Int32) (x7 : Int32) (x8 : Int32) (x9 : Int32) (x10 : Int32), L_refuses_l31 n τ x1 x2 x3 x4 x5 x6 x7 x8 x9 x10 = some (r, σ1) → WW p l e (rmc 24 960 125 750) s m args below meth c D vwCl (va_A (WC q cA σ) s.heap.size) 17 cells slots (vx_MQ below (qxW D vwCl (WC q cA σ) (WC q cA σ1) (.inl r) s.heap.size) (xcW D vwCl (WC q cA σ) (WC q cA σ1) (.inl r) s.heap.size) args s 125 750 (va_A (WC q cA σ) s.heap.size)) (WC q cA τ) 31 [(0, .ref (q 0)), (1, .int (x1)), (2, .int (x2)), (3, .int (x3)), (4, .int (x4)), (5, .int (x5)), (6, .int (x6)), (7, .int (x7)), (8, .int (x8)), (9, .int (x9)), (10, .int (x10))] [] := by
    intro n
    induction n with
    | zero => intro cells slots hc hs τ x1 x2 x3 x4 x5 x6 x7 x8 x9 x10 h; rw [L_refuses_l31] at h; cases h
    | succ n ih =>
      have bk662 : ∀ (cells slots : Nat) (hc : cells + (0 + n * 25) ≤ 125) (hs : slots + (0 + n * 150) ≤ 750) (τ : SS) (x1 : Int32) (x2 : Int32) (x3 : Int32) (x4 : Int32) (x5 : Int32) (x6 : Int32) (x7 : Int32) (x8 : Int32) (x9 : Int32) (x10 : Int32) (y0 : Int32), L_refuses_b662 (L_refuses_l31 n) τ x1 x2 x3 x4 x5 x6 x7 x8 x9 x10 y0 = some (r, σ1) → WW p l e (rmc 24 960 125 750) s m args below meth c D vwCl (va_A (WC q cA σ) s.heap.size) 17 cells slots (vx_MQ below (qxW D vwCl (WC q cA σ) (WC q cA σ1) (.inl r) s.heap.size) (xcW D vwCl (WC q cA σ) (WC q cA σ1) (.inl r) s.heap.size) args s 125 750 (va_A (WC q cA σ) s.heap.size)) (WC q cA τ) 662 [(0, .ref (q 0)), (1, .int (x1)), (2, .int (x2)), (3, .int (x3)), (4, .int (x4)), (5, .int (x5)), (6, .int (x6)), (7, .int (x7)), (8, .int (x8)), (9, .int (x9)), (10, .int (x10))] [.int (y0)] := by
        intro cells slots hc hs τ x1 x2 x3 x4 x5 x6 x7 x8 x9 x10 y0 h
        unfold L_refuses_b662 at h
        refine ww_istore (i := 16) (lv1 := [(0, .ref (q 0)), (1, .int (x1)), (2, .int (x2)), (3, .int (x3)), (4, .int (x4)), (5, .int (x5)), (6, .int (x6)), (7, .int (x7)), (8, .int (x8)), (9, .int (x9)), (10, .int (x10)), (16, .int (y0))]) hx hb dL_refuses_662 (by decide) [1, 2, 3, 4, 5, 6, 7, 8, 9, 10, 11, 0] rfl ?_
        refine ww_iload hx hb dL_refuses_664 11 rfl ?_
        refine ww_ne0 (tgt := 671) hx hb dL_refuses_666 (by decide) (fun c_48 => ?_) (fun c_48 => ?_)
        · replace h := it_n c_48 h
          refine ww_iinc (i := 10) (k := 10) (v := 1) (lv1 := [(0, .ref (q 0)), (1, .int (x1)), (2, .int (x2)), (3, .int (x3)), (4, .int (x4)), (5, .int (x5)), (6, .int (x6)), (7, .int (x7)), (8, .int (x8)), (9, .int (x9)), (10, .int (x10 + 1))]) hx hb dL_refuses_671 rfl (by decide) (by decide) [1, 2, 3, 4, 5, 6, 7, 8, 9, 10, 0] rfl ?_
          refine ww_goto (tgt := 31) hx hb dL_refuses_674 (by decide) ?_
          exact ww_sub (lv1 := [(0, .ref (q 0)), (1, .int (x1)), (2, .int (x2)), (3, .int (x3)), (4, .int (x4)), (5, .int (x5)), (6, .int (x6)), (7, .int (x7)), (8, .int (x8)), (9, .int (x9)), (10, .int (x10 + 1))]) [0, 1, 2, 3, 4, 5, 6, 7, 8, 9, 10] rfl (ih _ _ (by omega) (by omega) _ _ _ _ _ _ _ _ _ _ _ h)
        · replace h := it_p c_48 h
          refine ww_iconst (v := 0) hx hb dL_refuses_669 (by decide) ?_
          obtain ⟨rfl, rfl⟩ := os2 h
          exact ww_kzret hx hb (by omega) (by omega) hr hlk (by decide) rfl dL_refuses_670
      have bk661 : ∀ (cells slots : Nat) (hc : cells + (0 + n * 25) ≤ 125) (hs : slots + (0 + n * 150) ≤ 750) (τ : SS) (x1 : Int32) (x2 : Int32) (x3 : Int32) (x4 : Int32) (x5 : Int32) (x6 : Int32) (x7 : Int32) (x8 : Int32) (x9 : Int32) (x10 : Int32), L_refuses_b661 (L_refuses_l31 n) τ x1 x2 x3 x4 x5 x6 x7 x8 x9 x10 = some (r, σ1) → WW p l e (rmc 24 960 125 750) s m args below meth c D vwCl (va_A (WC q cA σ) s.heap.size) 17 cells slots (vx_MQ below (qxW D vwCl (WC q cA σ) (WC q cA σ1) (.inl r) s.heap.size) (xcW D vwCl (WC q cA σ) (WC q cA σ1) (.inl r) s.heap.size) args s 125 750 (va_A (WC q cA σ) s.heap.size)) (WC q cA τ) 661 [(0, .ref (q 0)), (1, .int (x1)), (2, .int (x2)), (3, .int (x3)), (4, .int (x4)), (5, .int (x5)), (6, .int (x6)), (7, .int (x7)), (8, .int (x8)), (9, .int (x9)), (10, .int (x10))] [] := by
        intro cells slots hc hs τ x1 x2 x3 x4 x5 x6 x7 x8 x9 x10 h
        unfold L_refuses_b661 at h
        refine ww_iconst (v := 0) hx hb dL_refuses_661 (by decide) ?_
        exact ww_sub (lv1 := [(0, .ref (q 0)), (1, .int (x1)), (2, .int (x2)), (3, .int (x3)), (4, .int (x4)), (5, .int (x5)), (6, .int (x6)), (7, .int (x7)), (8, .int (x8)), (9, .int (x9)), (10, .int (x10))]) [0, 1, 2, 3, 4, 5, 6, 7, 8, 9, 10] rfl (bk662 _ _ (by omega) (by omega) _ _ _ _ _ _ _ _ _ _ _ _ h)
      have bk649 : ∀ (cells slots : Nat) (hc : cells + (1 + n * 25) ≤ 125) (hs : slots + (6 + n * 150) ≤ 750) (τ : SS) (x1 : Int32) (x2 : Int32) (x3 : Int32) (x4 : Int32) (x5 : Int32) (x6 : Int32) (x7 : Int32) (x8 : Int32) (x9 : Int32) (x10 : Int32) (y1 : Int32) (y2 : Int32) (y3 : Int32) (y4 : Int32) (y5 : Int32), L_refuses_b649 (L_refuses_l31 n) τ x1 x2 x3 x4 x5 x6 x7 x8 x9 x10 y1 y2 y3 y4 y5 = some (r, σ1) → WW p l e (rmc 24 960 125 750) s m args below meth c D vwCl (va_A (WC q cA σ) s.heap.size) 17 cells slots (vx_MQ below (qxW D vwCl (WC q cA σ) (WC q cA σ1) (.inl r) s.heap.size) (xcW D vwCl (WC q cA σ) (WC q cA σ1) (.inl r) s.heap.size) args s 125 750 (va_A (WC q cA σ) s.heap.size)) (WC q cA τ) 649 [(0, .ref (q 0)), (1, .int (x1)), (2, .int (x2)), (3, .int (x3)), (4, .int (x4)), (5, .int (x5)), (6, .int (x6)), (7, .int (x7)), (8, .int (x8)), (9, .int (x9)), (10, .int (x10))] [.int (y5), .int (y4), .int (y3), .int (y2), .int (y1), .ref (q 0)] := by
        intro cells slots hc hs τ x1 x2 x3 x4 x5 x6 x7 x8 x9 x10 y1 y2 y3 y4 y5 h
        unfold L_refuses_b649 at h
        obtain ⟨r_60, σ_60, e_60, h⟩ := ob2 h
        refine ww_callH0 (w01 := WC q cA σ_60) (st1 := [.int (r_60)]) hx hb hml hown hts hK hN hA hZ [.ref (q 0), .int (y1), .int (y2), .int (y3), .int (y4), .int (y5)] [] (m_L_scene hl0 _ _ _ _ _ _ _ _ e_60) cs_L_94 rfl ⟨Nat.le_of_ble_eq_true rfl, Nat.le_of_ble_eq_true rfl⟩ ⟨by show _ ≤ 125; omega, by show _ ≤ 750; omega⟩ (hDD _) rfl (Nat.le_of_ble_eq_true rfl) dL_refuses_649 rfl ?_
        refine ww_bipush (v := (-72)) hx hb dL_refuses_652 (by decide) ?_
        refine ww_ne2 (tgt := 661) hx hb dL_refuses_654 (by decide) (fun c_61 => ?_) (fun c_61 => ?_)
        · replace h := it_n c_61 h
          exact ww_sub (lv1 := [(0, .ref (q 0)), (1, .int (x1)), (2, .int (x2)), (3, .int (x3)), (4, .int (x4)), (5, .int (x5)), (6, .int (x6)), (7, .int (x7)), (8, .int (x8)), (9, .int (x9)), (10, .int (x10))]) [0, 1, 2, 3, 4, 5, 6, 7, 8, 9, 10] rfl (bk661 _ _ (by omega) (by omega) _ _ _ _ _ _ _ _ _ _ _ h)
        · replace h := it_p c_61 h
          refine ww_iconst (v := 1) hx hb dL_refuses_657 (by decide) ?_
          refine ww_goto (tgt := 662) hx hb dL_refuses_658 (by decide) ?_
          exact ww_sub (lv1 := [(0, .ref (q 0)), (1, .int (x1)), (2, .int (x2)), (3, .int (x3)), (4, .int (x4)), (5, .int (x5)), (6, .int (x6)), (7, .int (x7)), (8, .int (x8)), (9, .int (x9)), (10, .int (x10))]) [0, 1, 2, 3, 4, 5, 6, 7, 8, 9, 10] rfl (bk662 _ _ (by omega) (by omega) _ _ _ _ _ _ _ _ _ _ _ _ h)
      have bk621 : ∀ (cells slots : Nat) (hc : cells + (2 + n * 25) ≤ 125) (hs : slots + (12 + n * 150) ≤ 750) (τ : SS) (x1 : Int32) (x2 : Int32) (x3 : Int32) (x4 : Int32) (x5 : Int32) (x6 : Int32) (x7 : Int32) (x8 : Int32) (x9 : Int32) (x10 : Int32) (x11 : Int32) (y1 : Int32) (y2 : Int32) (y3 : Int32) (y4 : Int32), L_refuses_b621 (L_refuses_l31 n) τ x1 x2 x3 x4 x5 x6 x7 x8 x9 x10 x11 y1 y2 y3 y4 = some (r, σ1) → WW p l e (rmc 24 960 125 750) s m args below meth c D vwCl (va_A (WC q cA σ) s.heap.size) 17 cells slots (vx_MQ below (qxW D vwCl (WC q cA σ) (WC q cA σ1) (.inl r) s.heap.size) (xcW D vwCl (WC q cA σ) (WC q cA σ1) (.inl r) s.heap.size) args s 125 750 (va_A (WC q cA σ) s.heap.size)) (WC q cA τ) 621 [(0, .ref (q 0)), (1, .int (x1)), (2, .int (x2)), (3, .int (x3)), (4, .int (x4)), (5, .int (x5)), (6, .int (x6)), (7, .int (x7)), (8, .int (x8)), (9, .int (x9)), (10, .int (x10)), (11, .int (x11))] [.int (y4), .int (y3), .int (y2), .int (y1), .ref (q 0)] := by
        intro cells slots hc hs τ x1 x2 x3 x4 x5 x6 x7 x8 x9 x10 x11 y1 y2 y3 y4 h
        unfold L_refuses_b621 at h
        refine ww_iconst (v := 0) hx hb dL_refuses_621 (by decide) ?_
        obtain ⟨r_57, σ_57, e_57, h⟩ := ob2 h
        refine ww_callH0 (w01 := WC q cA σ_57) (st1 := [.int (r_57)]) hx hb hml hown hts hK hN hA hZ [.ref (q 0), .int (y1), .int (y2), .int (y3), .int (y4), .int ((0 : Int32))] [] (m_L_scene hl0 _ _ _ _ _ _ _ _ e_57) cs_L_94 rfl ⟨Nat.le_of_ble_eq_true rfl, Nat.le_of_ble_eq_true rfl⟩ ⟨by show _ ≤ 125; omega, by show _ ≤ 750; omega⟩ (hDD _) rfl (Nat.le_of_ble_eq_true rfl) dL_refuses_622 rfl ?_
        refine ww_bipush (v := (-72)) hx hb dL_refuses_625 (by decide) ?_
        refine ww_ne2 (tgt := 661) hx hb dL_refuses_627 (by decide) (fun c_58 => ?_) (fun c_58 => ?_)
        · replace h := it_n c_58 h
          exact ww_sub (lv1 := [(0, .ref (q 0)), (1, .int (x1)), (2, .int (x2)), (3, .int (x3)), (4, .int (x4)), (5, .int (x5)), (6, .int (x6)), (7, .int (x7)), (8, .int (x8)), (9, .int (x9)), (10, .int (x10))]) [0, 1, 2, 3, 4, 5, 6, 7, 8, 9, 10] rfl (bk661 _ _ (by omega) (by omega) _ _ _ _ _ _ _ _ _ _ _ h)
        · replace h := it_p c_58 h
          refine ww_aload_n hx hb dL_refuses_630 rfl 0 rfl ?_
          refine ww_iconst (v := 1) hx hb dL_refuses_631 (by decide) ?_
          refine ww_iconst (v := 0) hx hb dL_refuses_632 (by decide) ?_
          refine ww_iconst (v := 0) hx hb dL_refuses_633 (by decide) ?_
          refine ww_iconst (v := 0) hx hb dL_refuses_634 (by decide) ?_
          refine ww_iload hx hb dL_refuses_635 10 rfl ?_
          refine ww_iconst (v := 1) hx hb dL_refuses_637 (by decide) ?_
          refine ww_ne2 (tgt := 647) hx hb dL_refuses_638 (by decide) (fun c_59 => ?_) (fun c_59 => ?_)
          · replace h := it_n c_59 h
            refine ww_iload hx hb dL_refuses_647 11 rfl ?_
            exact ww_sub (lv1 := [(0, .ref (q 0)), (1, .int (x1)), (2, .int (x2)), (3, .int (x3)), (4, .int (x4)), (5, .int (x5)), (6, .int (x6)), (7, .int (x7)), (8, .int (x8)), (9, .int (x9)), (10, .int (x10))]) [0, 1, 2, 3, 4, 5, 6, 7, 8, 9, 10] rfl (bk649 _ _ (by omega) (by omega) _ _ _ _ _ _ _ _ _ _ _ _ _ _ _ _ h)
          · replace h := it_p c_59 h
            refine ww_iconst (v := 1) hx hb dL_refuses_641 (by decide) ?_
            refine ww_iload_n hx hb dL_refuses_642 rfl 1 rfl ?_
            refine ww_ishl hx hb dL_refuses_643 ?_
            refine ww_goto (tgt := 649) hx hb dL_refuses_644 (by decide) ?_
            exact ww_sub (lv1 := [(0, .ref (q 0)), (1, .int (x1)), (2, .int (x2)), (3, .int (x3)), (4, .int (x4)), (5, .int (x5)), (6, .int (x6)), (7, .int (x7)), (8, .int (x8)), (9, .int (x9)), (10, .int (x10))]) [0, 1, 2, 3, 4, 5, 6, 7, 8, 9, 10] rfl (bk649 _ _ (by omega) (by omega) _ _ _ _ _ _ _ _ _ _ _ _ _ _ _ _ h)
      have bk595 : ∀ (cells slots : Nat) (hc : cells + (3 + n * 25) ≤ 125) (hs : slots + (18 + n * 150) ≤ 750) (τ : SS) (x1 : Int32) (x2 : Int32) (x3 : Int32) (x4 : Int32) (x5 : Int32) (x6 : Int32) (x7 : Int32) (x8 : Int32) (x9 : Int32) (x10 : Int32) (x11 : Int32) (y1 : Int32) (y2 : Int32) (y3 : Int32), L_refuses_b595 (L_refuses_l31 n) τ x1 x2 x3 x4 x5 x6 x7 x8 x9 x10 x11 y1 y2 y3 = some (r, σ1) → WW p l e (rmc 24 960 125 750) s m args below meth c D vwCl (va_A (WC q cA σ) s.heap.size) 17 cells slots (vx_MQ below (qxW D vwCl (WC q cA σ) (WC q cA σ1) (.inl r) s.heap.size) (xcW D vwCl (WC q cA σ) (WC q cA σ1) (.inl r) s.heap.size) args s 125 750 (va_A (WC q cA σ) s.heap.size)) (WC q cA τ) 595 [(0, .ref (q 0)), (1, .int (x1)), (2, .int (x2)), (3, .int (x3)), (4, .int (x4)), (5, .int (x5)), (6, .int (x6)), (7, .int (x7)), (8, .int (x8)), (9, .int (x9)), (10, .int (x10)), (11, .int (x11))] [.int (y3), .int (y2), .int (y1), .ref (q 0)] := by
        intro cells slots hc hs τ x1 x2 x3 x4 x5 x6 x7 x8 x9 x10 x11 y1 y2 y3 h
        unfold L_refuses_b595 at h
        refine ww_iconst (v := 0) hx hb dL_refuses_595 (by decide) ?_
        refine ww_iconst (v := 0) hx hb dL_refuses_596 (by decide) ?_
        obtain ⟨r_54, σ_54, e_54, h⟩ := ob2 h
        refine ww_callH0 (w01 := WC q cA σ_54) (st1 := [.int (r_54)]) hx hb hml hown hts hK hN hA hZ [.ref (q 0), .int (y1), .int (y2), .int (y3), .int ((0 : Int32)), .int ((0 : Int32))] [] (m_L_scene hl0 _ _ _ _ _ _ _ _ e_54) cs_L_94 rfl ⟨Nat.le_of_ble_eq_true rfl, Nat.le_of_ble_eq_true rfl⟩ ⟨by show _ ≤ 125; omega, by show _ ≤ 750; omega⟩ (hDD _) rfl (Nat.le_of_ble_eq_true rfl) dL_refuses_597 rfl ?_
        refine ww_bipush (v := (-72)) hx hb dL_refuses_600 (by decide) ?_
        refine ww_ne2 (tgt := 661) hx hb dL_refuses_602 (by decide) (fun c_55 => ?_) (fun c_55 => ?_)
        · replace h := it_n c_55 h
          exact ww_sub (lv1 := [(0, .ref (q 0)), (1, .int (x1)), (2, .int (x2)), (3, .int (x3)), (4, .int (x4)), (5, .int (x5)), (6, .int (x6)), (7, .int (x7)), (8, .int (x8)), (9, .int (x9)), (10, .int (x10))]) [0, 1, 2, 3, 4, 5, 6, 7, 8, 9, 10] rfl (bk661 _ _ (by omega) (by omega) _ _ _ _ _ _ _ _ _ _ _ h)
        · replace h := it_p c_55 h
          refine ww_aload_n hx hb dL_refuses_605 rfl 0 rfl ?_
          refine ww_iconst (v := 1) hx hb dL_refuses_606 (by decide) ?_
          refine ww_iconst (v := 0) hx hb dL_refuses_607 (by decide) ?_
          refine ww_iconst (v := 0) hx hb dL_refuses_608 (by decide) ?_
          refine ww_iload hx hb dL_refuses_609 10 rfl ?_
          refine ww_iconst (v := 1) hx hb dL_refuses_611 (by decide) ?_
          refine ww_ne2 (tgt := 619) hx hb dL_refuses_612 (by decide) (fun c_56 => ?_) (fun c_56 => ?_)
          · replace h := it_n c_56 h
            refine ww_iload hx hb dL_refuses_619 11 rfl ?_
            exact ww_sub (lv1 := [(0, .ref (q 0)), (1, .int (x1)), (2, .int (x2)), (3, .int (x3)), (4, .int (x4)), (5, .int (x5)), (6, .int (x6)), (7, .int (x7)), (8, .int (x8)), (9, .int (x9)), (10, .int (x10)), (11, .int (x11))]) [0, 1, 2, 3, 4, 5, 6, 7, 8, 9, 10, 11] rfl (bk621 _ _ (by omega) (by omega) _ _ _ _ _ _ _ _ _ _ _ _ _ _ _ _ h)
          · replace h := it_p c_56 h
            refine ww_iconst (v := 3) hx hb dL_refuses_615 (by decide) ?_
            refine ww_goto (tgt := 621) hx hb dL_refuses_616 (by decide) ?_
            exact ww_sub (lv1 := [(0, .ref (q 0)), (1, .int (x1)), (2, .int (x2)), (3, .int (x3)), (4, .int (x4)), (5, .int (x5)), (6, .int (x6)), (7, .int (x7)), (8, .int (x8)), (9, .int (x9)), (10, .int (x10)), (11, .int (x11))]) [0, 1, 2, 3, 4, 5, 6, 7, 8, 9, 10, 11] rfl (bk621 _ _ (by omega) (by omega) _ _ _ _ _ _ _ _ _ _ _ _ _ _ _ _ h)
      have bk552 : ∀ (cells slots : Nat) (hc : cells + (5 + n * 25) ≤ 125) (hs : slots + (30 + n * 150) ≤ 750) (τ : SS) (x1 : Int32) (x2 : Int32) (x3 : Int32) (x4 : Int32) (x5 : Int32) (x6 : Int32) (x7 : Int32) (x8 : Int32) (x9 : Int32) (x10 : Int32) (x11 : Int32) (x12 : Int32) (y1 : Int32), L_refuses_b552 (L_refuses_l31 n) τ x1 x2 x3 x4 x5 x6 x7 x8 x9 x10 x11 x12 y1 = some (r, σ1) → WW p l e (rmc 24 960 125 750) s m args below meth c D vwCl (va_A (WC q cA σ) s.heap.size) 17 cells slots (vx_MQ below (qxW D vwCl (WC q cA σ) (WC q cA σ1) (.inl r) s.heap.size) (xcW D vwCl (WC q cA σ) (WC q cA σ1) (.inl r) s.heap.size) args s 125 750 (va_A (WC q cA σ) s.heap.size)) (WC q cA τ) 552 [(0, .ref (q 0)), (1, .int (x1)), (2, .int (x2)), (3, .int (x3)), (4, .int (x4)), (5, .int (x5)), (6, .int (x6)), (7, .int (x7)), (8, .int (x8)), (9, .int (x9)), (10, .int (x10)), (11, .int (x11)), (12, .int (x12))] [.int (y1), .ref (q 0)] := by
        intro cells slots hc hs τ x1 x2 x3 x4 x5 x6 x7 x8 x9 x10 x11 x12 y1 h
        unfold L_refuses_b552 at h
        refine ww_iconst (v := 0) hx hb dL_refuses_552 (by decide) ?_
        refine ww_iconst (v := 0) hx hb dL_refuses_553 (by decide) ?_
        refine ww_iconst (v := 0) hx hb dL_refuses_554 (by decide) ?_
        refine ww_iconst (v := 0) hx hb dL_refuses_555 (by decide) ?_
        obtain ⟨r_49, σ_49, e_49, h⟩ := ob2 h
        refine ww_callH0 (w01 := WC q cA σ_49) (st1 := [.int (r_49)]) hx hb hml hown hts hK hN hA hZ [.ref (q 0), .int (y1), .int ((0 : Int32)), .int ((0 : Int32)), .int ((0 : Int32)), .int ((0 : Int32))] [] (m_L_scene hl0 _ _ _ _ _ _ _ _ e_49) cs_L_94 rfl ⟨Nat.le_of_ble_eq_true rfl, Nat.le_of_ble_eq_true rfl⟩ ⟨by show _ ≤ 125; omega, by show _ ≤ 750; omega⟩ (hDD _) rfl (Nat.le_of_ble_eq_true rfl) dL_refuses_556 rfl ?_
        refine ww_bipush (v := (-72)) hx hb dL_refuses_559 (by decide) ?_
        refine ww_ne2 (tgt := 661) hx hb dL_refuses_561 (by decide) (fun c_50 => ?_) (fun c_50 => ?_)
        · replace h := it_n c_50 h
          exact ww_sub (lv1 := [(0, .ref (q 0)), (1, .int (x1)), (2, .int (x2)), (3, .int (x3)), (4, .int (x4)), (5, .int (x5)), (6, .int (x6)), (7, .int (x7)), (8, .int (x8)), (9, .int (x9)), (10, .int (x10))]) [0, 1, 2, 3, 4, 5, 6, 7, 8, 9, 10] rfl (bk661 _ _ (by omega) (by omega) _ _ _ _ _ _ _ _ _ _ _ h)
        · replace h := it_p c_50 h
          refine ww_aload_n hx hb dL_refuses_564 rfl 0 rfl ?_
          refine ww_iconst (v := 1) hx hb dL_refuses_565 (by decide) ?_
          refine ww_iload hx hb dL_refuses_566 12 rfl ?_
          refine ww_iconst (v := 0) hx hb dL_refuses_568 (by decide) ?_
          refine ww_iconst (v := 0) hx hb dL_refuses_569 (by decide) ?_
          refine ww_iconst (v := 0) hx hb dL_refuses_570 (by decide) ?_
          obtain ⟨r_51, σ_51, e_51, h⟩ := ob2 h
          refine ww_callH0 (w01 := WC q cA σ_51) (st1 := [.int (r_51)]) hx hb hml hown hts hK hN hA hZ [.ref (q 0), .int ((1 : Int32)), .int (x12), .int ((0 : Int32)), .int ((0 : Int32)), .int ((0 : Int32))] [] (m_L_scene hl0 _ _ _ _ _ _ _ _ e_51) cs_L_94 rfl ⟨Nat.le_of_ble_eq_true rfl, Nat.le_of_ble_eq_true rfl⟩ ⟨by show _ ≤ 125; omega, by show _ ≤ 750; omega⟩ (hDD _) rfl (Nat.le_of_ble_eq_true rfl) dL_refuses_571 rfl ?_
          refine ww_bipush (v := (-72)) hx hb dL_refuses_574 (by decide) ?_
          refine ww_ne2 (tgt := 661) hx hb dL_refuses_576 (by decide) (fun c_52 => ?_) (fun c_52 => ?_)
          · replace h := it_n c_52 h
            exact ww_sub (lv1 := [(0, .ref (q 0)), (1, .int (x1)), (2, .int (x2)), (3, .int (x3)), (4, .int (x4)), (5, .int (x5)), (6, .int (x6)), (7, .int (x7)), (8, .int (x8)), (9, .int (x9)), (10, .int (x10))]) [0, 1, 2, 3, 4, 5, 6, 7, 8, 9, 10] rfl (bk661 _ _ (by omega) (by omega) _ _ _ _ _ _ _ _ _ _ _ h)
          · replace h := it_p c_52 h
            refine ww_aload_n hx hb dL_refuses_579 rfl 0 rfl ?_
            refine ww_iconst (v := 1) hx hb dL_refuses_580 (by decide) ?_
            refine ww_iconst (v := 0) hx hb dL_refuses_581 (by decide) ?_
            refine ww_iload hx hb dL_refuses_582 10 rfl ?_
            refine ww_iconst (v := 1) hx hb dL_refuses_584 (by decide) ?_
            refine ww_ne2 (tgt := 593) hx hb dL_refuses_585 (by decide) (fun c_53 => ?_) (fun c_53 => ?_)
            · replace h := it_n c_53 h
              refine ww_iload hx hb dL_refuses_593 11 rfl ?_
              exact ww_sub (lv1 := [(0, .ref (q 0)), (1, .int (x1)), (2, .int (x2)), (3, .int (x3)), (4, .int (x4)), (5, .int (x5)), (6, .int (x6)), (7, .int (x7)), (8, .int (x8)), (9, .int (x9)), (10, .int (x10)), (11, .int (x11))]) [0, 1, 2, 3, 4, 5, 6, 7, 8, 9, 10, 11] rfl (bk595 _ _ (by omega) (by omega) _ _ _ _ _ _ _ _ _ _ _ _ _ _ _ h)
            · replace h := it_p c_53 h
              refine ww_bipush (v := 64) hx hb dL_refuses_588 (by decide) ?_
              refine ww_goto (tgt := 595) hx hb dL_refuses_590 (by decide) ?_
              exact ww_sub (lv1 := [(0, .ref (q 0)), (1, .int (x1)), (2, .int (x2)), (3, .int (x3)), (4, .int (x4)), (5, .int (x5)), (6, .int (x6)), (7, .int (x7)), (8, .int (x8)), (9, .int (x9)), (10, .int (x10)), (11, .int (x11))]) [0, 1, 2, 3, 4, 5, 6, 7, 8, 9, 10, 11] rfl (bk595 _ _ (by omega) (by omega) _ _ _ _ _ _ _ _ _ _ _ _ _ _ _ h)
      have bk522 : ∀ (cells slots : Nat) (hc : cells + (5 + n * 25) ≤ 125) (hs : slots + (30 + n * 150) ≤ 750) (τ : SS) (x1 : Int32) (x2 : Int32) (x3 : Int32) (x4 : Int32) (x5 : Int32) (x6 : Int32) (x7 : Int32) (x8 : Int32) (x9 : Int32) (x10 : Int32) (x11 : Int32) (x12 : Int32) (y0 : Int32), L_refuses_b522 (L_refuses_l31 n) τ x1 x2 x3 x4 x5 x6 x7 x8 x9 x10 x11 x12 y0 = some (r, σ1) → WW p l e (rmc 24 960 125 750) s m args below meth c D vwCl (va_A (WC q cA σ) s.heap.size) 17 cells slots (vx_MQ below (qxW D vwCl (WC q cA σ) (WC q cA σ1) (.inl r) s.heap.size) (xcW D vwCl (WC q cA σ) (WC q cA σ1) (.inl r) s.heap.size) args s 125 750 (va_A (WC q cA σ) s.heap.size)) (WC q cA τ) 522 [(0, .ref (q 0)), (1, .int (x1)), (2, .int (x2)), (3, .int (x3)), (4, .int (x4)), (5, .int (x5)), (6, .int (x6)), (7, .int (x7)), (8, .int (x8)), (9, .int (x9)), (10, .int (x10)), (11, .int (x11)), (12, .int (x12))] [.int (y0)] := by
        intro cells slots hc hs τ x1 x2 x3 x4 x5 x6 x7 x8 x9 x10 x11 x12 y0 h
        unfold L_refuses_b522 at h
        refine ww_istore (i := 16) (lv1 := [(0, .ref (q 0)), (1, .int (x1)), (2, .int (x2)), (3, .int (x3)), (4, .int (x4)), (5, .int (x5)), (6, .int (x6)), (7, .int (x7)), (8, .int (x8)), (9, .int (x9)), (10, .int (x10)), (11, .int (x11)), (12, .int (x12)), (16, .int (y0))]) hx hb dL_refuses_522 (by decide) [1, 2, 3, 4, 5, 6, 7, 8, 9, 10, 11, 12, 13, 0] rfl ?_
        refine ww_iload hx hb dL_refuses_524 13 rfl ?_
        refine ww_eq0 (tgt := 661) hx hb dL_refuses_526 (by decide) (fun c_45 => ?_) (fun c_45 => ?_)
        · replace h := it_p c_45 h
          exact ww_sub (lv1 := [(0, .ref (q 0)), (1, .int (x1)), (2, .int (x2)), (3, .int (x3)), (4, .int (x4)), (5, .int (x5)), (6, .int (x6)), (7, .int (x7)), (8, .int (x8)), (9, .int (x9)), (10, .int (x10))]) [0, 1, 2, 3, 4, 5, 6, 7, 8, 9, 10] rfl (bk661 _ _ (by omega) (by omega) _ _ _ _ _ _ _ _ _ _ _ h)
        · replace h := it_n c_45 h
          refine ww_aload_n hx hb dL_refuses_529 rfl 0 rfl ?_
          refine ww_iload hx hb dL_refuses_530 10 rfl ?_
          refine ww_ne0 (tgt := 539) hx hb dL_refuses_532 (by decide) (fun c_46 => ?_) (fun c_46 => ?_)
          · replace h := it_n c_46 h
            refine ww_iload hx hb dL_refuses_539 10 rfl ?_
            refine ww_iconst (v := 1) hx hb dL_refuses_541 (by decide) ?_
            refine ww_ne2 (tgt := 550) hx hb dL_refuses_542 (by decide) (fun c_47 => ?_) (fun c_47 => ?_)
            · replace h := it_n c_47 h
              refine ww_iload hx hb dL_refuses_550 11 rfl ?_
              exact ww_sub (lv1 := [(0, .ref (q 0)), (1, .int (x1)), (2, .int (x2)), (3, .int (x3)), (4, .int (x4)), (5, .int (x5)), (6, .int (x6)), (7, .int (x7)), (8, .int (x8)), (9, .int (x9)), (10, .int (x10)), (11, .int (x11)), (12, .int (x12))]) [0, 1, 2, 3, 4, 5, 6, 7, 8, 9, 10, 11, 12] rfl (bk552 _ _ (by omega) (by omega) _ _ _ _ _ _ _ _ _ _ _ _ _ _ h)
            · replace h := it_p c_47 h
              refine ww_bipush (v := 7) hx hb dL_refuses_545 (by decide) ?_
              refine ww_goto (tgt := 552) hx hb dL_refuses_547 (by decide) ?_
              exact ww_sub (lv1 := [(0, .ref (q 0)), (1, .int (x1)), (2, .int (x2)), (3, .int (x3)), (4, .int (x4)), (5, .int (x5)), (6, .int (x6)), (7, .int (x7)), (8, .int (x8)), (9, .int (x9)), (10, .int (x10)), (11, .int (x11)), (12, .int (x12))]) [0, 1, 2, 3, 4, 5, 6, 7, 8, 9, 10, 11, 12] rfl (bk552 _ _ (by omega) (by omega) _ _ _ _ _ _ _ _ _ _ _ _ _ _ h)
          · replace h := it_p c_46 h
            refine ww_iconst (v := 0) hx hb dL_refuses_535 (by decide) ?_
            refine ww_goto (tgt := 552) hx hb dL_refuses_536 (by decide) ?_
            exact ww_sub (lv1 := [(0, .ref (q 0)), (1, .int (x1)), (2, .int (x2)), (3, .int (x3)), (4, .int (x4)), (5, .int (x5)), (6, .int (x6)), (7, .int (x7)), (8, .int (x8)), (9, .int (x9)), (10, .int (x10)), (11, .int (x11)), (12, .int (x12))]) [0, 1, 2, 3, 4, 5, 6, 7, 8, 9, 10, 11, 12] rfl (bk552 _ _ (by omega) (by omega) _ _ _ _ _ _ _ _ _ _ _ _ _ _ h)
      have bk521 : ∀ (cells slots : Nat) (hc : cells + (5 + n * 25) ≤ 125) (hs : slots + (30 + n * 150) ≤ 750) (τ : SS) (x1 : Int32) (x2 : Int32) (x3 : Int32) (x4 : Int32) (x5 : Int32) (x6 : Int32) (x7 : Int32) (x8 : Int32) (x9 : Int32) (x10 : Int32) (x11 : Int32) (x12 : Int32), L_refuses_b521 (L_refuses_l31 n) τ x1 x2 x3 x4 x5 x6 x7 x8 x9 x10 x11 x12 = some (r, σ1) → WW p l e (rmc 24 960 125 750) s m args below meth c D vwCl (va_A (WC q cA σ) s.heap.size) 17 cells slots (vx_MQ below (qxW D vwCl (WC q cA σ) (WC q cA σ1) (.inl r) s.heap.size) (xcW D vwCl (WC q cA σ) (WC q cA σ1) (.inl r) s.heap.size) args s 125 750 (va_A (WC q cA σ) s.heap.size)) (WC q cA τ) 521 [(0, .ref (q 0)), (1, .int (x1)), (2, .int (x2)), (3, .int (x3)), (4, .int (x4)), (5, .int (x5)), (6, .int (x6)), (7, .int (x7)), (8, .int (x8)), (9, .int (x9)), (10, .int (x10)), (11, .int (x11)), (12, .int (x12))] [] := by
        intro cells slots hc hs τ x1 x2 x3 x4 x5 x6 x7 x8 x9 x10 x11 x12 h
        unfold L_refuses_b521 at h
        refine ww_iconst (v := 0) hx hb dL_refuses_521 (by decide) ?_
        exact ww_sub (lv1 := [(0, .ref (q 0)), (1, .int (x1)), (2, .int (x2)), (3, .int (x3)), (4, .int (x4)), (5, .int (x5)), (6, .int (x6)), (7, .int (x7)), (8, .int (x8)), (9, .int (x9)), (10, .int (x10)), (11, .int (x11)), (12, .int (x12))]) [0, 1, 2, 3, 4, 5, 6, 7, 8, 9, 10, 11, 12] rfl (bk522 _ _ (by omega) (by omega) _ _ _ _ _ _ _ _ _ _ _ _ _ _ h)
      have bk492 : ∀ (cells slots : Nat) (hc : cells + (7 + n * 25) ≤ 125) (hs : slots + (42 + n * 150) ≤ 750) (τ : SS) (x1 : Int32) (x2 : Int32) (x3 : Int32) (x4 : Int32) (x5 : Int32) (x6 : Int32) (x7 : Int32) (x8 : Int32) (x9 : Int32) (x10 : Int32) (x11 : Int32) (x12 : Int32) (x13 : Int32) (y1 : Int32) (y2 : Int32), L_refuses_b492 (L_refuses_l31 n) τ x1 x2 x3 x4 x5 x6 x7 x8 x9 x10 x11 x12 x13 y1 y2 = some (r, σ1) → WW p l e (rmc 24 960 125 750) s m args below meth c D vwCl (va_A (WC q cA σ) s.heap.size) 17 cells slots (vx_MQ below (qxW D vwCl (WC q cA σ) (WC q cA σ1) (.inl r) s.heap.size) (xcW D vwCl (WC q cA σ) (WC q cA σ1) (.inl r) s.heap.size) args s 125 750 (va_A (WC q cA σ) s.heap.size)) (WC q cA τ) 492 [(0, .ref (q 0)), (1, .int (x1)), (2, .int (x2)), (3, .int (x3)), (4, .int (x4)), (5, .int (x5)), (6, .int (x6)), (7, .int (x7)), (8, .int (x8)), (9, .int (x9)), (10, .int (x10)), (11, .int (x11)), (12, .int (x12)), (13, .int (x13))] [.int (y2), .int (y1), .ref (q 0)] := by
        intro cells slots hc hs τ x1 x2 x3 x4 x5 x6 x7 x8 x9 x10 x11 x12 x13 y1 y2 h
        unfold L_refuses_b492 at h
        refine ww_iconst (v := 0) hx hb dL_refuses_492 (by decide) ?_
        refine ww_iconst (v := 0) hx hb dL_refuses_493 (by decide) ?_
        obtain ⟨r_83, σ_83, e_83, h⟩ := ob2 h
        refine ww_callH0 (w01 := WC q cA σ_83) (st1 := [.int (r_83)]) hx hb hml hown hts hK hN hA hZ [.ref (q 0), .int (y1), .int (y2), .int ((0 : Int32)), .int ((0 : Int32))] [] (m_L_act hl0 _ _ _ _ _ _ _ e_83) cs_L_87 rfl ⟨Nat.le_of_ble_eq_true rfl, Nat.le_of_ble_eq_true rfl⟩ ⟨by show _ ≤ 125; omega, by show _ ≤ 750; omega⟩ (hDD _) rfl (Nat.le_of_ble_eq_true rfl) dL_refuses_494 rfl ?_
        refine ww_bipush (v := (-71)) hx hb dL_refuses_497 (by decide) ?_
        refine ww_ne2 (tgt := 521) hx hb dL_refuses_499 (by decide) (fun c_84 => ?_) (fun c_84 => ?_)
        · replace h := it_n c_84 h
          exact ww_sub (lv1 := [(0, .ref (q 0)), (1, .int (x1)), (2, .int (x2)), (3, .int (x3)), (4, .int (x4)), (5, .int (x5)), (6, .int (x6)), (7, .int (x7)), (8, .int (x8)), (9, .int (x9)), (10, .int (x10)), (11, .int (x11)), (12, .int (x12))]) [0, 1, 2, 3, 4, 5, 6, 7, 8, 9, 10, 11, 12] rfl (bk521 _ _ (by omega) (by omega) _ _ _ _ _ _ _ _ _ _ _ _ _ h)
        · replace h := it_p c_84 h
          refine ww_aload_n hx hb dL_refuses_502 rfl 0 rfl ?_
          refine ww_bipush (v := 15) hx hb dL_refuses_503 (by decide) ?_
          refine ww_iload hx hb dL_refuses_505 13 rfl ?_
          refine ww_iconst (v := 0) hx hb dL_refuses_507 (by decide) ?_
          refine ww_iconst (v := 0) hx hb dL_refuses_508 (by decide) ?_
          obtain ⟨r_85, σ_85, e_85, h⟩ := ob2 h
          refine ww_callH0 (w01 := WC q cA σ_85) (st1 := [.int (r_85)]) hx hb hml hown hts hK hN hA hZ [.ref (q 0), .int ((15 : Int32)), .int (x13), .int ((0 : Int32)), .int ((0 : Int32))] [] (m_L_act hl0 _ _ _ _ _ _ _ e_85) cs_L_87 rfl ⟨Nat.le_of_ble_eq_true rfl, Nat.le_of_ble_eq_true rfl⟩ ⟨by show _ ≤ 125; omega, by show _ ≤ 750; omega⟩ (hDD _) rfl (Nat.le_of_ble_eq_true rfl) dL_refuses_509 rfl ?_
          refine ww_bipush (v := (-71)) hx hb dL_refuses_512 (by decide) ?_
          refine ww_ne2 (tgt := 521) hx hb dL_refuses_514 (by decide) (fun c_86 => ?_) (fun c_86 => ?_)
          · replace h := it_n c_86 h
            exact ww_sub (lv1 := [(0, .ref (q 0)), (1, .int (x1)), (2, .int (x2)), (3, .int (x3)), (4, .int (x4)), (5, .int (x5)), (6, .int (x6)), (7, .int (x7)), (8, .int (x8)), (9, .int (x9)), (10, .int (x10)), (11, .int (x11)), (12, .int (x12))]) [0, 1, 2, 3, 4, 5, 6, 7, 8, 9, 10, 11, 12] rfl (bk521 _ _ (by omega) (by omega) _ _ _ _ _ _ _ _ _ _ _ _ _ h)
          · replace h := it_p c_86 h
            refine ww_iconst (v := 1) hx hb dL_refuses_517 (by decide) ?_
            refine ww_goto (tgt := 522) hx hb dL_refuses_518 (by decide) ?_
            exact ww_sub (lv1 := [(0, .ref (q 0)), (1, .int (x1)), (2, .int (x2)), (3, .int (x3)), (4, .int (x4)), (5, .int (x5)), (6, .int (x6)), (7, .int (x7)), (8, .int (x8)), (9, .int (x9)), (10, .int (x10)), (11, .int (x11)), (12, .int (x12))]) [0, 1, 2, 3, 4, 5, 6, 7, 8, 9, 10, 11, 12] rfl (bk522 _ _ (by omega) (by omega) _ _ _ _ _ _ _ _ _ _ _ _ _ _ h)
      have bk452 : ∀ (cells slots : Nat) (hc : cells + (9 + n * 25) ≤ 125) (hs : slots + (54 + n * 150) ≤ 750) (τ : SS) (x1 : Int32) (x2 : Int32) (x3 : Int32) (x4 : Int32) (x5 : Int32) (x6 : Int32) (x7 : Int32) (x8 : Int32) (x9 : Int32) (x10 : Int32) (x11 : Int32) (x12 : Int32) (x13 : Int32) (y1 : Int32) (y2 : Int32), L_refuses_b452 (L_refuses_l31 n) τ x1 x2 x3 x4 x5 x6 x7 x8 x9 x10 x11 x12 x13 y1 y2 = some (r, σ1) → WW p l e (rmc 24 960 125 750) s m args below meth c D vwCl (va_A (WC q cA σ) s.heap.size) 17 cells slots (vx_MQ below (qxW D vwCl (WC q cA σ) (WC q cA σ1) (.inl r) s.heap.size) (xcW D vwCl (WC q cA σ) (WC q cA σ1) (.inl r) s.heap.size) args s 125 750 (va_A (WC q cA σ) s.heap.size)) (WC q cA τ) 452 [(0, .ref (q 0)), (1, .int (x1)), (2, .int (x2)), (3, .int (x3)), (4, .int (x4)), (5, .int (x5)), (6, .int (x6)), (7, .int (x7)), (8, .int (x8)), (9, .int (x9)), (10, .int (x10)), (11, .int (x11)), (12, .int (x12)), (13, .int (x13))] [.int (y2), .int (y1), .ref (q 0)] := by
        intro cells slots hc hs τ x1 x2 x3 x4 x5 x6 x7 x8 x9 x10 x11 x12 x13 y1 y2 h
        unfold L_refuses_b452 at h
        refine ww_iconst (v := 0) hx hb dL_refuses_452 (by decide) ?_
        refine ww_iconst (v := 0) hx hb dL_refuses_453 (by decide) ?_
        obtain ⟨r_78, σ_78, e_78, h⟩ := ob2 h
        refine ww_callH0 (w01 := WC q cA σ_78) (st1 := [.int (r_78)]) hx hb hml hown hts hK hN hA hZ [.ref (q 0), .int (y1), .int (y2), .int ((0 : Int32)), .int ((0 : Int32))] [] (m_L_act hl0 _ _ _ _ _ _ _ e_78) cs_L_87 rfl ⟨Nat.le_of_ble_eq_true rfl, Nat.le_of_ble_eq_true rfl⟩ ⟨by show _ ≤ 125; omega, by show _ ≤ 750; omega⟩ (hDD _) rfl (Nat.le_of_ble_eq_true rfl) dL_refuses_454 rfl ?_
        refine ww_bipush (v := (-71)) hx hb dL_refuses_457 (by decide) ?_
        refine ww_ne2 (tgt := 521) hx hb dL_refuses_459 (by decide) (fun c_79 => ?_) (fun c_79 => ?_)
        · replace h := it_n c_79 h
          exact ww_sub (lv1 := [(0, .ref (q 0)), (1, .int (x1)), (2, .int (x2)), (3, .int (x3)), (4, .int (x4)), (5, .int (x5)), (6, .int (x6)), (7, .int (x7)), (8, .int (x8)), (9, .int (x9)), (10, .int (x10)), (11, .int (x11)), (12, .int (x12))]) [0, 1, 2, 3, 4, 5, 6, 7, 8, 9, 10, 11, 12] rfl (bk521 _ _ (by omega) (by omega) _ _ _ _ _ _ _ _ _ _ _ _ _ h)
        · replace h := it_p c_79 h
          refine ww_aload_n hx hb dL_refuses_462 rfl 0 rfl ?_
          refine ww_bipush (v := 13) hx hb dL_refuses_463 (by decide) ?_
          refine ww_iload hx hb dL_refuses_465 12 rfl ?_
          refine ww_iconst (v := 0) hx hb dL_refuses_467 (by decide) ?_
          refine ww_iconst (v := 0) hx hb dL_refuses_468 (by decide) ?_
          obtain ⟨r_80, σ_80, e_80, h⟩ := ob2 h
          refine ww_callH0 (w01 := WC q cA σ_80) (st1 := [.int (r_80)]) hx hb hml hown hts hK hN hA hZ [.ref (q 0), .int ((13 : Int32)), .int (x12), .int ((0 : Int32)), .int ((0 : Int32))] [] (m_L_act hl0 _ _ _ _ _ _ _ e_80) cs_L_87 rfl ⟨Nat.le_of_ble_eq_true rfl, Nat.le_of_ble_eq_true rfl⟩ ⟨by show _ ≤ 125; omega, by show _ ≤ 750; omega⟩ (hDD _) rfl (Nat.le_of_ble_eq_true rfl) dL_refuses_469 rfl ?_
          refine ww_bipush (v := (-71)) hx hb dL_refuses_472 (by decide) ?_
          refine ww_ne2 (tgt := 521) hx hb dL_refuses_474 (by decide) (fun c_81 => ?_) (fun c_81 => ?_)
          · replace h := it_n c_81 h
            exact ww_sub (lv1 := [(0, .ref (q 0)), (1, .int (x1)), (2, .int (x2)), (3, .int (x3)), (4, .int (x4)), (5, .int (x5)), (6, .int (x6)), (7, .int (x7)), (8, .int (x8)), (9, .int (x9)), (10, .int (x10)), (11, .int (x11)), (12, .int (x12))]) [0, 1, 2, 3, 4, 5, 6, 7, 8, 9, 10, 11, 12] rfl (bk521 _ _ (by omega) (by omega) _ _ _ _ _ _ _ _ _ _ _ _ _ h)
          · replace h := it_p c_81 h
            refine ww_aload_n hx hb dL_refuses_477 rfl 0 rfl ?_
            refine ww_bipush (v := 14) hx hb dL_refuses_478 (by decide) ?_
            refine ww_iload hx hb dL_refuses_480 10 rfl ?_
            refine ww_iconst (v := 1) hx hb dL_refuses_482 (by decide) ?_
            refine ww_ne2 (tgt := 490) hx hb dL_refuses_483 (by decide) (fun c_82 => ?_) (fun c_82 => ?_)
            · replace h := it_n c_82 h
              refine ww_iload hx hb dL_refuses_490 11 rfl ?_
              exact ww_sub (lv1 := [(0, .ref (q 0)), (1, .int (x1)), (2, .int (x2)), (3, .int (x3)), (4, .int (x4)), (5, .int (x5)), (6, .int (x6)), (7, .int (x7)), (8, .int (x8)), (9, .int (x9)), (10, .int (x10)), (11, .int (x11)), (12, .int (x12)), (13, .int (x13))]) [0, 1, 2, 3, 4, 5, 6, 7, 8, 9, 10, 11, 12, 13] rfl (bk492 _ _ (by omega) (by omega) _ _ _ _ _ _ _ _ _ _ _ _ _ _ _ _ h)
            · replace h := it_p c_82 h
              refine ww_iload_n hx hb dL_refuses_486 rfl 3 rfl ?_
              refine ww_goto (tgt := 492) hx hb dL_refuses_487 (by decide) ?_
              exact ww_sub (lv1 := [(0, .ref (q 0)), (1, .int (x1)), (2, .int (x2)), (3, .int (x3)), (4, .int (x4)), (5, .int (x5)), (6, .int (x6)), (7, .int (x7)), (8, .int (x8)), (9, .int (x9)), (10, .int (x10)), (11, .int (x11)), (12, .int (x12)), (13, .int (x13))]) [0, 1, 2, 3, 4, 5, 6, 7, 8, 9, 10, 11, 12, 13] rfl (bk492 _ _ (by omega) (by omega) _ _ _ _ _ _ _ _ _ _ _ _ _ _ _ _ h)
      have bk427 : ∀ (cells slots : Nat) (hc : cells + (10 + n * 25) ≤ 125) (hs : slots + (60 + n * 150) ≤ 750) (τ : SS) (x1 : Int32) (x2 : Int32) (x3 : Int32) (x4 : Int32) (x5 : Int32) (x6 : Int32) (x7 : Int32) (x8 : Int32) (x9 : Int32) (x10 : Int32) (x11 : Int32) (x12 : Int32) (x13 : Int32) (y1 : Int32) (y2 : Int32), L_refuses_b427 (L_refuses_l31 n) τ x1 x2 x3 x4 x5 x6 x7 x8 x9 x10 x11 x12 x13 y1 y2 = some (r, σ1) → WW p l e (rmc 24 960 125 750) s m args below meth c D vwCl (va_A (WC q cA σ) s.heap.size) 17 cells slots (vx_MQ below (qxW D vwCl (WC q cA σ) (WC q cA σ1) (.inl r) s.heap.size) (xcW D vwCl (WC q cA σ) (WC q cA σ1) (.inl r) s.heap.size) args s 125 750 (va_A (WC q cA σ) s.heap.size)) (WC q cA τ) 427 [(0, .ref (q 0)), (1, .int (x1)), (2, .int (x2)), (3, .int (x3)), (4, .int (x4)), (5, .int (x5)), (6, .int (x6)), (7, .int (x7)), (8, .int (x8)), (9, .int (x9)), (10, .int (x10)), (11, .int (x11)), (12, .int (x12)), (13, .int (x13))] [.int (y2), .int (y1), .ref (q 0)] := by
        intro cells slots hc hs τ x1 x2 x3 x4 x5 x6 x7 x8 x9 x10 x11 x12 x13 y1 y2 h
        unfold L_refuses_b427 at h
        refine ww_iconst (v := 0) hx hb dL_refuses_427 (by decide) ?_
        refine ww_iconst (v := 0) hx hb dL_refuses_428 (by decide) ?_
        obtain ⟨r_75, σ_75, e_75, h⟩ := ob2 h
        refine ww_callH0 (w01 := WC q cA σ_75) (st1 := [.int (r_75)]) hx hb hml hown hts hK hN hA hZ [.ref (q 0), .int (y1), .int (y2), .int ((0 : Int32)), .int ((0 : Int32))] [] (m_L_act hl0 _ _ _ _ _ _ _ e_75) cs_L_87 rfl ⟨Nat.le_of_ble_eq_true rfl, Nat.le_of_ble_eq_true rfl⟩ ⟨by show _ ≤ 125; omega, by show _ ≤ 750; omega⟩ (hDD _) rfl (Nat.le_of_ble_eq_true rfl) dL_refuses_429 rfl ?_
        refine ww_bipush (v := (-71)) hx hb dL_refuses_432 (by decide) ?_
        refine ww_ne2 (tgt := 521) hx hb dL_refuses_434 (by decide) (fun c_76 => ?_) (fun c_76 => ?_)
        · replace h := it_n c_76 h
          exact ww_sub (lv1 := [(0, .ref (q 0)), (1, .int (x1)), (2, .int (x2)), (3, .int (x3)), (4, .int (x4)), (5, .int (x5)), (6, .int (x6)), (7, .int (x7)), (8, .int (x8)), (9, .int (x9)), (10, .int (x10)), (11, .int (x11)), (12, .int (x12))]) [0, 1, 2, 3, 4, 5, 6, 7, 8, 9, 10, 11, 12] rfl (bk521 _ _ (by omega) (by omega) _ _ _ _ _ _ _ _ _ _ _ _ _ h)
        · replace h := it_p c_76 h
          refine ww_aload_n hx hb dL_refuses_437 rfl 0 rfl ?_
          refine ww_bipush (v := 12) hx hb dL_refuses_438 (by decide) ?_
          refine ww_iload hx hb dL_refuses_440 10 rfl ?_
          refine ww_iconst (v := 1) hx hb dL_refuses_442 (by decide) ?_
          refine ww_ne2 (tgt := 450) hx hb dL_refuses_443 (by decide) (fun c_77 => ?_) (fun c_77 => ?_)
          · replace h := it_n c_77 h
            refine ww_iload hx hb dL_refuses_450 11 rfl ?_
            exact ww_sub (lv1 := [(0, .ref (q 0)), (1, .int (x1)), (2, .int (x2)), (3, .int (x3)), (4, .int (x4)), (5, .int (x5)), (6, .int (x6)), (7, .int (x7)), (8, .int (x8)), (9, .int (x9)), (10, .int (x10)), (11, .int (x11)), (12, .int (x12)), (13, .int (x13))]) [0, 1, 2, 3, 4, 5, 6, 7, 8, 9, 10, 11, 12, 13] rfl (bk452 _ _ (by omega) (by omega) _ _ _ _ _ _ _ _ _ _ _ _ _ _ _ _ h)
          · replace h := it_p c_77 h
            refine ww_iload_n hx hb dL_refuses_446 rfl 1 rfl ?_
            refine ww_goto (tgt := 452) hx hb dL_refuses_447 (by decide) ?_
            exact ww_sub (lv1 := [(0, .ref (q 0)), (1, .int (x1)), (2, .int (x2)), (3, .int (x3)), (4, .int (x4)), (5, .int (x5)), (6, .int (x6)), (7, .int (x7)), (8, .int (x8)), (9, .int (x9)), (10, .int (x10)), (11, .int (x11)), (12, .int (x12)), (13, .int (x13))]) [0, 1, 2, 3, 4, 5, 6, 7, 8, 9, 10, 11, 12, 13] rfl (bk452 _ _ (by omega) (by omega) _ _ _ _ _ _ _ _ _ _ _ _ _ _ _ _ h)
      have bk402 : ∀ (cells slots : Nat) (hc : cells + (11 + n * 25) ≤ 125) (hs : slots + (66 + n * 150) ≤ 750) (τ : SS) (x1 : Int32) (x2 : Int32) (x3 : Int32) (x4 : Int32) (x5 : Int32) (x6 : Int32) (x7 : Int32) (x8 : Int32) (x9 : Int32) (x10 : Int32) (x11 : Int32) (x12 : Int32) (x13 : Int32) (y1 : Int32) (y2 : Int32), L_refuses_b402 (L_refuses_l31 n) τ x1 x2 x3 x4 x5 x6 x7 x8 x9 x10 x11 x12 x13 y1 y2 = some (r, σ1) → WW p l e (rmc 24 960 125 750) s m args below meth c D vwCl (va_A (WC q cA σ) s.heap.size) 17 cells slots (vx_MQ below (qxW D vwCl (WC q cA σ) (WC q cA σ1) (.inl r) s.heap.size) (xcW D vwCl (WC q cA σ) (WC q cA σ1) (.inl r) s.heap.size) args s 125 750 (va_A (WC q cA σ) s.heap.size)) (WC q cA τ) 402 [(0, .ref (q 0)), (1, .int (x1)), (2, .int (x2)), (3, .int (x3)), (4, .int (x4)), (5, .int (x5)), (6, .int (x6)), (7, .int (x7)), (8, .int (x8)), (9, .int (x9)), (10, .int (x10)), (11, .int (x11)), (12, .int (x12)), (13, .int (x13))] [.int (y2), .int (y1), .ref (q 0)] := by
        intro cells slots hc hs τ x1 x2 x3 x4 x5 x6 x7 x8 x9 x10 x11 x12 x13 y1 y2 h
        unfold L_refuses_b402 at h
        refine ww_iconst (v := 0) hx hb dL_refuses_402 (by decide) ?_
        refine ww_iconst (v := 0) hx hb dL_refuses_403 (by decide) ?_
        obtain ⟨r_72, σ_72, e_72, h⟩ := ob2 h
        refine ww_callH0 (w01 := WC q cA σ_72) (st1 := [.int (r_72)]) hx hb hml hown hts hK hN hA hZ [.ref (q 0), .int (y1), .int (y2), .int ((0 : Int32)), .int ((0 : Int32))] [] (m_L_act hl0 _ _ _ _ _ _ _ e_72) cs_L_87 rfl ⟨Nat.le_of_ble_eq_true rfl, Nat.le_of_ble_eq_true rfl⟩ ⟨by show _ ≤ 125; omega, by show _ ≤ 750; omega⟩ (hDD _) rfl (Nat.le_of_ble_eq_true rfl) dL_refuses_404 rfl ?_
        refine ww_bipush (v := (-72)) hx hb dL_refuses_407 (by decide) ?_
        refine ww_ne2 (tgt := 521) hx hb dL_refuses_409 (by decide) (fun c_73 => ?_) (fun c_73 => ?_)
        · replace h := it_n c_73 h
          exact ww_sub (lv1 := [(0, .ref (q 0)), (1, .int (x1)), (2, .int (x2)), (3, .int (x3)), (4, .int (x4)), (5, .int (x5)), (6, .int (x6)), (7, .int (x7)), (8, .int (x8)), (9, .int (x9)), (10, .int (x10)), (11, .int (x11)), (12, .int (x12))]) [0, 1, 2, 3, 4, 5, 6, 7, 8, 9, 10, 11, 12] rfl (bk521 _ _ (by omega) (by omega) _ _ _ _ _ _ _ _ _ _ _ _ _ h)
        · replace h := it_p c_73 h
          refine ww_aload_n hx hb dL_refuses_412 rfl 0 rfl ?_
          refine ww_bipush (v := 11) hx hb dL_refuses_413 (by decide) ?_
          refine ww_iload hx hb dL_refuses_415 10 rfl ?_
          refine ww_iconst (v := 1) hx hb dL_refuses_417 (by decide) ?_
          refine ww_ne2 (tgt := 425) hx hb dL_refuses_418 (by decide) (fun c_74 => ?_) (fun c_74 => ?_)
          · replace h := it_n c_74 h
            refine ww_iload hx hb dL_refuses_425 11 rfl ?_
            exact ww_sub (lv1 := [(0, .ref (q 0)), (1, .int (x1)), (2, .int (x2)), (3, .int (x3)), (4, .int (x4)), (5, .int (x5)), (6, .int (x6)), (7, .int (x7)), (8, .int (x8)), (9, .int (x9)), (10, .int (x10)), (11, .int (x11)), (12, .int (x12)), (13, .int (x13))]) [0, 1, 2, 3, 4, 5, 6, 7, 8, 9, 10, 11, 12, 13] rfl (bk427 _ _ (by omega) (by omega) _ _ _ _ _ _ _ _ _ _ _ _ _ _ _ _ h)
          · replace h := it_p c_74 h
            refine ww_iload_n hx hb dL_refuses_421 rfl 2 rfl ?_
            refine ww_goto (tgt := 427) hx hb dL_refuses_422 (by decide) ?_
            exact ww_sub (lv1 := [(0, .ref (q 0)), (1, .int (x1)), (2, .int (x2)), (3, .int (x3)), (4, .int (x4)), (5, .int (x5)), (6, .int (x6)), (7, .int (x7)), (8, .int (x8)), (9, .int (x9)), (10, .int (x10)), (11, .int (x11)), (12, .int (x12)), (13, .int (x13))]) [0, 1, 2, 3, 4, 5, 6, 7, 8, 9, 10, 11, 12, 13] rfl (bk427 _ _ (by omega) (by omega) _ _ _ _ _ _ _ _ _ _ _ _ _ _ _ _ h)
      have bk369 : ∀ (cells slots : Nat) (hc : cells + (12 + n * 25) ≤ 125) (hs : slots + (72 + n * 150) ≤ 750) (τ : SS) (x1 : Int32) (x2 : Int32) (x3 : Int32) (x4 : Int32) (x5 : Int32) (x6 : Int32) (x7 : Int32) (x8 : Int32) (x9 : Int32) (x10 : Int32) (x11 : Int32) (x12 : Int32) (x13 : Int32) (y1 : Int32) (y2 : Int32) (y3 : Int32) (y4 : Int32), L_refuses_b369 (L_refuses_l31 n) τ x1 x2 x3 x4 x5 x6 x7 x8 x9 x10 x11 x12 x13 y1 y2 y3 y4 = some (r, σ1) → WW p l e (rmc 24 960 125 750) s m args below meth c D vwCl (va_A (WC q cA σ) s.heap.size) 17 cells slots (vx_MQ below (qxW D vwCl (WC q cA σ) (WC q cA σ1) (.inl r) s.heap.size) (xcW D vwCl (WC q cA σ) (WC q cA σ1) (.inl r) s.heap.size) args s 125 750 (va_A (WC q cA σ) s.heap.size)) (WC q cA τ) 369 [(0, .ref (q 0)), (1, .int (x1)), (2, .int (x2)), (3, .int (x3)), (4, .int (x4)), (5, .int (x5)), (6, .int (x6)), (7, .int (x7)), (8, .int (x8)), (9, .int (x9)), (10, .int (x10)), (11, .int (x11)), (12, .int (x12)), (13, .int (x13))] [.int (y4), .int (y3), .int (y2), .int (y1), .ref (q 0)] := by
        intro cells slots hc hs τ x1 x2 x3 x4 x5 x6 x7 x8 x9 x10 x11 x12 x13 y1 y2 y3 y4 h
        unfold L_refuses_b369 at h
        obtain ⟨r_68, σ_68, e_68, h⟩ := ob2 h
        refine ww_callH0 (w01 := WC q cA σ_68) (st1 := [.int (r_68)]) hx hb hml hown hts hK hN hA hZ [.ref (q 0), .int (y1), .int (y2), .int (y3), .int (y4)] [] (m_L_act hl0 _ _ _ _ _ _ _ e_68) cs_L_87 rfl ⟨Nat.le_of_ble_eq_true rfl, Nat.le_of_ble_eq_true rfl⟩ ⟨by show _ ≤ 125; omega, by show _ ≤ 750; omega⟩ (hDD _) rfl (Nat.le_of_ble_eq_true rfl) dL_refuses_369 rfl ?_
        refine ww_bipush (v := (-72)) hx hb dL_refuses_372 (by decide) ?_
        refine ww_ne2 (tgt := 521) hx hb dL_refuses_374 (by decide) (fun c_69 => ?_) (fun c_69 => ?_)
        · replace h := it_n c_69 h
          exact ww_sub (lv1 := [(0, .ref (q 0)), (1, .int (x1)), (2, .int (x2)), (3, .int (x3)), (4, .int (x4)), (5, .int (x5)), (6, .int (x6)), (7, .int (x7)), (8, .int (x8)), (9, .int (x9)), (10, .int (x10)), (11, .int (x11)), (12, .int (x12))]) [0, 1, 2, 3, 4, 5, 6, 7, 8, 9, 10, 11, 12] rfl (bk521 _ _ (by omega) (by omega) _ _ _ _ _ _ _ _ _ _ _ _ _ h)
        · replace h := it_p c_69 h
          refine ww_aload_n hx hb dL_refuses_377 rfl 0 rfl ?_
          refine ww_bipush (v := 9) hx hb dL_refuses_378 (by decide) ?_
          refine ww_iload hx hb dL_refuses_380 10 rfl ?_
          refine ww_ne0 (tgt := 389) hx hb dL_refuses_382 (by decide) (fun c_70 => ?_) (fun c_70 => ?_)
          · replace h := it_n c_70 h
            refine ww_iload hx hb dL_refuses_389 10 rfl ?_
            refine ww_iconst (v := 1) hx hb dL_refuses_391 (by decide) ?_
            refine ww_ne2 (tgt := 400) hx hb dL_refuses_392 (by decide) (fun c_71 => ?_) (fun c_71 => ?_)
            · replace h := it_n c_71 h
              refine ww_iload hx hb dL_refuses_400 11 rfl ?_
              exact ww_sub (lv1 := [(0, .ref (q 0)), (1, .int (x1)), (2, .int (x2)), (3, .int (x3)), (4, .int (x4)), (5, .int (x5)), (6, .int (x6)), (7, .int (x7)), (8, .int (x8)), (9, .int (x9)), (10, .int (x10)), (11, .int (x11)), (12, .int (x12)), (13, .int (x13))]) [0, 1, 2, 3, 4, 5, 6, 7, 8, 9, 10, 11, 12, 13] rfl (bk402 _ _ (by omega) (by omega) _ _ _ _ _ _ _ _ _ _ _ _ _ _ _ _ h)
            · replace h := it_p c_71 h
              refine ww_ldc hx hb hown hts kw_381 dL_refuses_395 ?_
              refine ww_goto (tgt := 402) hx hb dL_refuses_397 (by decide) ?_
              exact ww_sub (lv1 := [(0, .ref (q 0)), (1, .int (x1)), (2, .int (x2)), (3, .int (x3)), (4, .int (x4)), (5, .int (x5)), (6, .int (x6)), (7, .int (x7)), (8, .int (x8)), (9, .int (x9)), (10, .int (x10)), (11, .int (x11)), (12, .int (x12)), (13, .int (x13))]) [0, 1, 2, 3, 4, 5, 6, 7, 8, 9, 10, 11, 12, 13] rfl (bk402 _ _ (by omega) (by omega) _ _ _ _ _ _ _ _ _ _ _ _ _ _ _ _ h)
          · replace h := it_p c_70 h
            refine ww_iconst (v := 0) hx hb dL_refuses_385 (by decide) ?_
            refine ww_goto (tgt := 402) hx hb dL_refuses_386 (by decide) ?_
            exact ww_sub (lv1 := [(0, .ref (q 0)), (1, .int (x1)), (2, .int (x2)), (3, .int (x3)), (4, .int (x4)), (5, .int (x5)), (6, .int (x6)), (7, .int (x7)), (8, .int (x8)), (9, .int (x9)), (10, .int (x10)), (11, .int (x11)), (12, .int (x12)), (13, .int (x13))]) [0, 1, 2, 3, 4, 5, 6, 7, 8, 9, 10, 11, 12, 13] rfl (bk402 _ _ (by omega) (by omega) _ _ _ _ _ _ _ _ _ _ _ _ _ _ _ _ h)
      have bk317 : ∀ (cells slots : Nat) (hc : cells + (14 + n * 25) ≤ 125) (hs : slots + (84 + n * 150) ≤ 750) (τ : SS) (x1 : Int32) (x2 : Int32) (x3 : Int32) (x4 : Int32) (x5 : Int32) (x6 : Int32) (x7 : Int32) (x8 : Int32) (x9 : Int32) (x10 : Int32) (x11 : Int32) (x12 : Int32) (x13 : Int32) (y1 : Int32) (y2 : Int32), L_refuses_b317 (L_refuses_l31 n) τ x1 x2 x3 x4 x5 x6 x7 x8 x9 x10 x11 x12 x13 y1 y2 = some (r, σ1) → WW p l e (rmc 24 960 125 750) s m args below meth c D vwCl (va_A (WC q cA σ) s.heap.size) 17 cells slots (vx_MQ below (qxW D vwCl (WC q cA σ) (WC q cA σ1) (.inl r) s.heap.size) (xcW D vwCl (WC q cA σ) (WC q cA σ1) (.inl r) s.heap.size) args s 125 750 (va_A (WC q cA σ) s.heap.size)) (WC q cA τ) 317 [(0, .ref (q 0)), (1, .int (x1)), (2, .int (x2)), (3, .int (x3)), (4, .int (x4)), (5, .int (x5)), (6, .int (x6)), (7, .int (x7)), (8, .int (x8)), (9, .int (x9)), (10, .int (x10)), (11, .int (x11)), (12, .int (x12)), (13, .int (x13))] [.int (y2), .int (y1), .ref (q 0)] := by
        intro cells slots hc hs τ x1 x2 x3 x4 x5 x6 x7 x8 x9 x10 x11 x12 x13 y1 y2 h
        unfold L_refuses_b317 at h
        refine ww_iconst (v := 0) hx hb dL_refuses_317 (by decide) ?_
        refine ww_iconst (v := 0) hx hb dL_refuses_318 (by decide) ?_
        obtain ⟨r_62, σ_62, e_62, h⟩ := ob2 h
        refine ww_callH0 (w01 := WC q cA σ_62) (st1 := [.int (r_62)]) hx hb hml hown hts hK hN hA hZ [.ref (q 0), .int (y1), .int (y2), .int ((0 : Int32)), .int ((0 : Int32))] [] (m_L_act hl0 _ _ _ _ _ _ _ e_62) cs_L_87 rfl ⟨Nat.le_of_ble_eq_true rfl, Nat.le_of_ble_eq_true rfl⟩ ⟨by show _ ≤ 125; omega, by show _ ≤ 750; omega⟩ (hDD _) rfl (Nat.le_of_ble_eq_true rfl) dL_refuses_319 rfl ?_
        refine ww_bipush (v := (-71)) hx hb dL_refuses_322 (by decide) ?_
        refine ww_ne2 (tgt := 521) hx hb dL_refuses_324 (by decide) (fun c_63 => ?_) (fun c_63 => ?_)
        · replace h := it_n c_63 h
          exact ww_sub (lv1 := [(0, .ref (q 0)), (1, .int (x1)), (2, .int (x2)), (3, .int (x3)), (4, .int (x4)), (5, .int (x5)), (6, .int (x6)), (7, .int (x7)), (8, .int (x8)), (9, .int (x9)), (10, .int (x10)), (11, .int (x11)), (12, .int (x12))]) [0, 1, 2, 3, 4, 5, 6, 7, 8, 9, 10, 11, 12] rfl (bk521 _ _ (by omega) (by omega) _ _ _ _ _ _ _ _ _ _ _ _ _ h)
        · replace h := it_p c_63 h
          refine ww_aload_n hx hb dL_refuses_327 rfl 0 rfl ?_
          refine ww_bipush (v := 8) hx hb dL_refuses_328 (by decide) ?_
          refine ww_iconst (v := -1) hx hb dL_refuses_330 (by decide) ?_
          refine ww_iload hx hb dL_refuses_331 13 rfl ?_
          refine ww_iconst (v := 0) hx hb dL_refuses_333 (by decide) ?_
          obtain ⟨r_64, σ_64, e_64, h⟩ := ob2 h
          refine ww_callH0 (w01 := WC q cA σ_64) (st1 := [.int (r_64)]) hx hb hml hown hts hK hN hA hZ [.ref (q 0), .int ((8 : Int32)), .int ((-1 : Int32)), .int (x13), .int ((0 : Int32))] [] (m_L_act hl0 _ _ _ _ _ _ _ e_64) cs_L_87 rfl ⟨Nat.le_of_ble_eq_true rfl, Nat.le_of_ble_eq_true rfl⟩ ⟨by show _ ≤ 125; omega, by show _ ≤ 750; omega⟩ (hDD _) rfl (Nat.le_of_ble_eq_true rfl) dL_refuses_334 rfl ?_
          refine ww_bipush (v := (-71)) hx hb dL_refuses_337 (by decide) ?_
          refine ww_ne2 (tgt := 521) hx hb dL_refuses_339 (by decide) (fun c_65 => ?_) (fun c_65 => ?_)
          · replace h := it_n c_65 h
            exact ww_sub (lv1 := [(0, .ref (q 0)), (1, .int (x1)), (2, .int (x2)), (3, .int (x3)), (4, .int (x4)), (5, .int (x5)), (6, .int (x6)), (7, .int (x7)), (8, .int (x8)), (9, .int (x9)), (10, .int (x10)), (11, .int (x11)), (12, .int (x12))]) [0, 1, 2, 3, 4, 5, 6, 7, 8, 9, 10, 11, 12] rfl (bk521 _ _ (by omega) (by omega) _ _ _ _ _ _ _ _ _ _ _ _ _ h)
          · replace h := it_p c_65 h
            refine ww_aload_n hx hb dL_refuses_342 rfl 0 rfl ?_
            refine ww_bipush (v := 8) hx hb dL_refuses_343 (by decide) ?_
            refine ww_iconst (v := -1) hx hb dL_refuses_345 (by decide) ?_
            refine ww_iconst (v := 0) hx hb dL_refuses_346 (by decide) ?_
            refine ww_iload hx hb dL_refuses_347 10 rfl ?_
            refine ww_ne0 (tgt := 356) hx hb dL_refuses_349 (by decide) (fun c_66 => ?_) (fun c_66 => ?_)
            · replace h := it_n c_66 h
              refine ww_iload hx hb dL_refuses_356 10 rfl ?_
              refine ww_iconst (v := 1) hx hb dL_refuses_358 (by decide) ?_
              refine ww_ne2 (tgt := 367) hx hb dL_refuses_359 (by decide) (fun c_67 => ?_) (fun c_67 => ?_)
              · replace h := it_n c_67 h
                refine ww_iload hx hb dL_refuses_367 11 rfl ?_
                exact ww_sub (lv1 := [(0, .ref (q 0)), (1, .int (x1)), (2, .int (x2)), (3, .int (x3)), (4, .int (x4)), (5, .int (x5)), (6, .int (x6)), (7, .int (x7)), (8, .int (x8)), (9, .int (x9)), (10, .int (x10)), (11, .int (x11)), (12, .int (x12)), (13, .int (x13))]) [0, 1, 2, 3, 4, 5, 6, 7, 8, 9, 10, 11, 12, 13] rfl (bk369 _ _ (by omega) (by omega) _ _ _ _ _ _ _ _ _ _ _ _ _ _ _ _ _ _ h)
              · replace h := it_p c_67 h
                refine ww_bipush (v := 101) hx hb dL_refuses_362 (by decide) ?_
                refine ww_goto (tgt := 369) hx hb dL_refuses_364 (by decide) ?_
                exact ww_sub (lv1 := [(0, .ref (q 0)), (1, .int (x1)), (2, .int (x2)), (3, .int (x3)), (4, .int (x4)), (5, .int (x5)), (6, .int (x6)), (7, .int (x7)), (8, .int (x8)), (9, .int (x9)), (10, .int (x10)), (11, .int (x11)), (12, .int (x12)), (13, .int (x13))]) [0, 1, 2, 3, 4, 5, 6, 7, 8, 9, 10, 11, 12, 13] rfl (bk369 _ _ (by omega) (by omega) _ _ _ _ _ _ _ _ _ _ _ _ _ _ _ _ _ _ h)
            · replace h := it_p c_66 h
              refine ww_iconst (v := 0) hx hb dL_refuses_352 (by decide) ?_
              refine ww_goto (tgt := 369) hx hb dL_refuses_353 (by decide) ?_
              exact ww_sub (lv1 := [(0, .ref (q 0)), (1, .int (x1)), (2, .int (x2)), (3, .int (x3)), (4, .int (x4)), (5, .int (x5)), (6, .int (x6)), (7, .int (x7)), (8, .int (x8)), (9, .int (x9)), (10, .int (x10)), (11, .int (x11)), (12, .int (x12)), (13, .int (x13))]) [0, 1, 2, 3, 4, 5, 6, 7, 8, 9, 10, 11, 12, 13] rfl (bk369 _ _ (by omega) (by omega) _ _ _ _ _ _ _ _ _ _ _ _ _ _ _ _ _ _ h)
      have bk131 : ∀ (cells slots : Nat) (hc : cells + (25 + n * 25) ≤ 125) (hs : slots + (150 + n * 150) ≤ 750) (τ : SS) (x1 : Int32) (x2 : Int32) (x3 : Int32) (x4 : Int32) (x5 : Int32) (x6 : Int32) (x7 : Int32) (x8 : Int32) (x9 : Int32) (x10 : Int32) (x11 : Int32) (x12 : Int32) (x13 : Int32) (x14 : Int32) (y0 : Int32), L_refuses_b131 (L_refuses_l31 n) τ x1 x2 x3 x4 x5 x6 x7 x8 x9 x10 x11 x12 x13 x14 y0 = some (r, σ1) → WW p l e (rmc 24 960 125 750) s m args below meth c D vwCl (va_A (WC q cA σ) s.heap.size) 17 cells slots (vx_MQ below (qxW D vwCl (WC q cA σ) (WC q cA σ1) (.inl r) s.heap.size) (xcW D vwCl (WC q cA σ) (WC q cA σ1) (.inl r) s.heap.size) args s 125 750 (va_A (WC q cA σ) s.heap.size)) (WC q cA τ) 131 [(0, .ref (q 0)), (1, .int (x1)), (2, .int (x2)), (3, .int (x3)), (4, .int (x4)), (5, .int (x5)), (6, .int (x6)), (7, .int (x7)), (8, .int (x8)), (9, .int (x9)), (10, .int (x10)), (11, .int (x11)), (12, .int (x12)), (13, .int (x13)), (14, .int (x14))] [.int (y0)] := by
        intro cells slots hc hs τ x1 x2 x3 x4 x5 x6 x7 x8 x9 x10 x11 x12 x13 x14 y0 h
        unfold L_refuses_b131 at h
        refine ww_istore (i := 15) (lv1 := [(0, .ref (q 0)), (1, .int (x1)), (2, .int (x2)), (3, .int (x3)), (4, .int (x4)), (5, .int (x5)), (6, .int (x6)), (7, .int (x7)), (8, .int (x8)), (9, .int (x9)), (10, .int (x10)), (11, .int (x11)), (12, .int (x12)), (13, .int (x13)), (14, .int (x14)), (15, .int (y0))]) hx hb dL_refuses_131 (by decide) [1, 2, 3, 4, 5, 6, 7, 8, 9, 10, 11, 12, 13, 14, 15, 0] rfl ?_
        refine ww_aload_n hx hb dL_refuses_133 rfl 0 rfl ?_
        refine ww_iconst (v := 0) hx hb dL_refuses_134 (by decide) ?_
        refine ww_iload hx hb dL_refuses_135 12 rfl ?_
        refine ww_iconst (v := 1) hx hb dL_refuses_137 (by decide) ?_
        refine ww_iconst (v := 0) hx hb dL_refuses_138 (by decide) ?_
        obtain ⟨r_21, σ_21, e_21, h⟩ := ob2 h
        refine ww_callH0 (w01 := WC q cA σ_21) (st1 := [.int (r_21)]) hx hb hml hown hts hK hN hA hZ [.ref (q 0), .int ((0 : Int32)), .int (x12), .int ((1 : Int32)), .int ((0 : Int32))] [] (m_L_act hl0 _ _ _ _ _ _ _ e_21) cs_L_87 rfl ⟨Nat.le_of_ble_eq_true rfl, Nat.le_of_ble_eq_true rfl⟩ ⟨by show _ ≤ 125; omega, by show _ ≤ 750; omega⟩ (hDD _) rfl (Nat.le_of_ble_eq_true rfl) dL_refuses_139 rfl ?_
        refine ww_bipush (v := (-71)) hx hb dL_refuses_142 (by decide) ?_
        refine ww_ne2 (tgt := 521) hx hb dL_refuses_144 (by decide) (fun c_22 => ?_) (fun c_22 => ?_)
        · replace h := it_n c_22 h
          exact ww_sub (lv1 := [(0, .ref (q 0)), (1, .int (x1)), (2, .int (x2)), (3, .int (x3)), (4, .int (x4)), (5, .int (x5)), (6, .int (x6)), (7, .int (x7)), (8, .int (x8)), (9, .int (x9)), (10, .int (x10)), (11, .int (x11)), (12, .int (x12))]) [0, 1, 2, 3, 4, 5, 6, 7, 8, 9, 10, 11, 12] rfl (bk521 _ _ (by omega) (by omega) _ _ _ _ _ _ _ _ _ _ _ _ _ h)
        · replace h := it_p c_22 h
          refine ww_aload_n hx hb dL_refuses_147 rfl 0 rfl ?_
          refine ww_iconst (v := 1) hx hb dL_refuses_148 (by decide) ?_
          refine ww_iload hx hb dL_refuses_149 13 rfl ?_
          refine ww_iconst (v := 1) hx hb dL_refuses_151 (by decide) ?_
          refine ww_iconst (v := 0) hx hb dL_refuses_152 (by decide) ?_
          obtain ⟨r_23, σ_23, e_23, h⟩ := ob2 h
          refine ww_callH0 (w01 := WC q cA σ_23) (st1 := [.int (r_23)]) hx hb hml hown hts hK hN hA hZ [.ref (q 0), .int ((1 : Int32)), .int (x13), .int ((1 : Int32)), .int ((0 : Int32))] [] (m_L_act hl0 _ _ _ _ _ _ _ e_23) cs_L_87 rfl ⟨Nat.le_of_ble_eq_true rfl, Nat.le_of_ble_eq_true rfl⟩ ⟨by show _ ≤ 125; omega, by show _ ≤ 750; omega⟩ (hDD _) rfl (Nat.le_of_ble_eq_true rfl) dL_refuses_153 rfl ?_
          refine ww_bipush (v := (-71)) hx hb dL_refuses_156 (by decide) ?_
          refine ww_ne2 (tgt := 521) hx hb dL_refuses_158 (by decide) (fun c_24 => ?_) (fun c_24 => ?_)
          · replace h := it_n c_24 h
            exact ww_sub (lv1 := [(0, .ref (q 0)), (1, .int (x1)), (2, .int (x2)), (3, .int (x3)), (4, .int (x4)), (5, .int (x5)), (6, .int (x6)), (7, .int (x7)), (8, .int (x8)), (9, .int (x9)), (10, .int (x10)), (11, .int (x11)), (12, .int (x12))]) [0, 1, 2, 3, 4, 5, 6, 7, 8, 9, 10, 11, 12] rfl (bk521 _ _ (by omega) (by omega) _ _ _ _ _ _ _ _ _ _ _ _ _ h)
          · replace h := it_p c_24 h
            refine ww_aload_n hx hb dL_refuses_161 rfl 0 rfl ?_
            refine ww_iconst (v := 2) hx hb dL_refuses_162 (by decide) ?_
            refine ww_iload hx hb dL_refuses_163 14 rfl ?_
            refine ww_iconst (v := 0) hx hb dL_refuses_165 (by decide) ?_
            refine ww_iconst (v := 0) hx hb dL_refuses_166 (by decide) ?_
            obtain ⟨r_25, σ_25, e_25, h⟩ := ob2 h
            refine ww_callH0 (w01 := WC q cA σ_25) (st1 := [.int (r_25)]) hx hb hml hown hts hK hN hA hZ [.ref (q 0), .int ((2 : Int32)), .int (x14), .int ((0 : Int32)), .int ((0 : Int32))] [] (m_L_act hl0 _ _ _ _ _ _ _ e_25) cs_L_87 rfl ⟨Nat.le_of_ble_eq_true rfl, Nat.le_of_ble_eq_true rfl⟩ ⟨by show _ ≤ 125; omega, by show _ ≤ 750; omega⟩ (hDD _) rfl (Nat.le_of_ble_eq_true rfl) dL_refuses_167 rfl ?_
            refine ww_bipush (v := (-72)) hx hb dL_refuses_170 (by decide) ?_
            refine ww_ne2 (tgt := 521) hx hb dL_refuses_172 (by decide) (fun c_26 => ?_) (fun c_26 => ?_)
            · replace h := it_n c_26 h
              exact ww_sub (lv1 := [(0, .ref (q 0)), (1, .int (x1)), (2, .int (x2)), (3, .int (x3)), (4, .int (x4)), (5, .int (x5)), (6, .int (x6)), (7, .int (x7)), (8, .int (x8)), (9, .int (x9)), (10, .int (x10)), (11, .int (x11)), (12, .int (x12))]) [0, 1, 2, 3, 4, 5, 6, 7, 8, 9, 10, 11, 12] rfl (bk521 _ _ (by omega) (by omega) _ _ _ _ _ _ _ _ _ _ _ _ _ h)
            · replace h := it_p c_26 h
              refine ww_aload_n hx hb dL_refuses_175 rfl 0 rfl ?_
              refine ww_iconst (v := 2) hx hb dL_refuses_176 (by decide) ?_
              refine ww_iconst (v := 0) hx hb dL_refuses_177 (by decide) ?_
              refine ww_iload hx hb dL_refuses_178 14 rfl ?_
              refine ww_iconst (v := 0) hx hb dL_refuses_180 (by decide) ?_
              obtain ⟨r_27, σ_27, e_27, h⟩ := ob2 h
              refine ww_callH0 (w01 := WC q cA σ_27) (st1 := [.int (r_27)]) hx hb hml hown hts hK hN hA hZ [.ref (q 0), .int ((2 : Int32)), .int ((0 : Int32)), .int (x14), .int ((0 : Int32))] [] (m_L_act hl0 _ _ _ _ _ _ _ e_27) cs_L_87 rfl ⟨Nat.le_of_ble_eq_true rfl, Nat.le_of_ble_eq_true rfl⟩ ⟨by show _ ≤ 125; omega, by show _ ≤ 750; omega⟩ (hDD _) rfl (Nat.le_of_ble_eq_true rfl) dL_refuses_181 rfl ?_
              refine ww_bipush (v := (-72)) hx hb dL_refuses_184 (by decide) ?_
              refine ww_ne2 (tgt := 521) hx hb dL_refuses_186 (by decide) (fun c_28 => ?_) (fun c_28 => ?_)
              · replace h := it_n c_28 h
                exact ww_sub (lv1 := [(0, .ref (q 0)), (1, .int (x1)), (2, .int (x2)), (3, .int (x3)), (4, .int (x4)), (5, .int (x5)), (6, .int (x6)), (7, .int (x7)), (8, .int (x8)), (9, .int (x9)), (10, .int (x10)), (11, .int (x11)), (12, .int (x12))]) [0, 1, 2, 3, 4, 5, 6, 7, 8, 9, 10, 11, 12] rfl (bk521 _ _ (by omega) (by omega) _ _ _ _ _ _ _ _ _ _ _ _ _ h)
              · replace h := it_p c_28 h
                refine ww_aload_n hx hb dL_refuses_189 rfl 0 rfl ?_
                refine ww_iconst (v := 4) hx hb dL_refuses_190 (by decide) ?_
                refine ww_iload hx hb dL_refuses_191 12 rfl ?_
                refine ww_iconst (v := 0) hx hb dL_refuses_193 (by decide) ?_
                refine ww_iconst (v := 0) hx hb dL_refuses_194 (by decide) ?_
                obtain ⟨r_29, σ_29, e_29, h⟩ := ob2 h
                refine ww_callH0 (w01 := WC q cA σ_29) (st1 := [.int (r_29)]) hx hb hml hown hts hK hN hA hZ [.ref (q 0), .int ((4 : Int32)), .int (x12), .int ((0 : Int32)), .int ((0 : Int32))] [] (m_L_act hl0 _ _ _ _ _ _ _ e_29) cs_L_87 rfl ⟨Nat.le_of_ble_eq_true rfl, Nat.le_of_ble_eq_true rfl⟩ ⟨by show _ ≤ 125; omega, by show _ ≤ 750; omega⟩ (hDD _) rfl (Nat.le_of_ble_eq_true rfl) dL_refuses_195 rfl ?_
                refine ww_bipush (v := (-71)) hx hb dL_refuses_198 (by decide) ?_
                refine ww_ne2 (tgt := 521) hx hb dL_refuses_200 (by decide) (fun c_30 => ?_) (fun c_30 => ?_)
                · replace h := it_n c_30 h
                  exact ww_sub (lv1 := [(0, .ref (q 0)), (1, .int (x1)), (2, .int (x2)), (3, .int (x3)), (4, .int (x4)), (5, .int (x5)), (6, .int (x6)), (7, .int (x7)), (8, .int (x8)), (9, .int (x9)), (10, .int (x10)), (11, .int (x11)), (12, .int (x12))]) [0, 1, 2, 3, 4, 5, 6, 7, 8, 9, 10, 11, 12] rfl (bk521 _ _ (by omega) (by omega) _ _ _ _ _ _ _ _ _ _ _ _ _ h)
                · replace h := it_p c_30 h
                  refine ww_aload_n hx hb dL_refuses_203 rfl 0 rfl ?_
                  refine ww_iconst (v := 4) hx hb dL_refuses_204 (by decide) ?_
                  refine ww_iconst (v := 0) hx hb dL_refuses_205 (by decide) ?_
                  refine ww_iload hx hb dL_refuses_206 15 rfl ?_
                  refine ww_iconst (v := 0) hx hb dL_refuses_208 (by decide) ?_
                  obtain ⟨r_31, σ_31, e_31, h⟩ := ob2 h
                  refine ww_callH0 (w01 := WC q cA σ_31) (st1 := [.int (r_31)]) hx hb hml hown hts hK hN hA hZ [.ref (q 0), .int ((4 : Int32)), .int ((0 : Int32)), .int (y0), .int ((0 : Int32))] [] (m_L_act hl0 _ _ _ _ _ _ _ e_31) cs_L_87 rfl ⟨Nat.le_of_ble_eq_true rfl, Nat.le_of_ble_eq_true rfl⟩ ⟨by show _ ≤ 125; omega, by show _ ≤ 750; omega⟩ (hDD _) rfl (Nat.le_of_ble_eq_true rfl) dL_refuses_209 rfl ?_
                  refine ww_bipush (v := (-72)) hx hb dL_refuses_212 (by decide) ?_
                  refine ww_ne2 (tgt := 521) hx hb dL_refuses_214 (by decide) (fun c_32 => ?_) (fun c_32 => ?_)
                  · replace h := it_n c_32 h
                    exact ww_sub (lv1 := [(0, .ref (q 0)), (1, .int (x1)), (2, .int (x2)), (3, .int (x3)), (4, .int (x4)), (5, .int (x5)), (6, .int (x6)), (7, .int (x7)), (8, .int (x8)), (9, .int (x9)), (10, .int (x10)), (11, .int (x11)), (12, .int (x12))]) [0, 1, 2, 3, 4, 5, 6, 7, 8, 9, 10, 11, 12] rfl (bk521 _ _ (by omega) (by omega) _ _ _ _ _ _ _ _ _ _ _ _ _ h)
                  · replace h := it_p c_32 h
                    refine ww_aload_n hx hb dL_refuses_217 rfl 0 rfl ?_
                    refine ww_iconst (v := 5) hx hb dL_refuses_218 (by decide) ?_
                    refine ww_iload hx hb dL_refuses_219 15 rfl ?_
                    refine ww_iconst (v := 0) hx hb dL_refuses_221 (by decide) ?_
                    refine ww_iconst (v := 0) hx hb dL_refuses_222 (by decide) ?_
                    obtain ⟨r_33, σ_33, e_33, h⟩ := ob2 h
                    refine ww_callH0 (w01 := WC q cA σ_33) (st1 := [.int (r_33)]) hx hb hml hown hts hK hN hA hZ [.ref (q 0), .int ((5 : Int32)), .int (y0), .int ((0 : Int32)), .int ((0 : Int32))] [] (m_L_act hl0 _ _ _ _ _ _ _ e_33) cs_L_87 rfl ⟨Nat.le_of_ble_eq_true rfl, Nat.le_of_ble_eq_true rfl⟩ ⟨by show _ ≤ 125; omega, by show _ ≤ 750; omega⟩ (hDD _) rfl (Nat.le_of_ble_eq_true rfl) dL_refuses_223 rfl ?_
                    refine ww_bipush (v := (-72)) hx hb dL_refuses_226 (by decide) ?_
                    refine ww_ne2 (tgt := 521) hx hb dL_refuses_228 (by decide) (fun c_34 => ?_) (fun c_34 => ?_)
                    · replace h := it_n c_34 h
                      exact ww_sub (lv1 := [(0, .ref (q 0)), (1, .int (x1)), (2, .int (x2)), (3, .int (x3)), (4, .int (x4)), (5, .int (x5)), (6, .int (x6)), (7, .int (x7)), (8, .int (x8)), (9, .int (x9)), (10, .int (x10)), (11, .int (x11)), (12, .int (x12))]) [0, 1, 2, 3, 4, 5, 6, 7, 8, 9, 10, 11, 12] rfl (bk521 _ _ (by omega) (by omega) _ _ _ _ _ _ _ _ _ _ _ _ _ h)
                    · replace h := it_p c_34 h
                      refine ww_aload_n hx hb dL_refuses_231 rfl 0 rfl ?_
                      refine ww_bipush (v := 6) hx hb dL_refuses_232 (by decide) ?_
                      refine ww_iload hx hb dL_refuses_234 12 rfl ?_
                      refine ww_iconst (v := 0) hx hb dL_refuses_236 (by decide) ?_
                      refine ww_iconst (v := 0) hx hb dL_refuses_237 (by decide) ?_
                      obtain ⟨r_35, σ_35, e_35, h⟩ := ob2 h
                      refine ww_callH0 (w01 := WC q cA σ_35) (st1 := [.int (r_35)]) hx hb hml hown hts hK hN hA hZ [.ref (q 0), .int ((6 : Int32)), .int (x12), .int ((0 : Int32)), .int ((0 : Int32))] [] (m_L_act hl0 _ _ _ _ _ _ _ e_35) cs_L_87 rfl ⟨Nat.le_of_ble_eq_true rfl, Nat.le_of_ble_eq_true rfl⟩ ⟨by show _ ≤ 125; omega, by show _ ≤ 750; omega⟩ (hDD _) rfl (Nat.le_of_ble_eq_true rfl) dL_refuses_238 rfl ?_
                      refine ww_bipush (v := (-71)) hx hb dL_refuses_241 (by decide) ?_
                      refine ww_ne2 (tgt := 521) hx hb dL_refuses_243 (by decide) (fun c_36 => ?_) (fun c_36 => ?_)
                      · replace h := it_n c_36 h
                        exact ww_sub (lv1 := [(0, .ref (q 0)), (1, .int (x1)), (2, .int (x2)), (3, .int (x3)), (4, .int (x4)), (5, .int (x5)), (6, .int (x6)), (7, .int (x7)), (8, .int (x8)), (9, .int (x9)), (10, .int (x10)), (11, .int (x11)), (12, .int (x12))]) [0, 1, 2, 3, 4, 5, 6, 7, 8, 9, 10, 11, 12] rfl (bk521 _ _ (by omega) (by omega) _ _ _ _ _ _ _ _ _ _ _ _ _ h)
                      · replace h := it_p c_36 h
                        refine ww_aload_n hx hb dL_refuses_246 rfl 0 rfl ?_
                        refine ww_bipush (v := 6) hx hb dL_refuses_247 (by decide) ?_
                        refine ww_iconst (v := 0) hx hb dL_refuses_249 (by decide) ?_
                        refine ww_iload hx hb dL_refuses_250 15 rfl ?_
                        refine ww_iconst (v := 0) hx hb dL_refuses_252 (by decide) ?_
                        obtain ⟨r_37, σ_37, e_37, h⟩ := ob2 h
                        refine ww_callH0 (w01 := WC q cA σ_37) (st1 := [.int (r_37)]) hx hb hml hown hts hK hN hA hZ [.ref (q 0), .int ((6 : Int32)), .int ((0 : Int32)), .int (y0), .int ((0 : Int32))] [] (m_L_act hl0 _ _ _ _ _ _ _ e_37) cs_L_87 rfl ⟨Nat.le_of_ble_eq_true rfl, Nat.le_of_ble_eq_true rfl⟩ ⟨by show _ ≤ 125; omega, by show _ ≤ 750; omega⟩ (hDD _) rfl (Nat.le_of_ble_eq_true rfl) dL_refuses_253 rfl ?_
                        refine ww_bipush (v := (-72)) hx hb dL_refuses_256 (by decide) ?_
                        refine ww_ne2 (tgt := 521) hx hb dL_refuses_258 (by decide) (fun c_38 => ?_) (fun c_38 => ?_)
                        · replace h := it_n c_38 h
                          exact ww_sub (lv1 := [(0, .ref (q 0)), (1, .int (x1)), (2, .int (x2)), (3, .int (x3)), (4, .int (x4)), (5, .int (x5)), (6, .int (x6)), (7, .int (x7)), (8, .int (x8)), (9, .int (x9)), (10, .int (x10)), (11, .int (x11)), (12, .int (x12))]) [0, 1, 2, 3, 4, 5, 6, 7, 8, 9, 10, 11, 12] rfl (bk521 _ _ (by omega) (by omega) _ _ _ _ _ _ _ _ _ _ _ _ _ h)
                        · replace h := it_p c_38 h
                          refine ww_aload_n hx hb dL_refuses_261 rfl 0 rfl ?_
                          refine ww_bipush (v := 7) hx hb dL_refuses_262 (by decide) ?_
                          refine ww_iload hx hb dL_refuses_264 13 rfl ?_
                          refine ww_iconst (v := 0) hx hb dL_refuses_266 (by decide) ?_
                          refine ww_iconst (v := 0) hx hb dL_refuses_267 (by decide) ?_
                          obtain ⟨r_39, σ_39, e_39, h⟩ := ob2 h
                          refine ww_callH0 (w01 := WC q cA σ_39) (st1 := [.int (r_39)]) hx hb hml hown hts hK hN hA hZ [.ref (q 0), .int ((7 : Int32)), .int (x13), .int ((0 : Int32)), .int ((0 : Int32))] [] (m_L_act hl0 _ _ _ _ _ _ _ e_39) cs_L_87 rfl ⟨Nat.le_of_ble_eq_true rfl, Nat.le_of_ble_eq_true rfl⟩ ⟨by show _ ≤ 125; omega, by show _ ≤ 750; omega⟩ (hDD _) rfl (Nat.le_of_ble_eq_true rfl) dL_refuses_268 rfl ?_
                          refine ww_bipush (v := (-71)) hx hb dL_refuses_271 (by decide) ?_
                          refine ww_ne2 (tgt := 521) hx hb dL_refuses_273 (by decide) (fun c_40 => ?_) (fun c_40 => ?_)
                          · replace h := it_n c_40 h
                            exact ww_sub (lv1 := [(0, .ref (q 0)), (1, .int (x1)), (2, .int (x2)), (3, .int (x3)), (4, .int (x4)), (5, .int (x5)), (6, .int (x6)), (7, .int (x7)), (8, .int (x8)), (9, .int (x9)), (10, .int (x10)), (11, .int (x11)), (12, .int (x12))]) [0, 1, 2, 3, 4, 5, 6, 7, 8, 9, 10, 11, 12] rfl (bk521 _ _ (by omega) (by omega) _ _ _ _ _ _ _ _ _ _ _ _ _ h)
                          · replace h := it_p c_40 h
                            refine ww_aload_n hx hb dL_refuses_276 rfl 0 rfl ?_
                            refine ww_bipush (v := 7) hx hb dL_refuses_277 (by decide) ?_
                            refine ww_iconst (v := 0) hx hb dL_refuses_279 (by decide) ?_
                            refine ww_iload hx hb dL_refuses_280 15 rfl ?_
                            refine ww_iconst (v := 0) hx hb dL_refuses_282 (by decide) ?_
                            obtain ⟨r_41, σ_41, e_41, h⟩ := ob2 h
                            refine ww_callH0 (w01 := WC q cA σ_41) (st1 := [.int (r_41)]) hx hb hml hown hts hK hN hA hZ [.ref (q 0), .int ((7 : Int32)), .int ((0 : Int32)), .int (y0), .int ((0 : Int32))] [] (m_L_act hl0 _ _ _ _ _ _ _ e_41) cs_L_87 rfl ⟨Nat.le_of_ble_eq_true rfl, Nat.le_of_ble_eq_true rfl⟩ ⟨by show _ ≤ 125; omega, by show _ ≤ 750; omega⟩ (hDD _) rfl (Nat.le_of_ble_eq_true rfl) dL_refuses_283 rfl ?_
                            refine ww_bipush (v := (-72)) hx hb dL_refuses_286 (by decide) ?_
                            refine ww_ne2 (tgt := 521) hx hb dL_refuses_288 (by decide) (fun c_42 => ?_) (fun c_42 => ?_)
                            · replace h := it_n c_42 h
                              exact ww_sub (lv1 := [(0, .ref (q 0)), (1, .int (x1)), (2, .int (x2)), (3, .int (x3)), (4, .int (x4)), (5, .int (x5)), (6, .int (x6)), (7, .int (x7)), (8, .int (x8)), (9, .int (x9)), (10, .int (x10)), (11, .int (x11)), (12, .int (x12))]) [0, 1, 2, 3, 4, 5, 6, 7, 8, 9, 10, 11, 12] rfl (bk521 _ _ (by omega) (by omega) _ _ _ _ _ _ _ _ _ _ _ _ _ h)
                            · replace h := it_p c_42 h
                              refine ww_aload_n hx hb dL_refuses_291 rfl 0 rfl ?_
                              refine ww_bipush (v := 8) hx hb dL_refuses_292 (by decide) ?_
                              refine ww_iload hx hb dL_refuses_294 10 rfl ?_
                              refine ww_ne0 (tgt := 304) hx hb dL_refuses_296 (by decide) (fun c_43 => ?_) (fun c_43 => ?_)
                              · replace h := it_n c_43 h
                                refine ww_iload hx hb dL_refuses_304 10 rfl ?_
                                refine ww_iconst (v := 1) hx hb dL_refuses_306 (by decide) ?_
                                refine ww_ne2 (tgt := 315) hx hb dL_refuses_307 (by decide) (fun c_44 => ?_) (fun c_44 => ?_)
                                · replace h := it_n c_44 h
                                  refine ww_iload hx hb dL_refuses_315 11 rfl ?_
                                  exact ww_sub (lv1 := [(0, .ref (q 0)), (1, .int (x1)), (2, .int (x2)), (3, .int (x3)), (4, .int (x4)), (5, .int (x5)), (6, .int (x6)), (7, .int (x7)), (8, .int (x8)), (9, .int (x9)), (10, .int (x10)), (11, .int (x11)), (12, .int (x12)), (13, .int (x13))]) [0, 1, 2, 3, 4, 5, 6, 7, 8, 9, 10, 11, 12, 13] rfl (bk317 _ _ (by omega) (by omega) _ _ _ _ _ _ _ _ _ _ _ _ _ _ _ _ h)
                                · replace h := it_p c_44 h
                                  refine ww_iload hx hb dL_refuses_310 4 rfl ?_
                                  refine ww_goto (tgt := 317) hx hb dL_refuses_312 (by decide) ?_
                                  exact ww_sub (lv1 := [(0, .ref (q 0)), (1, .int (x1)), (2, .int (x2)), (3, .int (x3)), (4, .int (x4)), (5, .int (x5)), (6, .int (x6)), (7, .int (x7)), (8, .int (x8)), (9, .int (x9)), (10, .int (x10)), (11, .int (x11)), (12, .int (x12)), (13, .int (x13))]) [0, 1, 2, 3, 4, 5, 6, 7, 8, 9, 10, 11, 12, 13] rfl (bk317 _ _ (by omega) (by omega) _ _ _ _ _ _ _ _ _ _ _ _ _ _ _ _ h)
                              · replace h := it_p c_43 h
                                refine ww_bipush (v := (-2)) hx hb dL_refuses_299 (by decide) ?_
                                refine ww_goto (tgt := 317) hx hb dL_refuses_301 (by decide) ?_
                                exact ww_sub (lv1 := [(0, .ref (q 0)), (1, .int (x1)), (2, .int (x2)), (3, .int (x3)), (4, .int (x4)), (5, .int (x5)), (6, .int (x6)), (7, .int (x7)), (8, .int (x8)), (9, .int (x9)), (10, .int (x10)), (11, .int (x11)), (12, .int (x12)), (13, .int (x13))]) [0, 1, 2, 3, 4, 5, 6, 7, 8, 9, 10, 11, 12, 13] rfl (bk317 _ _ (by omega) (by omega) _ _ _ _ _ _ _ _ _ _ _ _ _ _ _ _ h)
      have bk107 : ∀ (cells slots : Nat) (hc : cells + (25 + n * 25) ≤ 125) (hs : slots + (150 + n * 150) ≤ 750) (τ : SS) (x1 : Int32) (x2 : Int32) (x3 : Int32) (x4 : Int32) (x5 : Int32) (x6 : Int32) (x7 : Int32) (x8 : Int32) (x9 : Int32) (x10 : Int32) (x11 : Int32) (x12 : Int32) (x13 : Int32) (y0 : Int32), L_refuses_b107 (L_refuses_l31 n) τ x1 x2 x3 x4 x5 x6 x7 x8 x9 x10 x11 x12 x13 y0 = some (r, σ1) → WW p l e (rmc 24 960 125 750) s m args below meth c D vwCl (va_A (WC q cA σ) s.heap.size) 17 cells slots (vx_MQ below (qxW D vwCl (WC q cA σ) (WC q cA σ1) (.inl r) s.heap.size) (xcW D vwCl (WC q cA σ) (WC q cA σ1) (.inl r) s.heap.size) args s 125 750 (va_A (WC q cA σ) s.heap.size)) (WC q cA τ) 107 [(0, .ref (q 0)), (1, .int (x1)), (2, .int (x2)), (3, .int (x3)), (4, .int (x4)), (5, .int (x5)), (6, .int (x6)), (7, .int (x7)), (8, .int (x8)), (9, .int (x9)), (10, .int (x10)), (11, .int (x11)), (12, .int (x12)), (13, .int (x13))] [.int (y0)] := by
        intro cells slots hc hs τ x1 x2 x3 x4 x5 x6 x7 x8 x9 x10 x11 x12 x13 y0 h
        unfold L_refuses_b107 at h
        refine ww_istore (i := 14) (lv1 := [(0, .ref (q 0)), (1, .int (x1)), (2, .int (x2)), (3, .int (x3)), (4, .int (x4)), (5, .int (x5)), (6, .int (x6)), (7, .int (x7)), (8, .int (x8)), (9, .int (x9)), (10, .int (x10)), (11, .int (x11)), (12, .int (x12)), (13, .int (x13)), (14, .int (y0))]) hx hb dL_refuses_107 (by decide) [1, 2, 3, 4, 5, 6, 7, 8, 9, 10, 11, 12, 13, 14, 0] rfl ?_
        refine ww_iload hx hb dL_refuses_109 10 rfl ?_
        refine ww_ne0 (tgt := 118) hx hb dL_refuses_111 (by decide) (fun c_19 => ?_) (fun c_19 => ?_)
        · replace h := it_n c_19 h
          refine ww_iload hx hb dL_refuses_118 10 rfl ?_
          refine ww_iconst (v := 1) hx hb dL_refuses_120 (by decide) ?_
          refine ww_ne2 (tgt := 129) hx hb dL_refuses_121 (by decide) (fun c_20 => ?_) (fun c_20 => ?_)
          · replace h := it_n c_20 h
            refine ww_iload hx hb dL_refuses_129 11 rfl ?_
            exact ww_sub (lv1 := [(0, .ref (q 0)), (1, .int (x1)), (2, .int (x2)), (3, .int (x3)), (4, .int (x4)), (5, .int (x5)), (6, .int (x6)), (7, .int (x7)), (8, .int (x8)), (9, .int (x9)), (10, .int (x10)), (11, .int (x11)), (12, .int (x12)), (13, .int (x13)), (14, .int (y0))]) [0, 1, 2, 3, 4, 5, 6, 7, 8, 9, 10, 11, 12, 13, 14] rfl (bk131 _ _ (by omega) (by omega) _ _ _ _ _ _ _ _ _ _ _ _ _ _ _ _ h)
          · replace h := it_p c_20 h
            refine ww_ldc hx hb hown hts kw_373 dL_refuses_124 ?_
            refine ww_goto (tgt := 131) hx hb dL_refuses_126 (by decide) ?_
            exact ww_sub (lv1 := [(0, .ref (q 0)), (1, .int (x1)), (2, .int (x2)), (3, .int (x3)), (4, .int (x4)), (5, .int (x5)), (6, .int (x6)), (7, .int (x7)), (8, .int (x8)), (9, .int (x9)), (10, .int (x10)), (11, .int (x11)), (12, .int (x12)), (13, .int (x13)), (14, .int (y0))]) [0, 1, 2, 3, 4, 5, 6, 7, 8, 9, 10, 11, 12, 13, 14] rfl (bk131 _ _ (by omega) (by omega) _ _ _ _ _ _ _ _ _ _ _ _ _ _ _ _ h)
        · replace h := it_p c_19 h
          refine ww_iconst (v := 0) hx hb dL_refuses_114 (by decide) ?_
          refine ww_goto (tgt := 131) hx hb dL_refuses_115 (by decide) ?_
          exact ww_sub (lv1 := [(0, .ref (q 0)), (1, .int (x1)), (2, .int (x2)), (3, .int (x3)), (4, .int (x4)), (5, .int (x5)), (6, .int (x6)), (7, .int (x7)), (8, .int (x8)), (9, .int (x9)), (10, .int (x10)), (11, .int (x11)), (12, .int (x12)), (13, .int (x13)), (14, .int (y0))]) [0, 1, 2, 3, 4, 5, 6, 7, 8, 9, 10, 11, 12, 13, 14] rfl (bk131 _ _ (by omega) (by omega) _ _ _ _ _ _ _ _ _ _ _ _ _ _ _ _ h)
      have bk91 : ∀ (cells slots : Nat) (hc : cells + (25 + n * 25) ≤ 125) (hs : slots + (150 + n * 150) ≤ 750) (τ : SS) (x1 : Int32) (x2 : Int32) (x3 : Int32) (x4 : Int32) (x5 : Int32) (x6 : Int32) (x7 : Int32) (x8 : Int32) (x9 : Int32) (x10 : Int32) (x11 : Int32) (x12 : Int32) (y0 : Int32), L_refuses_b91 (L_refuses_l31 n) τ x1 x2 x3 x4 x5 x6 x7 x8 x9 x10 x11 x12 y0 = some (r, σ1) → WW p l e (rmc 24 960 125 750) s m args below meth c D vwCl (va_A (WC q cA σ) s.heap.size) 17 cells slots (vx_MQ below (qxW D vwCl (WC q cA σ) (WC q cA σ1) (.inl r) s.heap.size) (xcW D vwCl (WC q cA σ) (WC q cA σ1) (.inl r) s.heap.size) args s 125 750 (va_A (WC q cA σ) s.heap.size)) (WC q cA τ) 91 [(0, .ref (q 0)), (1, .int (x1)), (2, .int (x2)), (3, .int (x3)), (4, .int (x4)), (5, .int (x5)), (6, .int (x6)), (7, .int (x7)), (8, .int (x8)), (9, .int (x9)), (10, .int (x10)), (11, .int (x11)), (12, .int (x12))] [.int (y0)] := by
        intro cells slots hc hs τ x1 x2 x3 x4 x5 x6 x7 x8 x9 x10 x11 x12 y0 h
        unfold L_refuses_b91 at h
        refine ww_istore (i := 13) (lv1 := [(0, .ref (q 0)), (1, .int (x1)), (2, .int (x2)), (3, .int (x3)), (4, .int (x4)), (5, .int (x5)), (6, .int (x6)), (7, .int (x7)), (8, .int (x8)), (9, .int (x9)), (10, .int (x10)), (11, .int (x11)), (12, .int (x12)), (13, .int (y0))]) hx hb dL_refuses_91 (by decide) [1, 2, 3, 4, 5, 6, 7, 8, 9, 10, 11, 12, 13, 0] rfl ?_
        refine ww_iload hx hb dL_refuses_93 10 rfl ?_
        refine ww_iconst (v := 1) hx hb dL_refuses_95 (by decide) ?_
        refine ww_ne2 (tgt := 105) hx hb dL_refuses_96 (by decide) (fun c_18 => ?_) (fun c_18 => ?_)
        · replace h := it_n c_18 h
          refine ww_iload hx hb dL_refuses_105 11 rfl ?_
          exact ww_sub (lv1 := [(0, .ref (q 0)), (1, .int (x1)), (2, .int (x2)), (3, .int (x3)), (4, .int (x4)), (5, .int (x5)), (6, .int (x6)), (7, .int (x7)), (8, .int (x8)), (9, .int (x9)), (10, .int (x10)), (11, .int (x11)), (12, .int (x12)), (13, .int (y0))]) [0, 1, 2, 3, 4, 5, 6, 7, 8, 9, 10, 11, 12, 13] rfl (bk107 _ _ (by omega) (by omega) _ _ _ _ _ _ _ _ _ _ _ _ _ _ _ h)
        · replace h := it_p c_18 h
          refine ww_sipush (v := 1001) hx hb dL_refuses_99 (by decide) ?_
          refine ww_goto (tgt := 107) hx hb dL_refuses_102 (by decide) ?_
          exact ww_sub (lv1 := [(0, .ref (q 0)), (1, .int (x1)), (2, .int (x2)), (3, .int (x3)), (4, .int (x4)), (5, .int (x5)), (6, .int (x6)), (7, .int (x7)), (8, .int (x8)), (9, .int (x9)), (10, .int (x10)), (11, .int (x11)), (12, .int (x12)), (13, .int (y0))]) [0, 1, 2, 3, 4, 5, 6, 7, 8, 9, 10, 11, 12, 13] rfl (bk107 _ _ (by omega) (by omega) _ _ _ _ _ _ _ _ _ _ _ _ _ _ _ h)
      have bk76 : ∀ (cells slots : Nat) (hc : cells + (25 + n * 25) ≤ 125) (hs : slots + (150 + n * 150) ≤ 750) (τ : SS) (x1 : Int32) (x2 : Int32) (x3 : Int32) (x4 : Int32) (x5 : Int32) (x6 : Int32) (x7 : Int32) (x8 : Int32) (x9 : Int32) (x10 : Int32) (x11 : Int32) (y0 : Int32), L_refuses_b76 (L_refuses_l31 n) τ x1 x2 x3 x4 x5 x6 x7 x8 x9 x10 x11 y0 = some (r, σ1) → WW p l e (rmc 24 960 125 750) s m args below meth c D vwCl (va_A (WC q cA σ) s.heap.size) 17 cells slots (vx_MQ below (qxW D vwCl (WC q cA σ) (WC q cA σ1) (.inl r) s.heap.size) (xcW D vwCl (WC q cA σ) (WC q cA σ1) (.inl r) s.heap.size) args s 125 750 (va_A (WC q cA σ) s.heap.size)) (WC q cA τ) 76 [(0, .ref (q 0)), (1, .int (x1)), (2, .int (x2)), (3, .int (x3)), (4, .int (x4)), (5, .int (x5)), (6, .int (x6)), (7, .int (x7)), (8, .int (x8)), (9, .int (x9)), (10, .int (x10)), (11, .int (x11))] [.int (y0)] := by
        intro cells slots hc hs τ x1 x2 x3 x4 x5 x6 x7 x8 x9 x10 x11 y0 h
        unfold L_refuses_b76 at h
        refine ww_istore (i := 12) (lv1 := [(0, .ref (q 0)), (1, .int (x1)), (2, .int (x2)), (3, .int (x3)), (4, .int (x4)), (5, .int (x5)), (6, .int (x6)), (7, .int (x7)), (8, .int (x8)), (9, .int (x9)), (10, .int (x10)), (11, .int (x11)), (12, .int (y0))]) hx hb dL_refuses_76 (by decide) [1, 2, 3, 4, 5, 6, 7, 8, 9, 10, 11, 12, 0] rfl ?_
        refine ww_iload hx hb dL_refuses_78 10 rfl ?_
        refine ww_iconst (v := 1) hx hb dL_refuses_80 (by decide) ?_
        refine ww_ne2 (tgt := 89) hx hb dL_refuses_81 (by decide) (fun c_17 => ?_) (fun c_17 => ?_)
        · replace h := it_n c_17 h
          refine ww_iload hx hb dL_refuses_89 11 rfl ?_
          exact ww_sub (lv1 := [(0, .ref (q 0)), (1, .int (x1)), (2, .int (x2)), (3, .int (x3)), (4, .int (x4)), (5, .int (x5)), (6, .int (x6)), (7, .int (x7)), (8, .int (x8)), (9, .int (x9)), (10, .int (x10)), (11, .int (x11)), (12, .int (y0))]) [0, 1, 2, 3, 4, 5, 6, 7, 8, 9, 10, 11, 12] rfl (bk91 _ _ (by omega) (by omega) _ _ _ _ _ _ _ _ _ _ _ _ _ _ h)
        · replace h := it_p c_17 h
          refine ww_bipush (v := 6) hx hb dL_refuses_84 (by decide) ?_
          refine ww_goto (tgt := 91) hx hb dL_refuses_86 (by decide) ?_
          exact ww_sub (lv1 := [(0, .ref (q 0)), (1, .int (x1)), (2, .int (x2)), (3, .int (x3)), (4, .int (x4)), (5, .int (x5)), (6, .int (x6)), (7, .int (x7)), (8, .int (x8)), (9, .int (x9)), (10, .int (x10)), (11, .int (x11)), (12, .int (y0))]) [0, 1, 2, 3, 4, 5, 6, 7, 8, 9, 10, 11, 12] rfl (bk91 _ _ (by omega) (by omega) _ _ _ _ _ _ _ _ _ _ _ _ _ _ h)
      have bk62 : ∀ (cells slots : Nat) (hc : cells + (25 + n * 25) ≤ 125) (hs : slots + (150 + n * 150) ≤ 750) (τ : SS) (x1 : Int32) (x2 : Int32) (x3 : Int32) (x4 : Int32) (x5 : Int32) (x6 : Int32) (x7 : Int32) (x8 : Int32) (x9 : Int32) (x10 : Int32) (y0 : Int32), L_refuses_b62 (L_refuses_l31 n) τ x1 x2 x3 x4 x5 x6 x7 x8 x9 x10 y0 = some (r, σ1) → WW p l e (rmc 24 960 125 750) s m args below meth c D vwCl (va_A (WC q cA σ) s.heap.size) 17 cells slots (vx_MQ below (qxW D vwCl (WC q cA σ) (WC q cA σ1) (.inl r) s.heap.size) (xcW D vwCl (WC q cA σ) (WC q cA σ1) (.inl r) s.heap.size) args s 125 750 (va_A (WC q cA σ) s.heap.size)) (WC q cA τ) 62 [(0, .ref (q 0)), (1, .int (x1)), (2, .int (x2)), (3, .int (x3)), (4, .int (x4)), (5, .int (x5)), (6, .int (x6)), (7, .int (x7)), (8, .int (x8)), (9, .int (x9)), (10, .int (x10))] [.int (y0)] := by
        intro cells slots hc hs τ x1 x2 x3 x4 x5 x6 x7 x8 x9 x10 y0 h
        unfold L_refuses_b62 at h
        refine ww_istore (i := 11) (lv1 := [(0, .ref (q 0)), (1, .int (x1)), (2, .int (x2)), (3, .int (x3)), (4, .int (x4)), (5, .int (x5)), (6, .int (x6)), (7, .int (x7)), (8, .int (x8)), (9, .int (x9)), (10, .int (x10)), (11, .int (y0))]) hx hb dL_refuses_62 (by decide) [1, 2, 3, 4, 5, 6, 7, 8, 9, 10, 11, 0] rfl ?_
        refine ww_iload hx hb dL_refuses_64 10 rfl ?_
        refine ww_iconst (v := 1) hx hb dL_refuses_66 (by decide) ?_
        refine ww_ne2 (tgt := 74) hx hb dL_refuses_67 (by decide) (fun c_16 => ?_) (fun c_16 => ?_)
        · replace h := it_n c_16 h
          refine ww_iload hx hb dL_refuses_74 11 rfl ?_
          exact ww_sub (lv1 := [(0, .ref (q 0)), (1, .int (x1)), (2, .int (x2)), (3, .int (x3)), (4, .int (x4)), (5, .int (x5)), (6, .int (x6)), (7, .int (x7)), (8, .int (x8)), (9, .int (x9)), (10, .int (x10)), (11, .int (y0))]) [0, 1, 2, 3, 4, 5, 6, 7, 8, 9, 10, 11] rfl (bk76 _ _ (by omega) (by omega) _ _ _ _ _ _ _ _ _ _ _ _ _ h)
        · replace h := it_p c_16 h
          refine ww_iconst (v := 4) hx hb dL_refuses_70 (by decide) ?_
          refine ww_goto (tgt := 76) hx hb dL_refuses_71 (by decide) ?_
          exact ww_sub (lv1 := [(0, .ref (q 0)), (1, .int (x1)), (2, .int (x2)), (3, .int (x3)), (4, .int (x4)), (5, .int (x5)), (6, .int (x6)), (7, .int (x7)), (8, .int (x8)), (9, .int (x9)), (10, .int (x10)), (11, .int (y0))]) [0, 1, 2, 3, 4, 5, 6, 7, 8, 9, 10, 11] rfl (bk76 _ _ (by omega) (by omega) _ _ _ _ _ _ _ _ _ _ _ _ _ h)
      intro cells slots hc hs τ x1 x2 x3 x4 x5 x6 x7 x8 x9 x10 h
      rw [L_refuses_l31] at h
      refine ww_iload hx hb dL_refuses_31 10 rfl ?_
      refine ww_iconst (v := 4) hx hb dL_refuses_33 (by decide) ?_
      refine ww_ge2 (tgt := 677) hx hb dL_refuses_34 (by decide) (fun c_5 => ?_) (fun c_5 => ?_)
      · replace h := it_p c_5 h
        refine ww_aload_n hx hb dL_refuses_677 rfl 0 rfl ?_
        obtain ⟨r_6, σ_6, e_6, h⟩ := ob2 h
        refine ww_callV (ws1 := WC q cA σ_6) (st1 := [.int (r_6)]) hx hb hml hown hts hK hN hA (hDD _) (by show _ ≤ 125; omega) (by show _ ≤ 750; omega) [] [] (m_X4_days _  _ _ e_6) cs_L_73 rfl ⟨Nat.le_of_ble_eq_true rfl, Nat.le_of_ble_eq_true rfl⟩ 0 rfl rfl rfl (Nat.le_of_ble_eq_true rfl) dL_refuses_678 rfl ?_
        refine ww_iload hx hb dL_refuses_681 5 rfl ?_
        refine ww_ne2 (tgt := 717) hx hb dL_refuses_683 (by decide) (fun c_7 => ?_) (fun c_7 => ?_)
        · replace h := it_n c_7 h
          refine ww_iconst (v := 0) hx hb dL_refuses_717 (by decide) ?_
          obtain ⟨rfl, rfl⟩ := os2 h
          exact ww_kzret hx hb (by omega) (by omega) hr hlk (by decide) rfl dL_refuses_718
        · replace h := it_p c_7 h
          refine ww_aload_n hx hb dL_refuses_686 rfl 0 rfl ?_
          refine ww_callV (ws1 := WC q cA σ_6) (st1 := [.int (X4_fee σ_6)]) hx hb hml hown hts hK hN hA (hDD _) (by show _ ≤ 125; omega) (by show _ ≤ 750; omega) [] [] (m_X4_fee σ_6) cs_L_76 rfl ⟨Nat.le_of_ble_eq_true rfl, Nat.le_of_ble_eq_true rfl⟩ 0 rfl rfl rfl (Nat.le_of_ble_eq_true rfl) dL_refuses_687 rfl ?_
          refine ww_iload hx hb dL_refuses_690 6 rfl ?_
          refine ww_ne2 (tgt := 717) hx hb dL_refuses_692 (by decide) (fun c_9 => ?_) (fun c_9 => ?_)
          · replace h := it_n c_9 h
            refine ww_iconst (v := 0) hx hb dL_refuses_717 (by decide) ?_
            obtain ⟨rfl, rfl⟩ := os2 h
            exact ww_kzret hx hb (by omega) (by omega) hr hlk (by decide) rfl dL_refuses_718
          · replace h := it_p c_9 h
            refine ww_aload_n hx hb dL_refuses_695 rfl 0 rfl ?_
            refine ww_callV (ws1 := WC q cA σ_6) (st1 := [.int (X4_costs σ_6)]) hx hb hml hown hts hK hN hA (hDD _) (by show _ ≤ 125; omega) (by show _ ≤ 750; omega) [] [] (m_X4_costs σ_6) cs_L_79 rfl ⟨Nat.le_of_ble_eq_true rfl, Nat.le_of_ble_eq_true rfl⟩ 0 rfl rfl rfl (Nat.le_of_ble_eq_true rfl) dL_refuses_696 rfl ?_
            refine ww_iload hx hb dL_refuses_699 7 rfl ?_
            refine ww_ne2 (tgt := 717) hx hb dL_refuses_701 (by decide) (fun c_11 => ?_) (fun c_11 => ?_)
            · replace h := it_n c_11 h
              refine ww_iconst (v := 0) hx hb dL_refuses_717 (by decide) ?_
              obtain ⟨rfl, rfl⟩ := os2 h
              exact ww_kzret hx hb (by omega) (by omega) hr hlk (by decide) rfl dL_refuses_718
            · replace h := it_p c_11 h
              refine ww_aload_n hx hb dL_refuses_704 rfl 0 rfl ?_
              refine ww_callV (ws1 := WC q cA σ_6) (st1 := [.int (X4_house σ_6)]) hx hb hml hown hts hK hN hA (hDD _) (by show _ ≤ 125; omega) (by show _ ≤ 750; omega) [] [] (m_X4_house σ_6) cs_L_82 rfl ⟨Nat.le_of_ble_eq_true rfl, Nat.le_of_ble_eq_true rfl⟩ 0 rfl rfl rfl (Nat.le_of_ble_eq_true rfl) dL_refuses_705 rfl ?_
              refine ww_iload hx hb dL_refuses_708 8 rfl ?_
              refine ww_ne2 (tgt := 717) hx hb dL_refuses_710 (by decide) (fun c_13 => ?_) (fun c_13 => ?_)
              · replace h := it_n c_13 h
                refine ww_iconst (v := 0) hx hb dL_refuses_717 (by decide) ?_
                obtain ⟨rfl, rfl⟩ := os2 h
                exact ww_kzret hx hb (by omega) (by omega) hr hlk (by decide) rfl dL_refuses_718
              · replace h := it_p c_13 h
                refine ww_iconst (v := 1) hx hb dL_refuses_713 (by decide) ?_
                refine ww_goto (tgt := 718) hx hb dL_refuses_714 (by decide) ?_
                obtain ⟨rfl, rfl⟩ := os2 h
                exact ww_kzret hx hb (by omega) (by omega) hr hlk (by decide) rfl dL_refuses_718
      · replace h := it_n c_5 h
        refine ww_iload hx hb dL_refuses_37 10 rfl ?_
        refine ww_ne0 (tgt := 46) hx hb dL_refuses_39 (by decide) (fun c_14 => ?_) (fun c_14 => ?_)
        · replace h := it_n c_14 h
          refine ww_iload hx hb dL_refuses_46 10 rfl ?_
          refine ww_iconst (v := 2) hx hb dL_refuses_48 (by decide) ?_
          refine ww_ne2 (tgt := 57) hx hb dL_refuses_49 (by decide) (fun c_15 => ?_) (fun c_15 => ?_)
          · replace h := it_n c_15 h
            refine ww_iload hx hb dL_refuses_57 9 rfl ?_
            refine ww_ineg hx hb dL_refuses_59 ?_
            refine ww_iconst (v := 1) hx hb dL_refuses_60 (by decide) ?_
            refine ww_isub hx hb dL_refuses_61 ?_
            exact ww_sub (lv1 := [(0, .ref (q 0)), (1, .int (x1)), (2, .int (x2)), (3, .int (x3)), (4, .int (x4)), (5, .int (x5)), (6, .int (x6)), (7, .int (x7)), (8, .int (x8)), (9, .int (x9)), (10, .int (x10))]) [0, 1, 2, 3, 4, 5, 6, 7, 8, 9, 10] rfl (bk62 _ _ (by omega) (by omega) _ _ _ _ _ _ _ _ _ _ _ _ h)
          · replace h := it_p c_15 h
            refine ww_iload hx hb dL_refuses_52 9 rfl ?_
            refine ww_goto (tgt := 62) hx hb dL_refuses_54 (by decide) ?_
            exact ww_sub (lv1 := [(0, .ref (q 0)), (1, .int (x1)), (2, .int (x2)), (3, .int (x3)), (4, .int (x4)), (5, .int (x5)), (6, .int (x6)), (7, .int (x7)), (8, .int (x8)), (9, .int (x9)), (10, .int (x10))]) [0, 1, 2, 3, 4, 5, 6, 7, 8, 9, 10] rfl (bk62 _ _ (by omega) (by omega) _ _ _ _ _ _ _ _ _ _ _ _ h)
        · replace h := it_p c_14 h
          refine ww_iconst (v := -1) hx hb dL_refuses_42 (by decide) ?_
          refine ww_goto (tgt := 62) hx hb dL_refuses_43 (by decide) ?_
          exact ww_sub (lv1 := [(0, .ref (q 0)), (1, .int (x1)), (2, .int (x2)), (3, .int (x3)), (4, .int (x4)), (5, .int (x5)), (6, .int (x6)), (7, .int (x7)), (8, .int (x8)), (9, .int (x9)), (10, .int (x10))]) [0, 1, 2, 3, 4, 5, 6, 7, 8, 9, 10] rfl (bk62 _ _ (by omega) (by omega) _ _ _ _ _ _ _ _ _ _ _ _ h)
  refine ww_sub (lv1 := [(0, .ref (q 0)), (1, .int (x1)), (2, .int (x2)), (3, .int (x3)), (4, .int (x4))]) [0, 1, 2, 3, 4] rfl ?_
  refine ww_aload_n hx hb dL_refuses_0 rfl 0 rfl ?_
  obtain ⟨r_1, σ_1, e_1, h⟩ := ob2 h
  refine ww_callV (ws1 := WC q cA σ_1) (st1 := [.int (r_1)]) hx hb hml hown hts hK hN hA (hDD _) (by show _ ≤ 125; omega) (by show _ ≤ 750; omega) [] [] (m_X4_days _  _ _ e_1) cs_L_73 rfl ⟨Nat.le_of_ble_eq_true rfl, Nat.le_of_ble_eq_true rfl⟩ 0 rfl rfl rfl (Nat.le_of_ble_eq_true rfl) dL_refuses_1 rfl ?_
  refine ww_istore (i := 5) (lv1 := [(0, .ref (q 0)), (1, .int (x1)), (2, .int (x2)), (3, .int (x3)), (4, .int (x4)), (5, .int (r_1))]) hx hb dL_refuses_4 (by decide) [1, 2, 3, 4, 5, 0] rfl ?_
  refine ww_aload_n hx hb dL_refuses_6 rfl 0 rfl ?_
  refine ww_callV (ws1 := WC q cA σ_1) (st1 := [.int (X4_fee σ_1)]) hx hb hml hown hts hK hN hA (hDD _) (by show _ ≤ 125; omega) (by show _ ≤ 750; omega) [] [] (m_X4_fee σ_1) cs_L_76 rfl ⟨Nat.le_of_ble_eq_true rfl, Nat.le_of_ble_eq_true rfl⟩ 0 rfl rfl rfl (Nat.le_of_ble_eq_true rfl) dL_refuses_7 rfl ?_
  refine ww_istore (i := 6) (lv1 := [(0, .ref (q 0)), (1, .int (x1)), (2, .int (x2)), (3, .int (x3)), (4, .int (x4)), (5, .int (r_1)), (6, .int (X4_fee σ_1))]) hx hb dL_refuses_10 (by decide) [1, 2, 3, 4, 5, 6, 0] rfl ?_
  refine ww_aload_n hx hb dL_refuses_12 rfl 0 rfl ?_
  refine ww_callV (ws1 := WC q cA σ_1) (st1 := [.int (X4_costs σ_1)]) hx hb hml hown hts hK hN hA (hDD _) (by show _ ≤ 125; omega) (by show _ ≤ 750; omega) [] [] (m_X4_costs σ_1) cs_L_79 rfl ⟨Nat.le_of_ble_eq_true rfl, Nat.le_of_ble_eq_true rfl⟩ 0 rfl rfl rfl (Nat.le_of_ble_eq_true rfl) dL_refuses_13 rfl ?_
  refine ww_istore (i := 7) (lv1 := [(0, .ref (q 0)), (1, .int (x1)), (2, .int (x2)), (3, .int (x3)), (4, .int (x4)), (5, .int (r_1)), (6, .int (X4_fee σ_1)), (7, .int (X4_costs σ_1))]) hx hb dL_refuses_16 (by decide) [1, 2, 3, 4, 5, 6, 7, 0] rfl ?_
  refine ww_aload_n hx hb dL_refuses_18 rfl 0 rfl ?_
  refine ww_callV (ws1 := WC q cA σ_1) (st1 := [.int (X4_house σ_1)]) hx hb hml hown hts hK hN hA (hDD _) (by show _ ≤ 125; omega) (by show _ ≤ 750; omega) [] [] (m_X4_house σ_1) cs_L_82 rfl ⟨Nat.le_of_ble_eq_true rfl, Nat.le_of_ble_eq_true rfl⟩ 0 rfl rfl rfl (Nat.le_of_ble_eq_true rfl) dL_refuses_19 rfl ?_
  refine ww_istore (i := 8) (lv1 := [(0, .ref (q 0)), (1, .int (x1)), (2, .int (x2)), (3, .int (x3)), (4, .int (x4)), (5, .int (r_1)), (6, .int (X4_fee σ_1)), (7, .int (X4_costs σ_1)), (8, .int (X4_house σ_1))]) hx hb dL_refuses_22 (by decide) [1, 2, 3, 4, 5, 6, 7, 8, 0] rfl ?_
  refine ww_ldc hx hb hown hts kw_372 dL_refuses_24 ?_
  refine ww_istore (i := 9) (lv1 := [(0, .ref (q 0)), (1, .int (x1)), (2, .int (x2)), (3, .int (x3)), (4, .int (x4)), (5, .int (r_1)), (6, .int (X4_fee σ_1)), (7, .int (X4_costs σ_1)), (8, .int (X4_house σ_1)), (9, .int ((2147483647 : Int32)))]) hx hb dL_refuses_26 (by decide) [1, 2, 3, 4, 5, 6, 7, 8, 9, 0] rfl ?_
  refine ww_iconst (v := 0) hx hb dL_refuses_28 (by decide) ?_
  refine ww_istore (i := 10) (lv1 := [(0, .ref (q 0)), (1, .int (x1)), (2, .int (x2)), (3, .int (x3)), (4, .int (x4)), (5, .int (r_1)), (6, .int (X4_fee σ_1)), (7, .int (X4_costs σ_1)), (8, .int (X4_house σ_1)), (9, .int ((2147483647 : Int32))), (10, .int ((0 : Int32)))]) hx hb dL_refuses_29 (by decide) [1, 2, 3, 4, 5, 6, 7, 8, 9, 10, 0] rfl ?_
  exact ww_sub (lv1 := [(0, .ref (q 0)), (1, .int (x1)), (2, .int (x2)), (3, .int (x3)), (4, .int (x4)), (5, .int (r_1)), (6, .int (X4_fee σ_1)), (7, .int (X4_costs σ_1)), (8, .int (X4_house σ_1)), (9, .int ((2147483647 : Int32))), (10, .int ((0 : Int32)))]) [0, 1, 2, 3, 4, 5, 6, 7, 8, 9, 10] rfl (lp31 5 _ _ (by omega) (by omega) _ _ _ _ _ _ _ _ _ _ _ h)
end
