section
variable {l : Launch} {D : va_G} {q : Nat → Nat} {cA : ClassId}
set_option maxHeartbeats 8000000 in
set_option maxRecDepth 100000 in
theorem m_L_plans (hl0 : l.stackTraces = false) (r : Int32) (h : L_plans = some r) : CtK l yL_plans cL_plans 6 (some .boolean) 25 1000 492 3232 D vwCl [(cA, .int)] [] [] [] r := by
  refine ctk_of (by decide +kernel) (Nat.le_of_ble_eq_true rfl) ?_
  intro p e s m args below meth c hx hb hr hlk hml hown hts hK hD hN hA hZ
  have hown : s.vm.findClass RL = some m.cls := hown
  unfold L_plans at h
  have bk989 : ∀ (q : Nat → Nat) (hDD : ∀ τ : SS, va_D (va_A [] s.heap.size) (WC q cA τ)) (cells slots : Nat) (hc : cells + 128 ≤ 492) (hs : slots + 768 ≤ 3232) (τ : SS) , L_plans_b989 τ = some r → WW p l e (rmc 25 1000 492 3232) s m args below meth c D vwCl (va_A [] s.heap.size) 6 cells slots (vx_MQ below (qxW D vwCl [] [] (.inl r) s.heap.size) (xcW D vwCl [] [] (.inl r) s.heap.size) args s 492 3232 (va_A [] s.heap.size)) (WC q cA τ) 989 [(4, .ref (q 0))] [] := by
    intro q hDD cells slots hc hs τ h
    unfold L_plans_b989 at h
    refine ww_aload hx hb dL_plans_989 0 rfl ?_
    refine ww_ldc hx hb hown hts kw_409 dL_plans_991 ?_
    obtain ⟨r_152, σ_152, e_152, h⟩ := obx h
    refine ww_callXI (w01 := WC q cA σ_152) (st1 := [.int (r_152)]) hx hb hml hown hts hK hN hA hZ [.int ((1000000 : Int32))] [] (m_X4_income hl0 _ _ _ _ e_152) cs_L_41 rfl ⟨Nat.le_of_ble_eq_true rfl, Nat.le_of_ble_eq_true rfl⟩ ⟨by show _ ≤ 492; omega, by show _ ≤ 3232; omega⟩ (hDD _) 0 rfl rfl rfl (Nat.le_of_ble_eq_true rfl) dL_plans_993 rfl ?_
    refine ww_ldc hx hb hown hts kw_409 dL_plans_996 ?_
    refine ww_ne2 (tgt := 1051) hx hb dL_plans_998 (by decide) (fun c_153 => ?_) (fun c_153 => ?_)
    · replace h := it_n c_153 h
      refine ww_iconst (v := 0) hx hb dL_plans_1051 (by decide) ?_
      obtain rfl := os1 h
      refine ww_perm (ws1 := []) [] rfl ?_
      exact ww_kzret hx hb (by omega) (by omega) hr hlk (by decide) rfl dL_plans_1052
    · replace h := it_p c_153 h
      refine ww_aload hx hb dL_plans_1001 0 rfl ?_
      refine ww_iconst (v := 5) hx hb dL_plans_1003 (by decide) ?_
      obtain ⟨r_154, σ_154, e_154, h⟩ := obx h
      refine ww_callXI (w01 := WC q cA σ_154) (st1 := [.int (r_154)]) hx hb hml hown hts hK hN hA hZ [.int ((5 : Int32))] [] (m_X4_got hl0 _ _ _ _ e_154) cs_L_60 rfl ⟨Nat.le_of_ble_eq_true rfl, Nat.le_of_ble_eq_true rfl⟩ ⟨by show _ ≤ 492; omega, by show _ ≤ 3232; omega⟩ (hDD _) 0 rfl rfl rfl (Nat.le_of_ble_eq_true rfl) dL_plans_1004 rfl ?_
      refine ww_ldc hx hb hown hts kw_410 dL_plans_1007 ?_
      refine ww_ne2 (tgt := 1051) hx hb dL_plans_1009 (by decide) (fun c_155 => ?_) (fun c_155 => ?_)
      · replace h := it_n c_155 h
        refine ww_iconst (v := 0) hx hb dL_plans_1051 (by decide) ?_
        obtain rfl := os1 h
        refine ww_perm (ws1 := []) [] rfl ?_
        exact ww_kzret hx hb (by omega) (by omega) hr hlk (by decide) rfl dL_plans_1052
      · replace h := it_p c_155 h
        refine ww_aload hx hb dL_plans_1012 0 rfl ?_
        refine ww_iconst (v := 0) hx hb dL_plans_1014 (by decide) ?_
        obtain ⟨r_156, σ_156, e_156, h⟩ := obx h
        refine ww_callXI (w01 := WC q cA σ_156) (st1 := [.int (r_156)]) hx hb hml hown hts hK hN hA hZ [.int ((0 : Int32))] [] (m_X4_got hl0 _ _ _ _ e_156) cs_L_60 rfl ⟨Nat.le_of_ble_eq_true rfl, Nat.le_of_ble_eq_true rfl⟩ ⟨by show _ ≤ 492; omega, by show _ ≤ 3232; omega⟩ (hDD _) 0 rfl rfl rfl (Nat.le_of_ble_eq_true rfl) dL_plans_1015 rfl ?_
        refine ww_ldc hx hb hown hts kw_411 dL_plans_1018 ?_
        refine ww_ne2 (tgt := 1051) hx hb dL_plans_1020 (by decide) (fun c_157 => ?_) (fun c_157 => ?_)
        · replace h := it_n c_157 h
          refine ww_iconst (v := 0) hx hb dL_plans_1051 (by decide) ?_
          obtain rfl := os1 h
          refine ww_perm (ws1 := []) [] rfl ?_
          exact ww_kzret hx hb (by omega) (by omega) hr hlk (by decide) rfl dL_plans_1052
        · replace h := it_p c_157 h
          refine ww_aload hx hb dL_plans_1023 0 rfl ?_
          refine ww_callV (ws1 := WC q cA σ_156) (st1 := [.int (X4_house σ_156)]) hx hb hml hown hts hK hN hA (hDD _) (by show _ ≤ 492; omega) (by show _ ≤ 3232; omega) [] [] (m_X4_house σ_156) cs_L_82 rfl ⟨Nat.le_of_ble_eq_true rfl, Nat.le_of_ble_eq_true rfl⟩ 0 rfl rfl rfl (Nat.le_of_ble_eq_true rfl) dL_plans_1025 rfl ?_
          refine ww_ne0 (tgt := 1051) hx hb dL_plans_1028 (by decide) (fun c_159 => ?_) (fun c_159 => ?_)
          · replace h := it_n c_159 h
            refine ww_iconst (v := 0) hx hb dL_plans_1051 (by decide) ?_
            obtain rfl := os1 h
            refine ww_perm (ws1 := []) [] rfl ?_
            exact ww_kzret hx hb (by omega) (by omega) hr hlk (by decide) rfl dL_plans_1052
          · replace h := it_p c_159 h
            refine ww_aload hx hb dL_plans_1031 0 rfl ?_
            refine ww_bipush (v := 8) hx hb dL_plans_1033 (by decide) ?_
            refine ww_bipush (v := 8) hx hb dL_plans_1035 (by decide) ?_
            refine ww_bipush (v := 10) hx hb dL_plans_1037 (by decide) ?_
            refine ww_bipush (v := 12) hx hb dL_plans_1039 (by decide) ?_
            obtain ⟨r_160, σ_160, e_160, h⟩ := ob2 h
            refine ww_callK (w01 := WC q cA σ_160) (st1 := [.int (r_160)]) hx hb hml hown hts hK hN hA hZ [.ref (q 0), .int ((8 : Int32)), .int ((8 : Int32)), .int ((10 : Int32)), .int ((12 : Int32))] [] (m_L_refuses hl0 _ _ _ _ _ _ _ e_160) cs_L_109 rfl ⟨Nat.le_of_ble_eq_true rfl, Nat.le_of_ble_eq_true rfl⟩ ⟨by show _ ≤ 492; omega, by show _ ≤ 3232; omega⟩ (hDD _) rfl (Nat.le_of_ble_eq_true rfl) dL_plans_1041 rfl ?_
            refine ww_eq0 (tgt := 1051) hx hb dL_plans_1044 (by decide) (fun c_161 => ?_) (fun c_161 => ?_)
            · replace h := it_p c_161 h
              refine ww_iconst (v := 0) hx hb dL_plans_1051 (by decide) ?_
              obtain rfl := os1 h
              refine ww_perm (ws1 := []) [] rfl ?_
              exact ww_kzret hx hb (by omega) (by omega) hr hlk (by decide) rfl dL_plans_1052
            · replace h := it_n c_161 h
              refine ww_iconst (v := 1) hx hb dL_plans_1047 (by decide) ?_
              refine ww_goto (tgt := 1052) hx hb dL_plans_1048 (by decide) ?_
              obtain rfl := os1 h
              refine ww_perm (ws1 := []) [] rfl ?_
              exact ww_kzret hx hb (by omega) (by omega) hr hlk (by decide) rfl dL_plans_1052
  have lp929 : ∀ (n : Nat) (q : Nat → Nat) (hDD : ∀ τ : SS, va_D (va_A [] s.heap.size) (WC q cA τ)) (cells slots : Nat) (hc : cells + (129 + n * 1) ≤ 492) (hs : slots + (774 + n * 6) ≤ 3232) (τ : SS) (x5 : Int32), L_plans_l929 n τ x5 = some r → WW p l e (rmc 25 1000 492 3232) s m args below meth c D vwCl (va_A [] s.heap.size) 6 cells slots (vx_MQ below (qxW D vwCl [] [] (.inl r) s.heap.size) (xcW D vwCl [] [] (.inl r) s.heap.size) args s 492 3232 (va_A [] s.heap.size)) (WC q cA τ) 929 [(4, .ref (q 0)), (5, .int (x5))] [] := by
    intro n
    induction n with
    | zero => intro q hDD cells slots hc hs τ x5 h; rw [L_plans_l929] at h; cases h
    | succ n ih =>
      have bk968 : ∀ (q : Nat → Nat) (hDD : ∀ τ : SS, va_D (va_A [] s.heap.size) (WC q cA τ)) (cells slots : Nat) (hc : cells + (129 + n * 1) ≤ 492) (hs : slots + (774 + n * 6) ≤ 3232) (τ : SS) (x5 : Int32) (y0 : Int32) (y1 : Int32), L_plans_b968 (L_plans_l929 n) τ x5 y0 y1 = some r → WW p l e (rmc 25 1000 492 3232) s m args below meth c D vwCl (va_A [] s.heap.size) 6 cells slots (vx_MQ below (qxW D vwCl [] [] (.inl r) s.heap.size) (xcW D vwCl [] [] (.inl r) s.heap.size) args s 492 3232 (va_A [] s.heap.size)) (WC q cA τ) 968 [(4, .ref (q 0)), (5, .int (x5))] [.int (y1), .int (y0)] := by
        intro q hDD cells slots hc hs τ x5 y0 y1 h
        unfold L_plans_b968 at h
        refine ww_eq2 (tgt := 973) hx hb dL_plans_968 (by decide) (fun c_162 => ?_) (fun c_162 => ?_)
        · replace h := it_p c_162 h
          refine ww_iinc (i := 5) (k := 1) (v := 1) (lv1 := [(4, .ref (q 0)), (5, .int (x5 + 1))]) hx hb dL_plans_973 rfl (by decide) (by decide) [1, 0] rfl ?_
          refine ww_goto (tgt := 929) hx hb dL_plans_976 (by decide) ?_
          exact ww_sub (lv1 := [(4, .ref (q 0)), (5, .int (x5 + 1))]) [0, 1] rfl (ih _ hDD _ _ (by omega) (by omega) _ _ h)
        · replace h := it_n c_162 h
          refine ww_iconst (v := 0) hx hb dL_plans_971 (by decide) ?_
          obtain rfl := os1 h
          refine ww_perm (ws1 := []) [] rfl ?_
          exact ww_kzret hx hb (by omega) (by omega) hr hlk (by decide) rfl dL_plans_972
      intro q hDD cells slots hc hs τ x5 h
      rw [L_plans_l929] at h
      refine ww_iload hx hb dL_plans_929 1 rfl ?_
      refine ww_bipush (v := 13) hx hb dL_plans_931 (by decide) ?_
      refine ww_ge2 (tgt := 979) hx hb dL_plans_933 (by decide) (fun c_147 => ?_) (fun c_147 => ?_)
      · replace h := it_p c_147 h
        refine ww_aload hx hb dL_plans_979 0 rfl ?_
        refine ww_ldc hx hb hown hts kw_409 dL_plans_981 ?_
        obtain ⟨r_148, σ_148, e_148, h⟩ := obx h
        refine ww_callXI (w01 := WC q cA σ_148) (st1 := [.int (r_148)]) hx hb hml hown hts hK hN hA hZ [.int ((1000000 : Int32))] [] (m_X4_income hl0 _ _ _ _ e_148) cs_L_41 rfl ⟨Nat.le_of_ble_eq_true rfl, Nat.le_of_ble_eq_true rfl⟩ ⟨by show _ ≤ 492; omega, by show _ ≤ 3232; omega⟩ (hDD _) 0 rfl rfl rfl (Nat.le_of_ble_eq_true rfl) dL_plans_983 rfl ?_
        refine ww_ne0 (tgt := 1051) hx hb dL_plans_986 (by decide) (fun c_149 => ?_) (fun c_149 => ?_)
        · replace h := it_n c_149 h
          refine ww_iconst (v := 0) hx hb dL_plans_1051 (by decide) ?_
          obtain rfl := os1 h
          refine ww_perm (ws1 := []) [] rfl ?_
          exact ww_kzret hx hb (by omega) (by omega) hr hlk (by decide) rfl dL_plans_1052
        · replace h := it_p c_149 h
          exact ww_sub (lv1 := [(4, .ref (q 0))]) [0] rfl (bk989 _ hDD _ _ (by omega) (by omega) _ h)
      · replace h := it_n c_147 h
        refine ww_aload hx hb dL_plans_936 0 rfl ?_
        refine ww_bipush (v := 8) hx hb dL_plans_938 (by decide) ?_
        refine ww_iload hx hb dL_plans_940 1 rfl ?_
        refine ww_iconst (v := 1) hx hb dL_plans_942 (by decide) ?_
        refine ww_isub hx hb dL_plans_943 ?_
        refine ww_iload hx hb dL_plans_944 1 rfl ?_
        refine ww_bipush (v := 6) hx hb dL_plans_946 (by decide) ?_
        refine ww_irem hx hb dL_plans_948 (by decide) ?_
        refine ww_bipush (v := 100) hx hb dL_plans_949 (by decide) ?_
        obtain ⟨r_150, σ_150, e_150, h⟩ := ob2 h
        refine ww_callH0 (w01 := WC q cA σ_150) (st1 := [.int (r_150)]) hx hb hml hown hts hK hN hA hZ [.ref (q 0), .int ((8 : Int32)), .int (x5 - (1 : Int32)), .int (x5 - x5 / (6 : Int32) * (6 : Int32)), .int ((100 : Int32))] [] (m_L_act hl0 _ _ _ _ _ _ _ e_150) cs_L_87 rfl ⟨Nat.le_of_ble_eq_true rfl, Nat.le_of_ble_eq_true rfl⟩ ⟨by show _ ≤ 492; omega, by show _ ≤ 3232; omega⟩ (hDD _) rfl (Nat.le_of_ble_eq_true rfl) dL_plans_951 rfl ?_
        refine ww_iload hx hb dL_plans_954 1 rfl ?_
        refine ww_bipush (v := 12) hx hb dL_plans_956 (by decide) ?_
        refine ww_ge2 (tgt := 966) hx hb dL_plans_958 (by decide) (fun c_151 => ?_) (fun c_151 => ?_)
        · replace h := it_p c_151 h
          refine ww_bipush (v := (-73)) hx hb dL_plans_966 (by decide) ?_
          exact ww_sub (lv1 := [(4, .ref (q 0)), (5, .int (x5))]) [0, 1] rfl (bk968 _ hDD _ _ (by omega) (by omega) _ _ _ _ h)
        · replace h := it_n c_151 h
          refine ww_iload hx hb dL_plans_961 1 rfl ?_
          refine ww_goto (tgt := 968) hx hb dL_plans_963 (by decide) ?_
          exact ww_sub (lv1 := [(4, .ref (q 0)), (5, .int (x5))]) [0, 1] rfl (bk968 _ hDD _ _ (by omega) (by omega) _ _ _ _ h)
  have lp879 : ∀ (n : Nat) (q : Nat → Nat) (hDD : ∀ τ : SS, va_D (va_A [] s.heap.size) (WC q cA τ)) (cells slots : Nat) (hc : cells + (143 + n * 1) ≤ 492) (hs : slots + (858 + n * 6) ≤ 3232) (τ : SS) (x5 : Int32), L_plans_l879 n τ x5 = some r → WW p l e (rmc 25 1000 492 3232) s m args below meth c D vwCl (va_A [] s.heap.size) 6 cells slots (vx_MQ below (qxW D vwCl [] [] (.inl r) s.heap.size) (xcW D vwCl [] [] (.inl r) s.heap.size) args s 492 3232 (va_A [] s.heap.size)) (WC q cA τ) 879 [(4, .ref (q 0)), (5, .int (x5))] [] := by
    intro n
    induction n with
    | zero => intro q hDD cells slots hc hs τ x5 h; rw [L_plans_l879] at h; cases h
    | succ n ih =>
      have bk915 : ∀ (q : Nat → Nat) (hDD : ∀ τ : SS, va_D (va_A [] s.heap.size) (WC q cA τ)) (cells slots : Nat) (hc : cells + (143 + n * 1) ≤ 492) (hs : slots + (858 + n * 6) ≤ 3232) (τ : SS) (x5 : Int32) (y0 : Int32) (y1 : Int32), L_plans_b915 (L_plans_l879 n) τ x5 y0 y1 = some r → WW p l e (rmc 25 1000 492 3232) s m args below meth c D vwCl (va_A [] s.heap.size) 6 cells slots (vx_MQ below (qxW D vwCl [] [] (.inl r) s.heap.size) (xcW D vwCl [] [] (.inl r) s.heap.size) args s 492 3232 (va_A [] s.heap.size)) (WC q cA τ) 915 [(4, .ref (q 0)), (5, .int (x5))] [.int (y1), .int (y0)] := by
        intro q hDD cells slots hc hs τ x5 y0 y1 h
        unfold L_plans_b915 at h
        refine ww_eq2 (tgt := 920) hx hb dL_plans_915 (by decide) (fun c_163 => ?_) (fun c_163 => ?_)
        · replace h := it_p c_163 h
          refine ww_iinc (i := 5) (k := 1) (v := 1) (lv1 := [(4, .ref (q 0)), (5, .int (x5 + 1))]) hx hb dL_plans_920 rfl (by decide) (by decide) [1, 0] rfl ?_
          refine ww_goto (tgt := 879) hx hb dL_plans_923 (by decide) ?_
          exact ww_sub (lv1 := [(4, .ref (q 0)), (5, .int (x5 + 1))]) [0, 1] rfl (ih _ hDD _ _ (by omega) (by omega) _ _ h)
        · replace h := it_n c_163 h
          refine ww_iconst (v := 0) hx hb dL_plans_918 (by decide) ?_
          obtain rfl := os1 h
          refine ww_perm (ws1 := []) [] rfl ?_
          exact ww_kzret hx hb (by omega) (by omega) hr hlk (by decide) rfl dL_plans_919
      intro q hDD cells slots hc hs τ x5 h
      rw [L_plans_l879] at h
      refine ww_iload hx hb dL_plans_879 1 rfl ?_
      refine ww_bipush (v := 11) hx hb dL_plans_881 (by decide) ?_
      refine ww_ge2 (tgt := 926) hx hb dL_plans_883 (by decide) (fun c_144 => ?_) (fun c_144 => ?_)
      · replace h := it_p c_144 h
        refine ww_iconst (v := 0) hx hb dL_plans_926 (by decide) ?_
        refine ww_istore (i := 5) (lv1 := [(4, .ref (q 0)), (5, .int ((0 : Int32)))]) hx hb dL_plans_927 (by decide) [1, 0] rfl ?_
        exact ww_sub (lv1 := [(4, .ref (q 0)), (5, .int ((0 : Int32)))]) [0, 1] rfl (lp929 14 _ hDD _ _ (by omega) (by omega) _ _ h)
      · replace h := it_n c_144 h
        refine ww_aload hx hb dL_plans_886 0 rfl ?_
        refine ww_bipush (v := 7) hx hb dL_plans_888 (by decide) ?_
        refine ww_iload hx hb dL_plans_890 1 rfl ?_
        refine ww_bipush (v := 6) hx hb dL_plans_892 (by decide) ?_
        refine ww_irem hx hb dL_plans_894 (by decide) ?_
        refine ww_ldc hx hb hown hts kw_408 dL_plans_895 ?_
        refine ww_iconst (v := 0) hx hb dL_plans_897 (by decide) ?_
        obtain ⟨r_145, σ_145, e_145, h⟩ := ob2 h
        refine ww_callH0 (w01 := WC q cA σ_145) (st1 := [.int (r_145)]) hx hb hml hown hts hK hN hA hZ [.ref (q 0), .int ((7 : Int32)), .int (x5 - x5 / (6 : Int32) * (6 : Int32)), .int ((100000 : Int32)), .int ((0 : Int32))] [] (m_L_act hl0 _ _ _ _ _ _ _ e_145) cs_L_87 rfl ⟨Nat.le_of_ble_eq_true rfl, Nat.le_of_ble_eq_true rfl⟩ ⟨by show _ ≤ 492; omega, by show _ ≤ 3232; omega⟩ (hDD _) rfl (Nat.le_of_ble_eq_true rfl) dL_plans_898 rfl ?_
        refine ww_iload hx hb dL_plans_901 1 rfl ?_
        refine ww_bipush (v := 10) hx hb dL_plans_903 (by decide) ?_
        refine ww_ge2 (tgt := 913) hx hb dL_plans_905 (by decide) (fun c_146 => ?_) (fun c_146 => ?_)
        · replace h := it_p c_146 h
          refine ww_bipush (v := (-73)) hx hb dL_plans_913 (by decide) ?_
          exact ww_sub (lv1 := [(4, .ref (q 0)), (5, .int (x5))]) [0, 1] rfl (bk915 _ hDD _ _ (by omega) (by omega) _ _ _ _ h)
        · replace h := it_n c_146 h
          refine ww_iload hx hb dL_plans_908 1 rfl ?_
          refine ww_goto (tgt := 915) hx hb dL_plans_910 (by decide) ?_
          exact ww_sub (lv1 := [(4, .ref (q 0)), (5, .int (x5))]) [0, 1] rfl (bk915 _ hDD _ _ (by omega) (by omega) _ _ _ _ h)
  have bk816 : ∀ (q : Nat → Nat) (hDD : ∀ τ : SS, va_D (va_A [] s.heap.size) (WC q cA τ)) (cells slots : Nat) (hc : cells + 284 ≤ 492) (hs : slots + 1704 ≤ 3232) (τ : SS) , L_plans_b816 τ = some r → WW p l e (rmc 25 1000 492 3232) s m args below meth c D vwCl (va_A [] s.heap.size) 6 cells slots (vx_MQ below (qxW D vwCl [] [] (.inl r) s.heap.size) (xcW D vwCl [] [] (.inl r) s.heap.size) args s 492 3232 (va_A [] s.heap.size)) (WC q cA τ) 816 [(4, .ref (q 0))] [] := by
    intro q hDD cells slots hc hs τ h
    unfold L_plans_b816 at h
    refine ww_aload hx hb dL_plans_816 0 rfl ?_
    refine ww_iconst (v := 4) hx hb dL_plans_818 (by decide) ?_
    obtain ⟨r_134, σ_134, e_134, h⟩ := obx h
    refine ww_callXI (w01 := WC q cA σ_134) (st1 := [.int (r_134)]) hx hb hml hown hts hK hN hA hZ [.int ((4 : Int32))] [] (m_X4_planned hl0 _ _ _ _ e_134) cs_L_48 rfl ⟨Nat.le_of_ble_eq_true rfl, Nat.le_of_ble_eq_true rfl⟩ ⟨by show _ ≤ 492; omega, by show _ ≤ 3232; omega⟩ (hDD _) 0 rfl rfl rfl (Nat.le_of_ble_eq_true rfl) dL_plans_819 rfl ?_
    refine ww_iconst (v := 1) hx hb dL_plans_822 (by decide) ?_
    refine ww_ne2 (tgt := 874) hx hb dL_plans_823 (by decide) (fun c_135 => ?_) (fun c_135 => ?_)
    · replace h := it_n c_135 h
      refine ww_iconst (v := 0) hx hb dL_plans_874 (by decide) ?_
      obtain rfl := os1 h
      refine ww_perm (ws1 := []) [] rfl ?_
      exact ww_kzret hx hb (by omega) (by omega) hr hlk (by decide) rfl dL_plans_875
    · replace h := it_p c_135 h
      refine ww_aload hx hb dL_plans_826 0 rfl ?_
      refine ww_iconst (v := 0) hx hb dL_plans_828 (by decide) ?_
      obtain ⟨r_136, σ_136, e_136, h⟩ := obx h
      refine ww_callXI (w01 := WC q cA σ_136) (st1 := [.int (r_136)]) hx hb hml hown hts hK hN hA hZ [.int ((0 : Int32))] [] (m_X4_begins hl0 _ _ _ _ e_136) cs_L_51 rfl ⟨Nat.le_of_ble_eq_true rfl, Nat.le_of_ble_eq_true rfl⟩ ⟨by show _ ≤ 492; omega, by show _ ≤ 3232; omega⟩ (hDD _) 0 rfl rfl rfl (Nat.le_of_ble_eq_true rfl) dL_plans_829 rfl ?_
      refine ww_bipush (v := 8) hx hb dL_plans_832 (by decide) ?_
      refine ww_ne2 (tgt := 874) hx hb dL_plans_834 (by decide) (fun c_137 => ?_) (fun c_137 => ?_)
      · replace h := it_n c_137 h
        refine ww_iconst (v := 0) hx hb dL_plans_874 (by decide) ?_
        obtain rfl := os1 h
        refine ww_perm (ws1 := []) [] rfl ?_
        exact ww_kzret hx hb (by omega) (by omega) hr hlk (by decide) rfl dL_plans_875
      · replace h := it_p c_137 h
        refine ww_aload hx hb dL_plans_837 0 rfl ?_
        refine ww_bipush (v := 6) hx hb dL_plans_839 (by decide) ?_
        obtain ⟨r_138, σ_138, e_138, h⟩ := obx h
        refine ww_callXI (w01 := WC q cA σ_138) (st1 := [.int (r_138)]) hx hb hml hown hts hK hN hA hZ [.int ((6 : Int32))] [] (m_X4_begins hl0 _ _ _ _ e_138) cs_L_51 rfl ⟨Nat.le_of_ble_eq_true rfl, Nat.le_of_ble_eq_true rfl⟩ ⟨by show _ ≤ 492; omega, by show _ ≤ 3232; omega⟩ (hDD _) 0 rfl rfl rfl (Nat.le_of_ble_eq_true rfl) dL_plans_841 rfl ?_
        refine ww_bipush (v := 20) hx hb dL_plans_844 (by decide) ?_
        refine ww_ne2 (tgt := 874) hx hb dL_plans_846 (by decide) (fun c_139 => ?_) (fun c_139 => ?_)
        · replace h := it_n c_139 h
          refine ww_iconst (v := 0) hx hb dL_plans_874 (by decide) ?_
          obtain rfl := os1 h
          refine ww_perm (ws1 := []) [] rfl ?_
          exact ww_kzret hx hb (by omega) (by omega) hr hlk (by decide) rfl dL_plans_875
        · replace h := it_p c_139 h
          refine ww_aload hx hb dL_plans_849 0 rfl ?_
          refine ww_iconst (v := 1) hx hb dL_plans_851 (by decide) ?_
          obtain ⟨r_140, σ_140, e_140, h⟩ := obx h
          refine ww_callXI (w01 := WC q cA σ_140) (st1 := [.int (r_140)]) hx hb hml hown hts hK hN hA hZ [.int ((1 : Int32))] [] (m_X4_begins hl0 _ _ _ _ e_140) cs_L_51 rfl ⟨Nat.le_of_ble_eq_true rfl, Nat.le_of_ble_eq_true rfl⟩ ⟨by show _ ≤ 492; omega, by show _ ≤ 3232; omega⟩ (hDD _) 0 rfl rfl rfl (Nat.le_of_ble_eq_true rfl) dL_plans_852 rfl ?_
          refine ww_bipush (v := 32) hx hb dL_plans_855 (by decide) ?_
          refine ww_ne2 (tgt := 874) hx hb dL_plans_857 (by decide) (fun c_141 => ?_) (fun c_141 => ?_)
          · replace h := it_n c_141 h
            refine ww_iconst (v := 0) hx hb dL_plans_874 (by decide) ?_
            obtain rfl := os1 h
            refine ww_perm (ws1 := []) [] rfl ?_
            exact ww_kzret hx hb (by omega) (by omega) hr hlk (by decide) rfl dL_plans_875
          · replace h := it_p c_141 h
            refine ww_aload hx hb dL_plans_860 0 rfl ?_
            refine ww_bipush (v := 8) hx hb dL_plans_862 (by decide) ?_
            refine ww_bipush (v := 8) hx hb dL_plans_864 (by decide) ?_
            refine ww_iconst (v := 0) hx hb dL_plans_866 (by decide) ?_
            refine ww_iconst (v := 0) hx hb dL_plans_867 (by decide) ?_
            obtain ⟨r_142, σ_142, e_142, h⟩ := ob2 h
            refine ww_callK (w01 := WC q cA σ_142) (st1 := [.int (r_142)]) hx hb hml hown hts hK hN hA hZ [.ref (q 0), .int ((8 : Int32)), .int ((8 : Int32)), .int ((0 : Int32)), .int ((0 : Int32))] [] (m_L_refuses hl0 _ _ _ _ _ _ _ e_142) cs_L_109 rfl ⟨Nat.le_of_ble_eq_true rfl, Nat.le_of_ble_eq_true rfl⟩ ⟨by show _ ≤ 492; omega, by show _ ≤ 3232; omega⟩ (hDD _) rfl (Nat.le_of_ble_eq_true rfl) dL_plans_868 rfl ?_
            refine ww_ne0 (tgt := 876) hx hb dL_plans_871 (by decide) (fun c_143 => ?_) (fun c_143 => ?_)
            · replace h := it_n c_143 h
              refine ww_iconst (v := 0) hx hb dL_plans_876 (by decide) ?_
              refine ww_istore (i := 5) (lv1 := [(4, .ref (q 0)), (5, .int ((0 : Int32)))]) hx hb dL_plans_877 (by decide) [1, 0] rfl ?_
              exact ww_sub (lv1 := [(4, .ref (q 0)), (5, .int ((0 : Int32)))]) [0, 1] rfl (lp879 12 _ hDD _ _ (by omega) (by omega) _ _ h)
            · replace h := it_p c_143 h
              refine ww_iconst (v := 0) hx hb dL_plans_874 (by decide) ?_
              obtain rfl := os1 h
              refine ww_perm (ws1 := []) [] rfl ?_
              exact ww_kzret hx hb (by omega) (by omega) hr hlk (by decide) rfl dL_plans_875
  have lp722 : ∀ (n : Nat) (q : Nat → Nat) (hDD : ∀ τ : SS, va_D (va_A [] s.heap.size) (WC q cA τ)) (cells slots : Nat) (hc : cells + (287 + n * 1) ≤ 492) (hs : slots + (1722 + n * 6) ≤ 3232) (τ : SS) (x5 : Int32), L_plans_l722 n τ x5 = some r → WW p l e (rmc 25 1000 492 3232) s m args below meth c D vwCl (va_A [] s.heap.size) 6 cells slots (vx_MQ below (qxW D vwCl [] [] (.inl r) s.heap.size) (xcW D vwCl [] [] (.inl r) s.heap.size) args s 492 3232 (va_A [] s.heap.size)) (WC q cA τ) 722 [(4, .ref (q 0)), (5, .int (x5))] [] := by
    intro n
    induction n with
    | zero => intro q hDD cells slots hc hs τ x5 h; rw [L_plans_l722] at h; cases h
    | succ n ih =>
      have bk762 : ∀ (q : Nat → Nat) (hDD : ∀ τ : SS, va_D (va_A [] s.heap.size) (WC q cA τ)) (cells slots : Nat) (hc : cells + (287 + n * 1) ≤ 492) (hs : slots + (1722 + n * 6) ≤ 3232) (τ : SS) (x5 : Int32) (y0 : Int32) (y1 : Int32), L_plans_b762 (L_plans_l722 n) τ x5 y0 y1 = some r → WW p l e (rmc 25 1000 492 3232) s m args below meth c D vwCl (va_A [] s.heap.size) 6 cells slots (vx_MQ below (qxW D vwCl [] [] (.inl r) s.heap.size) (xcW D vwCl [] [] (.inl r) s.heap.size) args s 492 3232 (va_A [] s.heap.size)) (WC q cA τ) 762 [(4, .ref (q 0)), (5, .int (x5))] [.int (y1), .int (y0)] := by
        intro q hDD cells slots hc hs τ x5 y0 y1 h
        unfold L_plans_b762 at h
        refine ww_eq2 (tgt := 767) hx hb dL_plans_762 (by decide) (fun c_164 => ?_) (fun c_164 => ?_)
        · replace h := it_p c_164 h
          refine ww_iinc (i := 5) (k := 1) (v := 1) (lv1 := [(4, .ref (q 0)), (5, .int (x5 + 1))]) hx hb dL_plans_767 rfl (by decide) (by decide) [1, 0] rfl ?_
          refine ww_goto (tgt := 722) hx hb dL_plans_770 (by decide) ?_
          exact ww_sub (lv1 := [(4, .ref (q 0)), (5, .int (x5 + 1))]) [0, 1] rfl (ih _ hDD _ _ (by omega) (by omega) _ _ h)
        · replace h := it_n c_164 h
          refine ww_iconst (v := 0) hx hb dL_plans_765 (by decide) ?_
          obtain rfl := os1 h
          refine ww_perm (ws1 := []) [] rfl ?_
          exact ww_kzret hx hb (by omega) (by omega) hr hlk (by decide) rfl dL_plans_766
      intro q hDD cells slots hc hs τ x5 h
      rw [L_plans_l722] at h
      refine ww_iload hx hb dL_plans_722 1 rfl ?_
      refine ww_bipush (v := 9) hx hb dL_plans_724 (by decide) ?_
      refine ww_ge2 (tgt := 773) hx hb dL_plans_726 (by decide) (fun c_123 => ?_) (fun c_123 => ?_)
      · replace h := it_p c_123 h
        refine ww_aload hx hb dL_plans_773 0 rfl ?_
        obtain ⟨r_124, σ_124, e_124, h⟩ := ob2 h
        refine ww_callV (ws1 := WC q cA σ_124) (st1 := [.int (r_124)]) hx hb hml hown hts hK hN hA (hDD _) (by show _ ≤ 492; omega) (by show _ ≤ 3232; omega) [] [] (m_X4_days _  _ _ e_124) cs_L_73 rfl ⟨Nat.le_of_ble_eq_true rfl, Nat.le_of_ble_eq_true rfl⟩ 0 rfl rfl rfl (Nat.le_of_ble_eq_true rfl) dL_plans_775 rfl ?_
        refine ww_iconst (v := 2) hx hb dL_plans_778 (by decide) ?_
        refine ww_ne2 (tgt := 874) hx hb dL_plans_779 (by decide) (fun c_125 => ?_) (fun c_125 => ?_)
        · replace h := it_n c_125 h
          refine ww_iconst (v := 0) hx hb dL_plans_874 (by decide) ?_
          obtain rfl := os1 h
          refine ww_perm (ws1 := []) [] rfl ?_
          exact ww_kzret hx hb (by omega) (by omega) hr hlk (by decide) rfl dL_plans_875
        · replace h := it_p c_125 h
          refine ww_aload hx hb dL_plans_782 0 rfl ?_
          refine ww_bipush (v := 10) hx hb dL_plans_784 (by decide) ?_
          refine ww_iconst (v := 0) hx hb dL_plans_786 (by decide) ?_
          refine ww_iconst (v := 0) hx hb dL_plans_787 (by decide) ?_
          refine ww_iconst (v := 0) hx hb dL_plans_788 (by decide) ?_
          obtain ⟨r_126, σ_126, e_126, h⟩ := ob2 h
          refine ww_callH0 (w01 := WC q cA σ_126) (st1 := [.int (r_126)]) hx hb hml hown hts hK hN hA hZ [.ref (q 0), .int ((10 : Int32)), .int ((0 : Int32)), .int ((0 : Int32)), .int ((0 : Int32))] [] (m_L_act hl0 _ _ _ _ _ _ _ e_126) cs_L_87 rfl ⟨Nat.le_of_ble_eq_true rfl, Nat.le_of_ble_eq_true rfl⟩ ⟨by show _ ≤ 492; omega, by show _ ≤ 3232; omega⟩ (hDD _) rfl (Nat.le_of_ble_eq_true rfl) dL_plans_789 rfl ?_
          refine ww_bipush (v := (-73)) hx hb dL_plans_792 (by decide) ?_
          refine ww_ne2 (tgt := 874) hx hb dL_plans_794 (by decide) (fun c_127 => ?_) (fun c_127 => ?_)
          · replace h := it_n c_127 h
            refine ww_iconst (v := 0) hx hb dL_plans_874 (by decide) ?_
            obtain rfl := os1 h
            refine ww_perm (ws1 := []) [] rfl ?_
            exact ww_kzret hx hb (by omega) (by omega) hr hlk (by decide) rfl dL_plans_875
          · replace h := it_p c_127 h
            refine ww_aload hx hb dL_plans_797 0 rfl ?_
            refine ww_iconst (v := 0) hx hb dL_plans_799 (by decide) ?_
            obtain ⟨r_128, σ_128, e_128, h⟩ := obx h
            refine ww_callXI (w01 := WC q cA σ_128) (st1 := [.int (r_128)]) hx hb hml hown hts hK hN hA hZ [.int ((0 : Int32))] [] (m_X4_planned hl0 _ _ _ _ e_128) cs_L_48 rfl ⟨Nat.le_of_ble_eq_true rfl, Nat.le_of_ble_eq_true rfl⟩ ⟨by show _ ≤ 492; omega, by show _ ≤ 3232; omega⟩ (hDD _) 0 rfl rfl rfl (Nat.le_of_ble_eq_true rfl) dL_plans_800 rfl ?_
            refine ww_ne0 (tgt := 874) hx hb dL_plans_803 (by decide) (fun c_129 => ?_) (fun c_129 => ?_)
            · replace h := it_n c_129 h
              refine ww_iconst (v := 0) hx hb dL_plans_874 (by decide) ?_
              obtain rfl := os1 h
              refine ww_perm (ws1 := []) [] rfl ?_
              exact ww_kzret hx hb (by omega) (by omega) hr hlk (by decide) rfl dL_plans_875
            · replace h := it_p c_129 h
              refine ww_aload hx hb dL_plans_806 0 rfl ?_
              refine ww_iconst (v := 1) hx hb dL_plans_808 (by decide) ?_
              obtain ⟨r_130, σ_130, e_130, h⟩ := obx h
              refine ww_callXI (w01 := WC q cA σ_130) (st1 := [.int (r_130)]) hx hb hml hown hts hK hN hA hZ [.int ((1 : Int32))] [] (m_X4_planned hl0 _ _ _ _ e_130) cs_L_48 rfl ⟨Nat.le_of_ble_eq_true rfl, Nat.le_of_ble_eq_true rfl⟩ ⟨by show _ ≤ 492; omega, by show _ ≤ 3232; omega⟩ (hDD _) 0 rfl rfl rfl (Nat.le_of_ble_eq_true rfl) dL_plans_809 rfl ?_
              refine ww_iconst (v := 2) hx hb dL_plans_812 (by decide) ?_
              refine ww_ne2 (tgt := 874) hx hb dL_plans_813 (by decide) (fun c_131 => ?_) (fun c_131 => ?_)
              · replace h := it_n c_131 h
                refine ww_iconst (v := 0) hx hb dL_plans_874 (by decide) ?_
                obtain rfl := os1 h
                refine ww_perm (ws1 := []) [] rfl ?_
                exact ww_kzret hx hb (by omega) (by omega) hr hlk (by decide) rfl dL_plans_875
              · replace h := it_p c_131 h
                exact ww_sub (lv1 := [(4, .ref (q 0))]) [0] rfl (bk816 _ hDD _ _ (by omega) (by omega) _ h)
      · replace h := it_n c_123 h
        refine ww_aload hx hb dL_plans_729 0 rfl ?_
        refine ww_iconst (v := 4) hx hb dL_plans_731 (by decide) ?_
        refine ww_iload hx hb dL_plans_732 1 rfl ?_
        refine ww_iconst (v := 2) hx hb dL_plans_734 (by decide) ?_
        refine ww_irem hx hb dL_plans_735 (by decide) ?_
        refine ww_iconst (v := 1) hx hb dL_plans_736 (by decide) ?_
        refine ww_iload hx hb dL_plans_737 1 rfl ?_
        refine ww_bipush (v := 6) hx hb dL_plans_739 (by decide) ?_
        refine ww_irem hx hb dL_plans_741 (by decide) ?_
        refine ww_ishl hx hb dL_plans_742 ?_
        refine ww_iconst (v := 0) hx hb dL_plans_743 (by decide) ?_
        refine ww_iconst (v := 0) hx hb dL_plans_744 (by decide) ?_
        obtain ⟨r_132, σ_132, e_132, h⟩ := ob2 h
        refine ww_callH0 (w01 := WC q cA σ_132) (st1 := [.int (r_132)]) hx hb hml hown hts hK hN hA hZ [.ref (q 0), .int ((4 : Int32)), .int (x5 - x5 / (2 : Int32) * (2 : Int32)), .int ((1 : Int32) <<< ((x5 - x5 / (6 : Int32) * (6 : Int32)) &&& 31)), .int ((0 : Int32)), .int ((0 : Int32))] [] (m_L_scene hl0 _ _ _ _ _ _ _ _ e_132) cs_L_94 rfl ⟨Nat.le_of_ble_eq_true rfl, Nat.le_of_ble_eq_true rfl⟩ ⟨by show _ ≤ 492; omega, by show _ ≤ 3232; omega⟩ (hDD _) rfl (Nat.le_of_ble_eq_true rfl) dL_plans_745 rfl ?_
        refine ww_iload hx hb dL_plans_748 1 rfl ?_
        refine ww_bipush (v := 8) hx hb dL_plans_750 (by decide) ?_
        refine ww_ge2 (tgt := 760) hx hb dL_plans_752 (by decide) (fun c_133 => ?_) (fun c_133 => ?_)
        · replace h := it_p c_133 h
          refine ww_bipush (v := (-73)) hx hb dL_plans_760 (by decide) ?_
          exact ww_sub (lv1 := [(4, .ref (q 0)), (5, .int (x5))]) [0, 1] rfl (bk762 _ hDD _ _ (by omega) (by omega) _ _ _ _ h)
        · replace h := it_n c_133 h
          refine ww_iload hx hb dL_plans_755 1 rfl ?_
          refine ww_goto (tgt := 762) hx hb dL_plans_757 (by decide) ?_
          exact ww_sub (lv1 := [(4, .ref (q 0)), (5, .int (x5))]) [0, 1] rfl (bk762 _ hDD _ _ (by omega) (by omega) _ _ _ _ h)
  have bk681 : ∀ (q : Nat → Nat) (hDD : ∀ τ : SS, va_D (va_A [] s.heap.size) (WC q cA τ)) (cells slots : Nat) (hc : cells + 320 ≤ 492) (hs : slots + 1976 ≤ 3232) (τ : SS) , L_plans_b681 τ = some r → WW p l e (rmc 25 1000 492 3232) s m args below meth c D vwCl (va_A [] s.heap.size) 6 cells slots (vx_MQ below (qxW D vwCl [] [] (.inl r) s.heap.size) (xcW D vwCl [] [] (.inl r) s.heap.size) args s 492 3232 (va_A [] s.heap.size)) (WC q cA τ) 681 [(3, .ref (q 0))] [] := by
    intro q hDD cells slots hc hs τ h
    unfold L_plans_b681 at h
    refine ww_aload_n hx hb dL_plans_681 rfl 0 rfl ?_
    refine ww_callV (ws1 := WC q cA τ) (st1 := [.int (X4_costs τ)]) hx hb hml hown hts hK hN hA (hDD _) (by show _ ≤ 492; omega) (by show _ ≤ 3232; omega) [] [] (m_X4_costs τ) cs_L_79 rfl ⟨Nat.le_of_ble_eq_true rfl, Nat.le_of_ble_eq_true rfl⟩ 0 rfl rfl rfl (Nat.le_of_ble_eq_true rfl) dL_plans_682 rfl ?_
    refine ww_sipush (v := 1006) hx hb dL_plans_685 (by decide) ?_
    refine ww_ne2 (tgt := 708) hx hb dL_plans_688 (by decide) (fun c_118 => ?_) (fun c_118 => ?_)
    · replace h := it_n c_118 h
      refine ww_iconst (v := 0) hx hb dL_plans_708 (by decide) ?_
      obtain rfl := os1 h
      refine ww_perm (ws1 := []) [] rfl ?_
      exact ww_kzret hx hb (by omega) (by omega) hr hlk (by decide) rfl dL_plans_709
    · replace h := it_p c_118 h
      refine ww_aload_n hx hb dL_plans_691 rfl 0 rfl ?_
      refine ww_iconst (v := 1) hx hb dL_plans_692 (by decide) ?_
      obtain ⟨r_119, σ_119, e_119, h⟩ := obx h
      refine ww_callXI (w01 := WC q cA σ_119) (st1 := [.int (r_119)]) hx hb hml hown hts hK hN hA hZ [.int ((1 : Int32))] [] (m_X4_left hl0 _ _ _ _ e_119) cs_L_54 rfl ⟨Nat.le_of_ble_eq_true rfl, Nat.le_of_ble_eq_true rfl⟩ ⟨by show _ ≤ 492; omega, by show _ ≤ 3232; omega⟩ (hDD _) 0 rfl rfl rfl (Nat.le_of_ble_eq_true rfl) dL_plans_693 rfl ?_
      refine ww_ne0 (tgt := 708) hx hb dL_plans_696 (by decide) (fun c_120 => ?_) (fun c_120 => ?_)
      · replace h := it_n c_120 h
        refine ww_iconst (v := 0) hx hb dL_plans_708 (by decide) ?_
        obtain rfl := os1 h
        refine ww_perm (ws1 := []) [] rfl ?_
        exact ww_kzret hx hb (by omega) (by omega) hr hlk (by decide) rfl dL_plans_709
      · replace h := it_p c_120 h
        refine ww_aload_n hx hb dL_plans_699 rfl 0 rfl ?_
        refine ww_callV (ws1 := WC q cA σ_119) (st1 := [.int (X4_fee σ_119)]) hx hb hml hown hts hK hN hA (hDD _) (by show _ ≤ 492; omega) (by show _ ≤ 3232; omega) [] [] (m_X4_fee σ_119) cs_L_76 rfl ⟨Nat.le_of_ble_eq_true rfl, Nat.le_of_ble_eq_true rfl⟩ 0 rfl rfl rfl (Nat.le_of_ble_eq_true rfl) dL_plans_700 rfl ?_
        refine ww_bipush (v := 94) hx hb dL_plans_703 (by decide) ?_
        refine ww_eq2 (tgt := 710) hx hb dL_plans_705 (by decide) (fun c_122 => ?_) (fun c_122 => ?_)
        · replace h := it_p c_122 h
          refine ww_sub (lv1 := []) [] rfl ?_
          refine ww_perm (ws1 := []) [] rfl ?_
          refine ww_mk hx hb hml hown hts hK hN hA (d_nil) kw_385 cs_L_98 ⟨by show _ ≤ 492; omega, by show _ ≤ 3232; omega⟩ dL_plans_710 dL_plans_713 dL_plans_714 (by decide) (Nat.le_of_ble_eq_true rfl) (fun q hDD => ?_)
          refine ww_astore (i := 4) (lv1 := [(4, .ref (q 0))]) hx hb dL_plans_717 (by decide) [0] rfl ?_
          refine ww_iconst (v := 0) hx hb dL_plans_719 (by decide) ?_
          refine ww_istore (i := 5) (lv1 := [(4, .ref (q 0)), (5, .int ((0 : Int32)))]) hx hb dL_plans_720 (by decide) [1, 0] rfl ?_
          exact ww_sub (lv1 := [(4, .ref (q 0)), (5, .int ((0 : Int32)))]) [0, 1] rfl (lp722 10 _ hDD _ _ (by omega) (by omega) _ _ h)
        · replace h := it_n c_122 h
          refine ww_iconst (v := 0) hx hb dL_plans_708 (by decide) ?_
          obtain rfl := os1 h
          refine ww_perm (ws1 := []) [] rfl ?_
          exact ww_kzret hx hb (by omega) (by omega) hr hlk (by decide) rfl dL_plans_709
  have bk614 : ∀ (q : Nat → Nat) (hDD : ∀ τ : SS, va_D (va_A [] s.heap.size) (WC q cA τ)) (cells slots : Nat) (hc : cells + 327 ≤ 492) (hs : slots + 2018 ≤ 3232) (τ : SS) , L_plans_b614 τ = some r → WW p l e (rmc 25 1000 492 3232) s m args below meth c D vwCl (va_A [] s.heap.size) 6 cells slots (vx_MQ below (qxW D vwCl [] [] (.inl r) s.heap.size) (xcW D vwCl [] [] (.inl r) s.heap.size) args s 492 3232 (va_A [] s.heap.size)) (WC q cA τ) 614 [(3, .ref (q 0))] [] := by
    intro q hDD cells slots hc hs τ h
    unfold L_plans_b614 at h
    refine ww_aload_n hx hb dL_plans_614 rfl 0 rfl ?_
    refine ww_iconst (v := 1) hx hb dL_plans_615 (by decide) ?_
    refine ww_bipush (v := 32) hx hb dL_plans_616 (by decide) ?_
    refine ww_bipush (v := 35) hx hb dL_plans_618 (by decide) ?_
    refine ww_bipush (v := 13) hx hb dL_plans_620 (by decide) ?_
    obtain ⟨r_105, σ_105, e_105, h⟩ := ob2 h
    refine ww_callK (w01 := WC q cA σ_105) (st1 := [.int (r_105)]) hx hb hml hown hts hK hN hA hZ [.ref (q 0), .int ((1 : Int32)), .int ((32 : Int32)), .int ((35 : Int32)), .int ((13 : Int32))] [] (m_L_plan hl0 _ _ _ _ _ _ _ e_105) cs_L_105 rfl ⟨Nat.le_of_ble_eq_true rfl, Nat.le_of_ble_eq_true rfl⟩ ⟨by show _ ≤ 492; omega, by show _ ≤ 3232; omega⟩ (hDD _) rfl (Nat.le_of_ble_eq_true rfl) dL_plans_622 rfl ?_
    refine ww_eq0 (tgt := 708) hx hb dL_plans_625 (by decide) (fun c_106 => ?_) (fun c_106 => ?_)
    · replace h := it_p c_106 h
      refine ww_iconst (v := 0) hx hb dL_plans_708 (by decide) ?_
      obtain rfl := os1 h
      refine ww_perm (ws1 := []) [] rfl ?_
      exact ww_kzret hx hb (by omega) (by omega) hr hlk (by decide) rfl dL_plans_709
    · replace h := it_n c_106 h
      refine ww_aload_n hx hb dL_plans_628 rfl 0 rfl ?_
      refine ww_iconst (v := 1) hx hb dL_plans_629 (by decide) ?_
      obtain ⟨r_107, σ_107, e_107, h⟩ := ob2 h
      refine ww_callV (ws1 := WC q cA σ_107) (st1 := [.int (r_107)]) hx hb hml hown hts hK hN hA (hDD _) (by show _ ≤ 492; omega) (by show _ ≤ 3232; omega) [.int ((1 : Int32))] [] (m_X4_hold _ _ _ _ e_107) cs_L_115 rfl ⟨Nat.le_of_ble_eq_true rfl, Nat.le_of_ble_eq_true rfl⟩ 0 rfl rfl rfl (Nat.le_of_ble_eq_true rfl) dL_plans_630 rfl ?_
      refine ww_ne0 (tgt := 708) hx hb dL_plans_633 (by decide) (fun c_108 => ?_) (fun c_108 => ?_)
      · replace h := it_n c_108 h
        refine ww_iconst (v := 0) hx hb dL_plans_708 (by decide) ?_
        obtain rfl := os1 h
        refine ww_perm (ws1 := []) [] rfl ?_
        exact ww_kzret hx hb (by omega) (by omega) hr hlk (by decide) rfl dL_plans_709
      · replace h := it_p c_108 h
        refine ww_aload_n hx hb dL_plans_636 rfl 0 rfl ?_
        refine ww_iconst (v := 3) hx hb dL_plans_637 (by decide) ?_
        refine ww_iconst (v := 1) hx hb dL_plans_638 (by decide) ?_
        refine ww_iconst (v := 0) hx hb dL_plans_639 (by decide) ?_
        refine ww_iconst (v := 0) hx hb dL_plans_640 (by decide) ?_
        obtain ⟨r_109, σ_109, e_109, h⟩ := ob2 h
        refine ww_callH0 (w01 := WC q cA σ_109) (st1 := [.int (r_109)]) hx hb hml hown hts hK hN hA hZ [.ref (q 0), .int ((3 : Int32)), .int ((1 : Int32)), .int ((0 : Int32)), .int ((0 : Int32))] [] (m_L_act hl0 _ _ _ _ _ _ _ e_109) cs_L_87 rfl ⟨Nat.le_of_ble_eq_true rfl, Nat.le_of_ble_eq_true rfl⟩ ⟨by show _ ≤ 492; omega, by show _ ≤ 3232; omega⟩ (hDD _) rfl (Nat.le_of_ble_eq_true rfl) dL_plans_641 rfl ?_
        refine ww_bipush (v := (-73)) hx hb dL_plans_644 (by decide) ?_
        refine ww_ne2 (tgt := 708) hx hb dL_plans_646 (by decide) (fun c_110 => ?_) (fun c_110 => ?_)
        · replace h := it_n c_110 h
          refine ww_iconst (v := 0) hx hb dL_plans_708 (by decide) ?_
          obtain rfl := os1 h
          refine ww_perm (ws1 := []) [] rfl ?_
          exact ww_kzret hx hb (by omega) (by omega) hr hlk (by decide) rfl dL_plans_709
        · replace h := it_p c_110 h
          refine ww_aload_n hx hb dL_plans_649 rfl 0 rfl ?_
          refine ww_iconst (v := 1) hx hb dL_plans_650 (by decide) ?_
          refine ww_sipush (v := 1000) hx hb dL_plans_651 (by decide) ?_
          obtain ⟨r_111, σ_111, e_111, h⟩ := obx h
          refine ww_callXI (w01 := WC q cA σ_111) (st1 := [.int (r_111)]) hx hb hml hown hts hK hN hA hZ [.int ((1 : Int32)), .int ((1000 : Int32))] [] (m_X4_approve hl0 _ _ _ _ _ e_111) cs_L_24 rfl ⟨Nat.le_of_ble_eq_true rfl, Nat.le_of_ble_eq_true rfl⟩ ⟨by show _ ≤ 492; omega, by show _ ≤ 3232; omega⟩ (hDD _) 0 rfl rfl rfl (Nat.le_of_ble_eq_true rfl) dL_plans_654 rfl ?_
          refine ww_sipush (v := 1000) hx hb dL_plans_657 (by decide) ?_
          refine ww_ne2 (tgt := 708) hx hb dL_plans_660 (by decide) (fun c_112 => ?_) (fun c_112 => ?_)
          · replace h := it_n c_112 h
            refine ww_iconst (v := 0) hx hb dL_plans_708 (by decide) ?_
            obtain rfl := os1 h
            refine ww_perm (ws1 := []) [] rfl ?_
            exact ww_kzret hx hb (by omega) (by omega) hr hlk (by decide) rfl dL_plans_709
          · replace h := it_p c_112 h
            refine ww_aload_n hx hb dL_plans_663 rfl 0 rfl ?_
            refine ww_iconst (v := 1) hx hb dL_plans_664 (by decide) ?_
            obtain ⟨r_113, σ_113, e_113, h⟩ := obx h
            refine ww_callXI (w01 := WC q cA σ_113) (st1 := [.int (r_113)]) hx hb hml hown hts hK hN hA hZ [.int ((1 : Int32))] [] (m_X4_shoot hl0 _ _ _ _ e_113) cs_L_20 rfl ⟨Nat.le_of_ble_eq_true rfl, Nat.le_of_ble_eq_true rfl⟩ ⟨by show _ ≤ 492; omega, by show _ ≤ 3232; omega⟩ (hDD _) 0 rfl rfl rfl (Nat.le_of_ble_eq_true rfl) dL_plans_665 rfl ?_
            refine ww_iconst (v := 2) hx hb dL_plans_668 (by decide) ?_
            refine ww_ne2 (tgt := 708) hx hb dL_plans_669 (by decide) (fun c_114 => ?_) (fun c_114 => ?_)
            · replace h := it_n c_114 h
              refine ww_iconst (v := 0) hx hb dL_plans_708 (by decide) ?_
              obtain rfl := os1 h
              refine ww_perm (ws1 := []) [] rfl ?_
              exact ww_kzret hx hb (by omega) (by omega) hr hlk (by decide) rfl dL_plans_709
            · replace h := it_p c_114 h
              refine ww_aload_n hx hb dL_plans_672 rfl 0 rfl ?_
              refine ww_callV (ws1 := WC q cA σ_113) (st1 := [.int (X4_shot σ_113)]) hx hb hml hown hts hK hN hA (hDD _) (by show _ ≤ 492; omega) (by show _ ≤ 3232; omega) [] [] (m_X4_shot σ_113) cs_L_102 rfl ⟨Nat.le_of_ble_eq_true rfl, Nat.le_of_ble_eq_true rfl⟩ 0 rfl rfl rfl (Nat.le_of_ble_eq_true rfl) dL_plans_673 rfl ?_
              refine ww_bipush (v := 7) hx hb dL_plans_676 (by decide) ?_
              refine ww_ne2 (tgt := 708) hx hb dL_plans_678 (by decide) (fun c_116 => ?_) (fun c_116 => ?_)
              · replace h := it_n c_116 h
                refine ww_iconst (v := 0) hx hb dL_plans_708 (by decide) ?_
                obtain rfl := os1 h
                refine ww_perm (ws1 := []) [] rfl ?_
                exact ww_kzret hx hb (by omega) (by omega) hr hlk (by decide) rfl dL_plans_709
              · replace h := it_p c_116 h
                exact ww_sub (lv1 := [(3, .ref (q 0))]) [0] rfl (bk681 _ hDD _ _ (by omega) (by omega) _ h)
  have bk552 : ∀ (q : Nat → Nat) (hDD : ∀ τ : SS, va_D (va_A [] s.heap.size) (WC q cA τ)) (cells slots : Nat) (hc : cells + 334 ≤ 492) (hs : slots + 2060 ≤ 3232) (τ : SS) , L_plans_b552 τ = some r → WW p l e (rmc 25 1000 492 3232) s m args below meth c D vwCl (va_A [] s.heap.size) 6 cells slots (vx_MQ below (qxW D vwCl [] [] (.inl r) s.heap.size) (xcW D vwCl [] [] (.inl r) s.heap.size) args s 492 3232 (va_A [] s.heap.size)) (WC q cA τ) 552 [(3, .ref (q 0))] [] := by
    intro q hDD cells slots hc hs τ h
    unfold L_plans_b552 at h
    refine ww_aload_n hx hb dL_plans_552 rfl 0 rfl ?_
    refine ww_iconst (v := 2) hx hb dL_plans_553 (by decide) ?_
    refine ww_iconst (v := 0) hx hb dL_plans_554 (by decide) ?_
    refine ww_iconst (v := 0) hx hb dL_plans_555 (by decide) ?_
    refine ww_iconst (v := 0) hx hb dL_plans_556 (by decide) ?_
    refine ww_iconst (v := 0) hx hb dL_plans_557 (by decide) ?_
    obtain ⟨r_93, σ_93, e_93, h⟩ := obx h
    refine ww_callXI (w01 := WC q cA σ_93) (st1 := [.int (r_93)]) hx hb hml hown hts hK hN hA hZ [.int ((2 : Int32)), .int ((0 : Int32)), .int ((0 : Int32)), .int ((0 : Int32)), .int ((0 : Int32))] [] (m_X4_addScene hl0 _ _ _ _ _ _ _ _ e_93) cs_L_69 rfl ⟨Nat.le_of_ble_eq_true rfl, Nat.le_of_ble_eq_true rfl⟩ ⟨by show _ ≤ 492; omega, by show _ ≤ 3232; omega⟩ (hDD _) 0 rfl rfl rfl (Nat.le_of_ble_eq_true rfl) dL_plans_558 rfl ?_
    refine ww_iconst (v := 2) hx hb dL_plans_561 (by decide) ?_
    refine ww_ne2 (tgt := 708) hx hb dL_plans_562 (by decide) (fun c_94 => ?_) (fun c_94 => ?_)
    · replace h := it_n c_94 h
      refine ww_iconst (v := 0) hx hb dL_plans_708 (by decide) ?_
      obtain rfl := os1 h
      refine ww_perm (ws1 := []) [] rfl ?_
      exact ww_kzret hx hb (by omega) (by omega) hr hlk (by decide) rfl dL_plans_709
    · replace h := it_p c_94 h
      refine ww_aload_n hx hb dL_plans_565 rfl 0 rfl ?_
      refine ww_iconst (v := 1) hx hb dL_plans_566 (by decide) ?_
      refine ww_bipush (v := 8) hx hb dL_plans_567 (by decide) ?_
      refine ww_bipush (v := 11) hx hb dL_plans_569 (by decide) ?_
      refine ww_bipush (v := 13) hx hb dL_plans_571 (by decide) ?_
      obtain ⟨r_95, σ_95, e_95, h⟩ := ob2 h
      refine ww_callK (w01 := WC q cA σ_95) (st1 := [.int (r_95)]) hx hb hml hown hts hK hN hA hZ [.ref (q 0), .int ((1 : Int32)), .int ((8 : Int32)), .int ((11 : Int32)), .int ((13 : Int32))] [] (m_L_plan hl0 _ _ _ _ _ _ _ e_95) cs_L_105 rfl ⟨Nat.le_of_ble_eq_true rfl, Nat.le_of_ble_eq_true rfl⟩ ⟨by show _ ≤ 492; omega, by show _ ≤ 3232; omega⟩ (hDD _) rfl (Nat.le_of_ble_eq_true rfl) dL_plans_573 rfl ?_
      refine ww_eq0 (tgt := 708) hx hb dL_plans_576 (by decide) (fun c_96 => ?_) (fun c_96 => ?_)
      · replace h := it_p c_96 h
        refine ww_iconst (v := 0) hx hb dL_plans_708 (by decide) ?_
        obtain rfl := os1 h
        refine ww_perm (ws1 := []) [] rfl ?_
        exact ww_kzret hx hb (by omega) (by omega) hr hlk (by decide) rfl dL_plans_709
      · replace h := it_n c_96 h
        refine ww_aload_n hx hb dL_plans_579 rfl 0 rfl ?_
        refine ww_iconst (v := 1) hx hb dL_plans_580 (by decide) ?_
        obtain ⟨r_97, σ_97, e_97, h⟩ := obx h
        refine ww_callXI (w01 := WC q cA σ_97) (st1 := [.int (r_97)]) hx hb hml hown hts hK hN hA hZ [.int ((1 : Int32))] [] (m_X4_shoot hl0 _ _ _ _ e_97) cs_L_20 rfl ⟨Nat.le_of_ble_eq_true rfl, Nat.le_of_ble_eq_true rfl⟩ ⟨by show _ ≤ 492; omega, by show _ ≤ 3232; omega⟩ (hDD _) 0 rfl rfl rfl (Nat.le_of_ble_eq_true rfl) dL_plans_581 rfl ?_
        refine ww_iconst (v := 1) hx hb dL_plans_584 (by decide) ?_
        refine ww_ne2 (tgt := 708) hx hb dL_plans_585 (by decide) (fun c_98 => ?_) (fun c_98 => ?_)
        · replace h := it_n c_98 h
          refine ww_iconst (v := 0) hx hb dL_plans_708 (by decide) ?_
          obtain rfl := os1 h
          refine ww_perm (ws1 := []) [] rfl ?_
          exact ww_kzret hx hb (by omega) (by omega) hr hlk (by decide) rfl dL_plans_709
        · replace h := it_p c_98 h
          refine ww_aload_n hx hb dL_plans_588 rfl 0 rfl ?_
          refine ww_callV (ws1 := WC q cA σ_97) (st1 := [.int (X4_shot σ_97)]) hx hb hml hown hts hK hN hA (hDD _) (by show _ ≤ 492; omega) (by show _ ≤ 3232; omega) [] [] (m_X4_shot σ_97) cs_L_102 rfl ⟨Nat.le_of_ble_eq_true rfl, Nat.le_of_ble_eq_true rfl⟩ 0 rfl rfl rfl (Nat.le_of_ble_eq_true rfl) dL_plans_589 rfl ?_
          refine ww_iconst (v := 4) hx hb dL_plans_592 (by decide) ?_
          refine ww_ne2 (tgt := 708) hx hb dL_plans_593 (by decide) (fun c_100 => ?_) (fun c_100 => ?_)
          · replace h := it_n c_100 h
            refine ww_iconst (v := 0) hx hb dL_plans_708 (by decide) ?_
            obtain rfl := os1 h
            refine ww_perm (ws1 := []) [] rfl ?_
            exact ww_kzret hx hb (by omega) (by omega) hr hlk (by decide) rfl dL_plans_709
          · replace h := it_p c_100 h
            refine ww_aload_n hx hb dL_plans_596 rfl 0 rfl ?_
            refine ww_iconst (v := 2) hx hb dL_plans_597 (by decide) ?_
            obtain ⟨r_101, σ_101, e_101, h⟩ := obx h
            refine ww_callXI (w01 := WC q cA σ_101) (st1 := [.int (r_101)]) hx hb hml hown hts hK hN hA hZ [.int ((2 : Int32))] [] (m_X4_begins hl0 _ _ _ _ e_101) cs_L_51 rfl ⟨Nat.le_of_ble_eq_true rfl, Nat.le_of_ble_eq_true rfl⟩ ⟨by show _ ≤ 492; omega, by show _ ≤ 3232; omega⟩ (hDD _) 0 rfl rfl rfl (Nat.le_of_ble_eq_true rfl) dL_plans_598 rfl ?_
            refine ww_bipush (v := 13) hx hb dL_plans_601 (by decide) ?_
            refine ww_ne2 (tgt := 708) hx hb dL_plans_603 (by decide) (fun c_102 => ?_) (fun c_102 => ?_)
            · replace h := it_n c_102 h
              refine ww_iconst (v := 0) hx hb dL_plans_708 (by decide) ?_
              obtain rfl := os1 h
              refine ww_perm (ws1 := []) [] rfl ?_
              exact ww_kzret hx hb (by omega) (by omega) hr hlk (by decide) rfl dL_plans_709
            · replace h := it_p c_102 h
              refine ww_aload_n hx hb dL_plans_606 rfl 0 rfl ?_
              refine ww_callV (ws1 := WC q cA σ_101) (st1 := [.int (X4_costs σ_101)]) hx hb hml hown hts hK hN hA (hDD _) (by show _ ≤ 492; omega) (by show _ ≤ 3232; omega) [] [] (m_X4_costs σ_101) cs_L_79 rfl ⟨Nat.le_of_ble_eq_true rfl, Nat.le_of_ble_eq_true rfl⟩ 0 rfl rfl rfl (Nat.le_of_ble_eq_true rfl) dL_plans_607 rfl ?_
              refine ww_iconst (v := 2) hx hb dL_plans_610 (by decide) ?_
              refine ww_ne2 (tgt := 708) hx hb dL_plans_611 (by decide) (fun c_104 => ?_) (fun c_104 => ?_)
              · replace h := it_n c_104 h
                refine ww_iconst (v := 0) hx hb dL_plans_708 (by decide) ?_
                obtain rfl := os1 h
                refine ww_perm (ws1 := []) [] rfl ?_
                exact ww_kzret hx hb (by omega) (by omega) hr hlk (by decide) rfl dL_plans_709
              · replace h := it_p c_104 h
                exact ww_sub (lv1 := [(3, .ref (q 0))]) [0] rfl (bk614 _ hDD _ _ (by omega) (by omega) _ h)
  have bk476 : ∀ (q : Nat → Nat) (hDD : ∀ τ : SS, va_D (va_A [] s.heap.size) (WC q cA τ)) (cells slots : Nat) (hc : cells + 361 ≤ 492) (hs : slots + 2278 ≤ 3232) (τ : SS) , L_plans_b476 τ = some r → WW p l e (rmc 25 1000 492 3232) s m args below meth c D vwCl (va_A [] s.heap.size) 6 cells slots (vx_MQ below (qxW D vwCl [] [] (.inl r) s.heap.size) (xcW D vwCl [] [] (.inl r) s.heap.size) args s 492 3232 (va_A [] s.heap.size)) (WC q cA τ) 476 [(2, .ref (q 0))] [] := by
    intro q hDD cells slots hc hs τ h
    unfold L_plans_b476 at h
    refine ww_aload_n hx hb dL_plans_476 rfl 0 rfl ?_
    obtain ⟨r_81, σ_81, e_81, h⟩ := ob2 h
    refine ww_callV (ws1 := WC q cA σ_81) (st1 := [.int (r_81)]) hx hb hml hown hts hK hN hA (hDD _) (by show _ ≤ 492; omega) (by show _ ≤ 3232; omega) [] [] (m_X4_days _  _ _ e_81) cs_L_73 rfl ⟨Nat.le_of_ble_eq_true rfl, Nat.le_of_ble_eq_true rfl⟩ 0 rfl rfl rfl (Nat.le_of_ble_eq_true rfl) dL_plans_477 rfl ?_
    refine ww_iconst (v := 2) hx hb dL_plans_480 (by decide) ?_
    refine ww_eq2 (tgt := 486) hx hb dL_plans_481 (by decide) (fun c_82 => ?_) (fun c_82 => ?_)
    · replace h := it_p c_82 h
      refine ww_sub (lv1 := []) [] rfl ?_
      refine ww_perm (ws1 := []) [] rfl ?_
      refine ww_mk hx hb hml hown hts hK hN hA (d_nil) kw_385 cs_L_98 ⟨by show _ ≤ 492; omega, by show _ ≤ 3232; omega⟩ dL_plans_486 dL_plans_489 dL_plans_490 (by decide) (Nat.le_of_ble_eq_true rfl) (fun q hDD => ?_)
      refine ww_astore_n (i := 3) (lv1 := [(3, .ref (q 0))]) hx hb dL_plans_493 rfl (by decide) [0] rfl ?_
      refine ww_aload_n hx hb dL_plans_494 rfl 0 rfl ?_
      refine ww_iconst (v := 3) hx hb dL_plans_495 (by decide) ?_
      refine ww_iconst (v := 1) hx hb dL_plans_496 (by decide) ?_
      obtain ⟨r_83, σ_83, e_83, h⟩ := obx h
      refine ww_callXI (w01 := WC q cA σ_83) (st1 := [.int (r_83)]) hx hb hml hown hts hK hN hA hZ [.int ((3 : Int32)), .int ((1 : Int32))] [] (m_X4_setOut hl0 _ _ _ _ _ e_83) cs_L_7 rfl ⟨Nat.le_of_ble_eq_true rfl, Nat.le_of_ble_eq_true rfl⟩ ⟨by show _ ≤ 492; omega, by show _ ≤ 3232; omega⟩ (hDD _) 0 rfl rfl rfl (Nat.le_of_ble_eq_true rfl) dL_plans_497 rfl ?_
      refine ww_ne0 (tgt := 708) hx hb dL_plans_500 (by decide) (fun c_84 => ?_) (fun c_84 => ?_)
      · replace h := it_n c_84 h
        refine ww_iconst (v := 0) hx hb dL_plans_708 (by decide) ?_
        obtain rfl := os1 h
        refine ww_perm (ws1 := []) [] rfl ?_
        exact ww_kzret hx hb (by omega) (by omega) hr hlk (by decide) rfl dL_plans_709
      · replace h := it_p c_84 h
        refine ww_aload_n hx hb dL_plans_503 rfl 0 rfl ?_
        refine ww_iconst (v := 1) hx hb dL_plans_504 (by decide) ?_
        refine ww_sipush (v := 1000) hx hb dL_plans_505 (by decide) ?_
        obtain ⟨r_85, σ_85, e_85, h⟩ := obx h
        refine ww_callXI (w01 := WC q cA σ_85) (st1 := [.int (r_85)]) hx hb hml hown hts hK hN hA hZ [.int ((1 : Int32)), .int ((1000 : Int32))] [] (m_X4_setRates hl0 _ _ _ _ _ e_85) cs_L_16 rfl ⟨Nat.le_of_ble_eq_true rfl, Nat.le_of_ble_eq_true rfl⟩ ⟨by show _ ≤ 492; omega, by show _ ≤ 3232; omega⟩ (hDD _) 0 rfl rfl rfl (Nat.le_of_ble_eq_true rfl) dL_plans_508 rfl ?_
        refine ww_bipush (v := 100) hx hb dL_plans_511 (by decide) ?_
        refine ww_ne2 (tgt := 708) hx hb dL_plans_513 (by decide) (fun c_86 => ?_) (fun c_86 => ?_)
        · replace h := it_n c_86 h
          refine ww_iconst (v := 0) hx hb dL_plans_708 (by decide) ?_
          obtain rfl := os1 h
          refine ww_perm (ws1 := []) [] rfl ?_
          exact ww_kzret hx hb (by omega) (by omega) hr hlk (by decide) rfl dL_plans_709
        · replace h := it_p c_86 h
          refine ww_aload_n hx hb dL_plans_516 rfl 0 rfl ?_
          refine ww_bipush (v := 100) hx hb dL_plans_517 (by decide) ?_
          obtain ⟨r_87, σ_87, e_87, h⟩ := obx h
          refine ww_callXI (w01 := WC q cA σ_87) (st1 := [.int (r_87)]) hx hb hml hown hts hK hN hA hZ [.int ((100 : Int32))] [] (m_X4_grant hl0 _ _ _ _ e_87) cs_L_27 rfl ⟨Nat.le_of_ble_eq_true rfl, Nat.le_of_ble_eq_true rfl⟩ ⟨by show _ ≤ 492; omega, by show _ ≤ 3232; omega⟩ (hDD _) 0 rfl rfl rfl (Nat.le_of_ble_eq_true rfl) dL_plans_519 rfl ?_
          refine ww_bipush (v := 100) hx hb dL_plans_522 (by decide) ?_
          refine ww_ne2 (tgt := 708) hx hb dL_plans_524 (by decide) (fun c_88 => ?_) (fun c_88 => ?_)
          · replace h := it_n c_88 h
            refine ww_iconst (v := 0) hx hb dL_plans_708 (by decide) ?_
            obtain rfl := os1 h
            refine ww_perm (ws1 := []) [] rfl ?_
            exact ww_kzret hx hb (by omega) (by omega) hr hlk (by decide) rfl dL_plans_709
          · replace h := it_p c_88 h
            refine ww_aload_n hx hb dL_plans_527 rfl 0 rfl ?_
            refine ww_iconst (v := 2) hx hb dL_plans_528 (by decide) ?_
            refine ww_iconst (v := 3) hx hb dL_plans_529 (by decide) ?_
            refine ww_iconst (v := 0) hx hb dL_plans_530 (by decide) ?_
            refine ww_iconst (v := 0) hx hb dL_plans_531 (by decide) ?_
            refine ww_iconst (v := 0) hx hb dL_plans_532 (by decide) ?_
            obtain ⟨r_89, σ_89, e_89, h⟩ := obx h
            refine ww_callXI (w01 := WC q cA σ_89) (st1 := [.int (r_89)]) hx hb hml hown hts hK hN hA hZ [.int ((2 : Int32)), .int ((3 : Int32)), .int ((0 : Int32)), .int ((0 : Int32)), .int ((0 : Int32))] [] (m_X4_addScene hl0 _ _ _ _ _ _ _ _ e_89) cs_L_69 rfl ⟨Nat.le_of_ble_eq_true rfl, Nat.le_of_ble_eq_true rfl⟩ ⟨by show _ ≤ 492; omega, by show _ ≤ 3232; omega⟩ (hDD _) 0 rfl rfl rfl (Nat.le_of_ble_eq_true rfl) dL_plans_533 rfl ?_
            refine ww_ne0 (tgt := 708) hx hb dL_plans_536 (by decide) (fun c_90 => ?_) (fun c_90 => ?_)
            · replace h := it_n c_90 h
              refine ww_iconst (v := 0) hx hb dL_plans_708 (by decide) ?_
              obtain rfl := os1 h
              refine ww_perm (ws1 := []) [] rfl ?_
              exact ww_kzret hx hb (by omega) (by omega) hr hlk (by decide) rfl dL_plans_709
            · replace h := it_p c_90 h
              refine ww_aload_n hx hb dL_plans_539 rfl 0 rfl ?_
              refine ww_iconst (v := 2) hx hb dL_plans_540 (by decide) ?_
              refine ww_iconst (v := 0) hx hb dL_plans_541 (by decide) ?_
              refine ww_iconst (v := 0) hx hb dL_plans_542 (by decide) ?_
              refine ww_iconst (v := 0) hx hb dL_plans_543 (by decide) ?_
              refine ww_iconst (v := 1) hx hb dL_plans_544 (by decide) ?_
              obtain ⟨r_91, σ_91, e_91, h⟩ := obx h
              refine ww_callXI (w01 := WC q cA σ_91) (st1 := [.int (r_91)]) hx hb hml hown hts hK hN hA hZ [.int ((2 : Int32)), .int ((0 : Int32)), .int ((0 : Int32)), .int ((0 : Int32)), .int ((1 : Int32))] [] (m_X4_addScene hl0 _ _ _ _ _ _ _ _ e_91) cs_L_69 rfl ⟨Nat.le_of_ble_eq_true rfl, Nat.le_of_ble_eq_true rfl⟩ ⟨by show _ ≤ 492; omega, by show _ ≤ 3232; omega⟩ (hDD _) 0 rfl rfl rfl (Nat.le_of_ble_eq_true rfl) dL_plans_545 rfl ?_
              refine ww_iconst (v := 1) hx hb dL_plans_548 (by decide) ?_
              refine ww_ne2 (tgt := 708) hx hb dL_plans_549 (by decide) (fun c_92 => ?_) (fun c_92 => ?_)
              · replace h := it_n c_92 h
                refine ww_iconst (v := 0) hx hb dL_plans_708 (by decide) ?_
                obtain rfl := os1 h
                refine ww_perm (ws1 := []) [] rfl ?_
                exact ww_kzret hx hb (by omega) (by omega) hr hlk (by decide) rfl dL_plans_709
              · replace h := it_p c_92 h
                exact ww_sub (lv1 := [(3, .ref (q 0))]) [0] rfl (bk552 _ hDD _ _ (by omega) (by omega) _ h)
    · replace h := it_n c_82 h
      refine ww_iconst (v := 0) hx hb dL_plans_484 (by decide) ?_
      obtain rfl := os1 h
      refine ww_perm (ws1 := []) [] rfl ?_
      exact ww_kzret hx hb (by omega) (by omega) hr hlk (by decide) rfl dL_plans_485
  have bk407 : ∀ (q : Nat → Nat) (hDD : ∀ τ : SS, va_D (va_A [] s.heap.size) (WC q cA τ)) (cells slots : Nat) (hc : cells + 376 ≤ 492) (hs : slots + 2368 ≤ 3232) (τ : SS) , L_plans_b407 τ = some r → WW p l e (rmc 25 1000 492 3232) s m args below meth c D vwCl (va_A [] s.heap.size) 6 cells slots (vx_MQ below (qxW D vwCl [] [] (.inl r) s.heap.size) (xcW D vwCl [] [] (.inl r) s.heap.size) args s 492 3232 (va_A [] s.heap.size)) (WC q cA τ) 407 [(2, .ref (q 0))] [] := by
    intro q hDD cells slots hc hs τ h
    unfold L_plans_b407 at h
    refine ww_aload_n hx hb dL_plans_407 rfl 0 rfl ?_
    refine ww_iconst (v := 2) hx hb dL_plans_408 (by decide) ?_
    refine ww_bipush (v := 8) hx hb dL_plans_409 (by decide) ?_
    refine ww_bipush (v := 11) hx hb dL_plans_411 (by decide) ?_
    refine ww_bipush (v := 32) hx hb dL_plans_413 (by decide) ?_
    obtain ⟨r_69, σ_69, e_69, h⟩ := ob2 h
    refine ww_callK (w01 := WC q cA σ_69) (st1 := [.int (r_69)]) hx hb hml hown hts hK hN hA hZ [.ref (q 0), .int ((2 : Int32)), .int ((8 : Int32)), .int ((11 : Int32)), .int ((32 : Int32))] [] (m_L_plan hl0 _ _ _ _ _ _ _ e_69) cs_L_105 rfl ⟨Nat.le_of_ble_eq_true rfl, Nat.le_of_ble_eq_true rfl⟩ ⟨by show _ ≤ 492; omega, by show _ ≤ 3232; omega⟩ (hDD _) rfl (Nat.le_of_ble_eq_true rfl) dL_plans_415 rfl ?_
    refine ww_eq0 (tgt := 484) hx hb dL_plans_418 (by decide) (fun c_70 => ?_) (fun c_70 => ?_)
    · replace h := it_p c_70 h
      refine ww_iconst (v := 0) hx hb dL_plans_484 (by decide) ?_
      obtain rfl := os1 h
      refine ww_perm (ws1 := []) [] rfl ?_
      exact ww_kzret hx hb (by omega) (by omega) hr hlk (by decide) rfl dL_plans_485
    · replace h := it_n c_70 h
      refine ww_aload_n hx hb dL_plans_421 rfl 0 rfl ?_
      refine ww_iconst (v := 4) hx hb dL_plans_422 (by decide) ?_
      refine ww_iconst (v := 1) hx hb dL_plans_423 (by decide) ?_
      obtain ⟨r_71, σ_71, e_71, h⟩ := obx h
      refine ww_callXI (w01 := WC q cA σ_71) (st1 := [.int (r_71)]) hx hb hml hown hts hK hN hA hZ [.int ((4 : Int32)), .int ((1 : Int32))] [] (m_X4_setChild hl0 _ _ _ _ _ e_71) cs_L_13 rfl ⟨Nat.le_of_ble_eq_true rfl, Nat.le_of_ble_eq_true rfl⟩ ⟨by show _ ≤ 492; omega, by show _ ≤ 3232; omega⟩ (hDD _) 0 rfl rfl rfl (Nat.le_of_ble_eq_true rfl) dL_plans_424 rfl ?_
      refine ww_ne0 (tgt := 484) hx hb dL_plans_427 (by decide) (fun c_72 => ?_) (fun c_72 => ?_)
      · replace h := it_n c_72 h
        refine ww_iconst (v := 0) hx hb dL_plans_484 (by decide) ?_
        obtain rfl := os1 h
        refine ww_perm (ws1 := []) [] rfl ?_
        exact ww_kzret hx hb (by omega) (by omega) hr hlk (by decide) rfl dL_plans_485
      · replace h := it_p c_72 h
        refine ww_aload_n hx hb dL_plans_430 rfl 0 rfl ?_
        refine ww_iconst (v := 2) hx hb dL_plans_431 (by decide) ?_
        refine ww_bipush (v := 8) hx hb dL_plans_432 (by decide) ?_
        refine ww_bipush (v := 11) hx hb dL_plans_434 (by decide) ?_
        refine ww_bipush (v := 32) hx hb dL_plans_436 (by decide) ?_
        obtain ⟨r_73, σ_73, e_73, h⟩ := ob2 h
        refine ww_callK (w01 := WC q cA σ_73) (st1 := [.int (r_73)]) hx hb hml hown hts hK hN hA hZ [.ref (q 0), .int ((2 : Int32)), .int ((8 : Int32)), .int ((11 : Int32)), .int ((32 : Int32))] [] (m_L_plan hl0 _ _ _ _ _ _ _ e_73) cs_L_105 rfl ⟨Nat.le_of_ble_eq_true rfl, Nat.le_of_ble_eq_true rfl⟩ ⟨by show _ ≤ 492; omega, by show _ ≤ 3232; omega⟩ (hDD _) rfl (Nat.le_of_ble_eq_true rfl) dL_plans_438 rfl ?_
        refine ww_eq0 (tgt := 484) hx hb dL_plans_441 (by decide) (fun c_74 => ?_) (fun c_74 => ?_)
        · replace h := it_p c_74 h
          refine ww_iconst (v := 0) hx hb dL_plans_484 (by decide) ?_
          obtain rfl := os1 h
          refine ww_perm (ws1 := []) [] rfl ?_
          exact ww_kzret hx hb (by omega) (by omega) hr hlk (by decide) rfl dL_plans_485
        · replace h := it_n c_74 h
          refine ww_aload_n hx hb dL_plans_444 rfl 0 rfl ?_
          refine ww_iconst (v := 5) hx hb dL_plans_445 (by decide) ?_
          refine ww_iconst (v := 0) hx hb dL_plans_446 (by decide) ?_
          obtain ⟨r_75, σ_75, e_75, h⟩ := obx h
          refine ww_callXI (w01 := WC q cA σ_75) (st1 := [.int (r_75)]) hx hb hml hown hts hK hN hA hZ [.int ((5 : Int32)), .int ((0 : Int32))] [] (m_X4_setChild hl0 _ _ _ _ _ e_75) cs_L_13 rfl ⟨Nat.le_of_ble_eq_true rfl, Nat.le_of_ble_eq_true rfl⟩ ⟨by show _ ≤ 492; omega, by show _ ≤ 3232; omega⟩ (hDD _) 0 rfl rfl rfl (Nat.le_of_ble_eq_true rfl) dL_plans_447 rfl ?_
          refine ww_eq0 (tgt := 484) hx hb dL_plans_450 (by decide) (fun c_76 => ?_) (fun c_76 => ?_)
          · replace h := it_p c_76 h
            refine ww_iconst (v := 0) hx hb dL_plans_484 (by decide) ?_
            obtain rfl := os1 h
            refine ww_perm (ws1 := []) [] rfl ?_
            exact ww_kzret hx hb (by omega) (by omega) hr hlk (by decide) rfl dL_plans_485
          · replace h := it_n c_76 h
            refine ww_aload_n hx hb dL_plans_453 rfl 0 rfl ?_
            refine ww_iconst (v := 1) hx hb dL_plans_454 (by decide) ?_
            refine ww_bipush (v := 8) hx hb dL_plans_455 (by decide) ?_
            refine ww_bipush (v := 11) hx hb dL_plans_457 (by decide) ?_
            refine ww_bipush (v := 14) hx hb dL_plans_459 (by decide) ?_
            obtain ⟨r_77, σ_77, e_77, h⟩ := ob2 h
            refine ww_callK (w01 := WC q cA σ_77) (st1 := [.int (r_77)]) hx hb hml hown hts hK hN hA hZ [.ref (q 0), .int ((1 : Int32)), .int ((8 : Int32)), .int ((11 : Int32)), .int ((14 : Int32))] [] (m_L_plan hl0 _ _ _ _ _ _ _ e_77) cs_L_105 rfl ⟨Nat.le_of_ble_eq_true rfl, Nat.le_of_ble_eq_true rfl⟩ ⟨by show _ ≤ 492; omega, by show _ ≤ 3232; omega⟩ (hDD _) rfl (Nat.le_of_ble_eq_true rfl) dL_plans_461 rfl ?_
            refine ww_eq0 (tgt := 484) hx hb dL_plans_464 (by decide) (fun c_78 => ?_) (fun c_78 => ?_)
            · replace h := it_p c_78 h
              refine ww_iconst (v := 0) hx hb dL_plans_484 (by decide) ?_
              obtain rfl := os1 h
              refine ww_perm (ws1 := []) [] rfl ?_
              exact ww_kzret hx hb (by omega) (by omega) hr hlk (by decide) rfl dL_plans_485
            · replace h := it_n c_78 h
              refine ww_aload_n hx hb dL_plans_467 rfl 0 rfl ?_
              refine ww_iconst (v := 5) hx hb dL_plans_468 (by decide) ?_
              refine ww_iconst (v := 1) hx hb dL_plans_469 (by decide) ?_
              obtain ⟨r_79, σ_79, e_79, h⟩ := obx h
              refine ww_callXI (w01 := WC q cA σ_79) (st1 := [.int (r_79)]) hx hb hml hown hts hK hN hA hZ [.int ((5 : Int32)), .int ((1 : Int32))] [] (m_X4_setChild hl0 _ _ _ _ _ e_79) cs_L_13 rfl ⟨Nat.le_of_ble_eq_true rfl, Nat.le_of_ble_eq_true rfl⟩ ⟨by show _ ≤ 492; omega, by show _ ≤ 3232; omega⟩ (hDD _) 0 rfl rfl rfl (Nat.le_of_ble_eq_true rfl) dL_plans_470 rfl ?_
              refine ww_ne0 (tgt := 484) hx hb dL_plans_473 (by decide) (fun c_80 => ?_) (fun c_80 => ?_)
              · replace h := it_n c_80 h
                refine ww_iconst (v := 0) hx hb dL_plans_484 (by decide) ?_
                obtain rfl := os1 h
                refine ww_perm (ws1 := []) [] rfl ?_
                exact ww_kzret hx hb (by omega) (by omega) hr hlk (by decide) rfl dL_plans_485
              · replace h := it_p c_80 h
                exact ww_sub (lv1 := [(2, .ref (q 0))]) [0] rfl (bk476 _ hDD _ _ (by omega) (by omega) _ h)
  have bk318 : ∀ (q : Nat → Nat) (hDD : ∀ τ : SS, va_D (va_A [] s.heap.size) (WC q cA τ)) (cells slots : Nat) (hc : cells + 407 ≤ 492) (hs : slots + 2610 ≤ 3232) (τ : SS) , L_plans_b318 τ = some r → WW p l e (rmc 25 1000 492 3232) s m args below meth c D vwCl (va_A [] s.heap.size) 6 cells slots (vx_MQ below (qxW D vwCl [] [] (.inl r) s.heap.size) (xcW D vwCl [] [] (.inl r) s.heap.size) args s 492 3232 (va_A [] s.heap.size)) (WC q cA τ) 318 [(1, .ref (q 0))] [] := by
    intro q hDD cells slots hc hs τ h
    unfold L_plans_b318 at h
    refine ww_aload_n hx hb dL_plans_318 rfl 0 rfl ?_
    refine ww_iconst (v := 0) hx hb dL_plans_319 (by decide) ?_
    obtain ⟨r_55, σ_55, e_55, h⟩ := obx h
    refine ww_callXI (w01 := WC q cA σ_55) (st1 := [.int (r_55)]) hx hb hml hown hts hK hN hA hZ [.int ((0 : Int32))] [] (m_X4_shoot hl0 _ _ _ _ e_55) cs_L_20 rfl ⟨Nat.le_of_ble_eq_true rfl, Nat.le_of_ble_eq_true rfl⟩ ⟨by show _ ≤ 492; omega, by show _ ≤ 3232; omega⟩ (hDD _) 0 rfl rfl rfl (Nat.le_of_ble_eq_true rfl) dL_plans_320 rfl ?_
    refine ww_iconst (v := 1) hx hb dL_plans_323 (by decide) ?_
    refine ww_ne2 (tgt := 334) hx hb dL_plans_324 (by decide) (fun c_56 => ?_) (fun c_56 => ?_)
    · replace h := it_n c_56 h
      refine ww_iconst (v := 0) hx hb dL_plans_334 (by decide) ?_
      obtain rfl := os1 h
      refine ww_perm (ws1 := []) [] rfl ?_
      exact ww_kzret hx hb (by omega) (by omega) hr hlk (by decide) rfl dL_plans_335
    · replace h := it_p c_56 h
      refine ww_aload_n hx hb dL_plans_327 rfl 0 rfl ?_
      obtain ⟨r_57, σ_57, e_57, h⟩ := ob2 h
      refine ww_callV (ws1 := WC q cA σ_57) (st1 := [.int (r_57)]) hx hb hml hown hts hK hN hA (hDD _) (by show _ ≤ 492; omega) (by show _ ≤ 3232; omega) [] [] (m_X4_days _  _ _ e_57) cs_L_73 rfl ⟨Nat.le_of_ble_eq_true rfl, Nat.le_of_ble_eq_true rfl⟩ 0 rfl rfl rfl (Nat.le_of_ble_eq_true rfl) dL_plans_328 rfl ?_
      refine ww_eq0 (tgt := 336) hx hb dL_plans_331 (by decide) (fun c_58 => ?_) (fun c_58 => ?_)
      · replace h := it_p c_58 h
        refine ww_sub (lv1 := []) [] rfl ?_
        refine ww_perm (ws1 := []) [] rfl ?_
        refine ww_mk hx hb hml hown hts hK hN hA (d_nil) kw_385 cs_L_98 ⟨by show _ ≤ 492; omega, by show _ ≤ 3232; omega⟩ dL_plans_336 dL_plans_339 dL_plans_340 (by decide) (Nat.le_of_ble_eq_true rfl) (fun q hDD => ?_)
        refine ww_astore_n (i := 2) (lv1 := [(2, .ref (q 0))]) hx hb dL_plans_343 rfl (by decide) [0] rfl ?_
        refine ww_aload_n hx hb dL_plans_344 rfl 0 rfl ?_
        refine ww_iconst (v := 5) hx hb dL_plans_345 (by decide) ?_
        refine ww_iconst (v := 1) hx hb dL_plans_346 (by decide) ?_
        obtain ⟨r_59, σ_59, e_59, h⟩ := obx h
        refine ww_callXI (w01 := WC q cA σ_59) (st1 := [.int (r_59)]) hx hb hml hown hts hK hN hA hZ [.int ((5 : Int32)), .int ((1 : Int32))] [] (m_X4_setChild hl0 _ _ _ _ _ e_59) cs_L_13 rfl ⟨Nat.le_of_ble_eq_true rfl, Nat.le_of_ble_eq_true rfl⟩ ⟨by show _ ≤ 492; omega, by show _ ≤ 3232; omega⟩ (hDD _) 0 rfl rfl rfl (Nat.le_of_ble_eq_true rfl) dL_plans_347 rfl ?_
        refine ww_ne0 (tgt := 484) hx hb dL_plans_350 (by decide) (fun c_60 => ?_) (fun c_60 => ?_)
        · replace h := it_n c_60 h
          refine ww_iconst (v := 0) hx hb dL_plans_484 (by decide) ?_
          obtain rfl := os1 h
          refine ww_perm (ws1 := []) [] rfl ?_
          exact ww_kzret hx hb (by omega) (by omega) hr hlk (by decide) rfl dL_plans_485
        · replace h := it_p c_60 h
          refine ww_aload_n hx hb dL_plans_353 rfl 0 rfl ?_
          refine ww_iconst (v := 3) hx hb dL_plans_354 (by decide) ?_
          refine ww_iconst (v := 2) hx hb dL_plans_355 (by decide) ?_
          refine ww_bipush (v := 32) hx hb dL_plans_356 (by decide) ?_
          refine ww_iconst (v := 0) hx hb dL_plans_358 (by decide) ?_
          refine ww_iconst (v := 0) hx hb dL_plans_359 (by decide) ?_
          obtain ⟨r_61, σ_61, e_61, h⟩ := obx h
          refine ww_callXI (w01 := WC q cA σ_61) (st1 := [.int (r_61)]) hx hb hml hown hts hK hN hA hZ [.int ((3 : Int32)), .int ((2 : Int32)), .int ((32 : Int32)), .int ((0 : Int32)), .int ((0 : Int32))] [] (m_X4_addScene hl0 _ _ _ _ _ _ _ _ e_61) cs_L_69 rfl ⟨Nat.le_of_ble_eq_true rfl, Nat.le_of_ble_eq_true rfl⟩ ⟨by show _ ≤ 492; omega, by show _ ≤ 3232; omega⟩ (hDD _) 0 rfl rfl rfl (Nat.le_of_ble_eq_true rfl) dL_plans_360 rfl ?_
          refine ww_ne0 (tgt := 484) hx hb dL_plans_363 (by decide) (fun c_62 => ?_) (fun c_62 => ?_)
          · replace h := it_n c_62 h
            refine ww_iconst (v := 0) hx hb dL_plans_484 (by decide) ?_
            obtain rfl := os1 h
            refine ww_perm (ws1 := []) [] rfl ?_
            exact ww_kzret hx hb (by omega) (by omega) hr hlk (by decide) rfl dL_plans_485
          · replace h := it_p c_62 h
            refine ww_aload_n hx hb dL_plans_366 rfl 0 rfl ?_
            refine ww_iconst (v := 3) hx hb dL_plans_367 (by decide) ?_
            refine ww_iconst (v := 2) hx hb dL_plans_368 (by decide) ?_
            refine ww_bipush (v := 48) hx hb dL_plans_369 (by decide) ?_
            refine ww_iconst (v := 0) hx hb dL_plans_371 (by decide) ?_
            refine ww_iconst (v := 0) hx hb dL_plans_372 (by decide) ?_
            obtain ⟨r_63, σ_63, e_63, h⟩ := obx h
            refine ww_callXI (w01 := WC q cA σ_63) (st1 := [.int (r_63)]) hx hb hml hown hts hK hN hA hZ [.int ((3 : Int32)), .int ((2 : Int32)), .int ((48 : Int32)), .int ((0 : Int32)), .int ((0 : Int32))] [] (m_X4_addScene hl0 _ _ _ _ _ _ _ _ e_63) cs_L_69 rfl ⟨Nat.le_of_ble_eq_true rfl, Nat.le_of_ble_eq_true rfl⟩ ⟨by show _ ≤ 492; omega, by show _ ≤ 3232; omega⟩ (hDD _) 0 rfl rfl rfl (Nat.le_of_ble_eq_true rfl) dL_plans_373 rfl ?_
            refine ww_iconst (v := 1) hx hb dL_plans_376 (by decide) ?_
            refine ww_ne2 (tgt := 484) hx hb dL_plans_377 (by decide) (fun c_64 => ?_) (fun c_64 => ?_)
            · replace h := it_n c_64 h
              refine ww_iconst (v := 0) hx hb dL_plans_484 (by decide) ?_
              obtain rfl := os1 h
              refine ww_perm (ws1 := []) [] rfl ?_
              exact ww_kzret hx hb (by omega) (by omega) hr hlk (by decide) rfl dL_plans_485
            · replace h := it_p c_64 h
              refine ww_aload_n hx hb dL_plans_380 rfl 0 rfl ?_
              refine ww_iconst (v := 1) hx hb dL_plans_381 (by decide) ?_
              refine ww_bipush (v := 8) hx hb dL_plans_382 (by decide) ?_
              refine ww_bipush (v := 11) hx hb dL_plans_384 (by decide) ?_
              refine ww_iconst (v := -1) hx hb dL_plans_386 (by decide) ?_
              obtain ⟨r_65, σ_65, e_65, h⟩ := ob2 h
              refine ww_callK (w01 := WC q cA σ_65) (st1 := [.int (r_65)]) hx hb hml hown hts hK hN hA hZ [.ref (q 0), .int ((1 : Int32)), .int ((8 : Int32)), .int ((11 : Int32)), .int ((-1 : Int32))] [] (m_L_plan hl0 _ _ _ _ _ _ _ e_65) cs_L_105 rfl ⟨Nat.le_of_ble_eq_true rfl, Nat.le_of_ble_eq_true rfl⟩ ⟨by show _ ≤ 492; omega, by show _ ≤ 3232; omega⟩ (hDD _) rfl (Nat.le_of_ble_eq_true rfl) dL_plans_387 rfl ?_
              refine ww_eq0 (tgt := 484) hx hb dL_plans_390 (by decide) (fun c_66 => ?_) (fun c_66 => ?_)
              · replace h := it_p c_66 h
                refine ww_iconst (v := 0) hx hb dL_plans_484 (by decide) ?_
                obtain rfl := os1 h
                refine ww_perm (ws1 := []) [] rfl ?_
                exact ww_kzret hx hb (by omega) (by omega) hr hlk (by decide) rfl dL_plans_485
              · replace h := it_n c_66 h
                refine ww_aload_n hx hb dL_plans_393 rfl 0 rfl ?_
                refine ww_iconst (v := 1) hx hb dL_plans_394 (by decide) ?_
                refine ww_iconst (v := 2) hx hb dL_plans_395 (by decide) ?_
                refine ww_bipush (v := 48) hx hb dL_plans_396 (by decide) ?_
                refine ww_iconst (v := 0) hx hb dL_plans_398 (by decide) ?_
                refine ww_iconst (v := 0) hx hb dL_plans_399 (by decide) ?_
                obtain ⟨r_67, σ_67, e_67, h⟩ := obx h
                refine ww_callXI (w01 := WC q cA σ_67) (st1 := [.int (r_67)]) hx hb hml hown hts hK hN hA hZ [.int ((1 : Int32)), .int ((2 : Int32)), .int ((48 : Int32)), .int ((0 : Int32)), .int ((0 : Int32))] [] (m_X4_addScene hl0 _ _ _ _ _ _ _ _ e_67) cs_L_69 rfl ⟨Nat.le_of_ble_eq_true rfl, Nat.le_of_ble_eq_true rfl⟩ ⟨by show _ ≤ 492; omega, by show _ ≤ 3232; omega⟩ (hDD _) 0 rfl rfl rfl (Nat.le_of_ble_eq_true rfl) dL_plans_400 rfl ?_
                refine ww_iconst (v := 2) hx hb dL_plans_403 (by decide) ?_
                refine ww_ne2 (tgt := 484) hx hb dL_plans_404 (by decide) (fun c_68 => ?_) (fun c_68 => ?_)
                · replace h := it_n c_68 h
                  refine ww_iconst (v := 0) hx hb dL_plans_484 (by decide) ?_
                  obtain rfl := os1 h
                  refine ww_perm (ws1 := []) [] rfl ?_
                  exact ww_kzret hx hb (by omega) (by omega) hr hlk (by decide) rfl dL_plans_485
                · replace h := it_p c_68 h
                  exact ww_sub (lv1 := [(2, .ref (q 0))]) [0] rfl (bk407 _ hDD _ _ (by omega) (by omega) _ h)
      · replace h := it_n c_58 h
        refine ww_iconst (v := 0) hx hb dL_plans_334 (by decide) ?_
        obtain rfl := os1 h
        refine ww_perm (ws1 := []) [] rfl ?_
        exact ww_kzret hx hb (by omega) (by omega) hr hlk (by decide) rfl dL_plans_335
  have bk263 : ∀ (q : Nat → Nat) (hDD : ∀ τ : SS, va_D (va_A [] s.heap.size) (WC q cA τ)) (cells slots : Nat) (hc : cells + 411 ≤ 492) (hs : slots + 2634 ≤ 3232) (τ : SS) , L_plans_b263 τ = some r → WW p l e (rmc 25 1000 492 3232) s m args below meth c D vwCl (va_A [] s.heap.size) 6 cells slots (vx_MQ below (qxW D vwCl [] [] (.inl r) s.heap.size) (xcW D vwCl [] [] (.inl r) s.heap.size) args s 492 3232 (va_A [] s.heap.size)) (WC q cA τ) 263 [(1, .ref (q 0))] [] := by
    intro q hDD cells slots hc hs τ h
    unfold L_plans_b263 at h
    refine ww_aload_n hx hb dL_plans_263 rfl 0 rfl ?_
    refine ww_iconst (v := 3) hx hb dL_plans_264 (by decide) ?_
    obtain ⟨r_43, σ_43, e_43, h⟩ := obx h
    refine ww_callXI (w01 := WC q cA σ_43) (st1 := [.int (r_43)]) hx hb hml hown hts hK hN hA hZ [.int ((3 : Int32))] [] (m_X4_begins hl0 _ _ _ _ e_43) cs_L_51 rfl ⟨Nat.le_of_ble_eq_true rfl, Nat.le_of_ble_eq_true rfl⟩ ⟨by show _ ≤ 492; omega, by show _ ≤ 3232; omega⟩ (hDD _) 0 rfl rfl rfl (Nat.le_of_ble_eq_true rfl) dL_plans_265 rfl ?_
    refine ww_bipush (v := 56) hx hb dL_plans_268 (by decide) ?_
    refine ww_ne2 (tgt := 334) hx hb dL_plans_270 (by decide) (fun c_44 => ?_) (fun c_44 => ?_)
    · replace h := it_n c_44 h
      refine ww_iconst (v := 0) hx hb dL_plans_334 (by decide) ?_
      obtain rfl := os1 h
      refine ww_perm (ws1 := []) [] rfl ?_
      exact ww_kzret hx hb (by omega) (by omega) hr hlk (by decide) rfl dL_plans_335
    · replace h := it_p c_44 h
      refine ww_aload_n hx hb dL_plans_273 rfl 0 rfl ?_
      refine ww_iconst (v := 0) hx hb dL_plans_274 (by decide) ?_
      obtain ⟨r_45, σ_45, e_45, h⟩ := obx h
      refine ww_callXI (w01 := WC q cA σ_45) (st1 := [.int (r_45)]) hx hb hml hown hts hK hN hA hZ [.int ((0 : Int32))] [] (m_X4_shoot hl0 _ _ _ _ e_45) cs_L_20 rfl ⟨Nat.le_of_ble_eq_true rfl, Nat.le_of_ble_eq_true rfl⟩ ⟨by show _ ≤ 492; omega, by show _ ≤ 3232; omega⟩ (hDD _) 0 rfl rfl rfl (Nat.le_of_ble_eq_true rfl) dL_plans_275 rfl ?_
      refine ww_iconst (v := 2) hx hb dL_plans_278 (by decide) ?_
      refine ww_ne2 (tgt := 334) hx hb dL_plans_279 (by decide) (fun c_46 => ?_) (fun c_46 => ?_)
      · replace h := it_n c_46 h
        refine ww_iconst (v := 0) hx hb dL_plans_334 (by decide) ?_
        obtain rfl := os1 h
        refine ww_perm (ws1 := []) [] rfl ?_
        exact ww_kzret hx hb (by omega) (by omega) hr hlk (by decide) rfl dL_plans_335
      · replace h := it_p c_46 h
        refine ww_aload_n hx hb dL_plans_282 rfl 0 rfl ?_
        refine ww_callV (ws1 := WC q cA σ_45) (st1 := [.int (X4_today σ_45)]) hx hb hml hown hts hK hN hA (hDD _) (by show _ ≤ 492; omega) (by show _ ≤ 3232; omega) [] [] (m_X4_today σ_45) cs_L_99 rfl ⟨Nat.le_of_ble_eq_true rfl, Nat.le_of_ble_eq_true rfl⟩ 0 rfl rfl rfl (Nat.le_of_ble_eq_true rfl) dL_plans_283 rfl ?_
        refine ww_iconst (v := 2) hx hb dL_plans_286 (by decide) ?_
        refine ww_ne2 (tgt := 334) hx hb dL_plans_287 (by decide) (fun c_48 => ?_) (fun c_48 => ?_)
        · replace h := it_n c_48 h
          refine ww_iconst (v := 0) hx hb dL_plans_334 (by decide) ?_
          obtain rfl := os1 h
          refine ww_perm (ws1 := []) [] rfl ?_
          exact ww_kzret hx hb (by omega) (by omega) hr hlk (by decide) rfl dL_plans_335
        · replace h := it_p c_48 h
          refine ww_aload_n hx hb dL_plans_290 rfl 0 rfl ?_
          obtain ⟨r_49, σ_49, e_49, h⟩ := ob2 h
          refine ww_callV (ws1 := WC q cA σ_49) (st1 := [.int (r_49)]) hx hb hml hown hts hK hN hA (hDD _) (by show _ ≤ 492; omega) (by show _ ≤ 3232; omega) [] [] (m_X4_days _  _ _ e_49) cs_L_73 rfl ⟨Nat.le_of_ble_eq_true rfl, Nat.le_of_ble_eq_true rfl⟩ 0 rfl rfl rfl (Nat.le_of_ble_eq_true rfl) dL_plans_291 rfl ?_
          refine ww_iconst (v := 1) hx hb dL_plans_294 (by decide) ?_
          refine ww_ne2 (tgt := 334) hx hb dL_plans_295 (by decide) (fun c_50 => ?_) (fun c_50 => ?_)
          · replace h := it_n c_50 h
            refine ww_iconst (v := 0) hx hb dL_plans_334 (by decide) ?_
            obtain rfl := os1 h
            refine ww_perm (ws1 := []) [] rfl ?_
            exact ww_kzret hx hb (by omega) (by omega) hr hlk (by decide) rfl dL_plans_335
          · replace h := it_p c_50 h
            refine ww_aload_n hx hb dL_plans_298 rfl 0 rfl ?_
            refine ww_iconst (v := 3) hx hb dL_plans_299 (by decide) ?_
            obtain ⟨r_51, σ_51, e_51, h⟩ := obx h
            refine ww_callXI (w01 := WC q cA σ_51) (st1 := [.int (r_51)]) hx hb hml hown hts hK hN hA hZ [.int ((3 : Int32))] [] (m_X4_begins hl0 _ _ _ _ e_51) cs_L_51 rfl ⟨Nat.le_of_ble_eq_true rfl, Nat.le_of_ble_eq_true rfl⟩ ⟨by show _ ≤ 492; omega, by show _ ≤ 3232; omega⟩ (hDD _) 0 rfl rfl rfl (Nat.le_of_ble_eq_true rfl) dL_plans_300 rfl ?_
            refine ww_bipush (v := 56) hx hb dL_plans_303 (by decide) ?_
            refine ww_ne2 (tgt := 334) hx hb dL_plans_305 (by decide) (fun c_52 => ?_) (fun c_52 => ?_)
            · replace h := it_n c_52 h
              refine ww_iconst (v := 0) hx hb dL_plans_334 (by decide) ?_
              obtain rfl := os1 h
              refine ww_perm (ws1 := []) [] rfl ?_
              exact ww_kzret hx hb (by omega) (by omega) hr hlk (by decide) rfl dL_plans_335
            · replace h := it_p c_52 h
              refine ww_aload_n hx hb dL_plans_308 rfl 0 rfl ?_
              refine ww_iconst (v := 2) hx hb dL_plans_309 (by decide) ?_
              obtain ⟨r_53, σ_53, e_53, h⟩ := obx h
              refine ww_callXI (w01 := WC q cA σ_53) (st1 := [.int (r_53)]) hx hb hml hown hts hK hN hA hZ [.int ((2 : Int32))] [] (m_X4_begins hl0 _ _ _ _ e_53) cs_L_51 rfl ⟨Nat.le_of_ble_eq_true rfl, Nat.le_of_ble_eq_true rfl⟩ ⟨by show _ ≤ 492; omega, by show _ ≤ 3232; omega⟩ (hDD _) 0 rfl rfl rfl (Nat.le_of_ble_eq_true rfl) dL_plans_310 rfl ?_
              refine ww_bipush (v := 39) hx hb dL_plans_313 (by decide) ?_
              refine ww_ne2 (tgt := 334) hx hb dL_plans_315 (by decide) (fun c_54 => ?_) (fun c_54 => ?_)
              · replace h := it_n c_54 h
                refine ww_iconst (v := 0) hx hb dL_plans_334 (by decide) ?_
                obtain rfl := os1 h
                refine ww_perm (ws1 := []) [] rfl ?_
                exact ww_kzret hx hb (by omega) (by omega) hr hlk (by decide) rfl dL_plans_335
              · replace h := it_p c_54 h
                exact ww_sub (lv1 := [(1, .ref (q 0))]) [0] rfl (bk318 _ hDD _ _ (by omega) (by omega) _ h)
  have bk200 : ∀ (q : Nat → Nat) (hDD : ∀ τ : SS, va_D (va_A [] s.heap.size) (WC q cA τ)) (cells slots : Nat) (hc : cells + 418 ≤ 492) (hs : slots + 2676 ≤ 3232) (τ : SS) , L_plans_b200 τ = some r → WW p l e (rmc 25 1000 492 3232) s m args below meth c D vwCl (va_A [] s.heap.size) 6 cells slots (vx_MQ below (qxW D vwCl [] [] (.inl r) s.heap.size) (xcW D vwCl [] [] (.inl r) s.heap.size) args s 492 3232 (va_A [] s.heap.size)) (WC q cA τ) 200 [(1, .ref (q 0))] [] := by
    intro q hDD cells slots hc hs τ h
    unfold L_plans_b200 at h
    refine ww_aload_n hx hb dL_plans_200 rfl 0 rfl ?_
    refine ww_iconst (v := 0) hx hb dL_plans_201 (by decide) ?_
    refine ww_iconst (v := 0) hx hb dL_plans_202 (by decide) ?_
    obtain ⟨r_31, σ_31, e_31, h⟩ := obx h
    refine ww_callXI (w01 := WC q cA σ_31) (st1 := [.int (r_31)]) hx hb hml hown hts hK hN hA hZ [.int ((0 : Int32)), .int ((0 : Int32))] [] (m_X4_setRates hl0 _ _ _ _ _ e_31) cs_L_16 rfl ⟨Nat.le_of_ble_eq_true rfl, Nat.le_of_ble_eq_true rfl⟩ ⟨by show _ ≤ 492; omega, by show _ ≤ 3232; omega⟩ (hDD _) 0 rfl rfl rfl (Nat.le_of_ble_eq_true rfl) dL_plans_203 rfl ?_
    refine ww_bipush (v := 100) hx hb dL_plans_206 (by decide) ?_
    refine ww_ne2 (tgt := 334) hx hb dL_plans_208 (by decide) (fun c_32 => ?_) (fun c_32 => ?_)
    · replace h := it_n c_32 h
      refine ww_iconst (v := 0) hx hb dL_plans_334 (by decide) ?_
      obtain rfl := os1 h
      refine ww_perm (ws1 := []) [] rfl ?_
      exact ww_kzret hx hb (by omega) (by omega) hr hlk (by decide) rfl dL_plans_335
    · replace h := it_p c_32 h
      refine ww_aload_n hx hb dL_plans_211 rfl 0 rfl ?_
      refine ww_iconst (v := 1) hx hb dL_plans_212 (by decide) ?_
      obtain ⟨r_33, σ_33, e_33, h⟩ := obx h
      refine ww_callXI (w01 := WC q cA σ_33) (st1 := [.int (r_33)]) hx hb hml hown hts hK hN hA hZ [.int ((1 : Int32))] [] (m_X4_shoot hl0 _ _ _ _ e_33) cs_L_20 rfl ⟨Nat.le_of_ble_eq_true rfl, Nat.le_of_ble_eq_true rfl⟩ ⟨by show _ ≤ 492; omega, by show _ ≤ 3232; omega⟩ (hDD _) 0 rfl rfl rfl (Nat.le_of_ble_eq_true rfl) dL_plans_213 rfl ?_
      refine ww_iconst (v := 1) hx hb dL_plans_216 (by decide) ?_
      refine ww_ne2 (tgt := 334) hx hb dL_plans_217 (by decide) (fun c_34 => ?_) (fun c_34 => ?_)
      · replace h := it_n c_34 h
        refine ww_iconst (v := 0) hx hb dL_plans_334 (by decide) ?_
        obtain rfl := os1 h
        refine ww_perm (ws1 := []) [] rfl ?_
        exact ww_kzret hx hb (by omega) (by omega) hr hlk (by decide) rfl dL_plans_335
      · replace h := it_p c_34 h
        refine ww_aload_n hx hb dL_plans_220 rfl 0 rfl ?_
        refine ww_callV (ws1 := WC q cA σ_33) (st1 := [.int (X4_shot σ_33)]) hx hb hml hown hts hK hN hA (hDD _) (by show _ ≤ 492; omega) (by show _ ≤ 3232; omega) [] [] (m_X4_shot σ_33) cs_L_102 rfl ⟨Nat.le_of_ble_eq_true rfl, Nat.le_of_ble_eq_true rfl⟩ 0 rfl rfl rfl (Nat.le_of_ble_eq_true rfl) dL_plans_221 rfl ?_
        refine ww_iconst (v := 1) hx hb dL_plans_224 (by decide) ?_
        refine ww_ne2 (tgt := 334) hx hb dL_plans_225 (by decide) (fun c_36 => ?_) (fun c_36 => ?_)
        · replace h := it_n c_36 h
          refine ww_iconst (v := 0) hx hb dL_plans_334 (by decide) ?_
          obtain rfl := os1 h
          refine ww_perm (ws1 := []) [] rfl ?_
          exact ww_kzret hx hb (by omega) (by omega) hr hlk (by decide) rfl dL_plans_335
        · replace h := it_p c_36 h
          refine ww_aload_n hx hb dL_plans_228 rfl 0 rfl ?_
          refine ww_iconst (v := 1) hx hb dL_plans_229 (by decide) ?_
          refine ww_bipush (v := 18) hx hb dL_plans_230 (by decide) ?_
          refine ww_bipush (v := 32) hx hb dL_plans_232 (by decide) ?_
          refine ww_bipush (v := 39) hx hb dL_plans_234 (by decide) ?_
          obtain ⟨r_37, σ_37, e_37, h⟩ := ob2 h
          refine ww_callK (w01 := WC q cA σ_37) (st1 := [.int (r_37)]) hx hb hml hown hts hK hN hA hZ [.ref (q 0), .int ((1 : Int32)), .int ((18 : Int32)), .int ((32 : Int32)), .int ((39 : Int32))] [] (m_L_plan hl0 _ _ _ _ _ _ _ e_37) cs_L_105 rfl ⟨Nat.le_of_ble_eq_true rfl, Nat.le_of_ble_eq_true rfl⟩ ⟨by show _ ≤ 492; omega, by show _ ≤ 3232; omega⟩ (hDD _) rfl (Nat.le_of_ble_eq_true rfl) dL_plans_236 rfl ?_
          refine ww_eq0 (tgt := 334) hx hb dL_plans_239 (by decide) (fun c_38 => ?_) (fun c_38 => ?_)
          · replace h := it_p c_38 h
            refine ww_iconst (v := 0) hx hb dL_plans_334 (by decide) ?_
            obtain rfl := os1 h
            refine ww_perm (ws1 := []) [] rfl ?_
            exact ww_kzret hx hb (by omega) (by omega) hr hlk (by decide) rfl dL_plans_335
          · replace h := it_n c_38 h
            refine ww_aload_n hx hb dL_plans_242 rfl 0 rfl ?_
            refine ww_iconst (v := 3) hx hb dL_plans_243 (by decide) ?_
            refine ww_iconst (v := 1) hx hb dL_plans_244 (by decide) ?_
            refine ww_iconst (v := 0) hx hb dL_plans_245 (by decide) ?_
            refine ww_iconst (v := 1) hx hb dL_plans_246 (by decide) ?_
            refine ww_iconst (v := 4) hx hb dL_plans_247 (by decide) ?_
            obtain ⟨r_39, σ_39, e_39, h⟩ := obx h
            refine ww_callXI (w01 := WC q cA σ_39) (st1 := [.int (r_39)]) hx hb hml hown hts hK hN hA hZ [.int ((3 : Int32)), .int ((1 : Int32)), .int ((0 : Int32)), .int ((1 : Int32)), .int ((4 : Int32))] [] (m_X4_addScene hl0 _ _ _ _ _ _ _ _ e_39) cs_L_69 rfl ⟨Nat.le_of_ble_eq_true rfl, Nat.le_of_ble_eq_true rfl⟩ ⟨by show _ ≤ 492; omega, by show _ ≤ 3232; omega⟩ (hDD _) 0 rfl rfl rfl (Nat.le_of_ble_eq_true rfl) dL_plans_248 rfl ?_
            refine ww_iconst (v := 3) hx hb dL_plans_251 (by decide) ?_
            refine ww_ne2 (tgt := 334) hx hb dL_plans_252 (by decide) (fun c_40 => ?_) (fun c_40 => ?_)
            · replace h := it_n c_40 h
              refine ww_iconst (v := 0) hx hb dL_plans_334 (by decide) ?_
              obtain rfl := os1 h
              refine ww_perm (ws1 := []) [] rfl ?_
              exact ww_kzret hx hb (by omega) (by omega) hr hlk (by decide) rfl dL_plans_335
            · replace h := it_p c_40 h
              refine ww_aload_n hx hb dL_plans_255 rfl 0 rfl ?_
              obtain ⟨r_41, σ_41, e_41, h⟩ := ob2 h
              refine ww_callV (ws1 := WC q cA σ_41) (st1 := [.int (r_41)]) hx hb hml hown hts hK hN hA (hDD _) (by show _ ≤ 492; omega) (by show _ ≤ 3232; omega) [] [] (m_X4_days _  _ _ e_41) cs_L_73 rfl ⟨Nat.le_of_ble_eq_true rfl, Nat.le_of_ble_eq_true rfl⟩ 0 rfl rfl rfl (Nat.le_of_ble_eq_true rfl) dL_plans_256 rfl ?_
              refine ww_iconst (v := 2) hx hb dL_plans_259 (by decide) ?_
              refine ww_ne2 (tgt := 334) hx hb dL_plans_260 (by decide) (fun c_42 => ?_) (fun c_42 => ?_)
              · replace h := it_n c_42 h
                refine ww_iconst (v := 0) hx hb dL_plans_334 (by decide) ?_
                obtain rfl := os1 h
                refine ww_perm (ws1 := []) [] rfl ?_
                exact ww_kzret hx hb (by omega) (by omega) hr hlk (by decide) rfl dL_plans_335
              · replace h := it_p c_42 h
                exact ww_sub (lv1 := [(1, .ref (q 0))]) [0] rfl (bk263 _ hDD _ _ (by omega) (by omega) _ h)
  have bk69 : ∀ (q : Nat → Nat) (hDD : ∀ τ : SS, va_D (va_A [] s.heap.size) (WC q cA τ)) (cells slots : Nat) (hc : cells + 459 ≤ 492) (hs : slots + 2978 ≤ 3232) (τ : SS) , L_plans_b69 τ = some r → WW p l e (rmc 25 1000 492 3232) s m args below meth c D vwCl (va_A [] s.heap.size) 6 cells slots (vx_MQ below (qxW D vwCl [] [] (.inl r) s.heap.size) (xcW D vwCl [] [] (.inl r) s.heap.size) args s 492 3232 (va_A [] s.heap.size)) (WC q cA τ) 69 [(0, .ref (q 0))] [] := by
    intro q hDD cells slots hc hs τ h
    unfold L_plans_b69 at h
    refine ww_aload_n hx hb dL_plans_69 rfl 0 rfl ?_
    refine ww_bipush (v := 6) hx hb dL_plans_70 (by decide) ?_
    refine ww_iconst (v := 0) hx hb dL_plans_72 (by decide) ?_
    refine ww_iconst (v := 1) hx hb dL_plans_73 (by decide) ?_
    refine ww_iconst (v := 1) hx hb dL_plans_74 (by decide) ?_
    refine ww_iconst (v := 1) hx hb dL_plans_75 (by decide) ?_
    obtain ⟨r_11, σ_11, e_11, h⟩ := obx h
    refine ww_callXI (w01 := WC q cA σ_11) (st1 := [.int (r_11)]) hx hb hml hown hts hK hN hA hZ [.int ((6 : Int32)), .int ((0 : Int32)), .int ((1 : Int32)), .int ((1 : Int32)), .int ((1 : Int32))] [] (m_X4_addScene hl0 _ _ _ _ _ _ _ _ e_11) cs_L_69 rfl ⟨Nat.le_of_ble_eq_true rfl, Nat.le_of_ble_eq_true rfl⟩ ⟨by show _ ≤ 492; omega, by show _ ≤ 3232; omega⟩ (hDD _) 0 rfl rfl rfl (Nat.le_of_ble_eq_true rfl) dL_plans_76 rfl ?_
    refine ww_iconst (v := 2) hx hb dL_plans_79 (by decide) ?_
    refine ww_ne2 (tgt := 123) hx hb dL_plans_80 (by decide) (fun c_12 => ?_) (fun c_12 => ?_)
    · replace h := it_n c_12 h
      refine ww_iconst (v := 0) hx hb dL_plans_123 (by decide) ?_
      obtain rfl := os1 h
      refine ww_perm (ws1 := []) [] rfl ?_
      exact ww_kzret hx hb (by omega) (by omega) hr hlk (by decide) rfl dL_plans_124
    · replace h := it_p c_12 h
      refine ww_aload_n hx hb dL_plans_83 rfl 0 rfl ?_
      refine ww_iconst (v := 2) hx hb dL_plans_84 (by decide) ?_
      refine ww_bipush (v := 18) hx hb dL_plans_85 (by decide) ?_
      refine ww_bipush (v := 41) hx hb dL_plans_87 (by decide) ?_
      refine ww_bipush (v := 35) hx hb dL_plans_89 (by decide) ?_
      obtain ⟨r_13, σ_13, e_13, h⟩ := ob2 h
      refine ww_callK (w01 := WC q cA σ_13) (st1 := [.int (r_13)]) hx hb hml hown hts hK hN hA hZ [.ref (q 0), .int ((2 : Int32)), .int ((18 : Int32)), .int ((41 : Int32)), .int ((35 : Int32))] [] (m_L_plan hl0 _ _ _ _ _ _ _ e_13) cs_L_105 rfl ⟨Nat.le_of_ble_eq_true rfl, Nat.le_of_ble_eq_true rfl⟩ ⟨by show _ ≤ 492; omega, by show _ ≤ 3232; omega⟩ (hDD _) rfl (Nat.le_of_ble_eq_true rfl) dL_plans_91 rfl ?_
      refine ww_eq0 (tgt := 123) hx hb dL_plans_94 (by decide) (fun c_14 => ?_) (fun c_14 => ?_)
      · replace h := it_p c_14 h
        refine ww_iconst (v := 0) hx hb dL_plans_123 (by decide) ?_
        obtain rfl := os1 h
        refine ww_perm (ws1 := []) [] rfl ?_
        exact ww_kzret hx hb (by omega) (by omega) hr hlk (by decide) rfl dL_plans_124
      · replace h := it_n c_14 h
        refine ww_aload_n hx hb dL_plans_97 rfl 0 rfl ?_
        refine ww_iconst (v := 0) hx hb dL_plans_98 (by decide) ?_
        obtain ⟨r_15, σ_15, e_15, h⟩ := obx h
        refine ww_callXI (w01 := WC q cA σ_15) (st1 := [.int (r_15)]) hx hb hml hown hts hK hN hA hZ [.int ((0 : Int32))] [] (m_X4_planned hl0 _ _ _ _ e_15) cs_L_48 rfl ⟨Nat.le_of_ble_eq_true rfl, Nat.le_of_ble_eq_true rfl⟩ ⟨by show _ ≤ 492; omega, by show _ ≤ 3232; omega⟩ (hDD _) 0 rfl rfl rfl (Nat.le_of_ble_eq_true rfl) dL_plans_99 rfl ?_
        refine ww_ne0 (tgt := 123) hx hb dL_plans_102 (by decide) (fun c_16 => ?_) (fun c_16 => ?_)
        · replace h := it_n c_16 h
          refine ww_iconst (v := 0) hx hb dL_plans_123 (by decide) ?_
          obtain rfl := os1 h
          refine ww_perm (ws1 := []) [] rfl ?_
          exact ww_kzret hx hb (by omega) (by omega) hr hlk (by decide) rfl dL_plans_124
        · replace h := it_p c_16 h
          refine ww_aload_n hx hb dL_plans_105 rfl 0 rfl ?_
          refine ww_iconst (v := 1) hx hb dL_plans_106 (by decide) ?_
          obtain ⟨r_17, σ_17, e_17, h⟩ := obx h
          refine ww_callXI (w01 := WC q cA σ_17) (st1 := [.int (r_17)]) hx hb hml hown hts hK hN hA hZ [.int ((1 : Int32))] [] (m_X4_planned hl0 _ _ _ _ e_17) cs_L_48 rfl ⟨Nat.le_of_ble_eq_true rfl, Nat.le_of_ble_eq_true rfl⟩ ⟨by show _ ≤ 492; omega, by show _ ≤ 3232; omega⟩ (hDD _) 0 rfl rfl rfl (Nat.le_of_ble_eq_true rfl) dL_plans_107 rfl ?_
          refine ww_iconst (v := 2) hx hb dL_plans_110 (by decide) ?_
          refine ww_ne2 (tgt := 123) hx hb dL_plans_111 (by decide) (fun c_18 => ?_) (fun c_18 => ?_)
          · replace h := it_n c_18 h
            refine ww_iconst (v := 0) hx hb dL_plans_123 (by decide) ?_
            obtain rfl := os1 h
            refine ww_perm (ws1 := []) [] rfl ?_
            exact ww_kzret hx hb (by omega) (by omega) hr hlk (by decide) rfl dL_plans_124
          · replace h := it_p c_18 h
            refine ww_aload_n hx hb dL_plans_114 rfl 0 rfl ?_
            refine ww_iconst (v := 2) hx hb dL_plans_115 (by decide) ?_
            obtain ⟨r_19, σ_19, e_19, h⟩ := obx h
            refine ww_callXI (w01 := WC q cA σ_19) (st1 := [.int (r_19)]) hx hb hml hown hts hK hN hA hZ [.int ((2 : Int32))] [] (m_X4_planned hl0 _ _ _ _ e_19) cs_L_48 rfl ⟨Nat.le_of_ble_eq_true rfl, Nat.le_of_ble_eq_true rfl⟩ ⟨by show _ ≤ 492; omega, by show _ ≤ 3232; omega⟩ (hDD _) 0 rfl rfl rfl (Nat.le_of_ble_eq_true rfl) dL_plans_116 rfl ?_
            refine ww_iconst (v := 1) hx hb dL_plans_119 (by decide) ?_
            refine ww_eq2 (tgt := 125) hx hb dL_plans_120 (by decide) (fun c_20 => ?_) (fun c_20 => ?_)
            · replace h := it_p c_20 h
              refine ww_sub (lv1 := []) [] rfl ?_
              refine ww_perm (ws1 := []) [] rfl ?_
              refine ww_mk hx hb hml hown hts hK hN hA (d_nil) kw_385 cs_L_98 ⟨by show _ ≤ 492; omega, by show _ ≤ 3232; omega⟩ dL_plans_125 dL_plans_128 dL_plans_129 (by decide) (Nat.le_of_ble_eq_true rfl) (fun q hDD => ?_)
              refine ww_astore_n (i := 1) (lv1 := [(1, .ref (q 0))]) hx hb dL_plans_132 rfl (by decide) [0] rfl ?_
              refine ww_aload_n hx hb dL_plans_133 rfl 0 rfl ?_
              refine ww_bipush (v := 6) hx hb dL_plans_134 (by decide) ?_
              refine ww_iconst (v := 0) hx hb dL_plans_136 (by decide) ?_
              refine ww_iconst (v := 1) hx hb dL_plans_137 (by decide) ?_
              refine ww_iconst (v := 2) hx hb dL_plans_138 (by decide) ?_
              refine ww_iconst (v := 0) hx hb dL_plans_139 (by decide) ?_
              obtain ⟨r_21, σ_21, e_21, h⟩ := obx h
              refine ww_callXI (w01 := WC q cA σ_21) (st1 := [.int (r_21)]) hx hb hml hown hts hK hN hA hZ [.int ((6 : Int32)), .int ((0 : Int32)), .int ((1 : Int32)), .int ((2 : Int32)), .int ((0 : Int32))] [] (m_X4_addScene hl0 _ _ _ _ _ _ _ _ e_21) cs_L_69 rfl ⟨Nat.le_of_ble_eq_true rfl, Nat.le_of_ble_eq_true rfl⟩ ⟨by show _ ≤ 492; omega, by show _ ≤ 3232; omega⟩ (hDD _) 0 rfl rfl rfl (Nat.le_of_ble_eq_true rfl) dL_plans_140 rfl ?_
              refine ww_ne0 (tgt := 334) hx hb dL_plans_143 (by decide) (fun c_22 => ?_) (fun c_22 => ?_)
              · replace h := it_n c_22 h
                refine ww_iconst (v := 0) hx hb dL_plans_334 (by decide) ?_
                obtain rfl := os1 h
                refine ww_perm (ws1 := []) [] rfl ?_
                exact ww_kzret hx hb (by omega) (by omega) hr hlk (by decide) rfl dL_plans_335
              · replace h := it_p c_22 h
                refine ww_aload_n hx hb dL_plans_146 rfl 0 rfl ?_
                refine ww_bipush (v := 6) hx hb dL_plans_147 (by decide) ?_
                refine ww_iconst (v := 0) hx hb dL_plans_149 (by decide) ?_
                refine ww_iconst (v := 2) hx hb dL_plans_150 (by decide) ?_
                refine ww_iconst (v := 0) hx hb dL_plans_151 (by decide) ?_
                refine ww_iconst (v := 1) hx hb dL_plans_152 (by decide) ?_
                obtain ⟨r_23, σ_23, e_23, h⟩ := obx h
                refine ww_callXI (w01 := WC q cA σ_23) (st1 := [.int (r_23)]) hx hb hml hown hts hK hN hA hZ [.int ((6 : Int32)), .int ((0 : Int32)), .int ((2 : Int32)), .int ((0 : Int32)), .int ((1 : Int32))] [] (m_X4_addScene hl0 _ _ _ _ _ _ _ _ e_23) cs_L_69 rfl ⟨Nat.le_of_ble_eq_true rfl, Nat.le_of_ble_eq_true rfl⟩ ⟨by show _ ≤ 492; omega, by show _ ≤ 3232; omega⟩ (hDD _) 0 rfl rfl rfl (Nat.le_of_ble_eq_true rfl) dL_plans_153 rfl ?_
                refine ww_iconst (v := 1) hx hb dL_plans_156 (by decide) ?_
                refine ww_ne2 (tgt := 334) hx hb dL_plans_157 (by decide) (fun c_24 => ?_) (fun c_24 => ?_)
                · replace h := it_n c_24 h
                  refine ww_iconst (v := 0) hx hb dL_plans_334 (by decide) ?_
                  obtain rfl := os1 h
                  refine ww_perm (ws1 := []) [] rfl ?_
                  exact ww_kzret hx hb (by omega) (by omega) hr hlk (by decide) rfl dL_plans_335
                · replace h := it_p c_24 h
                  refine ww_aload_n hx hb dL_plans_160 rfl 0 rfl ?_
                  refine ww_iconst (v := 2) hx hb dL_plans_161 (by decide) ?_
                  refine ww_bipush (v := 18) hx hb dL_plans_162 (by decide) ?_
                  refine ww_bipush (v := 32) hx hb dL_plans_164 (by decide) ?_
                  refine ww_iconst (v := -1) hx hb dL_plans_166 (by decide) ?_
                  obtain ⟨r_25, σ_25, e_25, h⟩ := ob2 h
                  refine ww_callK (w01 := WC q cA σ_25) (st1 := [.int (r_25)]) hx hb hml hown hts hK hN hA hZ [.ref (q 0), .int ((2 : Int32)), .int ((18 : Int32)), .int ((32 : Int32)), .int ((-1 : Int32))] [] (m_L_plan hl0 _ _ _ _ _ _ _ e_25) cs_L_105 rfl ⟨Nat.le_of_ble_eq_true rfl, Nat.le_of_ble_eq_true rfl⟩ ⟨by show _ ≤ 492; omega, by show _ ≤ 3232; omega⟩ (hDD _) rfl (Nat.le_of_ble_eq_true rfl) dL_plans_167 rfl ?_
                  refine ww_eq0 (tgt := 334) hx hb dL_plans_170 (by decide) (fun c_26 => ?_) (fun c_26 => ?_)
                  · replace h := it_p c_26 h
                    refine ww_iconst (v := 0) hx hb dL_plans_334 (by decide) ?_
                    obtain rfl := os1 h
                    refine ww_perm (ws1 := []) [] rfl ?_
                    exact ww_kzret hx hb (by omega) (by omega) hr hlk (by decide) rfl dL_plans_335
                  · replace h := it_n c_26 h
                    refine ww_aload_n hx hb dL_plans_173 rfl 0 rfl ?_
                    refine ww_iconst (v := 1) hx hb dL_plans_174 (by decide) ?_
                    refine ww_iconst (v := 1) hx hb dL_plans_175 (by decide) ?_
                    refine ww_iconst (v := 3) hx hb dL_plans_176 (by decide) ?_
                    refine ww_iconst (v := 1) hx hb dL_plans_177 (by decide) ?_
                    refine ww_iconst (v := 2) hx hb dL_plans_178 (by decide) ?_
                    obtain ⟨r_27, σ_27, e_27, h⟩ := obx h
                    refine ww_callXI (w01 := WC q cA σ_27) (st1 := [.int (r_27)]) hx hb hml hown hts hK hN hA hZ [.int ((1 : Int32)), .int ((1 : Int32)), .int ((3 : Int32)), .int ((1 : Int32)), .int ((2 : Int32))] [] (m_X4_addScene hl0 _ _ _ _ _ _ _ _ e_27) cs_L_69 rfl ⟨Nat.le_of_ble_eq_true rfl, Nat.le_of_ble_eq_true rfl⟩ ⟨by show _ ≤ 492; omega, by show _ ≤ 3232; omega⟩ (hDD _) 0 rfl rfl rfl (Nat.le_of_ble_eq_true rfl) dL_plans_179 rfl ?_
                    refine ww_iconst (v := 2) hx hb dL_plans_182 (by decide) ?_
                    refine ww_ne2 (tgt := 334) hx hb dL_plans_183 (by decide) (fun c_28 => ?_) (fun c_28 => ?_)
                    · replace h := it_n c_28 h
                      refine ww_iconst (v := 0) hx hb dL_plans_334 (by decide) ?_
                      obtain rfl := os1 h
                      refine ww_perm (ws1 := []) [] rfl ?_
                      exact ww_kzret hx hb (by omega) (by omega) hr hlk (by decide) rfl dL_plans_335
                    · replace h := it_p c_28 h
                      refine ww_aload_n hx hb dL_plans_186 rfl 0 rfl ?_
                      refine ww_iconst (v := 2) hx hb dL_plans_187 (by decide) ?_
                      refine ww_bipush (v := 18) hx hb dL_plans_188 (by decide) ?_
                      refine ww_bipush (v := 32) hx hb dL_plans_190 (by decide) ?_
                      refine ww_bipush (v := 39) hx hb dL_plans_192 (by decide) ?_
                      obtain ⟨r_29, σ_29, e_29, h⟩ := ob2 h
                      refine ww_callK (w01 := WC q cA σ_29) (st1 := [.int (r_29)]) hx hb hml hown hts hK hN hA hZ [.ref (q 0), .int ((2 : Int32)), .int ((18 : Int32)), .int ((32 : Int32)), .int ((39 : Int32))] [] (m_L_plan hl0 _ _ _ _ _ _ _ e_29) cs_L_105 rfl ⟨Nat.le_of_ble_eq_true rfl, Nat.le_of_ble_eq_true rfl⟩ ⟨by show _ ≤ 492; omega, by show _ ≤ 3232; omega⟩ (hDD _) rfl (Nat.le_of_ble_eq_true rfl) dL_plans_194 rfl ?_
                      refine ww_eq0 (tgt := 334) hx hb dL_plans_197 (by decide) (fun c_30 => ?_) (fun c_30 => ?_)
                      · replace h := it_p c_30 h
                        refine ww_iconst (v := 0) hx hb dL_plans_334 (by decide) ?_
                        obtain rfl := os1 h
                        refine ww_perm (ws1 := []) [] rfl ?_
                        exact ww_kzret hx hb (by omega) (by omega) hr hlk (by decide) rfl dL_plans_335
                      · replace h := it_n c_30 h
                        exact ww_sub (lv1 := [(1, .ref (q 0))]) [0] rfl (bk200 _ hDD _ _ (by omega) (by omega) _ h)
            · replace h := it_n c_20 h
              refine ww_iconst (v := 0) hx hb dL_plans_123 (by decide) ?_
              obtain rfl := os1 h
              refine ww_perm (ws1 := []) [] rfl ?_
              exact ww_kzret hx hb (by omega) (by omega) hr hlk (by decide) rfl dL_plans_124
  refine ww_sub (lv1 := []) [] rfl ?_
  refine ww_sub (lv1 := []) [] rfl ?_
  refine ww_perm (ws1 := []) [] rfl ?_
  refine ww_mk hx hb hml hown hts hK hN hA (d_nil) kw_385 cs_L_98 ⟨by show _ ≤ 492; omega, by show _ ≤ 3232; omega⟩ dL_plans_0 dL_plans_3 dL_plans_4 (by decide) (Nat.le_of_ble_eq_true rfl) (fun q hDD => ?_)
  refine ww_astore_n (i := 0) (lv1 := [(0, .ref (q 0))]) hx hb dL_plans_7 rfl (by decide) [0] rfl ?_
  refine ww_aload_n hx hb dL_plans_8 rfl 0 rfl ?_
  refine ww_bipush (v := 6) hx hb dL_plans_9 (by decide) ?_
  refine ww_iconst (v := 0) hx hb dL_plans_11 (by decide) ?_
  refine ww_iconst (v := 1) hx hb dL_plans_12 (by decide) ?_
  refine ww_iconst (v := 2) hx hb dL_plans_13 (by decide) ?_
  refine ww_iconst (v := 0) hx hb dL_plans_14 (by decide) ?_
  obtain ⟨r_1, σ_1, e_1, h⟩ := obx h
  refine ww_callXI (w01 := WC q cA σ_1) (st1 := [.int (r_1)]) hx hb hml hown hts hK hN hA hZ [.int ((6 : Int32)), .int ((0 : Int32)), .int ((1 : Int32)), .int ((2 : Int32)), .int ((0 : Int32))] [] (m_X4_addScene hl0 _ _ _ _ _ _ _ _ e_1) cs_L_69 rfl ⟨Nat.le_of_ble_eq_true rfl, Nat.le_of_ble_eq_true rfl⟩ ⟨by show _ ≤ 492; omega, by show _ ≤ 3232; omega⟩ (hDD _) 0 rfl rfl rfl (Nat.le_of_ble_eq_true rfl) dL_plans_15 rfl ?_
  refine ww_ne0 (tgt := 123) hx hb dL_plans_18 (by decide) (fun c_2 => ?_) (fun c_2 => ?_)
  · replace h := it_n c_2 h
    refine ww_iconst (v := 0) hx hb dL_plans_123 (by decide) ?_
    obtain rfl := os1 h
    refine ww_perm (ws1 := []) [] rfl ?_
    exact ww_kzret hx hb (by omega) (by omega) hr hlk (by decide) rfl dL_plans_124
  · replace h := it_p c_2 h
    refine ww_aload_n hx hb dL_plans_21 rfl 0 rfl ?_
    refine ww_iconst (v := 1) hx hb dL_plans_22 (by decide) ?_
    refine ww_bipush (v := 18) hx hb dL_plans_23 (by decide) ?_
    refine ww_iconst (v := -1) hx hb dL_plans_25 (by decide) ?_
    refine ww_iconst (v := -1) hx hb dL_plans_26 (by decide) ?_
    obtain ⟨r_3, σ_3, e_3, h⟩ := ob2 h
    refine ww_callK (w01 := WC q cA σ_3) (st1 := [.int (r_3)]) hx hb hml hown hts hK hN hA hZ [.ref (q 0), .int ((1 : Int32)), .int ((18 : Int32)), .int ((-1 : Int32)), .int ((-1 : Int32))] [] (m_L_plan hl0 _ _ _ _ _ _ _ e_3) cs_L_105 rfl ⟨Nat.le_of_ble_eq_true rfl, Nat.le_of_ble_eq_true rfl⟩ ⟨by show _ ≤ 492; omega, by show _ ≤ 3232; omega⟩ (hDD _) rfl (Nat.le_of_ble_eq_true rfl) dL_plans_27 rfl ?_
    refine ww_eq0 (tgt := 123) hx hb dL_plans_30 (by decide) (fun c_4 => ?_) (fun c_4 => ?_)
    · replace h := it_p c_4 h
      refine ww_iconst (v := 0) hx hb dL_plans_123 (by decide) ?_
      obtain rfl := os1 h
      refine ww_perm (ws1 := []) [] rfl ?_
      exact ww_kzret hx hb (by omega) (by omega) hr hlk (by decide) rfl dL_plans_124
    · replace h := it_n c_4 h
      refine ww_aload_n hx hb dL_plans_33 rfl 0 rfl ?_
      refine ww_bipush (v := 6) hx hb dL_plans_34 (by decide) ?_
      refine ww_iconst (v := 0) hx hb dL_plans_36 (by decide) ?_
      refine ww_iconst (v := 1) hx hb dL_plans_37 (by decide) ?_
      refine ww_iconst (v := 0) hx hb dL_plans_38 (by decide) ?_
      refine ww_iconst (v := 0) hx hb dL_plans_39 (by decide) ?_
      obtain ⟨r_5, σ_5, e_5, h⟩ := obx h
      refine ww_callXI (w01 := WC q cA σ_5) (st1 := [.int (r_5)]) hx hb hml hown hts hK hN hA hZ [.int ((6 : Int32)), .int ((0 : Int32)), .int ((1 : Int32)), .int ((0 : Int32)), .int ((0 : Int32))] [] (m_X4_addScene hl0 _ _ _ _ _ _ _ _ e_5) cs_L_69 rfl ⟨Nat.le_of_ble_eq_true rfl, Nat.le_of_ble_eq_true rfl⟩ ⟨by show _ ≤ 492; omega, by show _ ≤ 3232; omega⟩ (hDD _) 0 rfl rfl rfl (Nat.le_of_ble_eq_true rfl) dL_plans_40 rfl ?_
      refine ww_iconst (v := 1) hx hb dL_plans_43 (by decide) ?_
      refine ww_ne2 (tgt := 123) hx hb dL_plans_44 (by decide) (fun c_6 => ?_) (fun c_6 => ?_)
      · replace h := it_n c_6 h
        refine ww_iconst (v := 0) hx hb dL_plans_123 (by decide) ?_
        obtain rfl := os1 h
        refine ww_perm (ws1 := []) [] rfl ?_
        exact ww_kzret hx hb (by omega) (by omega) hr hlk (by decide) rfl dL_plans_124
      · replace h := it_p c_6 h
        refine ww_aload_n hx hb dL_plans_47 rfl 0 rfl ?_
        refine ww_iconst (v := 1) hx hb dL_plans_48 (by decide) ?_
        refine ww_bipush (v := 18) hx hb dL_plans_49 (by decide) ?_
        refine ww_bipush (v := 8) hx hb dL_plans_51 (by decide) ?_
        refine ww_iconst (v := -1) hx hb dL_plans_53 (by decide) ?_
        obtain ⟨r_7, σ_7, e_7, h⟩ := ob2 h
        refine ww_callK (w01 := WC q cA σ_7) (st1 := [.int (r_7)]) hx hb hml hown hts hK hN hA hZ [.ref (q 0), .int ((1 : Int32)), .int ((18 : Int32)), .int ((8 : Int32)), .int ((-1 : Int32))] [] (m_L_plan hl0 _ _ _ _ _ _ _ e_7) cs_L_105 rfl ⟨Nat.le_of_ble_eq_true rfl, Nat.le_of_ble_eq_true rfl⟩ ⟨by show _ ≤ 492; omega, by show _ ≤ 3232; omega⟩ (hDD _) rfl (Nat.le_of_ble_eq_true rfl) dL_plans_54 rfl ?_
        refine ww_eq0 (tgt := 123) hx hb dL_plans_57 (by decide) (fun c_8 => ?_) (fun c_8 => ?_)
        · replace h := it_p c_8 h
          refine ww_iconst (v := 0) hx hb dL_plans_123 (by decide) ?_
          obtain rfl := os1 h
          refine ww_perm (ws1 := []) [] rfl ?_
          exact ww_kzret hx hb (by omega) (by omega) hr hlk (by decide) rfl dL_plans_124
        · replace h := it_n c_8 h
          refine ww_aload_n hx hb dL_plans_60 rfl 0 rfl ?_
          refine ww_iconst (v := 0) hx hb dL_plans_61 (by decide) ?_
          obtain ⟨r_9, σ_9, e_9, h⟩ := obx h
          refine ww_callXI (w01 := WC q cA σ_9) (st1 := [.int (r_9)]) hx hb hml hown hts hK hN hA hZ [.int ((0 : Int32))] [] (m_X4_planned hl0 _ _ _ _ e_9) cs_L_48 rfl ⟨Nat.le_of_ble_eq_true rfl, Nat.le_of_ble_eq_true rfl⟩ ⟨by show _ ≤ 492; omega, by show _ ≤ 3232; omega⟩ (hDD _) 0 rfl rfl rfl (Nat.le_of_ble_eq_true rfl) dL_plans_62 rfl ?_
          refine ww_iconst (v := 1) hx hb dL_plans_65 (by decide) ?_
          refine ww_ne2 (tgt := 123) hx hb dL_plans_66 (by decide) (fun c_10 => ?_) (fun c_10 => ?_)
          · replace h := it_n c_10 h
            refine ww_iconst (v := 0) hx hb dL_plans_123 (by decide) ?_
            obtain rfl := os1 h
            refine ww_perm (ws1 := []) [] rfl ?_
            exact ww_kzret hx hb (by omega) (by omega) hr hlk (by decide) rfl dL_plans_124
          · replace h := it_p c_10 h
            exact ww_sub (lv1 := [(0, .ref (q 0))]) [0] rfl (bk69 _ hDD _ _ (by omega) (by omega) _ h)
end
