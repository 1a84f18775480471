section
variable {l : Launch} {D : va_G} {q : Nat → Nat} {cA : ClassId}
set_option maxHeartbeats 8000000 in
set_option maxRecDepth 100000 in
theorem m_L_house (hl0 : l.stackTraces = false) (r : Int32) (h : L_house = some r) : CtK l yL_house cL_house 1 (some .boolean) 25 1000 746 4532 D vwCl [(cA, .int)] [] [] [] r := by
  refine ctk_of (by decide +kernel) (Nat.le_of_ble_eq_true rfl) ?_
  intro p e s m args below meth c hx hb hr hlk hml hown hts hK hD hN hA hZ
  have hown : s.vm.findClass RL = some m.cls := hown
  unfold L_house at h
  have bk1131 : ∀ (q : Nat → Nat) (hDD : ∀ τ : SS, va_D (va_A [] s.heap.size) (WC q cA τ)) (cells slots : Nat) (hc : cells + 0 ≤ 746) (hs : slots + 0 ≤ 4532) (τ : SS) , L_house_b1131 τ = some r → WW p l e (rmc 25 1000 746 4532) s m args below meth c D vwCl (va_A [] s.heap.size) 1 cells slots (vx_MQ below (qxW D vwCl [] [] (.inl r) s.heap.size) (xcW D vwCl [] [] (.inl r) s.heap.size) args s 746 4532 (va_A [] s.heap.size)) (WC q cA τ) 1131 [] [] := by
    intro q hDD cells slots hc hs τ h
    unfold L_house_b1131 at h
    refine ww_iconst (v := 1) hx hb dL_house_1131 (by decide) ?_
    refine ww_goto (tgt := 1136) hx hb dL_house_1132 (by decide) ?_
    obtain rfl := os1 h
    refine ww_perm (ws1 := []) [] rfl ?_
    exact ww_kzret hx hb (by omega) (by omega) hr hlk (by decide) rfl dL_house_1136
  have bk1070 : ∀ (q : Nat → Nat) (hDD : ∀ τ : SS, va_D (va_A [] s.heap.size) (WC q cA τ)) (cells slots : Nat) (hc : cells + 129 ≤ 746) (hs : slots + 774 ≤ 4532) (τ : SS) , L_house_b1070 τ = some r → WW p l e (rmc 25 1000 746 4532) s m args below meth c D vwCl (va_A [] s.heap.size) 1 cells slots (vx_MQ below (qxW D vwCl [] [] (.inl r) s.heap.size) (xcW D vwCl [] [] (.inl r) s.heap.size) args s 746 4532 (va_A [] s.heap.size)) (WC q cA τ) 1070 [(0, .ref (q 0))] [] := by
    intro q hDD cells slots hc hs τ h
    unfold L_house_b1070 at h
    refine ww_aload_n hx hb dL_house_1070 rfl 0 rfl ?_
    refine ww_iconst (v := 0) hx hb dL_house_1071 (by decide) ?_
    refine ww_iconst (v := 1) hx hb dL_house_1072 (by decide) ?_
    obtain ⟨r_203, σ_203, e_203, h⟩ := obx h
    refine ww_callXI (w01 := WC q cA σ_203) (st1 := [.int (r_203)]) hx hb hml hown hts hK hN hA hZ [.int ((0 : Int32)), .int ((1 : Int32))] [] (m_X4_loan hl0 _ _ _ _ _ e_203) cs_L_34 rfl ⟨Nat.le_of_ble_eq_true rfl, Nat.le_of_ble_eq_true rfl⟩ ⟨by show _ ≤ 746; omega, by show _ ≤ 4532; omega⟩ (hDD _) 0 rfl rfl rfl (Nat.le_of_ble_eq_true rfl) dL_house_1073 rfl ?_
    refine ww_iconst (v := 2) hx hb dL_house_1076 (by decide) ?_
    refine ww_ne2 (tgt := 1135) hx hb dL_house_1077 (by decide) (fun c_204 => ?_) (fun c_204 => ?_)
    · replace h := it_n c_204 h
      refine ww_iconst (v := 0) hx hb dL_house_1135 (by decide) ?_
      obtain rfl := os1 h
      refine ww_perm (ws1 := []) [] rfl ?_
      exact ww_kzret hx hb (by omega) (by omega) hr hlk (by decide) rfl dL_house_1136
    · replace h := it_p c_204 h
      refine ww_aload_n hx hb dL_house_1080 rfl 0 rfl ?_
      refine ww_bipush (v := 52) hx hb dL_house_1081 (by decide) ?_
      obtain ⟨r_205, σ_205, e_205, h⟩ := obx h
      refine ww_callXI (w01 := WC q cA σ_205) (st1 := [.int (r_205)]) hx hb hml hown hts hK hN hA hZ [.int ((52 : Int32))] [] (m_X4_income hl0 _ _ _ _ e_205) cs_L_41 rfl ⟨Nat.le_of_ble_eq_true rfl, Nat.le_of_ble_eq_true rfl⟩ ⟨by show _ ≤ 746; omega, by show _ ≤ 4532; omega⟩ (hDD _) 0 rfl rfl rfl (Nat.le_of_ble_eq_true rfl) dL_house_1083 rfl ?_
      refine ww_iconst (v := 1) hx hb dL_house_1086 (by decide) ?_
      refine ww_ne2 (tgt := 1135) hx hb dL_house_1087 (by decide) (fun c_206 => ?_) (fun c_206 => ?_)
      · replace h := it_n c_206 h
        refine ww_iconst (v := 0) hx hb dL_house_1135 (by decide) ?_
        obtain rfl := os1 h
        refine ww_perm (ws1 := []) [] rfl ?_
        exact ww_kzret hx hb (by omega) (by omega) hr hlk (by decide) rfl dL_house_1136
      · replace h := it_p c_206 h
        refine ww_aload_n hx hb dL_house_1090 rfl 0 rfl ?_
        refine ww_iconst (v := 0) hx hb dL_house_1091 (by decide) ?_
        obtain ⟨r_207, σ_207, e_207, h⟩ := obx h
        refine ww_callXI (w01 := WC q cA σ_207) (st1 := [.int (r_207)]) hx hb hml hown hts hK hN hA hZ [.int ((0 : Int32))] [] (m_X4_got hl0 _ _ _ _ e_207) cs_L_60 rfl ⟨Nat.le_of_ble_eq_true rfl, Nat.le_of_ble_eq_true rfl⟩ ⟨by show _ ≤ 746; omega, by show _ ≤ 4532; omega⟩ (hDD _) 0 rfl rfl rfl (Nat.le_of_ble_eq_true rfl) dL_house_1092 rfl ?_
        refine ww_iconst (v := 1) hx hb dL_house_1095 (by decide) ?_
        refine ww_ne2 (tgt := 1135) hx hb dL_house_1096 (by decide) (fun c_208 => ?_) (fun c_208 => ?_)
        · replace h := it_n c_208 h
          refine ww_iconst (v := 0) hx hb dL_house_1135 (by decide) ?_
          obtain rfl := os1 h
          refine ww_perm (ws1 := []) [] rfl ?_
          exact ww_kzret hx hb (by omega) (by omega) hr hlk (by decide) rfl dL_house_1136
        · replace h := it_p c_208 h
          refine ww_aload_n hx hb dL_house_1099 rfl 0 rfl ?_
          refine ww_callV (ws1 := WC q cA σ_207) (st1 := [.int (X4_house σ_207)]) hx hb hml hown hts hK hN hA (hDD _) (by show _ ≤ 746; omega) (by show _ ≤ 4532; omega) [] [] (m_X4_house σ_207) cs_L_82 rfl ⟨Nat.le_of_ble_eq_true rfl, Nat.le_of_ble_eq_true rfl⟩ 0 rfl rfl rfl (Nat.le_of_ble_eq_true rfl) dL_house_1100 rfl ?_
          refine ww_sipush (v := 254) hx hb dL_house_1103 (by decide) ?_
          refine ww_ne2 (tgt := 1135) hx hb dL_house_1106 (by decide) (fun c_210 => ?_) (fun c_210 => ?_)
          · replace h := it_n c_210 h
            refine ww_iconst (v := 0) hx hb dL_house_1135 (by decide) ?_
            obtain rfl := os1 h
            refine ww_perm (ws1 := []) [] rfl ?_
            exact ww_kzret hx hb (by omega) (by omega) hr hlk (by decide) rfl dL_house_1136
          · replace h := it_p c_210 h
            refine ww_aload_n hx hb dL_house_1109 rfl 0 rfl ?_
            refine ww_iconst (v := 2) hx hb dL_house_1110 (by decide) ?_
            obtain ⟨r_211, σ_211, e_211, h⟩ := obx h
            refine ww_callXI (w01 := WC q cA σ_211) (st1 := [.int (r_211)]) hx hb hml hown hts hK hN hA hZ [.int ((2 : Int32))] [] (m_X4_got hl0 _ _ _ _ e_211) cs_L_60 rfl ⟨Nat.le_of_ble_eq_true rfl, Nat.le_of_ble_eq_true rfl⟩ ⟨by show _ ≤ 746; omega, by show _ ≤ 4532; omega⟩ (hDD _) 0 rfl rfl rfl (Nat.le_of_ble_eq_true rfl) dL_house_1111 rfl ?_
            refine ww_sipush (v := 451) hx hb dL_house_1114 (by decide) ?_
            refine ww_ne2 (tgt := 1135) hx hb dL_house_1117 (by decide) (fun c_212 => ?_) (fun c_212 => ?_)
            · replace h := it_n c_212 h
              refine ww_iconst (v := 0) hx hb dL_house_1135 (by decide) ?_
              obtain rfl := os1 h
              refine ww_perm (ws1 := []) [] rfl ?_
              exact ww_kzret hx hb (by omega) (by omega) hr hlk (by decide) rfl dL_house_1136
            · replace h := it_p c_212 h
              refine ww_aload_n hx hb dL_house_1120 rfl 0 rfl ?_
              refine ww_iconst (v := 3) hx hb dL_house_1121 (by decide) ?_
              refine ww_iconst (v := 0) hx hb dL_house_1122 (by decide) ?_
              refine ww_iconst (v := 3) hx hb dL_house_1123 (by decide) ?_
              refine ww_iconst (v := 4) hx hb dL_house_1124 (by decide) ?_
              obtain ⟨r_213, σ_213, e_213, h⟩ := ob2 h
              refine ww_callK (w01 := WC q cA σ_213) (st1 := [.int (r_213)]) hx hb hml hown hts hK hN hA hZ [.ref (q 0), .int ((3 : Int32)), .int ((0 : Int32)), .int ((3 : Int32)), .int ((4 : Int32))] [] (m_L_refuses hl0 _ _ _ _ _ _ _ e_213) cs_L_109 rfl ⟨Nat.le_of_ble_eq_true rfl, Nat.le_of_ble_eq_true rfl⟩ ⟨by show _ ≤ 746; omega, by show _ ≤ 4532; omega⟩ (hDD _) rfl (Nat.le_of_ble_eq_true rfl) dL_house_1125 rfl ?_
              refine ww_eq0 (tgt := 1135) hx hb dL_house_1128 (by decide) (fun c_214 => ?_) (fun c_214 => ?_)
              · replace h := it_p c_214 h
                refine ww_iconst (v := 0) hx hb dL_house_1135 (by decide) ?_
                obtain rfl := os1 h
                refine ww_perm (ws1 := []) [] rfl ?_
                exact ww_kzret hx hb (by omega) (by omega) hr hlk (by decide) rfl dL_house_1136
              · replace h := it_n c_214 h
                exact ww_sub (lv1 := []) [] rfl (bk1131 _ hDD _ _ (by omega) (by omega) _ h)
  have bk1010 : ∀ (q : Nat → Nat) (hDD : ∀ τ : SS, va_D (va_A [] s.heap.size) (WC q cA τ)) (cells slots : Nat) (hc : cells + 132 ≤ 746) (hs : slots + 792 ≤ 4532) (τ : SS) , L_house_b1010 τ = some r → WW p l e (rmc 25 1000 746 4532) s m args below meth c D vwCl (va_A [] s.heap.size) 1 cells slots (vx_MQ below (qxW D vwCl [] [] (.inl r) s.heap.size) (xcW D vwCl [] [] (.inl r) s.heap.size) args s 746 4532 (va_A [] s.heap.size)) (WC q cA τ) 1010 [(0, .ref (q 0))] [] := by
    intro q hDD cells slots hc hs τ h
    unfold L_house_b1010 at h
    refine ww_aload_n hx hb dL_house_1010 rfl 0 rfl ?_
    refine ww_iconst (v := 3) hx hb dL_house_1011 (by decide) ?_
    refine ww_bipush (v := 40) hx hb dL_house_1012 (by decide) ?_
    obtain ⟨r_191, σ_191, e_191, h⟩ := obx h
    refine ww_callXI (w01 := WC q cA σ_191) (st1 := [.int (r_191)]) hx hb hml hown hts hK hN hA hZ [.int ((3 : Int32)), .int ((40 : Int32))] [] (m_X4_bill hl0 _ _ _ _ _ e_191) cs_L_31 rfl ⟨Nat.le_of_ble_eq_true rfl, Nat.le_of_ble_eq_true rfl⟩ ⟨by show _ ≤ 746; omega, by show _ ≤ 4532; omega⟩ (hDD _) 0 rfl rfl rfl (Nat.le_of_ble_eq_true rfl) dL_house_1014 rfl ?_
    refine ww_bipush (v := 10) hx hb dL_house_1017 (by decide) ?_
    refine ww_ne2 (tgt := 1135) hx hb dL_house_1019 (by decide) (fun c_192 => ?_) (fun c_192 => ?_)
    · replace h := it_n c_192 h
      refine ww_iconst (v := 0) hx hb dL_house_1135 (by decide) ?_
      obtain rfl := os1 h
      refine ww_perm (ws1 := []) [] rfl ?_
      exact ww_kzret hx hb (by omega) (by omega) hr hlk (by decide) rfl dL_house_1136
    · replace h := it_p c_192 h
      refine ww_aload_n hx hb dL_house_1022 rfl 0 rfl ?_
      refine ww_iconst (v := 3) hx hb dL_house_1023 (by decide) ?_
      obtain ⟨r_193, σ_193, e_193, h⟩ := obx h
      refine ww_callXI (w01 := WC q cA σ_193) (st1 := [.int (r_193)]) hx hb hml hown hts hK hN hA hZ [.int ((3 : Int32))] [] (m_X4_left hl0 _ _ _ _ e_193) cs_L_54 rfl ⟨Nat.le_of_ble_eq_true rfl, Nat.le_of_ble_eq_true rfl⟩ ⟨by show _ ≤ 746; omega, by show _ ≤ 4532; omega⟩ (hDD _) 0 rfl rfl rfl (Nat.le_of_ble_eq_true rfl) dL_house_1024 rfl ?_
      refine ww_ne0 (tgt := 1135) hx hb dL_house_1027 (by decide) (fun c_194 => ?_) (fun c_194 => ?_)
      · replace h := it_n c_194 h
        refine ww_iconst (v := 0) hx hb dL_house_1135 (by decide) ?_
        obtain rfl := os1 h
        refine ww_perm (ws1 := []) [] rfl ?_
        exact ww_kzret hx hb (by omega) (by omega) hr hlk (by decide) rfl dL_house_1136
      · replace h := it_p c_194 h
        refine ww_aload_n hx hb dL_house_1030 rfl 0 rfl ?_
        refine ww_callV (ws1 := WC q cA σ_193) (st1 := [.int (X4_fee σ_193)]) hx hb hml hown hts hK hN hA (hDD _) (by show _ ≤ 746; omega) (by show _ ≤ 4532; omega) [] [] (m_X4_fee σ_193) cs_L_76 rfl ⟨Nat.le_of_ble_eq_true rfl, Nat.le_of_ble_eq_true rfl⟩ 0 rfl rfl rfl (Nat.le_of_ble_eq_true rfl) dL_house_1031 rfl ?_
        refine ww_bipush (v := 10) hx hb dL_house_1034 (by decide) ?_
        refine ww_ne2 (tgt := 1135) hx hb dL_house_1036 (by decide) (fun c_196 => ?_) (fun c_196 => ?_)
        · replace h := it_n c_196 h
          refine ww_iconst (v := 0) hx hb dL_house_1135 (by decide) ?_
          obtain rfl := os1 h
          refine ww_perm (ws1 := []) [] rfl ?_
          exact ww_kzret hx hb (by omega) (by omega) hr hlk (by decide) rfl dL_house_1136
        · replace h := it_p c_196 h
          refine ww_aload_n hx hb dL_house_1039 rfl 0 rfl ?_
          refine ww_iconst (v := 2) hx hb dL_house_1040 (by decide) ?_
          refine ww_bipush (v := 10) hx hb dL_house_1041 (by decide) ?_
          obtain ⟨r_197, σ_197, e_197, h⟩ := obx h
          refine ww_callXI (w01 := WC q cA σ_197) (st1 := [.int (r_197)]) hx hb hml hown hts hK hN hA hZ [.int ((2 : Int32)), .int ((10 : Int32))] [] (m_X4_bill hl0 _ _ _ _ _ e_197) cs_L_31 rfl ⟨Nat.le_of_ble_eq_true rfl, Nat.le_of_ble_eq_true rfl⟩ ⟨by show _ ≤ 746; omega, by show _ ≤ 4532; omega⟩ (hDD _) 0 rfl rfl rfl (Nat.le_of_ble_eq_true rfl) dL_house_1043 rfl ?_
          refine ww_bipush (v := 10) hx hb dL_house_1046 (by decide) ?_
          refine ww_ne2 (tgt := 1135) hx hb dL_house_1048 (by decide) (fun c_198 => ?_) (fun c_198 => ?_)
          · replace h := it_n c_198 h
            refine ww_iconst (v := 0) hx hb dL_house_1135 (by decide) ?_
            obtain rfl := os1 h
            refine ww_perm (ws1 := []) [] rfl ?_
            exact ww_kzret hx hb (by omega) (by omega) hr hlk (by decide) rfl dL_house_1136
          · replace h := it_p c_198 h
            refine ww_aload_n hx hb dL_house_1051 rfl 0 rfl ?_
            refine ww_callV (ws1 := WC q cA σ_197) (st1 := [.int (X4_costs σ_197)]) hx hb hml hown hts hK hN hA (hDD _) (by show _ ≤ 746; omega) (by show _ ≤ 4532; omega) [] [] (m_X4_costs σ_197) cs_L_79 rfl ⟨Nat.le_of_ble_eq_true rfl, Nat.le_of_ble_eq_true rfl⟩ 0 rfl rfl rfl (Nat.le_of_ble_eq_true rfl) dL_house_1052 rfl ?_
            refine ww_sipush (v := 1750) hx hb dL_house_1055 (by decide) ?_
            refine ww_ne2 (tgt := 1135) hx hb dL_house_1058 (by decide) (fun c_200 => ?_) (fun c_200 => ?_)
            · replace h := it_n c_200 h
              refine ww_iconst (v := 0) hx hb dL_house_1135 (by decide) ?_
              obtain rfl := os1 h
              refine ww_perm (ws1 := []) [] rfl ?_
              exact ww_kzret hx hb (by omega) (by omega) hr hlk (by decide) rfl dL_house_1136
            · replace h := it_p c_200 h
              refine ww_aload_n hx hb dL_house_1061 rfl 0 rfl ?_
              refine ww_callV (ws1 := WC q cA σ_197) (st1 := [.int (X4_open σ_197)]) hx hb hml hown hts hK hN hA (hDD _) (by show _ ≤ 746; omega) (by show _ ≤ 4532; omega) [] [] (m_X4_open σ_197) cs_L_112 rfl ⟨Nat.le_of_ble_eq_true rfl, Nat.le_of_ble_eq_true rfl⟩ 0 rfl rfl rfl (Nat.le_of_ble_eq_true rfl) dL_house_1062 rfl ?_
              refine ww_bipush (v := 50) hx hb dL_house_1065 (by decide) ?_
              refine ww_ne2 (tgt := 1135) hx hb dL_house_1067 (by decide) (fun c_202 => ?_) (fun c_202 => ?_)
              · replace h := it_n c_202 h
                refine ww_iconst (v := 0) hx hb dL_house_1135 (by decide) ?_
                obtain rfl := os1 h
                refine ww_perm (ws1 := []) [] rfl ?_
                exact ww_kzret hx hb (by omega) (by omega) hr hlk (by decide) rfl dL_house_1136
              · replace h := it_p c_202 h
                exact ww_sub (lv1 := [(0, .ref (q 0))]) [0] rfl (bk1070 _ hDD _ _ (by omega) (by omega) _ h)
  have bk939 : ∀ (q : Nat → Nat) (hDD : ∀ τ : SS, va_D (va_A [] s.heap.size) (WC q cA τ)) (cells slots : Nat) (hc : cells + 260 ≤ 746) (hs : slots + 1560 ≤ 4532) (τ : SS) , L_house_b939 τ = some r → WW p l e (rmc 25 1000 746 4532) s m args below meth c D vwCl (va_A [] s.heap.size) 1 cells slots (vx_MQ below (qxW D vwCl [] [] (.inl r) s.heap.size) (xcW D vwCl [] [] (.inl r) s.heap.size) args s 746 4532 (va_A [] s.heap.size)) (WC q cA τ) 939 [(0, .ref (q 0))] [] := by
    intro q hDD cells slots hc hs τ h
    unfold L_house_b939 at h
    refine ww_aload_n hx hb dL_house_939 rfl 0 rfl ?_
    refine ww_callV (ws1 := WC q cA τ) (st1 := [.int (X4_house τ)]) hx hb hml hown hts hK hN hA (hDD _) (by show _ ≤ 746; omega) (by show _ ≤ 4532; omega) [] [] (m_X4_house τ) cs_L_82 rfl ⟨Nat.le_of_ble_eq_true rfl, Nat.le_of_ble_eq_true rfl⟩ 0 rfl rfl rfl (Nat.le_of_ble_eq_true rfl) dL_house_940 rfl ?_
    refine ww_sipush (v := 253) hx hb dL_house_943 (by decide) ?_
    refine ww_ne2 (tgt := 970) hx hb dL_house_946 (by decide) (fun c_180 => ?_) (fun c_180 => ?_)
    · replace h := it_n c_180 h
      refine ww_iconst (v := 0) hx hb dL_house_970 (by decide) ?_
      obtain rfl := os1 h
      refine ww_perm (ws1 := []) [] rfl ?_
      exact ww_kzret hx hb (by omega) (by omega) hr hlk (by decide) rfl dL_house_971
    · replace h := it_p c_180 h
      refine ww_aload_n hx hb dL_house_949 rfl 0 rfl ?_
      refine ww_callV (ws1 := WC q cA τ) (st1 := [.int (X4_costs τ)]) hx hb hml hown hts hK hN hA (hDD _) (by show _ ≤ 746; omega) (by show _ ≤ 4532; omega) [] [] (m_X4_costs τ) cs_L_79 rfl ⟨Nat.le_of_ble_eq_true rfl, Nat.le_of_ble_eq_true rfl⟩ 0 rfl rfl rfl (Nat.le_of_ble_eq_true rfl) dL_house_950 rfl ?_
      refine ww_sipush (v := 1700) hx hb dL_house_953 (by decide) ?_
      refine ww_ne2 (tgt := 970) hx hb dL_house_956 (by decide) (fun c_182 => ?_) (fun c_182 => ?_)
      · replace h := it_n c_182 h
        refine ww_iconst (v := 0) hx hb dL_house_970 (by decide) ?_
        obtain rfl := os1 h
        refine ww_perm (ws1 := []) [] rfl ?_
        exact ww_kzret hx hb (by omega) (by omega) hr hlk (by decide) rfl dL_house_971
      · replace h := it_p c_182 h
        refine ww_aload_n hx hb dL_house_959 rfl 0 rfl ?_
        refine ww_iconst (v := 3) hx hb dL_house_960 (by decide) ?_
        refine ww_iconst (v := 0) hx hb dL_house_961 (by decide) ?_
        refine ww_iconst (v := 2) hx hb dL_house_962 (by decide) ?_
        refine ww_iconst (v := 4) hx hb dL_house_963 (by decide) ?_
        obtain ⟨r_183, σ_183, e_183, h⟩ := ob2 h
        refine ww_callK (w01 := WC q cA σ_183) (st1 := [.int (r_183)]) hx hb hml hown hts hK hN hA hZ [.ref (q 0), .int ((3 : Int32)), .int ((0 : Int32)), .int ((2 : Int32)), .int ((4 : Int32))] [] (m_L_refuses hl0 _ _ _ _ _ _ _ e_183) cs_L_109 rfl ⟨Nat.le_of_ble_eq_true rfl, Nat.le_of_ble_eq_true rfl⟩ ⟨by show _ ≤ 746; omega, by show _ ≤ 4532; omega⟩ (hDD _) rfl (Nat.le_of_ble_eq_true rfl) dL_house_964 rfl ?_
        refine ww_ne0 (tgt := 972) hx hb dL_house_967 (by decide) (fun c_184 => ?_) (fun c_184 => ?_)
        · replace h := it_n c_184 h
          refine ww_aload_n hx hb dL_house_972 rfl 0 rfl ?_
          refine ww_iconst (v := 3) hx hb dL_house_973 (by decide) ?_
          refine ww_bipush (v := 30) hx hb dL_house_974 (by decide) ?_
          obtain ⟨r_185, σ_185, e_185, h⟩ := obx h
          refine ww_callXI (w01 := WC q cA σ_185) (st1 := [.int (r_185)]) hx hb hml hown hts hK hN hA hZ [.int ((3 : Int32)), .int ((30 : Int32))] [] (m_X4_approve hl0 _ _ _ _ _ e_185) cs_L_24 rfl ⟨Nat.le_of_ble_eq_true rfl, Nat.le_of_ble_eq_true rfl⟩ ⟨by show _ ≤ 746; omega, by show _ ≤ 4532; omega⟩ (hDD _) 0 rfl rfl rfl (Nat.le_of_ble_eq_true rfl) dL_house_976 rfl ?_
          refine ww_bipush (v := 30) hx hb dL_house_979 (by decide) ?_
          refine ww_ne2 (tgt := 1135) hx hb dL_house_981 (by decide) (fun c_186 => ?_) (fun c_186 => ?_)
          · replace h := it_n c_186 h
            refine ww_iconst (v := 0) hx hb dL_house_1135 (by decide) ?_
            obtain rfl := os1 h
            refine ww_perm (ws1 := []) [] rfl ?_
            exact ww_kzret hx hb (by omega) (by omega) hr hlk (by decide) rfl dL_house_1136
          · replace h := it_p c_186 h
            refine ww_aload_n hx hb dL_house_984 rfl 0 rfl ?_
            refine ww_bipush (v := 20) hx hb dL_house_985 (by decide) ?_
            obtain ⟨r_187, σ_187, e_187, h⟩ := obx h
            refine ww_callXI (w01 := WC q cA σ_187) (st1 := [.int (r_187)]) hx hb hml hown hts hK hN hA hZ [.int ((20 : Int32))] [] (m_X4_grant hl0 _ _ _ _ e_187) cs_L_27 rfl ⟨Nat.le_of_ble_eq_true rfl, Nat.le_of_ble_eq_true rfl⟩ ⟨by show _ ≤ 746; omega, by show _ ≤ 4532; omega⟩ (hDD _) 0 rfl rfl rfl (Nat.le_of_ble_eq_true rfl) dL_house_987 rfl ?_
            refine ww_bipush (v := 20) hx hb dL_house_990 (by decide) ?_
            refine ww_ne2 (tgt := 1135) hx hb dL_house_992 (by decide) (fun c_188 => ?_) (fun c_188 => ?_)
            · replace h := it_n c_188 h
              refine ww_iconst (v := 0) hx hb dL_house_1135 (by decide) ?_
              obtain rfl := os1 h
              refine ww_perm (ws1 := []) [] rfl ?_
              exact ww_kzret hx hb (by omega) (by omega) hr hlk (by decide) rfl dL_house_1136
            · replace h := it_p c_188 h
              refine ww_aload_n hx hb dL_house_995 rfl 0 rfl ?_
              refine ww_bipush (v := 6) hx hb dL_house_996 (by decide) ?_
              refine ww_iconst (v := 3) hx hb dL_house_998 (by decide) ?_
              refine ww_bipush (v := 51) hx hb dL_house_999 (by decide) ?_
              refine ww_iconst (v := 0) hx hb dL_house_1001 (by decide) ?_
              obtain ⟨r_189, σ_189, e_189, h⟩ := ob2 h
              refine ww_callH0 (w01 := WC q cA σ_189) (st1 := [.int (r_189)]) hx hb hml hown hts hK hN hA hZ [.ref (q 0), .int ((6 : Int32)), .int ((3 : Int32)), .int ((51 : Int32)), .int ((0 : Int32))] [] (m_L_act hl0 _ _ _ _ _ _ _ e_189) cs_L_87 rfl ⟨Nat.le_of_ble_eq_true rfl, Nat.le_of_ble_eq_true rfl⟩ ⟨by show _ ≤ 746; omega, by show _ ≤ 4532; omega⟩ (hDD _) rfl (Nat.le_of_ble_eq_true rfl) dL_house_1002 rfl ?_
              refine ww_bipush (v := (-73)) hx hb dL_house_1005 (by decide) ?_
              refine ww_ne2 (tgt := 1135) hx hb dL_house_1007 (by decide) (fun c_190 => ?_) (fun c_190 => ?_)
              · replace h := it_n c_190 h
                refine ww_iconst (v := 0) hx hb dL_house_1135 (by decide) ?_
                obtain rfl := os1 h
                refine ww_perm (ws1 := []) [] rfl ?_
                exact ww_kzret hx hb (by omega) (by omega) hr hlk (by decide) rfl dL_house_1136
              · replace h := it_p c_190 h
                exact ww_sub (lv1 := [(0, .ref (q 0))]) [0] rfl (bk1010 _ hDD _ _ (by omega) (by omega) _ h)
        · replace h := it_p c_184 h
          refine ww_iconst (v := 0) hx hb dL_house_970 (by decide) ?_
          obtain rfl := os1 h
          refine ww_perm (ws1 := []) [] rfl ?_
          exact ww_kzret hx hb (by omega) (by omega) hr hlk (by decide) rfl dL_house_971
  have bk878 : ∀ (q : Nat → Nat) (hDD : ∀ τ : SS, va_D (va_A [] s.heap.size) (WC q cA τ)) (cells slots : Nat) (hc : cells + 265 ≤ 746) (hs : slots + 1590 ≤ 4532) (τ : SS) , L_house_b878 τ = some r → WW p l e (rmc 25 1000 746 4532) s m args below meth c D vwCl (va_A [] s.heap.size) 1 cells slots (vx_MQ below (qxW D vwCl [] [] (.inl r) s.heap.size) (xcW D vwCl [] [] (.inl r) s.heap.size) args s 746 4532 (va_A [] s.heap.size)) (WC q cA τ) 878 [(0, .ref (q 0))] [] := by
    intro q hDD cells slots hc hs τ h
    unfold L_house_b878 at h
    refine ww_aload_n hx hb dL_house_878 rfl 0 rfl ?_
    refine ww_iconst (v := 0) hx hb dL_house_879 (by decide) ?_
    obtain ⟨r_167, σ_167, e_167, h⟩ := obx h
    refine ww_callXI (w01 := WC q cA σ_167) (st1 := [.int (r_167)]) hx hb hml hown hts hK hN hA hZ [.int ((0 : Int32))] [] (m_X4_got hl0 _ _ _ _ e_167) cs_L_60 rfl ⟨Nat.le_of_ble_eq_true rfl, Nat.le_of_ble_eq_true rfl⟩ ⟨by show _ ≤ 746; omega, by show _ ≤ 4532; omega⟩ (hDD _) 0 rfl rfl rfl (Nat.le_of_ble_eq_true rfl) dL_house_880 rfl ?_
    refine ww_ne0 (tgt := 970) hx hb dL_house_883 (by decide) (fun c_168 => ?_) (fun c_168 => ?_)
    · replace h := it_n c_168 h
      refine ww_iconst (v := 0) hx hb dL_house_970 (by decide) ?_
      obtain rfl := os1 h
      refine ww_perm (ws1 := []) [] rfl ?_
      exact ww_kzret hx hb (by omega) (by omega) hr hlk (by decide) rfl dL_house_971
    · replace h := it_p c_168 h
      refine ww_aload_n hx hb dL_house_886 rfl 0 rfl ?_
      refine ww_callV (ws1 := WC q cA σ_167) (st1 := [.int (X4_house σ_167)]) hx hb hml hown hts hK hN hA (hDD _) (by show _ ≤ 746; omega) (by show _ ≤ 4532; omega) [] [] (m_X4_house σ_167) cs_L_82 rfl ⟨Nat.le_of_ble_eq_true rfl, Nat.le_of_ble_eq_true rfl⟩ 0 rfl rfl rfl (Nat.le_of_ble_eq_true rfl) dL_house_887 rfl ?_
      refine ww_sipush (v := 250) hx hb dL_house_890 (by decide) ?_
      refine ww_ne2 (tgt := 970) hx hb dL_house_893 (by decide) (fun c_170 => ?_) (fun c_170 => ?_)
      · replace h := it_n c_170 h
        refine ww_iconst (v := 0) hx hb dL_house_970 (by decide) ?_
        obtain rfl := os1 h
        refine ww_perm (ws1 := []) [] rfl ?_
        exact ww_kzret hx hb (by omega) (by omega) hr hlk (by decide) rfl dL_house_971
      · replace h := it_p c_170 h
        refine ww_aload_n hx hb dL_house_896 rfl 0 rfl ?_
        refine ww_bipush (v := 7) hx hb dL_house_897 (by decide) ?_
        obtain ⟨r_171, σ_171, e_171, h⟩ := obx h
        refine ww_callXI (w01 := WC q cA σ_171) (st1 := [.int (r_171)]) hx hb hml hown hts hK hN hA hZ [.int ((7 : Int32))] [] (m_X4_income hl0 _ _ _ _ e_171) cs_L_41 rfl ⟨Nat.le_of_ble_eq_true rfl, Nat.le_of_ble_eq_true rfl⟩ ⟨by show _ ≤ 746; omega, by show _ ≤ 4532; omega⟩ (hDD _) 0 rfl rfl rfl (Nat.le_of_ble_eq_true rfl) dL_house_899 rfl ?_
        refine ww_bipush (v := 7) hx hb dL_house_902 (by decide) ?_
        refine ww_ne2 (tgt := 970) hx hb dL_house_904 (by decide) (fun c_172 => ?_) (fun c_172 => ?_)
        · replace h := it_n c_172 h
          refine ww_iconst (v := 0) hx hb dL_house_970 (by decide) ?_
          obtain rfl := os1 h
          refine ww_perm (ws1 := []) [] rfl ?_
          exact ww_kzret hx hb (by omega) (by omega) hr hlk (by decide) rfl dL_house_971
        · replace h := it_p c_172 h
          refine ww_aload_n hx hb dL_house_907 rfl 0 rfl ?_
          refine ww_iconst (v := 3) hx hb dL_house_908 (by decide) ?_
          obtain ⟨r_173, σ_173, e_173, h⟩ := obx h
          refine ww_callXI (w01 := WC q cA σ_173) (st1 := [.int (r_173)]) hx hb hml hown hts hK hN hA hZ [.int ((3 : Int32))] [] (m_X4_got hl0 _ _ _ _ e_173) cs_L_60 rfl ⟨Nat.le_of_ble_eq_true rfl, Nat.le_of_ble_eq_true rfl⟩ ⟨by show _ ≤ 746; omega, by show _ ≤ 4532; omega⟩ (hDD _) 0 rfl rfl rfl (Nat.le_of_ble_eq_true rfl) dL_house_909 rfl ?_
          refine ww_sipush (v := 403) hx hb dL_house_912 (by decide) ?_
          refine ww_ne2 (tgt := 970) hx hb dL_house_915 (by decide) (fun c_174 => ?_) (fun c_174 => ?_)
          · replace h := it_n c_174 h
            refine ww_iconst (v := 0) hx hb dL_house_970 (by decide) ?_
            obtain rfl := os1 h
            refine ww_perm (ws1 := []) [] rfl ?_
            exact ww_kzret hx hb (by omega) (by omega) hr hlk (by decide) rfl dL_house_971
          · replace h := it_p c_174 h
            refine ww_aload_n hx hb dL_house_918 rfl 0 rfl ?_
            refine ww_iconst (v := 2) hx hb dL_house_919 (by decide) ?_
            obtain ⟨r_175, σ_175, e_175, h⟩ := obx h
            refine ww_callXI (w01 := WC q cA σ_175) (st1 := [.int (r_175)]) hx hb hml hown hts hK hN hA hZ [.int ((2 : Int32))] [] (m_X4_got hl0 _ _ _ _ e_175) cs_L_60 rfl ⟨Nat.le_of_ble_eq_true rfl, Nat.le_of_ble_eq_true rfl⟩ ⟨by show _ ≤ 746; omega, by show _ ≤ 4532; omega⟩ (hDD _) 0 rfl rfl rfl (Nat.le_of_ble_eq_true rfl) dL_house_920 rfl ?_
            refine ww_sipush (v := 451) hx hb dL_house_923 (by decide) ?_
            refine ww_ne2 (tgt := 970) hx hb dL_house_926 (by decide) (fun c_176 => ?_) (fun c_176 => ?_)
            · replace h := it_n c_176 h
              refine ww_iconst (v := 0) hx hb dL_house_970 (by decide) ?_
              obtain rfl := os1 h
              refine ww_perm (ws1 := []) [] rfl ?_
              exact ww_kzret hx hb (by omega) (by omega) hr hlk (by decide) rfl dL_house_971
            · replace h := it_p c_176 h
              refine ww_aload_n hx hb dL_house_929 rfl 0 rfl ?_
              refine ww_iconst (v := 4) hx hb dL_house_930 (by decide) ?_
              obtain ⟨r_177, σ_177, e_177, h⟩ := obx h
              refine ww_callXI (w01 := WC q cA σ_177) (st1 := [.int (r_177)]) hx hb hml hown hts hK hN hA hZ [.int ((4 : Int32))] [] (m_X4_got hl0 _ _ _ _ e_177) cs_L_60 rfl ⟨Nat.le_of_ble_eq_true rfl, Nat.le_of_ble_eq_true rfl⟩ ⟨by show _ ≤ 746; omega, by show _ ≤ 4532; omega⟩ (hDD _) 0 rfl rfl rfl (Nat.le_of_ble_eq_true rfl) dL_house_931 rfl ?_
              refine ww_bipush (v := 50) hx hb dL_house_934 (by decide) ?_
              refine ww_ne2 (tgt := 970) hx hb dL_house_936 (by decide) (fun c_178 => ?_) (fun c_178 => ?_)
              · replace h := it_n c_178 h
                refine ww_iconst (v := 0) hx hb dL_house_970 (by decide) ?_
                obtain rfl := os1 h
                refine ww_perm (ws1 := []) [] rfl ?_
                exact ww_kzret hx hb (by omega) (by omega) hr hlk (by decide) rfl dL_house_971
              · replace h := it_p c_178 h
                exact ww_sub (lv1 := [(0, .ref (q 0))]) [0] rfl (bk939 _ hDD _ _ (by omega) (by omega) _ h)
  have bk815 : ∀ (q : Nat → Nat) (hDD : ∀ τ : SS, va_D (va_A [] s.heap.size) (WC q cA τ)) (cells slots : Nat) (hc : cells + 271 ≤ 746) (hs : slots + 1626 ≤ 4532) (τ : SS) , L_house_b815 τ = some r → WW p l e (rmc 25 1000 746 4532) s m args below meth c D vwCl (va_A [] s.heap.size) 1 cells slots (vx_MQ below (qxW D vwCl [] [] (.inl r) s.heap.size) (xcW D vwCl [] [] (.inl r) s.heap.size) args s 746 4532 (va_A [] s.heap.size)) (WC q cA τ) 815 [(0, .ref (q 0))] [] := by
    intro q hDD cells slots hc hs τ h
    unfold L_house_b815 at h
    refine ww_aload_n hx hb dL_house_815 rfl 0 rfl ?_
    refine ww_sipush (v := 1200) hx hb dL_house_816 (by decide) ?_
    obtain ⟨r_155, σ_155, e_155, h⟩ := obx h
    refine ww_callXI (w01 := WC q cA σ_155) (st1 := [.int (r_155)]) hx hb hml hown hts hK hN hA hZ [.int ((1200 : Int32))] [] (m_X4_income hl0 _ _ _ _ e_155) cs_L_41 rfl ⟨Nat.le_of_ble_eq_true rfl, Nat.le_of_ble_eq_true rfl⟩ ⟨by show _ ≤ 746; omega, by show _ ≤ 4532; omega⟩ (hDD _) 0 rfl rfl rfl (Nat.le_of_ble_eq_true rfl) dL_house_819 rfl ?_
    refine ww_sipush (v := 1000) hx hb dL_house_822 (by decide) ?_
    refine ww_ne2 (tgt := 970) hx hb dL_house_825 (by decide) (fun c_156 => ?_) (fun c_156 => ?_)
    · replace h := it_n c_156 h
      refine ww_iconst (v := 0) hx hb dL_house_970 (by decide) ?_
      obtain rfl := os1 h
      refine ww_perm (ws1 := []) [] rfl ?_
      exact ww_kzret hx hb (by omega) (by omega) hr hlk (by decide) rfl dL_house_971
    · replace h := it_p c_156 h
      refine ww_aload_n hx hb dL_house_828 rfl 0 rfl ?_
      refine ww_iconst (v := 1) hx hb dL_house_829 (by decide) ?_
      obtain ⟨r_157, σ_157, e_157, h⟩ := obx h
      refine ww_callXI (w01 := WC q cA σ_157) (st1 := [.int (r_157)]) hx hb hml hown hts hK hN hA hZ [.int ((1 : Int32))] [] (m_X4_openOf hl0 _ _ _ _ e_157) cs_L_57 rfl ⟨Nat.le_of_ble_eq_true rfl, Nat.le_of_ble_eq_true rfl⟩ ⟨by show _ ≤ 746; omega, by show _ ≤ 4532; omega⟩ (hDD _) 0 rfl rfl rfl (Nat.le_of_ble_eq_true rfl) dL_house_830 rfl ?_
      refine ww_ne0 (tgt := 970) hx hb dL_house_833 (by decide) (fun c_158 => ?_) (fun c_158 => ?_)
      · replace h := it_n c_158 h
        refine ww_iconst (v := 0) hx hb dL_house_970 (by decide) ?_
        obtain rfl := os1 h
        refine ww_perm (ws1 := []) [] rfl ?_
        exact ww_kzret hx hb (by omega) (by omega) hr hlk (by decide) rfl dL_house_971
      · replace h := it_p c_158 h
        refine ww_aload_n hx hb dL_house_836 rfl 0 rfl ?_
        refine ww_iconst (v := 2) hx hb dL_house_837 (by decide) ?_
        obtain ⟨r_159, σ_159, e_159, h⟩ := obx h
        refine ww_callXI (w01 := WC q cA σ_159) (st1 := [.int (r_159)]) hx hb hml hown hts hK hN hA hZ [.int ((2 : Int32))] [] (m_X4_got hl0 _ _ _ _ e_159) cs_L_60 rfl ⟨Nat.le_of_ble_eq_true rfl, Nat.le_of_ble_eq_true rfl⟩ ⟨by show _ ≤ 746; omega, by show _ ≤ 4532; omega⟩ (hDD _) 0 rfl rfl rfl (Nat.le_of_ble_eq_true rfl) dL_house_838 rfl ?_
        refine ww_sipush (v := 450) hx hb dL_house_841 (by decide) ?_
        refine ww_ne2 (tgt := 970) hx hb dL_house_844 (by decide) (fun c_160 => ?_) (fun c_160 => ?_)
        · replace h := it_n c_160 h
          refine ww_iconst (v := 0) hx hb dL_house_970 (by decide) ?_
          obtain rfl := os1 h
          refine ww_perm (ws1 := []) [] rfl ?_
          exact ww_kzret hx hb (by omega) (by omega) hr hlk (by decide) rfl dL_house_971
        · replace h := it_p c_160 h
          refine ww_aload_n hx hb dL_house_847 rfl 0 rfl ?_
          refine ww_iconst (v := 3) hx hb dL_house_848 (by decide) ?_
          obtain ⟨r_161, σ_161, e_161, h⟩ := obx h
          refine ww_callXI (w01 := WC q cA σ_161) (st1 := [.int (r_161)]) hx hb hml hown hts hK hN hA hZ [.int ((3 : Int32))] [] (m_X4_got hl0 _ _ _ _ e_161) cs_L_60 rfl ⟨Nat.le_of_ble_eq_true rfl, Nat.le_of_ble_eq_true rfl⟩ ⟨by show _ ≤ 746; omega, by show _ ≤ 4532; omega⟩ (hDD _) 0 rfl rfl rfl (Nat.le_of_ble_eq_true rfl) dL_house_849 rfl ?_
          refine ww_sipush (v := 400) hx hb dL_house_852 (by decide) ?_
          refine ww_ne2 (tgt := 970) hx hb dL_house_855 (by decide) (fun c_162 => ?_) (fun c_162 => ?_)
          · replace h := it_n c_162 h
            refine ww_iconst (v := 0) hx hb dL_house_970 (by decide) ?_
            obtain rfl := os1 h
            refine ww_perm (ws1 := []) [] rfl ?_
            exact ww_kzret hx hb (by omega) (by omega) hr hlk (by decide) rfl dL_house_971
          · replace h := it_p c_162 h
            refine ww_aload_n hx hb dL_house_858 rfl 0 rfl ?_
            refine ww_iconst (v := 4) hx hb dL_house_859 (by decide) ?_
            obtain ⟨r_163, σ_163, e_163, h⟩ := obx h
            refine ww_callXI (w01 := WC q cA σ_163) (st1 := [.int (r_163)]) hx hb hml hown hts hK hN hA hZ [.int ((4 : Int32))] [] (m_X4_got hl0 _ _ _ _ e_163) cs_L_60 rfl ⟨Nat.le_of_ble_eq_true rfl, Nat.le_of_ble_eq_true rfl⟩ ⟨by show _ ≤ 746; omega, by show _ ≤ 4532; omega⟩ (hDD _) 0 rfl rfl rfl (Nat.le_of_ble_eq_true rfl) dL_house_860 rfl ?_
            refine ww_bipush (v := 50) hx hb dL_house_863 (by decide) ?_
            refine ww_ne2 (tgt := 970) hx hb dL_house_865 (by decide) (fun c_164 => ?_) (fun c_164 => ?_)
            · replace h := it_n c_164 h
              refine ww_iconst (v := 0) hx hb dL_house_970 (by decide) ?_
              obtain rfl := os1 h
              refine ww_perm (ws1 := []) [] rfl ?_
              exact ww_kzret hx hb (by omega) (by omega) hr hlk (by decide) rfl dL_house_971
            · replace h := it_p c_164 h
              refine ww_aload_n hx hb dL_house_868 rfl 0 rfl ?_
              refine ww_iconst (v := 5) hx hb dL_house_869 (by decide) ?_
              obtain ⟨r_165, σ_165, e_165, h⟩ := obx h
              refine ww_callXI (w01 := WC q cA σ_165) (st1 := [.int (r_165)]) hx hb hml hown hts hK hN hA hZ [.int ((5 : Int32))] [] (m_X4_got hl0 _ _ _ _ e_165) cs_L_60 rfl ⟨Nat.le_of_ble_eq_true rfl, Nat.le_of_ble_eq_true rfl⟩ ⟨by show _ ≤ 746; omega, by show _ ≤ 4532; omega⟩ (hDD _) 0 rfl rfl rfl (Nat.le_of_ble_eq_true rfl) dL_house_870 rfl ?_
              refine ww_bipush (v := 50) hx hb dL_house_873 (by decide) ?_
              refine ww_ne2 (tgt := 970) hx hb dL_house_875 (by decide) (fun c_166 => ?_) (fun c_166 => ?_)
              · replace h := it_n c_166 h
                refine ww_iconst (v := 0) hx hb dL_house_970 (by decide) ?_
                obtain rfl := os1 h
                refine ww_perm (ws1 := []) [] rfl ?_
                exact ww_kzret hx hb (by omega) (by omega) hr hlk (by decide) rfl dL_house_971
              · replace h := it_p c_166 h
                exact ww_sub (lv1 := [(0, .ref (q 0))]) [0] rfl (bk878 _ hDD _ _ (by omega) (by omega) _ h)
  have bk760 : ∀ (q : Nat → Nat) (hDD : ∀ τ : SS, va_D (va_A [] s.heap.size) (WC q cA τ)) (cells slots : Nat) (hc : cells + 276 ≤ 746) (hs : slots + 1656 ≤ 4532) (τ : SS) , L_house_b760 τ = some r → WW p l e (rmc 25 1000 746 4532) s m args below meth c D vwCl (va_A [] s.heap.size) 1 cells slots (vx_MQ below (qxW D vwCl [] [] (.inl r) s.heap.size) (xcW D vwCl [] [] (.inl r) s.heap.size) args s 746 4532 (va_A [] s.heap.size)) (WC q cA τ) 760 [(0, .ref (q 0))] [] := by
    intro q hDD cells slots hc hs τ h
    unfold L_house_b760 at h
    refine ww_aload_n hx hb dL_house_760 rfl 0 rfl ?_
    refine ww_sipush (v := 1000) hx hb dL_house_761 (by decide) ?_
    obtain ⟨r_143, σ_143, e_143, h⟩ := obx h
    refine ww_callXI (w01 := WC q cA σ_143) (st1 := [.int (r_143)]) hx hb hml hown hts hK hN hA hZ [.int ((1000 : Int32))] [] (m_X4_income hl0 _ _ _ _ e_143) cs_L_41 rfl ⟨Nat.le_of_ble_eq_true rfl, Nat.le_of_ble_eq_true rfl⟩ ⟨by show _ ≤ 746; omega, by show _ ≤ 4532; omega⟩ (hDD _) 0 rfl rfl rfl (Nat.le_of_ble_eq_true rfl) dL_house_764 rfl ?_
    refine ww_ne0 (tgt := 970) hx hb dL_house_767 (by decide) (fun c_144 => ?_) (fun c_144 => ?_)
    · replace h := it_n c_144 h
      refine ww_iconst (v := 0) hx hb dL_house_970 (by decide) ?_
      obtain rfl := os1 h
      refine ww_perm (ws1 := []) [] rfl ?_
      exact ww_kzret hx hb (by omega) (by omega) hr hlk (by decide) rfl dL_house_971
    · replace h := it_p c_144 h
      refine ww_aload_n hx hb dL_house_770 rfl 0 rfl ?_
      refine ww_callV (ws1 := WC q cA σ_143) (st1 := [.int (X4_open σ_143)]) hx hb hml hown hts hK hN hA (hDD _) (by show _ ≤ 746; omega) (by show _ ≤ 4532; omega) [] [] (m_X4_open σ_143) cs_L_112 rfl ⟨Nat.le_of_ble_eq_true rfl, Nat.le_of_ble_eq_true rfl⟩ 0 rfl rfl rfl (Nat.le_of_ble_eq_true rfl) dL_house_771 rfl ?_
      refine ww_ne0 (tgt := 970) hx hb dL_house_774 (by decide) (fun c_146 => ?_) (fun c_146 => ?_)
      · replace h := it_n c_146 h
        refine ww_iconst (v := 0) hx hb dL_house_970 (by decide) ?_
        obtain rfl := os1 h
        refine ww_perm (ws1 := []) [] rfl ?_
        exact ww_kzret hx hb (by omega) (by omega) hr hlk (by decide) rfl dL_house_971
      · replace h := it_p c_146 h
        refine ww_aload_n hx hb dL_house_777 rfl 0 rfl ?_
        refine ww_iconst (v := 0) hx hb dL_house_778 (by decide) ?_
        obtain ⟨r_147, σ_147, e_147, h⟩ := obx h
        refine ww_callXI (w01 := WC q cA σ_147) (st1 := [.int (r_147)]) hx hb hml hown hts hK hN hA hZ [.int ((0 : Int32))] [] (m_X4_openOf hl0 _ _ _ _ e_147) cs_L_57 rfl ⟨Nat.le_of_ble_eq_true rfl, Nat.le_of_ble_eq_true rfl⟩ ⟨by show _ ≤ 746; omega, by show _ ≤ 4532; omega⟩ (hDD _) 0 rfl rfl rfl (Nat.le_of_ble_eq_true rfl) dL_house_779 rfl ?_
        refine ww_ne0 (tgt := 970) hx hb dL_house_782 (by decide) (fun c_148 => ?_) (fun c_148 => ?_)
        · replace h := it_n c_148 h
          refine ww_iconst (v := 0) hx hb dL_house_970 (by decide) ?_
          obtain rfl := os1 h
          refine ww_perm (ws1 := []) [] rfl ?_
          exact ww_kzret hx hb (by omega) (by omega) hr hlk (by decide) rfl dL_house_971
        · replace h := it_p c_148 h
          refine ww_aload_n hx hb dL_house_785 rfl 0 rfl ?_
          refine ww_iconst (v := 1) hx hb dL_house_786 (by decide) ?_
          obtain ⟨r_149, σ_149, e_149, h⟩ := obx h
          refine ww_callXI (w01 := WC q cA σ_149) (st1 := [.int (r_149)]) hx hb hml hown hts hK hN hA hZ [.int ((1 : Int32))] [] (m_X4_openOf hl0 _ _ _ _ e_149) cs_L_57 rfl ⟨Nat.le_of_ble_eq_true rfl, Nat.le_of_ble_eq_true rfl⟩ ⟨by show _ ≤ 746; omega, by show _ ≤ 4532; omega⟩ (hDD _) 0 rfl rfl rfl (Nat.le_of_ble_eq_true rfl) dL_house_787 rfl ?_
          refine ww_sipush (v := 200) hx hb dL_house_790 (by decide) ?_
          refine ww_ne2 (tgt := 970) hx hb dL_house_793 (by decide) (fun c_150 => ?_) (fun c_150 => ?_)
          · replace h := it_n c_150 h
            refine ww_iconst (v := 0) hx hb dL_house_970 (by decide) ?_
            obtain rfl := os1 h
            refine ww_perm (ws1 := []) [] rfl ?_
            exact ww_kzret hx hb (by omega) (by omega) hr hlk (by decide) rfl dL_house_971
          · replace h := it_p c_150 h
            refine ww_aload_n hx hb dL_house_796 rfl 0 rfl ?_
            refine ww_iconst (v := 1) hx hb dL_house_797 (by decide) ?_
            obtain ⟨r_151, σ_151, e_151, h⟩ := obx h
            refine ww_callXI (w01 := WC q cA σ_151) (st1 := [.int (r_151)]) hx hb hml hown hts hK hN hA hZ [.int ((1 : Int32))] [] (m_X4_got hl0 _ _ _ _ e_151) cs_L_60 rfl ⟨Nat.le_of_ble_eq_true rfl, Nat.le_of_ble_eq_true rfl⟩ ⟨by show _ ≤ 746; omega, by show _ ≤ 4532; omega⟩ (hDD _) 0 rfl rfl rfl (Nat.le_of_ble_eq_true rfl) dL_house_798 rfl ?_
            refine ww_sipush (v := 300) hx hb dL_house_801 (by decide) ?_
            refine ww_ne2 (tgt := 970) hx hb dL_house_804 (by decide) (fun c_152 => ?_) (fun c_152 => ?_)
            · replace h := it_n c_152 h
              refine ww_iconst (v := 0) hx hb dL_house_970 (by decide) ?_
              obtain rfl := os1 h
              refine ww_perm (ws1 := []) [] rfl ?_
              exact ww_kzret hx hb (by omega) (by omega) hr hlk (by decide) rfl dL_house_971
            · replace h := it_p c_152 h
              refine ww_aload_n hx hb dL_house_807 rfl 0 rfl ?_
              refine ww_iconst (v := 3) hx hb dL_house_808 (by decide) ?_
              obtain ⟨r_153, σ_153, e_153, h⟩ := obx h
              refine ww_callXI (w01 := WC q cA σ_153) (st1 := [.int (r_153)]) hx hb hml hown hts hK hN hA hZ [.int ((3 : Int32))] [] (m_X4_got hl0 _ _ _ _ e_153) cs_L_60 rfl ⟨Nat.le_of_ble_eq_true rfl, Nat.le_of_ble_eq_true rfl⟩ ⟨by show _ ≤ 746; omega, by show _ ≤ 4532; omega⟩ (hDD _) 0 rfl rfl rfl (Nat.le_of_ble_eq_true rfl) dL_house_809 rfl ?_
              refine ww_ne0 (tgt := 970) hx hb dL_house_812 (by decide) (fun c_154 => ?_) (fun c_154 => ?_)
              · replace h := it_n c_154 h
                refine ww_iconst (v := 0) hx hb dL_house_970 (by decide) ?_
                obtain rfl := os1 h
                refine ww_perm (ws1 := []) [] rfl ?_
                exact ww_kzret hx hb (by omega) (by omega) hr hlk (by decide) rfl dL_house_971
              · replace h := it_p c_154 h
                exact ww_sub (lv1 := [(0, .ref (q 0))]) [0] rfl (bk815 _ hDD _ _ (by omega) (by omega) _ h)
  have bk687 : ∀ (q : Nat → Nat) (hDD : ∀ τ : SS, va_D (va_A [] s.heap.size) (WC q cA τ)) (cells slots : Nat) (hc : cells + 281 ≤ 746) (hs : slots + 1686 ≤ 4532) (τ : SS) , L_house_b687 τ = some r → WW p l e (rmc 25 1000 746 4532) s m args below meth c D vwCl (va_A [] s.heap.size) 1 cells slots (vx_MQ below (qxW D vwCl [] [] (.inl r) s.heap.size) (xcW D vwCl [] [] (.inl r) s.heap.size) args s 746 4532 (va_A [] s.heap.size)) (WC q cA τ) 687 [(0, .ref (q 0))] [] := by
    intro q hDD cells slots hc hs τ h
    unfold L_house_b687 at h
    refine ww_aload_n hx hb dL_house_687 rfl 0 rfl ?_
    refine ww_bipush (v := 8) hx hb dL_house_688 (by decide) ?_
    refine ww_iconst (v := -1) hx hb dL_house_690 (by decide) ?_
    refine ww_iconst (v := 3) hx hb dL_house_691 (by decide) ?_
    refine ww_bipush (v := 51) hx hb dL_house_692 (by decide) ?_
    obtain ⟨r_131, σ_131, e_131, h⟩ := ob2 h
    refine ww_callH0 (w01 := WC q cA σ_131) (st1 := [.int (r_131)]) hx hb hml hown hts hK hN hA hZ [.ref (q 0), .int ((8 : Int32)), .int ((-1 : Int32)), .int ((3 : Int32)), .int ((51 : Int32))] [] (m_L_act hl0 _ _ _ _ _ _ _ e_131) cs_L_87 rfl ⟨Nat.le_of_ble_eq_true rfl, Nat.le_of_ble_eq_true rfl⟩ ⟨by show _ ≤ 746; omega, by show _ ≤ 4532; omega⟩ (hDD _) rfl (Nat.le_of_ble_eq_true rfl) dL_house_694 rfl ?_
    refine ww_bipush (v := (-73)) hx hb dL_house_697 (by decide) ?_
    refine ww_ne2 (tgt := 970) hx hb dL_house_699 (by decide) (fun c_132 => ?_) (fun c_132 => ?_)
    · replace h := it_n c_132 h
      refine ww_iconst (v := 0) hx hb dL_house_970 (by decide) ?_
      obtain rfl := os1 h
      refine ww_perm (ws1 := []) [] rfl ?_
      exact ww_kzret hx hb (by omega) (by omega) hr hlk (by decide) rfl dL_house_971
    · replace h := it_p c_132 h
      refine ww_aload_n hx hb dL_house_702 rfl 0 rfl ?_
      refine ww_iconst (v := -1) hx hb dL_house_703 (by decide) ?_
      refine ww_iconst (v := 2) hx hb dL_house_704 (by decide) ?_
      refine ww_bipush (v := 25) hx hb dL_house_705 (by decide) ?_
      obtain ⟨r_133, σ_133, e_133, h⟩ := obx h
      refine ww_callXI (w01 := WC q cA σ_133) (st1 := [.int (r_133)]) hx hb hml hown hts hK hN hA hZ [.int ((-1 : Int32)), .int ((2 : Int32)), .int ((25 : Int32))] [] (m_X4_part hl0 _ _ _ _ _ _ e_133) cs_L_37 rfl ⟨Nat.le_of_ble_eq_true rfl, Nat.le_of_ble_eq_true rfl⟩ ⟨by show _ ≤ 746; omega, by show _ ≤ 4532; omega⟩ (hDD _) 0 rfl rfl rfl (Nat.le_of_ble_eq_true rfl) dL_house_707 rfl ?_
      refine ww_iconst (v := 3) hx hb dL_house_710 (by decide) ?_
      refine ww_ne2 (tgt := 970) hx hb dL_house_711 (by decide) (fun c_134 => ?_) (fun c_134 => ?_)
      · replace h := it_n c_134 h
        refine ww_iconst (v := 0) hx hb dL_house_970 (by decide) ?_
        obtain rfl := os1 h
        refine ww_perm (ws1 := []) [] rfl ?_
        exact ww_kzret hx hb (by omega) (by omega) hr hlk (by decide) rfl dL_house_971
      · replace h := it_p c_134 h
        refine ww_aload_n hx hb dL_house_714 rfl 0 rfl ?_
        refine ww_bipush (v := 8) hx hb dL_house_715 (by decide) ?_
        refine ww_iconst (v := 0) hx hb dL_house_717 (by decide) ?_
        refine ww_iconst (v := 3) hx hb dL_house_718 (by decide) ?_
        refine ww_bipush (v := 81) hx hb dL_house_719 (by decide) ?_
        obtain ⟨r_135, σ_135, e_135, h⟩ := ob2 h
        refine ww_callH0 (w01 := WC q cA σ_135) (st1 := [.int (r_135)]) hx hb hml hown hts hK hN hA hZ [.ref (q 0), .int ((8 : Int32)), .int ((0 : Int32)), .int ((3 : Int32)), .int ((81 : Int32))] [] (m_L_act hl0 _ _ _ _ _ _ _ e_135) cs_L_87 rfl ⟨Nat.le_of_ble_eq_true rfl, Nat.le_of_ble_eq_true rfl⟩ ⟨by show _ ≤ 746; omega, by show _ ≤ 4532; omega⟩ (hDD _) rfl (Nat.le_of_ble_eq_true rfl) dL_house_721 rfl ?_
        refine ww_bipush (v := (-73)) hx hb dL_house_724 (by decide) ?_
        refine ww_ne2 (tgt := 970) hx hb dL_house_726 (by decide) (fun c_136 => ?_) (fun c_136 => ?_)
        · replace h := it_n c_136 h
          refine ww_iconst (v := 0) hx hb dL_house_970 (by decide) ?_
          obtain rfl := os1 h
          refine ww_perm (ws1 := []) [] rfl ?_
          exact ww_kzret hx hb (by omega) (by omega) hr hlk (by decide) rfl dL_house_971
        · replace h := it_p c_136 h
          refine ww_aload_n hx hb dL_house_729 rfl 0 rfl ?_
          refine ww_sipush (v := 1000) hx hb dL_house_730 (by decide) ?_
          obtain ⟨r_137, σ_137, e_137, h⟩ := obx h
          refine ww_callXI (w01 := WC q cA σ_137) (st1 := [.int (r_137)]) hx hb hml hown hts hK hN hA hZ [.int ((1000 : Int32))] [] (m_X4_income hl0 _ _ _ _ e_137) cs_L_41 rfl ⟨Nat.le_of_ble_eq_true rfl, Nat.le_of_ble_eq_true rfl⟩ ⟨by show _ ≤ 746; omega, by show _ ≤ 4532; omega⟩ (hDD _) 0 rfl rfl rfl (Nat.le_of_ble_eq_true rfl) dL_house_733 rfl ?_
          refine ww_ne0 (tgt := 970) hx hb dL_house_736 (by decide) (fun c_138 => ?_) (fun c_138 => ?_)
          · replace h := it_n c_138 h
            refine ww_iconst (v := 0) hx hb dL_house_970 (by decide) ?_
            obtain rfl := os1 h
            refine ww_perm (ws1 := []) [] rfl ?_
            exact ww_kzret hx hb (by omega) (by omega) hr hlk (by decide) rfl dL_house_971
          · replace h := it_p c_138 h
            refine ww_aload_n hx hb dL_house_739 rfl 0 rfl ?_
            refine ww_callV (ws1 := WC q cA σ_137) (st1 := [.int (X4_open σ_137)]) hx hb hml hown hts hK hN hA (hDD _) (by show _ ≤ 746; omega) (by show _ ≤ 4532; omega) [] [] (m_X4_open σ_137) cs_L_112 rfl ⟨Nat.le_of_ble_eq_true rfl, Nat.le_of_ble_eq_true rfl⟩ 0 rfl rfl rfl (Nat.le_of_ble_eq_true rfl) dL_house_740 rfl ?_
            refine ww_sipush (v := 700) hx hb dL_house_743 (by decide) ?_
            refine ww_ne2 (tgt := 970) hx hb dL_house_746 (by decide) (fun c_140 => ?_) (fun c_140 => ?_)
            · replace h := it_n c_140 h
              refine ww_iconst (v := 0) hx hb dL_house_970 (by decide) ?_
              obtain rfl := os1 h
              refine ww_perm (ws1 := []) [] rfl ?_
              exact ww_kzret hx hb (by omega) (by omega) hr hlk (by decide) rfl dL_house_971
            · replace h := it_p c_140 h
              refine ww_aload_n hx hb dL_house_749 rfl 0 rfl ?_
              refine ww_iconst (v := 0) hx hb dL_house_750 (by decide) ?_
              obtain ⟨r_141, σ_141, e_141, h⟩ := obx h
              refine ww_callXI (w01 := WC q cA σ_141) (st1 := [.int (r_141)]) hx hb hml hown hts hK hN hA hZ [.int ((0 : Int32))] [] (m_X4_openOf hl0 _ _ _ _ e_141) cs_L_57 rfl ⟨Nat.le_of_ble_eq_true rfl, Nat.le_of_ble_eq_true rfl⟩ ⟨by show _ ≤ 746; omega, by show _ ≤ 4532; omega⟩ (hDD _) 0 rfl rfl rfl (Nat.le_of_ble_eq_true rfl) dL_house_751 rfl ?_
              refine ww_sipush (v := 300) hx hb dL_house_754 (by decide) ?_
              refine ww_ne2 (tgt := 970) hx hb dL_house_757 (by decide) (fun c_142 => ?_) (fun c_142 => ?_)
              · replace h := it_n c_142 h
                refine ww_iconst (v := 0) hx hb dL_house_970 (by decide) ?_
                obtain rfl := os1 h
                refine ww_perm (ws1 := []) [] rfl ?_
                exact ww_kzret hx hb (by omega) (by omega) hr hlk (by decide) rfl dL_house_971
              · replace h := it_p c_142 h
                exact ww_sub (lv1 := [(0, .ref (q 0))]) [0] rfl (bk760 _ hDD _ _ (by omega) (by omega) _ h)
  have bk616 : ∀ (q : Nat → Nat) (hDD : ∀ τ : SS, va_D (va_A [] s.heap.size) (WC q cA τ)) (cells slots : Nat) (hc : cells + 411 ≤ 746) (hs : slots + 2466 ≤ 4532) (τ : SS) , L_house_b616 τ = some r → WW p l e (rmc 25 1000 746 4532) s m args below meth c D vwCl (va_A [] s.heap.size) 1 cells slots (vx_MQ below (qxW D vwCl [] [] (.inl r) s.heap.size) (xcW D vwCl [] [] (.inl r) s.heap.size) args s 746 4532 (va_A [] s.heap.size)) (WC q cA τ) 616 [(0, .ref (q 0))] [] := by
    intro q hDD cells slots hc hs τ h
    unfold L_house_b616 at h
    refine ww_aload_n hx hb dL_house_616 rfl 0 rfl ?_
    refine ww_iconst (v := 3) hx hb dL_house_617 (by decide) ?_
    refine ww_iconst (v := 0) hx hb dL_house_618 (by decide) ?_
    refine ww_iconst (v := 0) hx hb dL_house_619 (by decide) ?_
    refine ww_iconst (v := 0) hx hb dL_house_620 (by decide) ?_
    obtain ⟨r_119, σ_119, e_119, h⟩ := ob2 h
    refine ww_callK (w01 := WC q cA σ_119) (st1 := [.int (r_119)]) hx hb hml hown hts hK hN hA hZ [.ref (q 0), .int ((3 : Int32)), .int ((0 : Int32)), .int ((0 : Int32)), .int ((0 : Int32))] [] (m_L_refuses hl0 _ _ _ _ _ _ _ e_119) cs_L_109 rfl ⟨Nat.le_of_ble_eq_true rfl, Nat.le_of_ble_eq_true rfl⟩ ⟨by show _ ≤ 746; omega, by show _ ≤ 4532; omega⟩ (hDD _) rfl (Nat.le_of_ble_eq_true rfl) dL_house_621 rfl ?_
    refine ww_ne0 (tgt := 629) hx hb dL_house_624 (by decide) (fun c_120 => ?_) (fun c_120 => ?_)
    · replace h := it_n c_120 h
      refine ww_aload_n hx hb dL_house_629 rfl 0 rfl ?_
      refine ww_iconst (v := 1) hx hb dL_house_630 (by decide) ?_
      refine ww_sipush (v := 300) hx hb dL_house_631 (by decide) ?_
      obtain ⟨r_121, σ_121, e_121, h⟩ := obx h
      refine ww_callXI (w01 := WC q cA σ_121) (st1 := [.int (r_121)]) hx hb hml hown hts hK hN hA hZ [.int ((1 : Int32)), .int ((300 : Int32))] [] (m_X4_loan hl0 _ _ _ _ _ e_121) cs_L_34 rfl ⟨Nat.le_of_ble_eq_true rfl, Nat.le_of_ble_eq_true rfl⟩ ⟨by show _ ≤ 746; omega, by show _ ≤ 4532; omega⟩ (hDD _) 0 rfl rfl rfl (Nat.le_of_ble_eq_true rfl) dL_house_634 rfl ?_
      refine ww_ne0 (tgt := 970) hx hb dL_house_637 (by decide) (fun c_122 => ?_) (fun c_122 => ?_)
      · replace h := it_n c_122 h
        refine ww_iconst (v := 0) hx hb dL_house_970 (by decide) ?_
        obtain rfl := os1 h
        refine ww_perm (ws1 := []) [] rfl ?_
        exact ww_kzret hx hb (by omega) (by omega) hr hlk (by decide) rfl dL_house_971
      · replace h := it_p c_122 h
        refine ww_aload_n hx hb dL_house_640 rfl 0 rfl ?_
        refine ww_iconst (v := 2) hx hb dL_house_641 (by decide) ?_
        refine ww_sipush (v := 200) hx hb dL_house_642 (by decide) ?_
        obtain ⟨r_123, σ_123, e_123, h⟩ := obx h
        refine ww_callXI (w01 := WC q cA σ_123) (st1 := [.int (r_123)]) hx hb hml hown hts hK hN hA hZ [.int ((2 : Int32)), .int ((200 : Int32))] [] (m_X4_loan hl0 _ _ _ _ _ e_123) cs_L_34 rfl ⟨Nat.le_of_ble_eq_true rfl, Nat.le_of_ble_eq_true rfl⟩ ⟨by show _ ≤ 746; omega, by show _ ≤ 4532; omega⟩ (hDD _) 0 rfl rfl rfl (Nat.le_of_ble_eq_true rfl) dL_house_645 rfl ?_
        refine ww_iconst (v := 1) hx hb dL_house_648 (by decide) ?_
        refine ww_ne2 (tgt := 970) hx hb dL_house_649 (by decide) (fun c_124 => ?_) (fun c_124 => ?_)
        · replace h := it_n c_124 h
          refine ww_iconst (v := 0) hx hb dL_house_970 (by decide) ?_
          obtain rfl := os1 h
          refine ww_perm (ws1 := []) [] rfl ?_
          exact ww_kzret hx hb (by omega) (by omega) hr hlk (by decide) rfl dL_house_971
        · replace h := it_p c_124 h
          refine ww_aload_n hx hb dL_house_652 rfl 0 rfl ?_
          refine ww_iconst (v := -1) hx hb dL_house_653 (by decide) ?_
          refine ww_iconst (v := 3) hx hb dL_house_654 (by decide) ?_
          refine ww_bipush (v := 50) hx hb dL_house_655 (by decide) ?_
          obtain ⟨r_125, σ_125, e_125, h⟩ := obx h
          refine ww_callXI (w01 := WC q cA σ_125) (st1 := [.int (r_125)]) hx hb hml hown hts hK hN hA hZ [.int ((-1 : Int32)), .int ((3 : Int32)), .int ((50 : Int32))] [] (m_X4_part hl0 _ _ _ _ _ _ e_125) cs_L_37 rfl ⟨Nat.le_of_ble_eq_true rfl, Nat.le_of_ble_eq_true rfl⟩ ⟨by show _ ≤ 746; omega, by show _ ≤ 4532; omega⟩ (hDD _) 0 rfl rfl rfl (Nat.le_of_ble_eq_true rfl) dL_house_657 rfl ?_
          refine ww_ne0 (tgt := 970) hx hb dL_house_660 (by decide) (fun c_126 => ?_) (fun c_126 => ?_)
          · replace h := it_n c_126 h
            refine ww_iconst (v := 0) hx hb dL_house_970 (by decide) ?_
            obtain rfl := os1 h
            refine ww_perm (ws1 := []) [] rfl ?_
            exact ww_kzret hx hb (by omega) (by omega) hr hlk (by decide) rfl dL_house_971
          · replace h := it_p c_126 h
            refine ww_aload_n hx hb dL_house_663 rfl 0 rfl ?_
            refine ww_iconst (v := 0) hx hb dL_house_664 (by decide) ?_
            refine ww_iconst (v := 4) hx hb dL_house_665 (by decide) ?_
            refine ww_bipush (v := 20) hx hb dL_house_666 (by decide) ?_
            obtain ⟨r_127, σ_127, e_127, h⟩ := obx h
            refine ww_callXI (w01 := WC q cA σ_127) (st1 := [.int (r_127)]) hx hb hml hown hts hK hN hA hZ [.int ((0 : Int32)), .int ((4 : Int32)), .int ((20 : Int32))] [] (m_X4_part hl0 _ _ _ _ _ _ e_127) cs_L_37 rfl ⟨Nat.le_of_ble_eq_true rfl, Nat.le_of_ble_eq_true rfl⟩ ⟨by show _ ≤ 746; omega, by show _ ≤ 4532; omega⟩ (hDD _) 0 rfl rfl rfl (Nat.le_of_ble_eq_true rfl) dL_house_668 rfl ?_
            refine ww_iconst (v := 1) hx hb dL_house_671 (by decide) ?_
            refine ww_ne2 (tgt := 970) hx hb dL_house_672 (by decide) (fun c_128 => ?_) (fun c_128 => ?_)
            · replace h := it_n c_128 h
              refine ww_iconst (v := 0) hx hb dL_house_970 (by decide) ?_
              obtain rfl := os1 h
              refine ww_perm (ws1 := []) [] rfl ?_
              exact ww_kzret hx hb (by omega) (by omega) hr hlk (by decide) rfl dL_house_971
            · replace h := it_p c_128 h
              refine ww_aload_n hx hb dL_house_675 rfl 0 rfl ?_
              refine ww_iconst (v := 1) hx hb dL_house_676 (by decide) ?_
              refine ww_iconst (v := 5) hx hb dL_house_677 (by decide) ?_
              refine ww_bipush (v := 50) hx hb dL_house_678 (by decide) ?_
              obtain ⟨r_129, σ_129, e_129, h⟩ := obx h
              refine ww_callXI (w01 := WC q cA σ_129) (st1 := [.int (r_129)]) hx hb hml hown hts hK hN hA hZ [.int ((1 : Int32)), .int ((5 : Int32)), .int ((50 : Int32))] [] (m_X4_part hl0 _ _ _ _ _ _ e_129) cs_L_37 rfl ⟨Nat.le_of_ble_eq_true rfl, Nat.le_of_ble_eq_true rfl⟩ ⟨by show _ ≤ 746; omega, by show _ ≤ 4532; omega⟩ (hDD _) 0 rfl rfl rfl (Nat.le_of_ble_eq_true rfl) dL_house_680 rfl ?_
              refine ww_iconst (v := 2) hx hb dL_house_683 (by decide) ?_
              refine ww_ne2 (tgt := 970) hx hb dL_house_684 (by decide) (fun c_130 => ?_) (fun c_130 => ?_)
              · replace h := it_n c_130 h
                refine ww_iconst (v := 0) hx hb dL_house_970 (by decide) ?_
                obtain rfl := os1 h
                refine ww_perm (ws1 := []) [] rfl ?_
                exact ww_kzret hx hb (by omega) (by omega) hr hlk (by decide) rfl dL_house_971
              · replace h := it_p c_130 h
                exact ww_sub (lv1 := [(0, .ref (q 0))]) [0] rfl (bk687 _ hDD _ _ (by omega) (by omega) _ h)
    · replace h := it_p c_120 h
      refine ww_iconst (v := 0) hx hb dL_house_627 (by decide) ?_
      obtain rfl := os1 h
      refine ww_perm (ws1 := []) [] rfl ?_
      exact ww_kzret hx hb (by omega) (by omega) hr hlk (by decide) rfl dL_house_628
  have bk563 : ∀ (q : Nat → Nat) (hDD : ∀ τ : SS, va_D (va_A [] s.heap.size) (WC q cA τ)) (cells slots : Nat) (hc : cells + 414 ≤ 746) (hs : slots + 2484 ≤ 4532) (τ : SS) , L_house_b563 τ = some r → WW p l e (rmc 25 1000 746 4532) s m args below meth c D vwCl (va_A [] s.heap.size) 1 cells slots (vx_MQ below (qxW D vwCl [] [] (.inl r) s.heap.size) (xcW D vwCl [] [] (.inl r) s.heap.size) args s 746 4532 (va_A [] s.heap.size)) (WC q cA τ) 563 [(0, .ref (q 0))] [] := by
    intro q hDD cells slots hc hs τ h
    unfold L_house_b563 at h
    refine ww_aload_n hx hb dL_house_563 rfl 0 rfl ?_
    refine ww_iconst (v := 1) hx hb dL_house_564 (by decide) ?_
    obtain ⟨r_107, σ_107, e_107, h⟩ := obx h
    refine ww_callXI (w01 := WC q cA σ_107) (st1 := [.int (r_107)]) hx hb hml hown hts hK hN hA hZ [.int ((1 : Int32))] [] (m_X4_shoot hl0 _ _ _ _ e_107) cs_L_20 rfl ⟨Nat.le_of_ble_eq_true rfl, Nat.le_of_ble_eq_true rfl⟩ ⟨by show _ ≤ 746; omega, by show _ ≤ 4532; omega⟩ (hDD _) 0 rfl rfl rfl (Nat.le_of_ble_eq_true rfl) dL_house_565 rfl ?_
    refine ww_ne0 (tgt := 627) hx hb dL_house_568 (by decide) (fun c_108 => ?_) (fun c_108 => ?_)
    · replace h := it_n c_108 h
      refine ww_iconst (v := 0) hx hb dL_house_627 (by decide) ?_
      obtain rfl := os1 h
      refine ww_perm (ws1 := []) [] rfl ?_
      exact ww_kzret hx hb (by omega) (by omega) hr hlk (by decide) rfl dL_house_628
    · replace h := it_p c_108 h
      refine ww_aload_n hx hb dL_house_571 rfl 0 rfl ?_
      refine ww_callV (ws1 := WC q cA σ_107) (st1 := [.int (X4_today σ_107)]) hx hb hml hown hts hK hN hA (hDD _) (by show _ ≤ 746; omega) (by show _ ≤ 4532; omega) [] [] (m_X4_today σ_107) cs_L_99 rfl ⟨Nat.le_of_ble_eq_true rfl, Nat.le_of_ble_eq_true rfl⟩ 0 rfl rfl rfl (Nat.le_of_ble_eq_true rfl) dL_house_572 rfl ?_
      refine ww_iconst (v := 5) hx hb dL_house_575 (by decide) ?_
      refine ww_ne2 (tgt := 627) hx hb dL_house_576 (by decide) (fun c_110 => ?_) (fun c_110 => ?_)
      · replace h := it_n c_110 h
        refine ww_iconst (v := 0) hx hb dL_house_627 (by decide) ?_
        obtain rfl := os1 h
        refine ww_perm (ws1 := []) [] rfl ?_
        exact ww_kzret hx hb (by omega) (by omega) hr hlk (by decide) rfl dL_house_628
      · replace h := it_p c_110 h
        refine ww_aload_n hx hb dL_house_579 rfl 0 rfl ?_
        refine ww_iconst (v := 0) hx hb dL_house_580 (by decide) ?_
        refine ww_iconst (v := 0) hx hb dL_house_581 (by decide) ?_
        obtain ⟨r_111, σ_111, e_111, h⟩ := obx h
        refine ww_callXI (w01 := WC q cA σ_111) (st1 := [.int (r_111)]) hx hb hml hown hts hK hN hA hZ [.int ((0 : Int32)), .int ((0 : Int32))] [] (m_X4_setRates hl0 _ _ _ _ _ e_111) cs_L_16 rfl ⟨Nat.le_of_ble_eq_true rfl, Nat.le_of_ble_eq_true rfl⟩ ⟨by show _ ≤ 746; omega, by show _ ≤ 4532; omega⟩ (hDD _) 0 rfl rfl rfl (Nat.le_of_ble_eq_true rfl) dL_house_582 rfl ?_
        refine ww_bipush (v := 100) hx hb dL_house_585 (by decide) ?_
        refine ww_ne2 (tgt := 627) hx hb dL_house_587 (by decide) (fun c_112 => ?_) (fun c_112 => ?_)
        · replace h := it_n c_112 h
          refine ww_iconst (v := 0) hx hb dL_house_627 (by decide) ?_
          obtain rfl := os1 h
          refine ww_perm (ws1 := []) [] rfl ?_
          exact ww_kzret hx hb (by omega) (by omega) hr hlk (by decide) rfl dL_house_628
        · replace h := it_p c_112 h
          refine ww_aload_n hx hb dL_house_590 rfl 0 rfl ?_
          refine ww_iconst (v := 1) hx hb dL_house_591 (by decide) ?_
          obtain ⟨r_113, σ_113, e_113, h⟩ := ob2 h
          refine ww_callV (ws1 := WC q cA σ_113) (st1 := [.int (r_113)]) hx hb hml hown hts hK hN hA (hDD _) (by show _ ≤ 746; omega) (by show _ ≤ 4532; omega) [.int ((1 : Int32))] [] (m_X4_hold _ _ _ _ e_113) cs_L_115 rfl ⟨Nat.le_of_ble_eq_true rfl, Nat.le_of_ble_eq_true rfl⟩ 0 rfl rfl rfl (Nat.le_of_ble_eq_true rfl) dL_house_592 rfl ?_
          refine ww_ne0 (tgt := 627) hx hb dL_house_595 (by decide) (fun c_114 => ?_) (fun c_114 => ?_)
          · replace h := it_n c_114 h
            refine ww_iconst (v := 0) hx hb dL_house_627 (by decide) ?_
            obtain rfl := os1 h
            refine ww_perm (ws1 := []) [] rfl ?_
            exact ww_kzret hx hb (by omega) (by omega) hr hlk (by decide) rfl dL_house_628
          · replace h := it_p c_114 h
            refine ww_aload_n hx hb dL_house_598 rfl 0 rfl ?_
            refine ww_iconst (v := 1) hx hb dL_house_599 (by decide) ?_
            obtain ⟨r_115, σ_115, e_115, h⟩ := obx h
            refine ww_callXI (w01 := WC q cA σ_115) (st1 := [.int (r_115)]) hx hb hml hown hts hK hN hA hZ [.int ((1 : Int32))] [] (m_X4_shoot hl0 _ _ _ _ e_115) cs_L_20 rfl ⟨Nat.le_of_ble_eq_true rfl, Nat.le_of_ble_eq_true rfl⟩ ⟨by show _ ≤ 746; omega, by show _ ≤ 4532; omega⟩ (hDD _) 0 rfl rfl rfl (Nat.le_of_ble_eq_true rfl) dL_house_600 rfl ?_
            refine ww_ne0 (tgt := 627) hx hb dL_house_603 (by decide) (fun c_116 => ?_) (fun c_116 => ?_)
            · replace h := it_n c_116 h
              refine ww_iconst (v := 0) hx hb dL_house_627 (by decide) ?_
              obtain rfl := os1 h
              refine ww_perm (ws1 := []) [] rfl ?_
              exact ww_kzret hx hb (by omega) (by omega) hr hlk (by decide) rfl dL_house_628
            · replace h := it_p c_116 h
              refine ww_aload_n hx hb dL_house_606 rfl 0 rfl ?_
              refine ww_callV (ws1 := WC q cA σ_115) (st1 := [.int (X4_costs σ_115)]) hx hb hml hown hts hK hN hA (hDD _) (by show _ ≤ 746; omega) (by show _ ≤ 4532; omega) [] [] (m_X4_costs σ_115) cs_L_79 rfl ⟨Nat.le_of_ble_eq_true rfl, Nat.le_of_ble_eq_true rfl⟩ 0 rfl rfl rfl (Nat.le_of_ble_eq_true rfl) dL_house_607 rfl ?_
              refine ww_sipush (v := 1700) hx hb dL_house_610 (by decide) ?_
              refine ww_ne2 (tgt := 627) hx hb dL_house_613 (by decide) (fun c_118 => ?_) (fun c_118 => ?_)
              · replace h := it_n c_118 h
                refine ww_iconst (v := 0) hx hb dL_house_627 (by decide) ?_
                obtain rfl := os1 h
                refine ww_perm (ws1 := []) [] rfl ?_
                exact ww_kzret hx hb (by omega) (by omega) hr hlk (by decide) rfl dL_house_628
              · replace h := it_p c_118 h
                exact ww_sub (lv1 := [(0, .ref (q 0))]) [0] rfl (bk616 _ hDD _ _ (by omega) (by omega) _ h)
  have bk509 : ∀ (q : Nat → Nat) (hDD : ∀ τ : SS, va_D (va_A [] s.heap.size) (WC q cA τ)) (cells slots : Nat) (hc : cells + 416 ≤ 746) (hs : slots + 2496 ≤ 4532) (τ : SS) , L_house_b509 τ = some r → WW p l e (rmc 25 1000 746 4532) s m args below meth c D vwCl (va_A [] s.heap.size) 1 cells slots (vx_MQ below (qxW D vwCl [] [] (.inl r) s.heap.size) (xcW D vwCl [] [] (.inl r) s.heap.size) args s 746 4532 (va_A [] s.heap.size)) (WC q cA τ) 509 [(0, .ref (q 0))] [] := by
    intro q hDD cells slots hc hs τ h
    unfold L_house_b509 at h
    refine ww_aload_n hx hb dL_house_509 rfl 0 rfl ?_
    refine ww_callV (ws1 := WC q cA τ) (st1 := [.int (X4_today τ)]) hx hb hml hown hts hK hN hA (hDD _) (by show _ ≤ 746; omega) (by show _ ≤ 4532; omega) [] [] (m_X4_today τ) cs_L_99 rfl ⟨Nat.le_of_ble_eq_true rfl, Nat.le_of_ble_eq_true rfl⟩ 0 rfl rfl rfl (Nat.le_of_ble_eq_true rfl) dL_house_510 rfl ?_
    refine ww_iconst (v := 3) hx hb dL_house_513 (by decide) ?_
    refine ww_ne2 (tgt := 627) hx hb dL_house_514 (by decide) (fun c_96 => ?_) (fun c_96 => ?_)
    · replace h := it_n c_96 h
      refine ww_iconst (v := 0) hx hb dL_house_627 (by decide) ?_
      obtain rfl := os1 h
      refine ww_perm (ws1 := []) [] rfl ?_
      exact ww_kzret hx hb (by omega) (by omega) hr hlk (by decide) rfl dL_house_628
    · replace h := it_p c_96 h
      refine ww_aload_n hx hb dL_house_517 rfl 0 rfl ?_
      refine ww_iconst (v := 0) hx hb dL_house_518 (by decide) ?_
      obtain ⟨r_97, σ_97, e_97, h⟩ := obx h
      refine ww_callXI (w01 := WC q cA σ_97) (st1 := [.int (r_97)]) hx hb hml hown hts hK hN hA hZ [.int ((0 : Int32))] [] (m_X4_shoot hl0 _ _ _ _ e_97) cs_L_20 rfl ⟨Nat.le_of_ble_eq_true rfl, Nat.le_of_ble_eq_true rfl⟩ ⟨by show _ ≤ 746; omega, by show _ ≤ 4532; omega⟩ (hDD _) 0 rfl rfl rfl (Nat.le_of_ble_eq_true rfl) dL_house_519 rfl ?_
      refine ww_ne0 (tgt := 627) hx hb dL_house_522 (by decide) (fun c_98 => ?_) (fun c_98 => ?_)
      · replace h := it_n c_98 h
        refine ww_iconst (v := 0) hx hb dL_house_627 (by decide) ?_
        obtain rfl := os1 h
        refine ww_perm (ws1 := []) [] rfl ?_
        exact ww_kzret hx hb (by omega) (by omega) hr hlk (by decide) rfl dL_house_628
      · replace h := it_p c_98 h
        refine ww_aload_n hx hb dL_house_525 rfl 0 rfl ?_
        refine ww_callV (ws1 := WC q cA σ_97) (st1 := [.int (X4_fee σ_97)]) hx hb hml hown hts hK hN hA (hDD _) (by show _ ≤ 746; omega) (by show _ ≤ 4532; omega) [] [] (m_X4_fee σ_97) cs_L_76 rfl ⟨Nat.le_of_ble_eq_true rfl, Nat.le_of_ble_eq_true rfl⟩ 0 rfl rfl rfl (Nat.le_of_ble_eq_true rfl) dL_house_526 rfl ?_
        refine ww_ne0 (tgt := 627) hx hb dL_house_529 (by decide) (fun c_100 => ?_) (fun c_100 => ?_)
        · replace h := it_n c_100 h
          refine ww_iconst (v := 0) hx hb dL_house_627 (by decide) ?_
          obtain rfl := os1 h
          refine ww_perm (ws1 := []) [] rfl ?_
          exact ww_kzret hx hb (by omega) (by omega) hr hlk (by decide) rfl dL_house_628
        · replace h := it_p c_100 h
          refine ww_aload_n hx hb dL_house_532 rfl 0 rfl ?_
          refine ww_callV (ws1 := WC q cA σ_97) (st1 := [.int (X4_costs σ_97)]) hx hb hml hown hts hK hN hA (hDD _) (by show _ ≤ 746; omega) (by show _ ≤ 4532; omega) [] [] (m_X4_costs σ_97) cs_L_79 rfl ⟨Nat.le_of_ble_eq_true rfl, Nat.le_of_ble_eq_true rfl⟩ 0 rfl rfl rfl (Nat.le_of_ble_eq_true rfl) dL_house_533 rfl ?_
          refine ww_sipush (v := 1700) hx hb dL_house_536 (by decide) ?_
          refine ww_ne2 (tgt := 627) hx hb dL_house_539 (by decide) (fun c_102 => ?_) (fun c_102 => ?_)
          · replace h := it_n c_102 h
            refine ww_iconst (v := 0) hx hb dL_house_627 (by decide) ?_
            obtain rfl := os1 h
            refine ww_perm (ws1 := []) [] rfl ?_
            exact ww_kzret hx hb (by omega) (by omega) hr hlk (by decide) rfl dL_house_628
          · replace h := it_p c_102 h
            refine ww_aload_n hx hb dL_house_542 rfl 0 rfl ?_
            refine ww_iconst (v := 3) hx hb dL_house_543 (by decide) ?_
            refine ww_iconst (v := 0) hx hb dL_house_544 (by decide) ?_
            refine ww_iconst (v := 0) hx hb dL_house_545 (by decide) ?_
            refine ww_iconst (v := 0) hx hb dL_house_546 (by decide) ?_
            obtain ⟨r_103, σ_103, e_103, h⟩ := ob2 h
            refine ww_callH0 (w01 := WC q cA σ_103) (st1 := [.int (r_103)]) hx hb hml hown hts hK hN hA hZ [.ref (q 0), .int ((3 : Int32)), .int ((0 : Int32)), .int ((0 : Int32)), .int ((0 : Int32))] [] (m_L_act hl0 _ _ _ _ _ _ _ e_103) cs_L_87 rfl ⟨Nat.le_of_ble_eq_true rfl, Nat.le_of_ble_eq_true rfl⟩ ⟨by show _ ≤ 746; omega, by show _ ≤ 4532; omega⟩ (hDD _) rfl (Nat.le_of_ble_eq_true rfl) dL_house_547 rfl ?_
            refine ww_bipush (v := (-73)) hx hb dL_house_550 (by decide) ?_
            refine ww_ne2 (tgt := 627) hx hb dL_house_552 (by decide) (fun c_104 => ?_) (fun c_104 => ?_)
            · replace h := it_n c_104 h
              refine ww_iconst (v := 0) hx hb dL_house_627 (by decide) ?_
              obtain rfl := os1 h
              refine ww_perm (ws1 := []) [] rfl ?_
              exact ww_kzret hx hb (by omega) (by omega) hr hlk (by decide) rfl dL_house_628
            · replace h := it_p c_104 h
              refine ww_aload_n hx hb dL_house_555 rfl 0 rfl ?_
              refine ww_iconst (v := 0) hx hb dL_house_556 (by decide) ?_
              obtain ⟨r_105, σ_105, e_105, h⟩ := ob2 h
              refine ww_callV (ws1 := WC q cA σ_105) (st1 := [.int (r_105)]) hx hb hml hown hts hK hN hA (hDD _) (by show _ ≤ 746; omega) (by show _ ≤ 4532; omega) [.int ((0 : Int32))] [] (m_X4_hold _ _ _ _ e_105) cs_L_115 rfl ⟨Nat.le_of_ble_eq_true rfl, Nat.le_of_ble_eq_true rfl⟩ 0 rfl rfl rfl (Nat.le_of_ble_eq_true rfl) dL_house_557 rfl ?_
              refine ww_eq0 (tgt := 627) hx hb dL_house_560 (by decide) (fun c_106 => ?_) (fun c_106 => ?_)
              · replace h := it_p c_106 h
                refine ww_iconst (v := 0) hx hb dL_house_627 (by decide) ?_
                obtain rfl := os1 h
                refine ww_perm (ws1 := []) [] rfl ?_
                exact ww_kzret hx hb (by omega) (by omega) hr hlk (by decide) rfl dL_house_628
              · replace h := it_n c_106 h
                exact ww_sub (lv1 := [(0, .ref (q 0))]) [0] rfl (bk563 _ hDD _ _ (by omega) (by omega) _ h)
  have bk451 : ∀ (q : Nat → Nat) (hDD : ∀ τ : SS, va_D (va_A [] s.heap.size) (WC q cA τ)) (cells slots : Nat) (hc : cells + 422 ≤ 746) (hs : slots + 2532 ≤ 4532) (τ : SS) , L_house_b451 τ = some r → WW p l e (rmc 25 1000 746 4532) s m args below meth c D vwCl (va_A [] s.heap.size) 1 cells slots (vx_MQ below (qxW D vwCl [] [] (.inl r) s.heap.size) (xcW D vwCl [] [] (.inl r) s.heap.size) args s 746 4532 (va_A [] s.heap.size)) (WC q cA τ) 451 [(0, .ref (q 0))] [] := by
    intro q hDD cells slots hc hs τ h
    unfold L_house_b451 at h
    refine ww_aload_n hx hb dL_house_451 rfl 0 rfl ?_
    refine ww_iconst (v := 0) hx hb dL_house_452 (by decide) ?_
    obtain ⟨r_83, σ_83, e_83, h⟩ := obx h
    refine ww_callXI (w01 := WC q cA σ_83) (st1 := [.int (r_83)]) hx hb hml hown hts hK hN hA hZ [.int ((0 : Int32))] [] (m_X4_left hl0 _ _ _ _ e_83) cs_L_54 rfl ⟨Nat.le_of_ble_eq_true rfl, Nat.le_of_ble_eq_true rfl⟩ ⟨by show _ ≤ 746; omega, by show _ ≤ 4532; omega⟩ (hDD _) 0 rfl rfl rfl (Nat.le_of_ble_eq_true rfl) dL_house_453 rfl ?_
    refine ww_ne0 (tgt := 627) hx hb dL_house_456 (by decide) (fun c_84 => ?_) (fun c_84 => ?_)
    · replace h := it_n c_84 h
      refine ww_iconst (v := 0) hx hb dL_house_627 (by decide) ?_
      obtain rfl := os1 h
      refine ww_perm (ws1 := []) [] rfl ?_
      exact ww_kzret hx hb (by omega) (by omega) hr hlk (by decide) rfl dL_house_628
    · replace h := it_p c_84 h
      refine ww_aload_n hx hb dL_house_459 rfl 0 rfl ?_
      refine ww_iconst (v := 1) hx hb dL_house_460 (by decide) ?_
      obtain ⟨r_85, σ_85, e_85, h⟩ := obx h
      refine ww_callXI (w01 := WC q cA σ_85) (st1 := [.int (r_85)]) hx hb hml hown hts hK hN hA hZ [.int ((1 : Int32))] [] (m_X4_left hl0 _ _ _ _ e_85) cs_L_54 rfl ⟨Nat.le_of_ble_eq_true rfl, Nat.le_of_ble_eq_true rfl⟩ ⟨by show _ ≤ 746; omega, by show _ ≤ 4532; omega⟩ (hDD _) 0 rfl rfl rfl (Nat.le_of_ble_eq_true rfl) dL_house_461 rfl ?_
      refine ww_ne0 (tgt := 627) hx hb dL_house_464 (by decide) (fun c_86 => ?_) (fun c_86 => ?_)
      · replace h := it_n c_86 h
        refine ww_iconst (v := 0) hx hb dL_house_627 (by decide) ?_
        obtain rfl := os1 h
        refine ww_perm (ws1 := []) [] rfl ?_
        exact ww_kzret hx hb (by omega) (by omega) hr hlk (by decide) rfl dL_house_628
      · replace h := it_p c_86 h
        refine ww_aload_n hx hb dL_house_467 rfl 0 rfl ?_
        refine ww_callV (ws1 := WC q cA σ_85) (st1 := [.int (X4_fee σ_85)]) hx hb hml hown hts hK hN hA (hDD _) (by show _ ≤ 746; omega) (by show _ ≤ 4532; omega) [] [] (m_X4_fee σ_85) cs_L_76 rfl ⟨Nat.le_of_ble_eq_true rfl, Nat.le_of_ble_eq_true rfl⟩ 0 rfl rfl rfl (Nat.le_of_ble_eq_true rfl) dL_house_468 rfl ?_
        refine ww_bipush (v := 50) hx hb dL_house_471 (by decide) ?_
        refine ww_ne2 (tgt := 627) hx hb dL_house_473 (by decide) (fun c_88 => ?_) (fun c_88 => ?_)
        · replace h := it_n c_88 h
          refine ww_iconst (v := 0) hx hb dL_house_627 (by decide) ?_
          obtain rfl := os1 h
          refine ww_perm (ws1 := []) [] rfl ?_
          exact ww_kzret hx hb (by omega) (by omega) hr hlk (by decide) rfl dL_house_628
        · replace h := it_p c_88 h
          refine ww_aload_n hx hb dL_house_476 rfl 0 rfl ?_
          refine ww_callV (ws1 := WC q cA σ_85) (st1 := [.int (X4_costs σ_85)]) hx hb hml hown hts hK hN hA (hDD _) (by show _ ≤ 746; omega) (by show _ ≤ 4532; omega) [] [] (m_X4_costs σ_85) cs_L_79 rfl ⟨Nat.le_of_ble_eq_true rfl, Nat.le_of_ble_eq_true rfl⟩ 0 rfl rfl rfl (Nat.le_of_ble_eq_true rfl) dL_house_477 rfl ?_
          refine ww_sipush (v := 1650) hx hb dL_house_480 (by decide) ?_
          refine ww_ne2 (tgt := 627) hx hb dL_house_483 (by decide) (fun c_90 => ?_) (fun c_90 => ?_)
          · replace h := it_n c_90 h
            refine ww_iconst (v := 0) hx hb dL_house_627 (by decide) ?_
            obtain rfl := os1 h
            refine ww_perm (ws1 := []) [] rfl ?_
            exact ww_kzret hx hb (by omega) (by omega) hr hlk (by decide) rfl dL_house_628
          · replace h := it_p c_90 h
            refine ww_aload_n hx hb dL_house_486 rfl 0 rfl ?_
            refine ww_callV (ws1 := WC q cA σ_85) (st1 := [.int (X4_shot σ_85)]) hx hb hml hown hts hK hN hA (hDD _) (by show _ ≤ 746; omega) (by show _ ≤ 4532; omega) [] [] (m_X4_shot σ_85) cs_L_102 rfl ⟨Nat.le_of_ble_eq_true rfl, Nat.le_of_ble_eq_true rfl⟩ 0 rfl rfl rfl (Nat.le_of_ble_eq_true rfl) dL_house_487 rfl ?_
            refine ww_bipush (v := 7) hx hb dL_house_490 (by decide) ?_
            refine ww_ne2 (tgt := 627) hx hb dL_house_492 (by decide) (fun c_92 => ?_) (fun c_92 => ?_)
            · replace h := it_n c_92 h
              refine ww_iconst (v := 0) hx hb dL_house_627 (by decide) ?_
              obtain rfl := os1 h
              refine ww_perm (ws1 := []) [] rfl ?_
              exact ww_kzret hx hb (by omega) (by omega) hr hlk (by decide) rfl dL_house_628
            · replace h := it_p c_92 h
              refine ww_aload_n hx hb dL_house_495 rfl 0 rfl ?_
              refine ww_iconst (v := 0) hx hb dL_house_496 (by decide) ?_
              refine ww_bipush (v := 8) hx hb dL_house_497 (by decide) ?_
              refine ww_bipush (v := 12) hx hb dL_house_499 (by decide) ?_
              refine ww_bipush (v := 56) hx hb dL_house_501 (by decide) ?_
              obtain ⟨r_93, σ_93, e_93, h⟩ := ob2 h
              refine ww_callK (w01 := WC q cA σ_93) (st1 := [.int (r_93)]) hx hb hml hown hts hK hN hA hZ [.ref (q 0), .int ((0 : Int32)), .int ((8 : Int32)), .int ((12 : Int32)), .int ((56 : Int32))] [] (m_L_plan hl0 _ _ _ _ _ _ _ e_93) cs_L_105 rfl ⟨Nat.le_of_ble_eq_true rfl, Nat.le_of_ble_eq_true rfl⟩ ⟨by show _ ≤ 746; omega, by show _ ≤ 4532; omega⟩ (hDD _) rfl (Nat.le_of_ble_eq_true rfl) dL_house_503 rfl ?_
              refine ww_eq0 (tgt := 627) hx hb dL_house_506 (by decide) (fun c_94 => ?_) (fun c_94 => ?_)
              · replace h := it_p c_94 h
                refine ww_iconst (v := 0) hx hb dL_house_627 (by decide) ?_
                obtain rfl := os1 h
                refine ww_perm (ws1 := []) [] rfl ?_
                exact ww_kzret hx hb (by omega) (by omega) hr hlk (by decide) rfl dL_house_628
              · replace h := it_n c_94 h
                exact ww_sub (lv1 := [(0, .ref (q 0))]) [0] rfl (bk509 _ hDD _ _ (by omega) (by omega) _ h)
  have bk383 : ∀ (q : Nat → Nat) (hDD : ∀ τ : SS, va_D (va_A [] s.heap.size) (WC q cA τ)) (cells slots : Nat) (hc : cells + 429 ≤ 746) (hs : slots + 2574 ≤ 4532) (τ : SS) , L_house_b383 τ = some r → WW p l e (rmc 25 1000 746 4532) s m args below meth c D vwCl (va_A [] s.heap.size) 1 cells slots (vx_MQ below (qxW D vwCl [] [] (.inl r) s.heap.size) (xcW D vwCl [] [] (.inl r) s.heap.size) args s 746 4532 (va_A [] s.heap.size)) (WC q cA τ) 383 [(0, .ref (q 0))] [] := by
    intro q hDD cells slots hc hs τ h
    unfold L_house_b383 at h
    refine ww_aload_n hx hb dL_house_383 rfl 0 rfl ?_
    refine ww_callV (ws1 := WC q cA τ) (st1 := [.int (X4_costs τ)]) hx hb hml hown hts hK hN hA (hDD _) (by show _ ≤ 746; omega) (by show _ ≤ 4532; omega) [] [] (m_X4_costs τ) cs_L_79 rfl ⟨Nat.le_of_ble_eq_true rfl, Nat.le_of_ble_eq_true rfl⟩ 0 rfl rfl rfl (Nat.le_of_ble_eq_true rfl) dL_house_384 rfl ?_
    refine ww_sipush (v := 1000) hx hb dL_house_387 (by decide) ?_
    refine ww_ne2 (tgt := 627) hx hb dL_house_390 (by decide) (fun c_72 => ?_) (fun c_72 => ?_)
    · replace h := it_n c_72 h
      refine ww_iconst (v := 0) hx hb dL_house_627 (by decide) ?_
      obtain rfl := os1 h
      refine ww_perm (ws1 := []) [] rfl ?_
      exact ww_kzret hx hb (by omega) (by omega) hr hlk (by decide) rfl dL_house_628
    · replace h := it_p c_72 h
      refine ww_aload_n hx hb dL_house_393 rfl 0 rfl ?_
      refine ww_iconst (v := 1) hx hb dL_house_394 (by decide) ?_
      refine ww_bipush (v := 8) hx hb dL_house_395 (by decide) ?_
      refine ww_bipush (v := 12) hx hb dL_house_397 (by decide) ?_
      refine ww_bipush (v := 56) hx hb dL_house_399 (by decide) ?_
      obtain ⟨r_73, σ_73, e_73, h⟩ := ob2 h
      refine ww_callK (w01 := WC q cA σ_73) (st1 := [.int (r_73)]) hx hb hml hown hts hK hN hA hZ [.ref (q 0), .int ((1 : Int32)), .int ((8 : Int32)), .int ((12 : Int32)), .int ((56 : Int32))] [] (m_L_plan hl0 _ _ _ _ _ _ _ e_73) cs_L_105 rfl ⟨Nat.le_of_ble_eq_true rfl, Nat.le_of_ble_eq_true rfl⟩ ⟨by show _ ≤ 746; omega, by show _ ≤ 4532; omega⟩ (hDD _) rfl (Nat.le_of_ble_eq_true rfl) dL_house_401 rfl ?_
      refine ww_eq0 (tgt := 627) hx hb dL_house_404 (by decide) (fun c_74 => ?_) (fun c_74 => ?_)
      · replace h := it_p c_74 h
        refine ww_iconst (v := 0) hx hb dL_house_627 (by decide) ?_
        obtain rfl := os1 h
        refine ww_perm (ws1 := []) [] rfl ?_
        exact ww_kzret hx hb (by omega) (by omega) hr hlk (by decide) rfl dL_house_628
      · replace h := it_n c_74 h
        refine ww_aload_n hx hb dL_house_407 rfl 0 rfl ?_
        refine ww_iconst (v := 1) hx hb dL_house_408 (by decide) ?_
        obtain ⟨r_75, σ_75, e_75, h⟩ := ob2 h
        refine ww_callV (ws1 := WC q cA σ_75) (st1 := [.int (r_75)]) hx hb hml hown hts hK hN hA (hDD _) (by show _ ≤ 746; omega) (by show _ ≤ 4532; omega) [.int ((1 : Int32))] [] (m_X4_hold _ _ _ _ e_75) cs_L_115 rfl ⟨Nat.le_of_ble_eq_true rfl, Nat.le_of_ble_eq_true rfl⟩ 0 rfl rfl rfl (Nat.le_of_ble_eq_true rfl) dL_house_409 rfl ?_
        refine ww_ne0 (tgt := 627) hx hb dL_house_412 (by decide) (fun c_76 => ?_) (fun c_76 => ?_)
        · replace h := it_n c_76 h
          refine ww_iconst (v := 0) hx hb dL_house_627 (by decide) ?_
          obtain rfl := os1 h
          refine ww_perm (ws1 := []) [] rfl ?_
          exact ww_kzret hx hb (by omega) (by omega) hr hlk (by decide) rfl dL_house_628
        · replace h := it_p c_76 h
          refine ww_aload_n hx hb dL_house_415 rfl 0 rfl ?_
          refine ww_iconst (v := 3) hx hb dL_house_416 (by decide) ?_
          refine ww_iconst (v := 1) hx hb dL_house_417 (by decide) ?_
          refine ww_iconst (v := 0) hx hb dL_house_418 (by decide) ?_
          refine ww_iconst (v := 0) hx hb dL_house_419 (by decide) ?_
          obtain ⟨r_77, σ_77, e_77, h⟩ := ob2 h
          refine ww_callH0 (w01 := WC q cA σ_77) (st1 := [.int (r_77)]) hx hb hml hown hts hK hN hA hZ [.ref (q 0), .int ((3 : Int32)), .int ((1 : Int32)), .int ((0 : Int32)), .int ((0 : Int32))] [] (m_L_act hl0 _ _ _ _ _ _ _ e_77) cs_L_87 rfl ⟨Nat.le_of_ble_eq_true rfl, Nat.le_of_ble_eq_true rfl⟩ ⟨by show _ ≤ 746; omega, by show _ ≤ 4532; omega⟩ (hDD _) rfl (Nat.le_of_ble_eq_true rfl) dL_house_420 rfl ?_
          refine ww_bipush (v := (-73)) hx hb dL_house_423 (by decide) ?_
          refine ww_ne2 (tgt := 627) hx hb dL_house_425 (by decide) (fun c_78 => ?_) (fun c_78 => ?_)
          · replace h := it_n c_78 h
            refine ww_iconst (v := 0) hx hb dL_house_627 (by decide) ?_
            obtain rfl := os1 h
            refine ww_perm (ws1 := []) [] rfl ?_
            exact ww_kzret hx hb (by omega) (by omega) hr hlk (by decide) rfl dL_house_628
          · replace h := it_p c_78 h
            refine ww_aload_n hx hb dL_house_428 rfl 0 rfl ?_
            refine ww_iconst (v := 0) hx hb dL_house_429 (by decide) ?_
            refine ww_sipush (v := 600) hx hb dL_house_430 (by decide) ?_
            obtain ⟨r_79, σ_79, e_79, h⟩ := obx h
            refine ww_callXI (w01 := WC q cA σ_79) (st1 := [.int (r_79)]) hx hb hml hown hts hK hN hA hZ [.int ((0 : Int32)), .int ((600 : Int32))] [] (m_X4_approve hl0 _ _ _ _ _ e_79) cs_L_24 rfl ⟨Nat.le_of_ble_eq_true rfl, Nat.le_of_ble_eq_true rfl⟩ ⟨by show _ ≤ 746; omega, by show _ ≤ 4532; omega⟩ (hDD _) 0 rfl rfl rfl (Nat.le_of_ble_eq_true rfl) dL_house_433 rfl ?_
            refine ww_sipush (v := 600) hx hb dL_house_436 (by decide) ?_
            refine ww_ne2 (tgt := 627) hx hb dL_house_439 (by decide) (fun c_80 => ?_) (fun c_80 => ?_)
            · replace h := it_n c_80 h
              refine ww_iconst (v := 0) hx hb dL_house_627 (by decide) ?_
              obtain rfl := os1 h
              refine ww_perm (ws1 := []) [] rfl ?_
              exact ww_kzret hx hb (by omega) (by omega) hr hlk (by decide) rfl dL_house_628
            · replace h := it_p c_80 h
              refine ww_aload_n hx hb dL_house_442 rfl 0 rfl ?_
              refine ww_iconst (v := 1) hx hb dL_house_443 (by decide) ?_
              obtain ⟨r_81, σ_81, e_81, h⟩ := obx h
              refine ww_callXI (w01 := WC q cA σ_81) (st1 := [.int (r_81)]) hx hb hml hown hts hK hN hA hZ [.int ((1 : Int32))] [] (m_X4_shoot hl0 _ _ _ _ e_81) cs_L_20 rfl ⟨Nat.le_of_ble_eq_true rfl, Nat.le_of_ble_eq_true rfl⟩ ⟨by show _ ≤ 746; omega, by show _ ≤ 4532; omega⟩ (hDD _) 0 rfl rfl rfl (Nat.le_of_ble_eq_true rfl) dL_house_444 rfl ?_
              refine ww_iconst (v := 1) hx hb dL_house_447 (by decide) ?_
              refine ww_ne2 (tgt := 627) hx hb dL_house_448 (by decide) (fun c_82 => ?_) (fun c_82 => ?_)
              · replace h := it_n c_82 h
                refine ww_iconst (v := 0) hx hb dL_house_627 (by decide) ?_
                obtain rfl := os1 h
                refine ww_perm (ws1 := []) [] rfl ?_
                exact ww_kzret hx hb (by omega) (by omega) hr hlk (by decide) rfl dL_house_628
              · replace h := it_p c_82 h
                exact ww_sub (lv1 := [(0, .ref (q 0))]) [0] rfl (bk451 _ hDD _ _ (by omega) (by omega) _ h)
  have bk319 : ∀ (q : Nat → Nat) (hDD : ∀ τ : SS, va_D (va_A [] s.heap.size) (WC q cA τ)) (cells slots : Nat) (hc : cells + 437 ≤ 746) (hs : slots + 2622 ≤ 4532) (τ : SS) , L_house_b319 τ = some r → WW p l e (rmc 25 1000 746 4532) s m args below meth c D vwCl (va_A [] s.heap.size) 1 cells slots (vx_MQ below (qxW D vwCl [] [] (.inl r) s.heap.size) (xcW D vwCl [] [] (.inl r) s.heap.size) args s 746 4532 (va_A [] s.heap.size)) (WC q cA τ) 319 [(0, .ref (q 0))] [] := by
    intro q hDD cells slots hc hs τ h
    unfold L_house_b319 at h
    refine ww_aload_n hx hb dL_house_319 rfl 0 rfl ?_
    refine ww_iconst (v := 1) hx hb dL_house_320 (by decide) ?_
    refine ww_bipush (v := 8) hx hb dL_house_321 (by decide) ?_
    refine ww_bipush (v := 12) hx hb dL_house_323 (by decide) ?_
    refine ww_bipush (v := 32) hx hb dL_house_325 (by decide) ?_
    obtain ⟨r_59, σ_59, e_59, h⟩ := ob2 h
    refine ww_callK (w01 := WC q cA σ_59) (st1 := [.int (r_59)]) hx hb hml hown hts hK hN hA hZ [.ref (q 0), .int ((1 : Int32)), .int ((8 : Int32)), .int ((12 : Int32)), .int ((32 : Int32))] [] (m_L_plan hl0 _ _ _ _ _ _ _ e_59) cs_L_105 rfl ⟨Nat.le_of_ble_eq_true rfl, Nat.le_of_ble_eq_true rfl⟩ ⟨by show _ ≤ 746; omega, by show _ ≤ 4532; omega⟩ (hDD _) rfl (Nat.le_of_ble_eq_true rfl) dL_house_327 rfl ?_
    refine ww_eq0 (tgt := 356) hx hb dL_house_330 (by decide) (fun c_60 => ?_) (fun c_60 => ?_)
    · replace h := it_p c_60 h
      refine ww_iconst (v := 0) hx hb dL_house_356 (by decide) ?_
      obtain rfl := os1 h
      refine ww_perm (ws1 := []) [] rfl ?_
      exact ww_kzret hx hb (by omega) (by omega) hr hlk (by decide) rfl dL_house_357
    · replace h := it_n c_60 h
      refine ww_aload_n hx hb dL_house_333 rfl 0 rfl ?_
      refine ww_iconst (v := 0) hx hb dL_house_334 (by decide) ?_
      obtain ⟨r_61, σ_61, e_61, h⟩ := obx h
      refine ww_callXI (w01 := WC q cA σ_61) (st1 := [.int (r_61)]) hx hb hml hown hts hK hN hA hZ [.int ((0 : Int32))] [] (m_X4_planned hl0 _ _ _ _ e_61) cs_L_48 rfl ⟨Nat.le_of_ble_eq_true rfl, Nat.le_of_ble_eq_true rfl⟩ ⟨by show _ ≤ 746; omega, by show _ ≤ 4532; omega⟩ (hDD _) 0 rfl rfl rfl (Nat.le_of_ble_eq_true rfl) dL_house_335 rfl ?_
      refine ww_iconst (v := 2) hx hb dL_house_338 (by decide) ?_
      refine ww_ne2 (tgt := 356) hx hb dL_house_339 (by decide) (fun c_62 => ?_) (fun c_62 => ?_)
      · replace h := it_n c_62 h
        refine ww_iconst (v := 0) hx hb dL_house_356 (by decide) ?_
        obtain rfl := os1 h
        refine ww_perm (ws1 := []) [] rfl ?_
        exact ww_kzret hx hb (by omega) (by omega) hr hlk (by decide) rfl dL_house_357
      · replace h := it_p c_62 h
        refine ww_aload_n hx hb dL_house_342 rfl 0 rfl ?_
        refine ww_bipush (v := 11) hx hb dL_house_343 (by decide) ?_
        refine ww_iconst (v := 1) hx hb dL_house_345 (by decide) ?_
        refine ww_iconst (v := 0) hx hb dL_house_346 (by decide) ?_
        refine ww_iconst (v := 0) hx hb dL_house_347 (by decide) ?_
        obtain ⟨r_63, σ_63, e_63, h⟩ := ob2 h
        refine ww_callH0 (w01 := WC q cA σ_63) (st1 := [.int (r_63)]) hx hb hml hown hts hK hN hA hZ [.ref (q 0), .int ((11 : Int32)), .int ((1 : Int32)), .int ((0 : Int32)), .int ((0 : Int32))] [] (m_L_act hl0 _ _ _ _ _ _ _ e_63) cs_L_87 rfl ⟨Nat.le_of_ble_eq_true rfl, Nat.le_of_ble_eq_true rfl⟩ ⟨by show _ ≤ 746; omega, by show _ ≤ 4532; omega⟩ (hDD _) rfl (Nat.le_of_ble_eq_true rfl) dL_house_348 rfl ?_
        refine ww_bipush (v := (-71)) hx hb dL_house_351 (by decide) ?_
        refine ww_eq2 (tgt := 358) hx hb dL_house_353 (by decide) (fun c_64 => ?_) (fun c_64 => ?_)
        · replace h := it_p c_64 h
          refine ww_aload_n hx hb dL_house_358 rfl 0 rfl ?_
          refine ww_iconst (v := 1) hx hb dL_house_359 (by decide) ?_
          refine ww_iconst (v := 1) hx hb dL_house_360 (by decide) ?_
          obtain ⟨r_65, σ_65, e_65, h⟩ := obx h
          refine ww_callXI (w01 := WC q cA σ_65) (st1 := [.int (r_65)]) hx hb hml hown hts hK hN hA hZ [.int ((1 : Int32)), .int ((1 : Int32))] [] (m_X4_setOut hl0 _ _ _ _ _ e_65) cs_L_7 rfl ⟨Nat.le_of_ble_eq_true rfl, Nat.le_of_ble_eq_true rfl⟩ ⟨by show _ ≤ 746; omega, by show _ ≤ 4532; omega⟩ (hDD _) 0 rfl rfl rfl (Nat.le_of_ble_eq_true rfl) dL_house_361 rfl ?_
          refine ww_ne0 (tgt := 627) hx hb dL_house_364 (by decide) (fun c_66 => ?_) (fun c_66 => ?_)
          · replace h := it_n c_66 h
            refine ww_iconst (v := 0) hx hb dL_house_627 (by decide) ?_
            obtain rfl := os1 h
            refine ww_perm (ws1 := []) [] rfl ?_
            exact ww_kzret hx hb (by omega) (by omega) hr hlk (by decide) rfl dL_house_628
          · replace h := it_p c_66 h
            refine ww_aload_n hx hb dL_house_367 rfl 0 rfl ?_
            refine ww_iconst (v := 1) hx hb dL_house_368 (by decide) ?_
            obtain ⟨r_67, σ_67, e_67, h⟩ := obx h
            refine ww_callXI (w01 := WC q cA σ_67) (st1 := [.int (r_67)]) hx hb hml hown hts hK hN hA hZ [.int ((1 : Int32))] [] (m_X4_shoot hl0 _ _ _ _ e_67) cs_L_20 rfl ⟨Nat.le_of_ble_eq_true rfl, Nat.le_of_ble_eq_true rfl⟩ ⟨by show _ ≤ 746; omega, by show _ ≤ 4532; omega⟩ (hDD _) 0 rfl rfl rfl (Nat.le_of_ble_eq_true rfl) dL_house_369 rfl ?_
            refine ww_ne0 (tgt := 627) hx hb dL_house_372 (by decide) (fun c_68 => ?_) (fun c_68 => ?_)
            · replace h := it_n c_68 h
              refine ww_iconst (v := 0) hx hb dL_house_627 (by decide) ?_
              obtain rfl := os1 h
              refine ww_perm (ws1 := []) [] rfl ?_
              exact ww_kzret hx hb (by omega) (by omega) hr hlk (by decide) rfl dL_house_628
            · replace h := it_p c_68 h
              refine ww_aload_n hx hb dL_house_375 rfl 0 rfl ?_
              refine ww_callV (ws1 := WC q cA σ_67) (st1 := [.int (X4_today σ_67)]) hx hb hml hown hts hK hN hA (hDD _) (by show _ ≤ 746; omega) (by show _ ≤ 4532; omega) [] [] (m_X4_today σ_67) cs_L_99 rfl ⟨Nat.le_of_ble_eq_true rfl, Nat.le_of_ble_eq_true rfl⟩ 0 rfl rfl rfl (Nat.le_of_ble_eq_true rfl) dL_house_376 rfl ?_
              refine ww_iconst (v := 2) hx hb dL_house_379 (by decide) ?_
              refine ww_ne2 (tgt := 627) hx hb dL_house_380 (by decide) (fun c_70 => ?_) (fun c_70 => ?_)
              · replace h := it_n c_70 h
                refine ww_iconst (v := 0) hx hb dL_house_627 (by decide) ?_
                obtain rfl := os1 h
                refine ww_perm (ws1 := []) [] rfl ?_
                exact ww_kzret hx hb (by omega) (by omega) hr hlk (by decide) rfl dL_house_628
              · replace h := it_p c_70 h
                exact ww_sub (lv1 := [(0, .ref (q 0))]) [0] rfl (bk383 _ hDD _ _ (by omega) (by omega) _ h)
        · replace h := it_n c_64 h
          refine ww_iconst (v := 0) hx hb dL_house_356 (by decide) ?_
          obtain rfl := os1 h
          refine ww_perm (ws1 := []) [] rfl ?_
          exact ww_kzret hx hb (by omega) (by omega) hr hlk (by decide) rfl dL_house_357
  have bk266 : ∀ (q : Nat → Nat) (hDD : ∀ τ : SS, va_D (va_A [] s.heap.size) (WC q cA τ)) (cells slots : Nat) (hc : cells + 438 ≤ 746) (hs : slots + 2628 ≤ 4532) (τ : SS) , L_house_b266 τ = some r → WW p l e (rmc 25 1000 746 4532) s m args below meth c D vwCl (va_A [] s.heap.size) 1 cells slots (vx_MQ below (qxW D vwCl [] [] (.inl r) s.heap.size) (xcW D vwCl [] [] (.inl r) s.heap.size) args s 746 4532 (va_A [] s.heap.size)) (WC q cA τ) 266 [(0, .ref (q 0))] [] := by
    intro q hDD cells slots hc hs τ h
    unfold L_house_b266 at h
    refine ww_aload_n hx hb dL_house_266 rfl 0 rfl ?_
    refine ww_callV (ws1 := WC q cA τ) (st1 := [.int (X4_today τ)]) hx hb hml hown hts hK hN hA (hDD _) (by show _ ≤ 746; omega) (by show _ ≤ 4532; omega) [] [] (m_X4_today τ) cs_L_99 rfl ⟨Nat.le_of_ble_eq_true rfl, Nat.le_of_ble_eq_true rfl⟩ 0 rfl rfl rfl (Nat.le_of_ble_eq_true rfl) dL_house_267 rfl ?_
    refine ww_iconst (v := 1) hx hb dL_house_270 (by decide) ?_
    refine ww_ne2 (tgt := 356) hx hb dL_house_271 (by decide) (fun c_48 => ?_) (fun c_48 => ?_)
    · replace h := it_n c_48 h
      refine ww_iconst (v := 0) hx hb dL_house_356 (by decide) ?_
      obtain rfl := os1 h
      refine ww_perm (ws1 := []) [] rfl ?_
      exact ww_kzret hx hb (by omega) (by omega) hr hlk (by decide) rfl dL_house_357
    · replace h := it_p c_48 h
      refine ww_aload_n hx hb dL_house_274 rfl 0 rfl ?_
      refine ww_callV (ws1 := WC q cA τ) (st1 := [.int (X4_shot τ)]) hx hb hml hown hts hK hN hA (hDD _) (by show _ ≤ 746; omega) (by show _ ≤ 4532; omega) [] [] (m_X4_shot τ) cs_L_102 rfl ⟨Nat.le_of_ble_eq_true rfl, Nat.le_of_ble_eq_true rfl⟩ 0 rfl rfl rfl (Nat.le_of_ble_eq_true rfl) dL_house_275 rfl ?_
      refine ww_iconst (v := 3) hx hb dL_house_278 (by decide) ?_
      refine ww_ne2 (tgt := 356) hx hb dL_house_279 (by decide) (fun c_50 => ?_) (fun c_50 => ?_)
      · replace h := it_n c_50 h
        refine ww_iconst (v := 0) hx hb dL_house_356 (by decide) ?_
        obtain rfl := os1 h
        refine ww_perm (ws1 := []) [] rfl ?_
        exact ww_kzret hx hb (by omega) (by omega) hr hlk (by decide) rfl dL_house_357
      · replace h := it_p c_50 h
        refine ww_aload_n hx hb dL_house_282 rfl 0 rfl ?_
        refine ww_iconst (v := 0) hx hb dL_house_283 (by decide) ?_
        obtain ⟨r_51, σ_51, e_51, h⟩ := obx h
        refine ww_callXI (w01 := WC q cA σ_51) (st1 := [.int (r_51)]) hx hb hml hown hts hK hN hA hZ [.int ((0 : Int32))] [] (m_X4_left hl0 _ _ _ _ e_51) cs_L_54 rfl ⟨Nat.le_of_ble_eq_true rfl, Nat.le_of_ble_eq_true rfl⟩ ⟨by show _ ≤ 746; omega, by show _ ≤ 4532; omega⟩ (hDD _) 0 rfl rfl rfl (Nat.le_of_ble_eq_true rfl) dL_house_284 rfl ?_
        refine ww_ne0 (tgt := 356) hx hb dL_house_287 (by decide) (fun c_52 => ?_) (fun c_52 => ?_)
        · replace h := it_n c_52 h
          refine ww_iconst (v := 0) hx hb dL_house_356 (by decide) ?_
          obtain rfl := os1 h
          refine ww_perm (ws1 := []) [] rfl ?_
          exact ww_kzret hx hb (by omega) (by omega) hr hlk (by decide) rfl dL_house_357
        · replace h := it_p c_52 h
          refine ww_aload_n hx hb dL_house_290 rfl 0 rfl ?_
          refine ww_callV (ws1 := WC q cA σ_51) (st1 := [.int (X4_fee σ_51)]) hx hb hml hown hts hK hN hA (hDD _) (by show _ ≤ 746; omega) (by show _ ≤ 4532; omega) [] [] (m_X4_fee σ_51) cs_L_76 rfl ⟨Nat.le_of_ble_eq_true rfl, Nat.le_of_ble_eq_true rfl⟩ 0 rfl rfl rfl (Nat.le_of_ble_eq_true rfl) dL_house_291 rfl ?_
          refine ww_bipush (v := 100) hx hb dL_house_294 (by decide) ?_
          refine ww_ne2 (tgt := 356) hx hb dL_house_296 (by decide) (fun c_54 => ?_) (fun c_54 => ?_)
          · replace h := it_n c_54 h
            refine ww_iconst (v := 0) hx hb dL_house_356 (by decide) ?_
            obtain rfl := os1 h
            refine ww_perm (ws1 := []) [] rfl ?_
            exact ww_kzret hx hb (by omega) (by omega) hr hlk (by decide) rfl dL_house_357
          · replace h := it_p c_54 h
            refine ww_aload_n hx hb dL_house_299 rfl 0 rfl ?_
            refine ww_callV (ws1 := WC q cA σ_51) (st1 := [.int (X4_costs σ_51)]) hx hb hml hown hts hK hN hA (hDD _) (by show _ ≤ 746; omega) (by show _ ≤ 4532; omega) [] [] (m_X4_costs σ_51) cs_L_79 rfl ⟨Nat.le_of_ble_eq_true rfl, Nat.le_of_ble_eq_true rfl⟩ 0 rfl rfl rfl (Nat.le_of_ble_eq_true rfl) dL_house_300 rfl ?_
            refine ww_sipush (v := 1000) hx hb dL_house_303 (by decide) ?_
            refine ww_ne2 (tgt := 356) hx hb dL_house_306 (by decide) (fun c_56 => ?_) (fun c_56 => ?_)
            · replace h := it_n c_56 h
              refine ww_iconst (v := 0) hx hb dL_house_356 (by decide) ?_
              obtain rfl := os1 h
              refine ww_perm (ws1 := []) [] rfl ?_
              exact ww_kzret hx hb (by omega) (by omega) hr hlk (by decide) rfl dL_house_357
            · replace h := it_p c_56 h
              refine ww_aload_n hx hb dL_house_309 rfl 0 rfl ?_
              refine ww_callV (ws1 := WC q cA σ_51) (st1 := [.int (X4_open σ_51)]) hx hb hml hown hts hK hN hA (hDD _) (by show _ ≤ 746; omega) (by show _ ≤ 4532; omega) [] [] (m_X4_open σ_51) cs_L_112 rfl ⟨Nat.le_of_ble_eq_true rfl, Nat.le_of_ble_eq_true rfl⟩ 0 rfl rfl rfl (Nat.le_of_ble_eq_true rfl) dL_house_310 rfl ?_
              refine ww_sipush (v := 1000) hx hb dL_house_313 (by decide) ?_
              refine ww_ne2 (tgt := 356) hx hb dL_house_316 (by decide) (fun c_58 => ?_) (fun c_58 => ?_)
              · replace h := it_n c_58 h
                refine ww_iconst (v := 0) hx hb dL_house_356 (by decide) ?_
                obtain rfl := os1 h
                refine ww_perm (ws1 := []) [] rfl ?_
                exact ww_kzret hx hb (by omega) (by omega) hr hlk (by decide) rfl dL_house_357
              · replace h := it_p c_58 h
                exact ww_sub (lv1 := [(0, .ref (q 0))]) [0] rfl (bk319 _ hDD _ _ (by omega) (by omega) _ h)
  have bk197 : ∀ (q : Nat → Nat) (hDD : ∀ τ : SS, va_D (va_A [] s.heap.size) (WC q cA τ)) (cells slots : Nat) (hc : cells + 443 ≤ 746) (hs : slots + 2658 ≤ 4532) (τ : SS) , L_house_b197 τ = some r → WW p l e (rmc 25 1000 746 4532) s m args below meth c D vwCl (va_A [] s.heap.size) 1 cells slots (vx_MQ below (qxW D vwCl [] [] (.inl r) s.heap.size) (xcW D vwCl [] [] (.inl r) s.heap.size) args s 746 4532 (va_A [] s.heap.size)) (WC q cA τ) 197 [(0, .ref (q 0))] [] := by
    intro q hDD cells slots hc hs τ h
    unfold L_house_b197 at h
    refine ww_aload_n hx hb dL_house_197 rfl 0 rfl ?_
    refine ww_iconst (v := 3) hx hb dL_house_198 (by decide) ?_
    refine ww_iconst (v := 0) hx hb dL_house_199 (by decide) ?_
    refine ww_iconst (v := 0) hx hb dL_house_200 (by decide) ?_
    refine ww_iconst (v := 0) hx hb dL_house_201 (by decide) ?_
    obtain ⟨r_35, σ_35, e_35, h⟩ := ob2 h
    refine ww_callH0 (w01 := WC q cA σ_35) (st1 := [.int (r_35)]) hx hb hml hown hts hK hN hA hZ [.ref (q 0), .int ((3 : Int32)), .int ((0 : Int32)), .int ((0 : Int32)), .int ((0 : Int32))] [] (m_L_act hl0 _ _ _ _ _ _ _ e_35) cs_L_87 rfl ⟨Nat.le_of_ble_eq_true rfl, Nat.le_of_ble_eq_true rfl⟩ ⟨by show _ ≤ 746; omega, by show _ ≤ 4532; omega⟩ (hDD _) rfl (Nat.le_of_ble_eq_true rfl) dL_house_202 rfl ?_
    refine ww_bipush (v := (-73)) hx hb dL_house_205 (by decide) ?_
    refine ww_ne2 (tgt := 356) hx hb dL_house_207 (by decide) (fun c_36 => ?_) (fun c_36 => ?_)
    · replace h := it_n c_36 h
      refine ww_iconst (v := 0) hx hb dL_house_356 (by decide) ?_
      obtain rfl := os1 h
      refine ww_perm (ws1 := []) [] rfl ?_
      exact ww_kzret hx hb (by omega) (by omega) hr hlk (by decide) rfl dL_house_357
    · replace h := it_p c_36 h
      refine ww_aload_n hx hb dL_house_210 rfl 0 rfl ?_
      refine ww_iconst (v := 0) hx hb dL_house_211 (by decide) ?_
      refine ww_sipush (v := 500) hx hb dL_house_212 (by decide) ?_
      obtain ⟨r_37, σ_37, e_37, h⟩ := obx h
      refine ww_callXI (w01 := WC q cA σ_37) (st1 := [.int (r_37)]) hx hb hml hown hts hK hN hA hZ [.int ((0 : Int32)), .int ((500 : Int32))] [] (m_X4_approve hl0 _ _ _ _ _ e_37) cs_L_24 rfl ⟨Nat.le_of_ble_eq_true rfl, Nat.le_of_ble_eq_true rfl⟩ ⟨by show _ ≤ 746; omega, by show _ ≤ 4532; omega⟩ (hDD _) 0 rfl rfl rfl (Nat.le_of_ble_eq_true rfl) dL_house_215 rfl ?_
      refine ww_sipush (v := 500) hx hb dL_house_218 (by decide) ?_
      refine ww_ne2 (tgt := 356) hx hb dL_house_221 (by decide) (fun c_38 => ?_) (fun c_38 => ?_)
      · replace h := it_n c_38 h
        refine ww_iconst (v := 0) hx hb dL_house_356 (by decide) ?_
        obtain rfl := os1 h
        refine ww_perm (ws1 := []) [] rfl ?_
        exact ww_kzret hx hb (by omega) (by omega) hr hlk (by decide) rfl dL_house_357
      · replace h := it_p c_38 h
        refine ww_aload_n hx hb dL_house_224 rfl 0 rfl ?_
        refine ww_iconst (v := 3) hx hb dL_house_225 (by decide) ?_
        refine ww_iconst (v := 0) hx hb dL_house_226 (by decide) ?_
        refine ww_iconst (v := 0) hx hb dL_house_227 (by decide) ?_
        refine ww_iconst (v := 0) hx hb dL_house_228 (by decide) ?_
        obtain ⟨r_39, σ_39, e_39, h⟩ := ob2 h
        refine ww_callH0 (w01 := WC q cA σ_39) (st1 := [.int (r_39)]) hx hb hml hown hts hK hN hA hZ [.ref (q 0), .int ((3 : Int32)), .int ((0 : Int32)), .int ((0 : Int32)), .int ((0 : Int32))] [] (m_L_act hl0 _ _ _ _ _ _ _ e_39) cs_L_87 rfl ⟨Nat.le_of_ble_eq_true rfl, Nat.le_of_ble_eq_true rfl⟩ ⟨by show _ ≤ 746; omega, by show _ ≤ 4532; omega⟩ (hDD _) rfl (Nat.le_of_ble_eq_true rfl) dL_house_229 rfl ?_
        refine ww_bipush (v := (-73)) hx hb dL_house_232 (by decide) ?_
        refine ww_ne2 (tgt := 356) hx hb dL_house_234 (by decide) (fun c_40 => ?_) (fun c_40 => ?_)
        · replace h := it_n c_40 h
          refine ww_iconst (v := 0) hx hb dL_house_356 (by decide) ?_
          obtain rfl := os1 h
          refine ww_perm (ws1 := []) [] rfl ?_
          exact ww_kzret hx hb (by omega) (by omega) hr hlk (by decide) rfl dL_house_357
        · replace h := it_p c_40 h
          refine ww_aload_n hx hb dL_house_237 rfl 0 rfl ?_
          refine ww_callV (ws1 := WC q cA σ_39) (st1 := [.int (X4_today σ_39)]) hx hb hml hown hts hK hN hA (hDD _) (by show _ ≤ 746; omega) (by show _ ≤ 4532; omega) [] [] (m_X4_today σ_39) cs_L_99 rfl ⟨Nat.le_of_ble_eq_true rfl, Nat.le_of_ble_eq_true rfl⟩ 0 rfl rfl rfl (Nat.le_of_ble_eq_true rfl) dL_house_238 rfl ?_
          refine ww_ne0 (tgt := 356) hx hb dL_house_241 (by decide) (fun c_42 => ?_) (fun c_42 => ?_)
          · replace h := it_n c_42 h
            refine ww_iconst (v := 0) hx hb dL_house_356 (by decide) ?_
            obtain rfl := os1 h
            refine ww_perm (ws1 := []) [] rfl ?_
            exact ww_kzret hx hb (by omega) (by omega) hr hlk (by decide) rfl dL_house_357
          · replace h := it_p c_42 h
            refine ww_aload_n hx hb dL_house_244 rfl 0 rfl ?_
            refine ww_sipush (v := 600) hx hb dL_house_245 (by decide) ?_
            obtain ⟨r_43, σ_43, e_43, h⟩ := obx h
            refine ww_callXI (w01 := WC q cA σ_43) (st1 := [.int (r_43)]) hx hb hml hown hts hK hN hA hZ [.int ((600 : Int32))] [] (m_X4_grant hl0 _ _ _ _ e_43) cs_L_27 rfl ⟨Nat.le_of_ble_eq_true rfl, Nat.le_of_ble_eq_true rfl⟩ ⟨by show _ ≤ 746; omega, by show _ ≤ 4532; omega⟩ (hDD _) 0 rfl rfl rfl (Nat.le_of_ble_eq_true rfl) dL_house_248 rfl ?_
            refine ww_sipush (v := 600) hx hb dL_house_251 (by decide) ?_
            refine ww_ne2 (tgt := 356) hx hb dL_house_254 (by decide) (fun c_44 => ?_) (fun c_44 => ?_)
            · replace h := it_n c_44 h
              refine ww_iconst (v := 0) hx hb dL_house_356 (by decide) ?_
              obtain rfl := os1 h
              refine ww_perm (ws1 := []) [] rfl ?_
              exact ww_kzret hx hb (by omega) (by omega) hr hlk (by decide) rfl dL_house_357
            · replace h := it_p c_44 h
              refine ww_aload_n hx hb dL_house_257 rfl 0 rfl ?_
              refine ww_iconst (v := 0) hx hb dL_house_258 (by decide) ?_
              obtain ⟨r_45, σ_45, e_45, h⟩ := obx h
              refine ww_callXI (w01 := WC q cA σ_45) (st1 := [.int (r_45)]) hx hb hml hown hts hK hN hA hZ [.int ((0 : Int32))] [] (m_X4_shoot hl0 _ _ _ _ e_45) cs_L_20 rfl ⟨Nat.le_of_ble_eq_true rfl, Nat.le_of_ble_eq_true rfl⟩ ⟨by show _ ≤ 746; omega, by show _ ≤ 4532; omega⟩ (hDD _) 0 rfl rfl rfl (Nat.le_of_ble_eq_true rfl) dL_house_259 rfl ?_
              refine ww_iconst (v := 2) hx hb dL_house_262 (by decide) ?_
              refine ww_ne2 (tgt := 356) hx hb dL_house_263 (by decide) (fun c_46 => ?_) (fun c_46 => ?_)
              · replace h := it_n c_46 h
                refine ww_iconst (v := 0) hx hb dL_house_356 (by decide) ?_
                obtain rfl := os1 h
                refine ww_perm (ws1 := []) [] rfl ?_
                exact ww_kzret hx hb (by omega) (by omega) hr hlk (by decide) rfl dL_house_357
              · replace h := it_p c_46 h
                exact ww_sub (lv1 := [(0, .ref (q 0))]) [0] rfl (bk266 _ hDD _ _ (by omega) (by omega) _ h)
  have bk131 : ∀ (q : Nat → Nat) (hDD : ∀ τ : SS, va_D (va_A [] s.heap.size) (WC q cA τ)) (cells slots : Nat) (hc : cells + 579 ≤ 746) (hs : slots + 3474 ≤ 4532) (τ : SS) , L_house_b131 τ = some r → WW p l e (rmc 25 1000 746 4532) s m args below meth c D vwCl (va_A [] s.heap.size) 1 cells slots (vx_MQ below (qxW D vwCl [] [] (.inl r) s.heap.size) (xcW D vwCl [] [] (.inl r) s.heap.size) args s 746 4532 (va_A [] s.heap.size)) (WC q cA τ) 131 [(0, .ref (q 0))] [] := by
    intro q hDD cells slots hc hs τ h
    unfold L_house_b131 at h
    refine ww_aload_n hx hb dL_house_131 rfl 0 rfl ?_
    refine ww_iconst (v := 2) hx hb dL_house_132 (by decide) ?_
    obtain ⟨r_23, σ_23, e_23, h⟩ := obx h
    refine ww_callXI (w01 := WC q cA σ_23) (st1 := [.int (r_23)]) hx hb hml hown hts hK hN hA hZ [.int ((2 : Int32))] [] (m_X4_planned hl0 _ _ _ _ e_23) cs_L_48 rfl ⟨Nat.le_of_ble_eq_true rfl, Nat.le_of_ble_eq_true rfl⟩ ⟨by show _ ≤ 746; omega, by show _ ≤ 4532; omega⟩ (hDD _) 0 rfl rfl rfl (Nat.le_of_ble_eq_true rfl) dL_house_133 rfl ?_
    refine ww_iconst (v := 2) hx hb dL_house_136 (by decide) ?_
    refine ww_ne2 (tgt := 356) hx hb dL_house_137 (by decide) (fun c_24 => ?_) (fun c_24 => ?_)
    · replace h := it_n c_24 h
      refine ww_iconst (v := 0) hx hb dL_house_356 (by decide) ?_
      obtain rfl := os1 h
      refine ww_perm (ws1 := []) [] rfl ?_
      exact ww_kzret hx hb (by omega) (by omega) hr hlk (by decide) rfl dL_house_357
    · replace h := it_p c_24 h
      refine ww_aload_n hx hb dL_house_140 rfl 0 rfl ?_
      refine ww_iconst (v := 0) hx hb dL_house_141 (by decide) ?_
      refine ww_iconst (v := 1) hx hb dL_house_142 (by decide) ?_
      obtain ⟨r_25, σ_25, e_25, h⟩ := obx h
      refine ww_callXI (w01 := WC q cA σ_25) (st1 := [.int (r_25)]) hx hb hml hown hts hK hN hA hZ [.int ((0 : Int32)), .int ((1 : Int32))] [] (m_X4_setChild hl0 _ _ _ _ _ e_25) cs_L_13 rfl ⟨Nat.le_of_ble_eq_true rfl, Nat.le_of_ble_eq_true rfl⟩ ⟨by show _ ≤ 746; omega, by show _ ≤ 4532; omega⟩ (hDD _) 0 rfl rfl rfl (Nat.le_of_ble_eq_true rfl) dL_house_143 rfl ?_
      refine ww_ne0 (tgt := 356) hx hb dL_house_146 (by decide) (fun c_26 => ?_) (fun c_26 => ?_)
      · replace h := it_n c_26 h
        refine ww_iconst (v := 0) hx hb dL_house_356 (by decide) ?_
        obtain rfl := os1 h
        refine ww_perm (ws1 := []) [] rfl ?_
        exact ww_kzret hx hb (by omega) (by omega) hr hlk (by decide) rfl dL_house_357
      · replace h := it_p c_26 h
        refine ww_aload_n hx hb dL_house_149 rfl 0 rfl ?_
        refine ww_iconst (v := 2) hx hb dL_house_150 (by decide) ?_
        refine ww_bipush (v := 8) hx hb dL_house_151 (by decide) ?_
        refine ww_bipush (v := 32) hx hb dL_house_153 (by decide) ?_
        refine ww_bipush (v := 39) hx hb dL_house_155 (by decide) ?_
        obtain ⟨r_27, σ_27, e_27, h⟩ := ob2 h
        refine ww_callK (w01 := WC q cA σ_27) (st1 := [.int (r_27)]) hx hb hml hown hts hK hN hA hZ [.ref (q 0), .int ((2 : Int32)), .int ((8 : Int32)), .int ((32 : Int32)), .int ((39 : Int32))] [] (m_L_plan hl0 _ _ _ _ _ _ _ e_27) cs_L_105 rfl ⟨Nat.le_of_ble_eq_true rfl, Nat.le_of_ble_eq_true rfl⟩ ⟨by show _ ≤ 746; omega, by show _ ≤ 4532; omega⟩ (hDD _) rfl (Nat.le_of_ble_eq_true rfl) dL_house_157 rfl ?_
        refine ww_eq0 (tgt := 356) hx hb dL_house_160 (by decide) (fun c_28 => ?_) (fun c_28 => ?_)
        · replace h := it_p c_28 h
          refine ww_iconst (v := 0) hx hb dL_house_356 (by decide) ?_
          obtain rfl := os1 h
          refine ww_perm (ws1 := []) [] rfl ?_
          exact ww_kzret hx hb (by omega) (by omega) hr hlk (by decide) rfl dL_house_357
        · replace h := it_n c_28 h
          refine ww_aload_n hx hb dL_house_163 rfl 0 rfl ?_
          refine ww_iconst (v := 0) hx hb dL_house_164 (by decide) ?_
          refine ww_iconst (v := 0) hx hb dL_house_165 (by decide) ?_
          obtain ⟨r_29, σ_29, e_29, h⟩ := obx h
          refine ww_callXI (w01 := WC q cA σ_29) (st1 := [.int (r_29)]) hx hb hml hown hts hK hN hA hZ [.int ((0 : Int32)), .int ((0 : Int32))] [] (m_X4_setChild hl0 _ _ _ _ _ e_29) cs_L_13 rfl ⟨Nat.le_of_ble_eq_true rfl, Nat.le_of_ble_eq_true rfl⟩ ⟨by show _ ≤ 746; omega, by show _ ≤ 4532; omega⟩ (hDD _) 0 rfl rfl rfl (Nat.le_of_ble_eq_true rfl) dL_house_166 rfl ?_
          refine ww_eq0 (tgt := 356) hx hb dL_house_169 (by decide) (fun c_30 => ?_) (fun c_30 => ?_)
          · replace h := it_p c_30 h
            refine ww_iconst (v := 0) hx hb dL_house_356 (by decide) ?_
            obtain rfl := os1 h
            refine ww_perm (ws1 := []) [] rfl ?_
            exact ww_kzret hx hb (by omega) (by omega) hr hlk (by decide) rfl dL_house_357
          · replace h := it_n c_30 h
            refine ww_aload_n hx hb dL_house_172 rfl 0 rfl ?_
            refine ww_iconst (v := 2) hx hb dL_house_173 (by decide) ?_
            refine ww_bipush (v := 8) hx hb dL_house_174 (by decide) ?_
            refine ww_bipush (v := 12) hx hb dL_house_176 (by decide) ?_
            refine ww_bipush (v := 32) hx hb dL_house_178 (by decide) ?_
            obtain ⟨r_31, σ_31, e_31, h⟩ := ob2 h
            refine ww_callK (w01 := WC q cA σ_31) (st1 := [.int (r_31)]) hx hb hml hown hts hK hN hA hZ [.ref (q 0), .int ((2 : Int32)), .int ((8 : Int32)), .int ((12 : Int32)), .int ((32 : Int32))] [] (m_L_plan hl0 _ _ _ _ _ _ _ e_31) cs_L_105 rfl ⟨Nat.le_of_ble_eq_true rfl, Nat.le_of_ble_eq_true rfl⟩ ⟨by show _ ≤ 746; omega, by show _ ≤ 4532; omega⟩ (hDD _) rfl (Nat.le_of_ble_eq_true rfl) dL_house_180 rfl ?_
            refine ww_eq0 (tgt := 356) hx hb dL_house_183 (by decide) (fun c_32 => ?_) (fun c_32 => ?_)
            · replace h := it_p c_32 h
              refine ww_iconst (v := 0) hx hb dL_house_356 (by decide) ?_
              obtain rfl := os1 h
              refine ww_perm (ws1 := []) [] rfl ?_
              exact ww_kzret hx hb (by omega) (by omega) hr hlk (by decide) rfl dL_house_357
            · replace h := it_n c_32 h
              refine ww_aload_n hx hb dL_house_186 rfl 0 rfl ?_
              refine ww_iconst (v := 3) hx hb dL_house_187 (by decide) ?_
              refine ww_iconst (v := 3) hx hb dL_house_188 (by decide) ?_
              refine ww_iconst (v := 0) hx hb dL_house_189 (by decide) ?_
              refine ww_iconst (v := 0) hx hb dL_house_190 (by decide) ?_
              obtain ⟨r_33, σ_33, e_33, h⟩ := ob2 h
              refine ww_callK (w01 := WC q cA σ_33) (st1 := [.int (r_33)]) hx hb hml hown hts hK hN hA hZ [.ref (q 0), .int ((3 : Int32)), .int ((3 : Int32)), .int ((0 : Int32)), .int ((0 : Int32))] [] (m_L_refuses hl0 _ _ _ _ _ _ _ e_33) cs_L_109 rfl ⟨Nat.le_of_ble_eq_true rfl, Nat.le_of_ble_eq_true rfl⟩ ⟨by show _ ≤ 746; omega, by show _ ≤ 4532; omega⟩ (hDD _) rfl (Nat.le_of_ble_eq_true rfl) dL_house_191 rfl ?_
              refine ww_eq0 (tgt := 356) hx hb dL_house_194 (by decide) (fun c_34 => ?_) (fun c_34 => ?_)
              · replace h := it_p c_34 h
                refine ww_iconst (v := 0) hx hb dL_house_356 (by decide) ?_
                obtain rfl := os1 h
                refine ww_perm (ws1 := []) [] rfl ?_
                exact ww_kzret hx hb (by omega) (by omega) hr hlk (by decide) rfl dL_house_357
              · replace h := it_n c_34 h
                exact ww_sub (lv1 := [(0, .ref (q 0))]) [0] rfl (bk197 _ hDD _ _ (by omega) (by omega) _ h)
  have bk56 : ∀ (q : Nat → Nat) (hDD : ∀ τ : SS, va_D (va_A [] s.heap.size) (WC q cA τ)) (cells slots : Nat) (hc : cells + 594 ≤ 746) (hs : slots + 3564 ≤ 4532) (τ : SS) , L_house_b56 τ = some r → WW p l e (rmc 25 1000 746 4532) s m args below meth c D vwCl (va_A [] s.heap.size) 1 cells slots (vx_MQ below (qxW D vwCl [] [] (.inl r) s.heap.size) (xcW D vwCl [] [] (.inl r) s.heap.size) args s 746 4532 (va_A [] s.heap.size)) (WC q cA τ) 56 [(0, .ref (q 0))] [] := by
    intro q hDD cells slots hc hs τ h
    unfold L_house_b56 at h
    refine ww_aload_n hx hb dL_house_56 rfl 0 rfl ?_
    refine ww_iconst (v := 1) hx hb dL_house_57 (by decide) ?_
    refine ww_bipush (v := 8) hx hb dL_house_58 (by decide) ?_
    refine ww_iconst (v := -1) hx hb dL_house_60 (by decide) ?_
    refine ww_iconst (v := -1) hx hb dL_house_61 (by decide) ?_
    obtain ⟨r_11, σ_11, e_11, h⟩ := ob2 h
    refine ww_callK (w01 := WC q cA σ_11) (st1 := [.int (r_11)]) hx hb hml hown hts hK hN hA hZ [.ref (q 0), .int ((1 : Int32)), .int ((8 : Int32)), .int ((-1 : Int32)), .int ((-1 : Int32))] [] (m_L_plan hl0 _ _ _ _ _ _ _ e_11) cs_L_105 rfl ⟨Nat.le_of_ble_eq_true rfl, Nat.le_of_ble_eq_true rfl⟩ ⟨by show _ ≤ 746; omega, by show _ ≤ 4532; omega⟩ (hDD _) rfl (Nat.le_of_ble_eq_true rfl) dL_house_62 rfl ?_
    refine ww_eq0 (tgt := 356) hx hb dL_house_65 (by decide) (fun c_12 => ?_) (fun c_12 => ?_)
    · replace h := it_p c_12 h
      refine ww_iconst (v := 0) hx hb dL_house_356 (by decide) ?_
      obtain rfl := os1 h
      refine ww_perm (ws1 := []) [] rfl ?_
      exact ww_kzret hx hb (by omega) (by omega) hr hlk (by decide) rfl dL_house_357
    · replace h := it_n c_12 h
      refine ww_aload_n hx hb dL_house_68 rfl 0 rfl ?_
      refine ww_bipush (v := 6) hx hb dL_house_69 (by decide) ?_
      refine ww_iconst (v := 0) hx hb dL_house_71 (by decide) ?_
      refine ww_iconst (v := 1) hx hb dL_house_72 (by decide) ?_
      refine ww_iconst (v := 0) hx hb dL_house_73 (by decide) ?_
      refine ww_iconst (v := 0) hx hb dL_house_74 (by decide) ?_
      obtain ⟨r_13, σ_13, e_13, h⟩ := obx h
      refine ww_callXI (w01 := WC q cA σ_13) (st1 := [.int (r_13)]) hx hb hml hown hts hK hN hA hZ [.int ((6 : Int32)), .int ((0 : Int32)), .int ((1 : Int32)), .int ((0 : Int32)), .int ((0 : Int32))] [] (m_X4_addScene hl0 _ _ _ _ _ _ _ _ e_13) cs_L_69 rfl ⟨Nat.le_of_ble_eq_true rfl, Nat.le_of_ble_eq_true rfl⟩ ⟨by show _ ≤ 746; omega, by show _ ≤ 4532; omega⟩ (hDD _) 0 rfl rfl rfl (Nat.le_of_ble_eq_true rfl) dL_house_75 rfl ?_
      refine ww_iconst (v := 1) hx hb dL_house_78 (by decide) ?_
      refine ww_ne2 (tgt := 356) hx hb dL_house_79 (by decide) (fun c_14 => ?_) (fun c_14 => ?_)
      · replace h := it_n c_14 h
        refine ww_iconst (v := 0) hx hb dL_house_356 (by decide) ?_
        obtain rfl := os1 h
        refine ww_perm (ws1 := []) [] rfl ?_
        exact ww_kzret hx hb (by omega) (by omega) hr hlk (by decide) rfl dL_house_357
      · replace h := it_p c_14 h
        refine ww_aload_n hx hb dL_house_82 rfl 0 rfl ?_
        refine ww_iconst (v := 1) hx hb dL_house_83 (by decide) ?_
        refine ww_bipush (v := 8) hx hb dL_house_84 (by decide) ?_
        refine ww_bipush (v := 12) hx hb dL_house_86 (by decide) ?_
        refine ww_iconst (v := -1) hx hb dL_house_88 (by decide) ?_
        obtain ⟨r_15, σ_15, e_15, h⟩ := ob2 h
        refine ww_callK (w01 := WC q cA σ_15) (st1 := [.int (r_15)]) hx hb hml hown hts hK hN hA hZ [.ref (q 0), .int ((1 : Int32)), .int ((8 : Int32)), .int ((12 : Int32)), .int ((-1 : Int32))] [] (m_L_plan hl0 _ _ _ _ _ _ _ e_15) cs_L_105 rfl ⟨Nat.le_of_ble_eq_true rfl, Nat.le_of_ble_eq_true rfl⟩ ⟨by show _ ≤ 746; omega, by show _ ≤ 4532; omega⟩ (hDD _) rfl (Nat.le_of_ble_eq_true rfl) dL_house_89 rfl ?_
        refine ww_eq0 (tgt := 356) hx hb dL_house_92 (by decide) (fun c_16 => ?_) (fun c_16 => ?_)
        · replace h := it_p c_16 h
          refine ww_iconst (v := 0) hx hb dL_house_356 (by decide) ?_
          obtain rfl := os1 h
          refine ww_perm (ws1 := []) [] rfl ?_
          exact ww_kzret hx hb (by omega) (by omega) hr hlk (by decide) rfl dL_house_357
        · replace h := it_n c_16 h
          refine ww_aload_n hx hb dL_house_95 rfl 0 rfl ?_
          refine ww_bipush (v := 6) hx hb dL_house_96 (by decide) ?_
          refine ww_iconst (v := 1) hx hb dL_house_98 (by decide) ?_
          refine ww_iconst (v := 2) hx hb dL_house_99 (by decide) ?_
          refine ww_iconst (v := 0) hx hb dL_house_100 (by decide) ?_
          refine ww_iconst (v := 0) hx hb dL_house_101 (by decide) ?_
          obtain ⟨r_17, σ_17, e_17, h⟩ := obx h
          refine ww_callXI (w01 := WC q cA σ_17) (st1 := [.int (r_17)]) hx hb hml hown hts hK hN hA hZ [.int ((6 : Int32)), .int ((1 : Int32)), .int ((2 : Int32)), .int ((0 : Int32)), .int ((0 : Int32))] [] (m_X4_addScene hl0 _ _ _ _ _ _ _ _ e_17) cs_L_69 rfl ⟨Nat.le_of_ble_eq_true rfl, Nat.le_of_ble_eq_true rfl⟩ ⟨by show _ ≤ 746; omega, by show _ ≤ 4532; omega⟩ (hDD _) 0 rfl rfl rfl (Nat.le_of_ble_eq_true rfl) dL_house_102 rfl ?_
          refine ww_iconst (v := 2) hx hb dL_house_105 (by decide) ?_
          refine ww_ne2 (tgt := 356) hx hb dL_house_106 (by decide) (fun c_18 => ?_) (fun c_18 => ?_)
          · replace h := it_n c_18 h
            refine ww_iconst (v := 0) hx hb dL_house_356 (by decide) ?_
            obtain rfl := os1 h
            refine ww_perm (ws1 := []) [] rfl ?_
            exact ww_kzret hx hb (by omega) (by omega) hr hlk (by decide) rfl dL_house_357
          · replace h := it_p c_18 h
            refine ww_aload_n hx hb dL_house_109 rfl 0 rfl ?_
            refine ww_iconst (v := 2) hx hb dL_house_110 (by decide) ?_
            refine ww_bipush (v := 8) hx hb dL_house_111 (by decide) ?_
            refine ww_bipush (v := 12) hx hb dL_house_113 (by decide) ?_
            refine ww_bipush (v := 32) hx hb dL_house_115 (by decide) ?_
            obtain ⟨r_19, σ_19, e_19, h⟩ := ob2 h
            refine ww_callK (w01 := WC q cA σ_19) (st1 := [.int (r_19)]) hx hb hml hown hts hK hN hA hZ [.ref (q 0), .int ((2 : Int32)), .int ((8 : Int32)), .int ((12 : Int32)), .int ((32 : Int32))] [] (m_L_plan hl0 _ _ _ _ _ _ _ e_19) cs_L_105 rfl ⟨Nat.le_of_ble_eq_true rfl, Nat.le_of_ble_eq_true rfl⟩ ⟨by show _ ≤ 746; omega, by show _ ≤ 4532; omega⟩ (hDD _) rfl (Nat.le_of_ble_eq_true rfl) dL_house_117 rfl ?_
            refine ww_eq0 (tgt := 356) hx hb dL_house_120 (by decide) (fun c_20 => ?_) (fun c_20 => ?_)
            · replace h := it_p c_20 h
              refine ww_iconst (v := 0) hx hb dL_house_356 (by decide) ?_
              obtain rfl := os1 h
              refine ww_perm (ws1 := []) [] rfl ?_
              exact ww_kzret hx hb (by omega) (by omega) hr hlk (by decide) rfl dL_house_357
            · replace h := it_n c_20 h
              refine ww_aload_n hx hb dL_house_123 rfl 0 rfl ?_
              refine ww_iconst (v := 0) hx hb dL_house_124 (by decide) ?_
              obtain ⟨r_21, σ_21, e_21, h⟩ := obx h
              refine ww_callXI (w01 := WC q cA σ_21) (st1 := [.int (r_21)]) hx hb hml hown hts hK hN hA hZ [.int ((0 : Int32))] [] (m_X4_planned hl0 _ _ _ _ e_21) cs_L_48 rfl ⟨Nat.le_of_ble_eq_true rfl, Nat.le_of_ble_eq_true rfl⟩ ⟨by show _ ≤ 746; omega, by show _ ≤ 4532; omega⟩ (hDD _) 0 rfl rfl rfl (Nat.le_of_ble_eq_true rfl) dL_house_125 rfl ?_
              refine ww_ne0 (tgt := 356) hx hb dL_house_128 (by decide) (fun c_22 => ?_) (fun c_22 => ?_)
              · replace h := it_n c_22 h
                refine ww_iconst (v := 0) hx hb dL_house_356 (by decide) ?_
                obtain rfl := os1 h
                refine ww_perm (ws1 := []) [] rfl ?_
                exact ww_kzret hx hb (by omega) (by omega) hr hlk (by decide) rfl dL_house_357
              · replace h := it_p c_22 h
                exact ww_sub (lv1 := [(0, .ref (q 0))]) [0] rfl (bk131 _ hDD _ _ (by omega) (by omega) _ h)
  refine ww_sub (lv1 := []) [] rfl ?_
  refine ww_sub (lv1 := []) [] rfl ?_
  refine ww_perm (ws1 := []) [] rfl ?_
  refine ww_mk hx hb hml hown hts hK hN hA (d_nil) kw_385 cs_L_98 ⟨by show _ ≤ 746; omega, by show _ ≤ 4532; omega⟩ dL_house_0 dL_house_3 dL_house_4 (by decide) (Nat.le_of_ble_eq_true rfl) (fun q hDD => ?_)
  refine ww_astore_n (i := 0) (lv1 := [(0, .ref (q 0))]) hx hb dL_house_7 rfl (by decide) [0] rfl ?_
  refine ww_aload_n hx hb dL_house_8 rfl 0 rfl ?_
  refine ww_callV (ws1 := WC q cA sC0) (st1 := [.int (X4_today sC0)]) hx hb hml hown hts hK hN hA (hDD _) (by show _ ≤ 746; omega) (by show _ ≤ 4532; omega) [] [] (m_X4_today sC0) cs_L_99 rfl ⟨Nat.le_of_ble_eq_true rfl, Nat.le_of_ble_eq_true rfl⟩ 0 rfl rfl rfl (Nat.le_of_ble_eq_true rfl) dL_house_9 rfl ?_
  refine ww_ne0 (tgt := 356) hx hb dL_house_12 (by decide) (fun c_2 => ?_) (fun c_2 => ?_)
  · replace h := it_n c_2 h
    refine ww_iconst (v := 0) hx hb dL_house_356 (by decide) ?_
    obtain rfl := os1 h
    refine ww_perm (ws1 := []) [] rfl ?_
    exact ww_kzret hx hb (by omega) (by omega) hr hlk (by decide) rfl dL_house_357
  · replace h := it_p c_2 h
    refine ww_aload_n hx hb dL_house_15 rfl 0 rfl ?_
    refine ww_callV (ws1 := WC q cA sC0) (st1 := [.int (X4_shot sC0)]) hx hb hml hown hts hK hN hA (hDD _) (by show _ ≤ 746; omega) (by show _ ≤ 4532; omega) [] [] (m_X4_shot sC0) cs_L_102 rfl ⟨Nat.le_of_ble_eq_true rfl, Nat.le_of_ble_eq_true rfl⟩ 0 rfl rfl rfl (Nat.le_of_ble_eq_true rfl) dL_house_16 rfl ?_
    refine ww_ne0 (tgt := 356) hx hb dL_house_19 (by decide) (fun c_4 => ?_) (fun c_4 => ?_)
    · replace h := it_n c_4 h
      refine ww_iconst (v := 0) hx hb dL_house_356 (by decide) ?_
      obtain rfl := os1 h
      refine ww_perm (ws1 := []) [] rfl ?_
      exact ww_kzret hx hb (by omega) (by omega) hr hlk (by decide) rfl dL_house_357
    · replace h := it_p c_4 h
      refine ww_aload_n hx hb dL_house_22 rfl 0 rfl ?_
      refine ww_iconst (v := 0) hx hb dL_house_23 (by decide) ?_
      refine ww_iconst (v := -1) hx hb dL_house_24 (by decide) ?_
      refine ww_iconst (v := -1) hx hb dL_house_25 (by decide) ?_
      refine ww_iconst (v := -1) hx hb dL_house_26 (by decide) ?_
      obtain ⟨r_5, σ_5, e_5, h⟩ := ob2 h
      refine ww_callK (w01 := WC q cA σ_5) (st1 := [.int (r_5)]) hx hb hml hown hts hK hN hA hZ [.ref (q 0), .int ((0 : Int32)), .int ((-1 : Int32)), .int ((-1 : Int32)), .int ((-1 : Int32))] [] (m_L_plan hl0 _ _ _ _ _ _ _ e_5) cs_L_105 rfl ⟨Nat.le_of_ble_eq_true rfl, Nat.le_of_ble_eq_true rfl⟩ ⟨by show _ ≤ 746; omega, by show _ ≤ 4532; omega⟩ (hDD _) rfl (Nat.le_of_ble_eq_true rfl) dL_house_27 rfl ?_
      refine ww_eq0 (tgt := 356) hx hb dL_house_30 (by decide) (fun c_6 => ?_) (fun c_6 => ?_)
      · replace h := it_p c_6 h
        refine ww_iconst (v := 0) hx hb dL_house_356 (by decide) ?_
        obtain rfl := os1 h
        refine ww_perm (ws1 := []) [] rfl ?_
        exact ww_kzret hx hb (by omega) (by omega) hr hlk (by decide) rfl dL_house_357
      · replace h := it_n c_6 h
        refine ww_aload_n hx hb dL_house_33 rfl 0 rfl ?_
        refine ww_iconst (v := 0) hx hb dL_house_34 (by decide) ?_
        refine ww_iconst (v := 0) hx hb dL_house_35 (by decide) ?_
        refine ww_iconst (v := 0) hx hb dL_house_36 (by decide) ?_
        refine ww_iconst (v := 0) hx hb dL_house_37 (by decide) ?_
        obtain ⟨r_7, σ_7, e_7, h⟩ := ob2 h
        refine ww_callK (w01 := WC q cA σ_7) (st1 := [.int (r_7)]) hx hb hml hown hts hK hN hA hZ [.ref (q 0), .int ((0 : Int32)), .int ((0 : Int32)), .int ((0 : Int32)), .int ((0 : Int32))] [] (m_L_refuses hl0 _ _ _ _ _ _ _ e_7) cs_L_109 rfl ⟨Nat.le_of_ble_eq_true rfl, Nat.le_of_ble_eq_true rfl⟩ ⟨by show _ ≤ 746; omega, by show _ ≤ 4532; omega⟩ (hDD _) rfl (Nat.le_of_ble_eq_true rfl) dL_house_38 rfl ?_
        refine ww_eq0 (tgt := 356) hx hb dL_house_41 (by decide) (fun c_8 => ?_) (fun c_8 => ?_)
        · replace h := it_p c_8 h
          refine ww_iconst (v := 0) hx hb dL_house_356 (by decide) ?_
          obtain rfl := os1 h
          refine ww_perm (ws1 := []) [] rfl ?_
          exact ww_kzret hx hb (by omega) (by omega) hr hlk (by decide) rfl dL_house_357
        · replace h := it_n c_8 h
          refine ww_aload_n hx hb dL_house_44 rfl 0 rfl ?_
          refine ww_iconst (v := 4) hx hb dL_house_45 (by decide) ?_
          refine ww_iconst (v := 0) hx hb dL_house_46 (by decide) ?_
          refine ww_iconst (v := 1) hx hb dL_house_47 (by decide) ?_
          refine ww_iconst (v := 0) hx hb dL_house_48 (by decide) ?_
          refine ww_iconst (v := 0) hx hb dL_house_49 (by decide) ?_
          obtain ⟨r_9, σ_9, e_9, h⟩ := obx h
          refine ww_callXI (w01 := WC q cA σ_9) (st1 := [.int (r_9)]) hx hb hml hown hts hK hN hA hZ [.int ((4 : Int32)), .int ((0 : Int32)), .int ((1 : Int32)), .int ((0 : Int32)), .int ((0 : Int32))] [] (m_X4_addScene hl0 _ _ _ _ _ _ _ _ e_9) cs_L_69 rfl ⟨Nat.le_of_ble_eq_true rfl, Nat.le_of_ble_eq_true rfl⟩ ⟨by show _ ≤ 746; omega, by show _ ≤ 4532; omega⟩ (hDD _) 0 rfl rfl rfl (Nat.le_of_ble_eq_true rfl) dL_house_50 rfl ?_
          refine ww_ne0 (tgt := 356) hx hb dL_house_53 (by decide) (fun c_10 => ?_) (fun c_10 => ?_)
          · replace h := it_n c_10 h
            refine ww_iconst (v := 0) hx hb dL_house_356 (by decide) ?_
            obtain rfl := os1 h
            refine ww_perm (ws1 := []) [] rfl ?_
            exact ww_kzret hx hb (by omega) (by omega) hr hlk (by decide) rfl dL_house_357
          · replace h := it_p c_10 h
            exact ww_sub (lv1 := [(0, .ref (q 0))]) [0] rfl (bk56 _ hDD _ _ (by omega) (by omega) _ h)
end
