section
variable {l : Launch} {D : va_G} {q : Nat → Nat} {cA : ClassId}
set_option maxHeartbeats 8000000 in
set_option maxRecDepth 100000 in
theorem m_L_act (hl0 : l.stackTraces = false) (σ : SS) (x1 x2 x3 x4 : Int32) (r : Int32) (σ1 : SS) (h : L_act σ x1 x2 x3 x4 = some (r, σ1)) : CtH l yL_act cL_act 6 [(0, 259, 260, 63), (0, 259, 265, 65), (0, 259, 270, 67)] 23 920 D vwCl [(cA, .int)] (WC q cA σ) (WC q cA σ1) [.ref (q 0), .int (x1), .int (x2), .int (x3), .int (x4)] r := by
  refine cth_of (by decide +kernel) (Nat.le_of_ble_eq_true rfl) ?_
  intro p e s m args below meth c hx hb hr hlk hml hown hts hK hD hN hA hZ htab
  have hown : s.vm.findClass RL = some m.cls := hown
  have hDD : ∀ τ : SS, va_D (va_A (WC q cA σ) s.heap.size) (WC q cA τ) := fun τ => hD.adr rfl
  unfold L_act at h
  have hcat : ∀ (pc0 : Nat) (E : String) (lv0 : List (Nat × Value)) (st0 : List Value), (covers (⟨0, 259, 260, 63⟩ : ExceptionTableEntry) pc0 = true) → (covers (⟨0, 259, 265, 65⟩ : ExceptionTableEntry) pc0 = true) → (covers (⟨0, 259, 270, 67⟩ : ExceptionTableEntry) pc0 = true) → hcl [("java/lang/IndexOutOfBoundsException", -71), ("java/lang/IllegalArgumentException", -72), ("java/lang/IllegalStateException", -73)] E = some r → XW p l e (rmc 23 920 1 6) s m args below meth c D vwCl (va_A (WC q cA σ) s.heap.size) 6 (0 + 1) (0 + 6) (vx_MQ below (qxW D vwCl (WC q cA σ) (WC q cA σ1) (.inl r) s.heap.size) (xcW D vwCl (WC q cA σ) (WC q cA σ1) (.inl r) s.heap.size) args s 1 6 (va_A (WC q cA σ) s.heap.size)) (WC q cA σ1) E pc0 lv0 st0 := by
    intro pc0 E lv0 st0 cv0 cv1 cv2 hk1
    rw [hcl] at hk1
    by_cases hE0 : E = "java/lang/IndexOutOfBoundsException"
    · rw [if_pos hE0] at hk1
      obtain rfl := os1 hk1
      subst hE0
      refine ww_catch hown hts hN (by decide) htab [] ⟨0, 259, 260, 63⟩ [⟨0, 259, 265, 65⟩, ⟨0, 259, 270, 67⟩] rfl (fun z hz => nomatch hz) cv0 (by decide) kw_349 (fun q9 => ?_)
      refine ww_astore (i := 5) (lv1 := [(5, .ref q9)]) hx hb dL_act_260 (by decide) [0] rfl ?_
      refine ww_bipush (v := -71) hx hb dL_act_262 (by decide) ?_
      exact ww_hiret hx hb hr hlk rfl dL_act_264
    · rw [if_neg hE0] at hk1
      rw [hcl] at hk1
      by_cases hE1 : E = "java/lang/IllegalArgumentException"
      · rw [if_pos hE1] at hk1
        obtain rfl := os1 hk1
        subst hE1
        refine ww_catch hown hts hN (by decide) htab [(⟨0, 259, 260, 63⟩, "java/lang/IndexOutOfBoundsException")] ⟨0, 259, 265, 65⟩ [⟨0, 259, 270, 67⟩] rfl (List.forall_mem_cons.mpr ⟨⟨by decide, kw_349, by decide, by decide⟩, fun _ h => nomatch h⟩) cv1 (by decide) kw_350 (fun q9 => ?_)
        refine ww_astore (i := 5) (lv1 := [(5, .ref q9)]) hx hb dL_act_265 (by decide) [0] rfl ?_
        refine ww_bipush (v := -72) hx hb dL_act_267 (by decide) ?_
        exact ww_hiret hx hb hr hlk rfl dL_act_269
      · rw [if_neg hE1] at hk1
        rw [hcl] at hk1
        by_cases hE2 : E = "java/lang/IllegalStateException"
        · rw [if_pos hE2] at hk1
          obtain rfl := os1 hk1
          subst hE2
          refine ww_catch hown hts hN (by decide) htab [(⟨0, 259, 260, 63⟩, "java/lang/IndexOutOfBoundsException"), (⟨0, 259, 265, 65⟩, "java/lang/IllegalArgumentException")] ⟨0, 259, 270, 67⟩ [] rfl (List.forall_mem_cons.mpr ⟨⟨by decide, kw_349, by decide, by decide⟩, List.forall_mem_cons.mpr ⟨⟨by decide, kw_350, by decide, by decide⟩, fun _ h => nomatch h⟩⟩) cv2 (by decide) kw_351 (fun q9 => ?_)
          refine ww_astore (i := 5) (lv1 := [(5, .ref q9)]) hx hb dL_act_270 (by decide) [0] rfl ?_
          refine ww_bipush (v := -73) hx hb dL_act_272 (by decide) ?_
          exact ww_hiret hx hb hr hlk rfl dL_act_274
        · rw [if_neg hE2] at hk1
          rw [hcl] at hk1
          cases hk1
  have bk91 : ∀ (τ : SS) (y1 : Int32), L_act_b91 τ y1 = some (r, σ1) → WW p l e (rmc 23 920 1 6) s m args below meth c D vwCl (va_A (WC q cA σ) s.heap.size) 6 0 0 (vx_MQ below (qxW D vwCl (WC q cA σ) (WC q cA σ1) (.inl r) s.heap.size) (xcW D vwCl (WC q cA σ) (WC q cA σ1) (.inl r) s.heap.size) args s 1 6 (va_A (WC q cA σ) s.heap.size)) (WC q cA τ) 91 [] [.int (y1), .ref (q 0)] := by
    intro τ y1 h
    unfold L_act_b91 at h
    obtain ⟨ρ_32, σ_32, e_32, hv_32, hE_32⟩ := obc h
    refine ww_callX0 (w01 := WC q cA σ_32) hx hb hml hown hts hK hN hA hZ [.int (y1)] [] (m_X4_shoot hl0 _ _ _ _ e_32) cs_L_20 rfl ⟨Nat.le_of_ble_eq_true rfl, Nat.le_of_ble_eq_true rfl⟩ ⟨Nat.le_of_ble_eq_true rfl, Nat.le_of_ble_eq_true rfl⟩ (hDD _) 0 rfl rfl rfl (Nat.le_of_ble_eq_true rfl) dL_act_91 (fun r_32 hr_32 => ?_) (fun E hE => ?_)
    · replace h := hv_32 r_32 hr_32
      refine ww_goto (tgt := 259) hx hb dL_act_94 (by decide) ?_
      obtain ⟨rfl, rfl⟩ := os2 h
      exact ww_hiret hx hb hr hlk rfl dL_act_259
    · obtain ⟨h1, h2⟩ := hE_32 E hE
      rw [← h2]
      exact hcat 91 E _ _ (by decide) (by decide) (by decide) h1
  have bk47 : ∀ (τ : SS) (y1 : Int32) (y2 : Int32), L_act_b47 τ y1 y2 = some (r, σ1) → WW p l e (rmc 23 920 1 6) s m args below meth c D vwCl (va_A (WC q cA σ) s.heap.size) 6 0 0 (vx_MQ below (qxW D vwCl (WC q cA σ) (WC q cA σ1) (.inl r) s.heap.size) (xcW D vwCl (WC q cA σ) (WC q cA σ1) (.inl r) s.heap.size) args s 1 6 (va_A (WC q cA σ) s.heap.size)) (WC q cA τ) 47 [] [.int (y2), .int (y1), .ref (q 0)] := by
    intro τ y1 y2 h
    unfold L_act_b47 at h
    obtain ⟨ρ_33, σ_33, e_33, hv_33, hE_33⟩ := obc h
    refine ww_callX0 (w01 := WC q cA σ_33) hx hb hml hown hts hK hN hA hZ [.int (y1), .int (y2)] [] (m_X4_setChild hl0 _ _ _ _ _ e_33) cs_L_13 rfl ⟨Nat.le_of_ble_eq_true rfl, Nat.le_of_ble_eq_true rfl⟩ ⟨Nat.le_of_ble_eq_true rfl, Nat.le_of_ble_eq_true rfl⟩ (hDD _) 0 rfl rfl rfl (Nat.le_of_ble_eq_true rfl) dL_act_47 (fun r_33 hr_33 => ?_) (fun E hE => ?_)
    · replace h := hv_33 r_33 hr_33
      refine ww_eq0 (tgt := 57) hx hb dL_act_50 (by decide) (fun c_34 => ?_) (fun c_34 => ?_)
      · replace h := it_p c_34 h
        refine ww_iconst (v := 0) hx hb dL_act_57 (by decide) ?_
        refine ww_goto (tgt := 259) hx hb dL_act_58 (by decide) ?_
        obtain ⟨rfl, rfl⟩ := os2 h
        exact ww_hiret hx hb hr hlk rfl dL_act_259
      · replace h := it_n c_34 h
        refine ww_iconst (v := 1) hx hb dL_act_53 (by decide) ?_
        refine ww_goto (tgt := 259) hx hb dL_act_54 (by decide) ?_
        obtain ⟨rfl, rfl⟩ := os2 h
        exact ww_hiret hx hb hr hlk rfl dL_act_259
    · obtain ⟨h1, h2⟩ := hE_33 E hE
      rw [← h2]
      exact hcat 47 E _ _ (by decide) (by decide) (by decide) h1
  have bk16 : ∀ (τ : SS) (y1 : Int32) (y2 : Int32), L_act_b16 τ y1 y2 = some (r, σ1) → WW p l e (rmc 23 920 1 6) s m args below meth c D vwCl (va_A (WC q cA σ) s.heap.size) 6 0 0 (vx_MQ below (qxW D vwCl (WC q cA σ) (WC q cA σ1) (.inl r) s.heap.size) (xcW D vwCl (WC q cA σ) (WC q cA σ1) (.inl r) s.heap.size) args s 1 6 (va_A (WC q cA σ) s.heap.size)) (WC q cA τ) 16 [] [.int (y2), .int (y1), .ref (q 0)] := by
    intro τ y1 y2 h
    unfold L_act_b16 at h
    obtain ⟨ρ_35, σ_35, e_35, hv_35, hE_35⟩ := obc h
    refine ww_callX0 (w01 := WC q cA σ_35) hx hb hml hown hts hK hN hA hZ [.int (y1), .int (y2)] [] (m_X4_setOut hl0 _ _ _ _ _ e_35) cs_L_7 rfl ⟨Nat.le_of_ble_eq_true rfl, Nat.le_of_ble_eq_true rfl⟩ ⟨Nat.le_of_ble_eq_true rfl, Nat.le_of_ble_eq_true rfl⟩ (hDD _) 0 rfl rfl rfl (Nat.le_of_ble_eq_true rfl) dL_act_16 (fun r_35 hr_35 => ?_) (fun E hE => ?_)
    · replace h := hv_35 r_35 hr_35
      refine ww_eq0 (tgt := 26) hx hb dL_act_19 (by decide) (fun c_36 => ?_) (fun c_36 => ?_)
      · replace h := it_p c_36 h
        refine ww_iconst (v := 0) hx hb dL_act_26 (by decide) ?_
        refine ww_goto (tgt := 259) hx hb dL_act_27 (by decide) ?_
        obtain ⟨rfl, rfl⟩ := os2 h
        exact ww_hiret hx hb hr hlk rfl dL_act_259
      · replace h := it_n c_36 h
        refine ww_iconst (v := 1) hx hb dL_act_22 (by decide) ?_
        refine ww_goto (tgt := 259) hx hb dL_act_23 (by decide) ?_
        obtain ⟨rfl, rfl⟩ := os2 h
        exact ww_hiret hx hb hr hlk rfl dL_act_259
    · obtain ⟨h1, h2⟩ := hE_35 E hE
      rw [← h2]
      exact hcat 16 E _ _ (by decide) (by decide) (by decide) h1
  refine ww_sub (lv1 := [(0, .ref (q 0)), (1, .int (x1)), (2, .int (x2)), (3, .int (x3)), (4, .int (x4))]) [0, 1, 2, 3, 4] rfl ?_
  refine ww_iload_n hx hb dL_act_0 rfl 1 rfl ?_
  refine ww_ne0 (tgt := 30) hx hb dL_act_1 (by decide) (fun c_1 => ?_) (fun c_1 => ?_)
  · replace h := it_n c_1 h
    refine ww_iload_n hx hb dL_act_30 rfl 1 rfl ?_
    refine ww_iconst (v := 1) hx hb dL_act_31 (by decide) ?_
    refine ww_ne2 (tgt := 61) hx hb dL_act_32 (by decide) (fun c_2 => ?_) (fun c_2 => ?_)
    · replace h := it_n c_2 h
      refine ww_iload_n hx hb dL_act_61 rfl 1 rfl ?_
      refine ww_iconst (v := 2) hx hb dL_act_62 (by decide) ?_
      refine ww_ne2 (tgt := 75) hx hb dL_act_63 (by decide) (fun c_3 => ?_) (fun c_3 => ?_)
      · replace h := it_n c_3 h
        refine ww_iload_n hx hb dL_act_75 rfl 1 rfl ?_
        refine ww_iconst (v := 3) hx hb dL_act_76 (by decide) ?_
        refine ww_ne2 (tgt := 97) hx hb dL_act_77 (by decide) (fun c_4 => ?_) (fun c_4 => ?_)
        · replace h := it_n c_4 h
          refine ww_iload_n hx hb dL_act_97 rfl 1 rfl ?_
          refine ww_iconst (v := 4) hx hb dL_act_98 (by decide) ?_
          refine ww_ne2 (tgt := 111) hx hb dL_act_99 (by decide) (fun c_5 => ?_) (fun c_5 => ?_)
          · replace h := it_n c_5 h
            refine ww_iload_n hx hb dL_act_111 rfl 1 rfl ?_
            refine ww_iconst (v := 5) hx hb dL_act_112 (by decide) ?_
            refine ww_ne2 (tgt := 124) hx hb dL_act_113 (by decide) (fun c_6 => ?_) (fun c_6 => ?_)
            · replace h := it_n c_6 h
              refine ww_iload_n hx hb dL_act_124 rfl 1 rfl ?_
              refine ww_bipush (v := 6) hx hb dL_act_125 (by decide) ?_
              refine ww_ne2 (tgt := 139) hx hb dL_act_127 (by decide) (fun c_7 => ?_) (fun c_7 => ?_)
              · replace h := it_n c_7 h
                refine ww_iload_n hx hb dL_act_139 rfl 1 rfl ?_
                refine ww_bipush (v := 7) hx hb dL_act_140 (by decide) ?_
                refine ww_ne2 (tgt := 154) hx hb dL_act_142 (by decide) (fun c_8 => ?_) (fun c_8 => ?_)
                · replace h := it_n c_8 h
                  refine ww_iload_n hx hb dL_act_154 rfl 1 rfl ?_
                  refine ww_bipush (v := 8) hx hb dL_act_155 (by decide) ?_
                  refine ww_ne2 (tgt := 171) hx hb dL_act_157 (by decide) (fun c_9 => ?_) (fun c_9 => ?_)
                  · replace h := it_n c_9 h
                    refine ww_iload_n hx hb dL_act_171 rfl 1 rfl ?_
                    refine ww_bipush (v := 9) hx hb dL_act_172 (by decide) ?_
                    refine ww_ne2 (tgt := 185) hx hb dL_act_174 (by decide) (fun c_10 => ?_) (fun c_10 => ?_)
                    · replace h := it_n c_10 h
                      refine ww_iload_n hx hb dL_act_185 rfl 1 rfl ?_
                      refine ww_bipush (v := 10) hx hb dL_act_186 (by decide) ?_
                      refine ww_ne2 (tgt := 198) hx hb dL_act_188 (by decide) (fun c_11 => ?_) (fun c_11 => ?_)
                      · replace h := it_n c_11 h
                        refine ww_iload_n hx hb dL_act_198 rfl 1 rfl ?_
                        refine ww_bipush (v := 11) hx hb dL_act_199 (by decide) ?_
                        refine ww_ne2 (tgt := 212) hx hb dL_act_201 (by decide) (fun c_12 => ?_) (fun c_12 => ?_)
                        · replace h := it_n c_12 h
                          refine ww_iload_n hx hb dL_act_212 rfl 1 rfl ?_
                          refine ww_bipush (v := 12) hx hb dL_act_213 (by decide) ?_
                          refine ww_ne2 (tgt := 226) hx hb dL_act_215 (by decide) (fun c_13 => ?_) (fun c_13 => ?_)
                          · replace h := it_n c_13 h
                            refine ww_iload_n hx hb dL_act_226 rfl 1 rfl ?_
                            refine ww_bipush (v := 13) hx hb dL_act_227 (by decide) ?_
                            refine ww_ne2 (tgt := 240) hx hb dL_act_229 (by decide) (fun c_14 => ?_) (fun c_14 => ?_)
                            · replace h := it_n c_14 h
                              refine ww_iload_n hx hb dL_act_240 rfl 1 rfl ?_
                              refine ww_bipush (v := 14) hx hb dL_act_241 (by decide) ?_
                              refine ww_ne2 (tgt := 254) hx hb dL_act_243 (by decide) (fun c_15 => ?_) (fun c_15 => ?_)
                              · replace h := it_n c_15 h
                                refine ww_aload_n hx hb dL_act_254 rfl 0 rfl ?_
                                refine ww_iload_n hx hb dL_act_255 rfl 2 rfl ?_
                                obtain ⟨ρ_16, σ_16, e_16, hv_16, hE_16⟩ := obc h
                                refine ww_callX0 (w01 := WC q cA σ_16) hx hb hml hown hts hK hN hA hZ [.int (x2)] [] (m_X4_got hl0 _ _ _ _ e_16) cs_L_60 rfl ⟨Nat.le_of_ble_eq_true rfl, Nat.le_of_ble_eq_true rfl⟩ ⟨Nat.le_of_ble_eq_true rfl, Nat.le_of_ble_eq_true rfl⟩ (hDD _) 0 rfl rfl rfl (Nat.le_of_ble_eq_true rfl) dL_act_256 (fun r_16 hr_16 => ?_) (fun E hE => ?_)
                                · replace h := hv_16 r_16 hr_16
                                  obtain ⟨rfl, rfl⟩ := os2 h
                                  exact ww_hiret hx hb hr hlk rfl dL_act_259
                                · obtain ⟨h1, h2⟩ := hE_16 E hE
                                  rw [← h2]
                                  exact hcat 256 E _ _ (by decide) (by decide) (by decide) h1
                              · replace h := it_p c_15 h
                                refine ww_aload_n hx hb dL_act_246 rfl 0 rfl ?_
                                refine ww_iload_n hx hb dL_act_247 rfl 2 rfl ?_
                                obtain ⟨ρ_17, σ_17, e_17, hv_17, hE_17⟩ := obc h
                                refine ww_callX0 (w01 := WC q cA σ_17) hx hb hml hown hts hK hN hA hZ [.int (x2)] [] (m_X4_openOf hl0 _ _ _ _ e_17) cs_L_57 rfl ⟨Nat.le_of_ble_eq_true rfl, Nat.le_of_ble_eq_true rfl⟩ ⟨Nat.le_of_ble_eq_true rfl, Nat.le_of_ble_eq_true rfl⟩ (hDD _) 0 rfl rfl rfl (Nat.le_of_ble_eq_true rfl) dL_act_248 (fun r_17 hr_17 => ?_) (fun E hE => ?_)
                                · replace h := hv_17 r_17 hr_17
                                  refine ww_goto (tgt := 259) hx hb dL_act_251 (by decide) ?_
                                  obtain ⟨rfl, rfl⟩ := os2 h
                                  exact ww_hiret hx hb hr hlk rfl dL_act_259
                                · obtain ⟨h1, h2⟩ := hE_17 E hE
                                  rw [← h2]
                                  exact hcat 248 E _ _ (by decide) (by decide) (by decide) h1
                            · replace h := it_p c_14 h
                              refine ww_aload_n hx hb dL_act_232 rfl 0 rfl ?_
                              refine ww_iload_n hx hb dL_act_233 rfl 2 rfl ?_
                              obtain ⟨ρ_18, σ_18, e_18, hv_18, hE_18⟩ := obc h
                              refine ww_callX0 (w01 := WC q cA σ_18) hx hb hml hown hts hK hN hA hZ [.int (x2)] [] (m_X4_left hl0 _ _ _ _ e_18) cs_L_54 rfl ⟨Nat.le_of_ble_eq_true rfl, Nat.le_of_ble_eq_true rfl⟩ ⟨Nat.le_of_ble_eq_true rfl, Nat.le_of_ble_eq_true rfl⟩ (hDD _) 0 rfl rfl rfl (Nat.le_of_ble_eq_true rfl) dL_act_234 (fun r_18 hr_18 => ?_) (fun E hE => ?_)
                              · replace h := hv_18 r_18 hr_18
                                refine ww_goto (tgt := 259) hx hb dL_act_237 (by decide) ?_
                                obtain ⟨rfl, rfl⟩ := os2 h
                                exact ww_hiret hx hb hr hlk rfl dL_act_259
                              · obtain ⟨h1, h2⟩ := hE_18 E hE
                                rw [← h2]
                                exact hcat 234 E _ _ (by decide) (by decide) (by decide) h1
                          · replace h := it_p c_13 h
                            refine ww_aload_n hx hb dL_act_218 rfl 0 rfl ?_
                            refine ww_iload_n hx hb dL_act_219 rfl 2 rfl ?_
                            obtain ⟨ρ_19, σ_19, e_19, hv_19, hE_19⟩ := obc h
                            refine ww_callX0 (w01 := WC q cA σ_19) hx hb hml hown hts hK hN hA hZ [.int (x2)] [] (m_X4_begins hl0 _ _ _ _ e_19) cs_L_51 rfl ⟨Nat.le_of_ble_eq_true rfl, Nat.le_of_ble_eq_true rfl⟩ ⟨Nat.le_of_ble_eq_true rfl, Nat.le_of_ble_eq_true rfl⟩ (hDD _) 0 rfl rfl rfl (Nat.le_of_ble_eq_true rfl) dL_act_220 (fun r_19 hr_19 => ?_) (fun E hE => ?_)
                            · replace h := hv_19 r_19 hr_19
                              refine ww_goto (tgt := 259) hx hb dL_act_223 (by decide) ?_
                              obtain ⟨rfl, rfl⟩ := os2 h
                              exact ww_hiret hx hb hr hlk rfl dL_act_259
                            · obtain ⟨h1, h2⟩ := hE_19 E hE
                              rw [← h2]
                              exact hcat 220 E _ _ (by decide) (by decide) (by decide) h1
                        · replace h := it_p c_12 h
                          refine ww_aload_n hx hb dL_act_204 rfl 0 rfl ?_
                          refine ww_iload_n hx hb dL_act_205 rfl 2 rfl ?_
                          obtain ⟨ρ_20, σ_20, e_20, hv_20, hE_20⟩ := obc h
                          refine ww_callX0 (w01 := WC q cA σ_20) hx hb hml hown hts hK hN hA hZ [.int (x2)] [] (m_X4_planned hl0 _ _ _ _ e_20) cs_L_48 rfl ⟨Nat.le_of_ble_eq_true rfl, Nat.le_of_ble_eq_true rfl⟩ ⟨Nat.le_of_ble_eq_true rfl, Nat.le_of_ble_eq_true rfl⟩ (hDD _) 0 rfl rfl rfl (Nat.le_of_ble_eq_true rfl) dL_act_206 (fun r_20 hr_20 => ?_) (fun E hE => ?_)
                          · replace h := hv_20 r_20 hr_20
                            refine ww_goto (tgt := 259) hx hb dL_act_209 (by decide) ?_
                            obtain ⟨rfl, rfl⟩ := os2 h
                            exact ww_hiret hx hb hr hlk rfl dL_act_259
                          · obtain ⟨h1, h2⟩ := hE_20 E hE
                            rw [← h2]
                            exact hcat 206 E _ _ (by decide) (by decide) (by decide) h1
                      · replace h := it_p c_11 h
                        refine ww_aload_n hx hb dL_act_191 rfl 0 rfl ?_
                        obtain ⟨ρ_21, σ_21, e_21, hv_21, hE_21⟩ := obc h
                        refine ww_callX0 (w01 := WC q cA σ_21) hx hb hml hown hts hK hN hA hZ [] [] (m_X4_daysByAll hl0 _  _ _ e_21) cs_L_44 rfl ⟨Nat.le_of_ble_eq_true rfl, Nat.le_of_ble_eq_true rfl⟩ ⟨Nat.le_of_ble_eq_true rfl, Nat.le_of_ble_eq_true rfl⟩ (hDD _) 0 rfl rfl rfl (Nat.le_of_ble_eq_true rfl) dL_act_192 (fun r_21 hr_21 => ?_) (fun E hE => ?_)
                        · replace h := hv_21 r_21 hr_21
                          refine ww_goto (tgt := 259) hx hb dL_act_195 (by decide) ?_
                          obtain ⟨rfl, rfl⟩ := os2 h
                          exact ww_hiret hx hb hr hlk rfl dL_act_259
                        · obtain ⟨h1, h2⟩ := hE_21 E hE
                          rw [← h2]
                          exact hcat 192 E _ _ (by decide) (by decide) (by decide) h1
                    · replace h := it_p c_10 h
                      refine ww_aload_n hx hb dL_act_177 rfl 0 rfl ?_
                      refine ww_iload_n hx hb dL_act_178 rfl 2 rfl ?_
                      obtain ⟨ρ_22, σ_22, e_22, hv_22, hE_22⟩ := obc h
                      refine ww_callX0 (w01 := WC q cA σ_22) hx hb hml hown hts hK hN hA hZ [.int (x2)] [] (m_X4_income hl0 _ _ _ _ e_22) cs_L_41 rfl ⟨Nat.le_of_ble_eq_true rfl, Nat.le_of_ble_eq_true rfl⟩ ⟨Nat.le_of_ble_eq_true rfl, Nat.le_of_ble_eq_true rfl⟩ (hDD _) 0 rfl rfl rfl (Nat.le_of_ble_eq_true rfl) dL_act_179 (fun r_22 hr_22 => ?_) (fun E hE => ?_)
                      · replace h := hv_22 r_22 hr_22
                        refine ww_goto (tgt := 259) hx hb dL_act_182 (by decide) ?_
                        obtain ⟨rfl, rfl⟩ := os2 h
                        exact ww_hiret hx hb hr hlk rfl dL_act_259
                      · obtain ⟨h1, h2⟩ := hE_22 E hE
                        rw [← h2]
                        exact hcat 179 E _ _ (by decide) (by decide) (by decide) h1
                  · replace h := it_p c_9 h
                    refine ww_aload_n hx hb dL_act_160 rfl 0 rfl ?_
                    refine ww_iload_n hx hb dL_act_161 rfl 2 rfl ?_
                    refine ww_iload_n hx hb dL_act_162 rfl 3 rfl ?_
                    refine ww_iload hx hb dL_act_163 4 rfl ?_
                    obtain ⟨ρ_23, σ_23, e_23, hv_23, hE_23⟩ := obc h
                    refine ww_callX0 (w01 := WC q cA σ_23) hx hb hml hown hts hK hN hA hZ [.int (x2), .int (x3), .int (x4)] [] (m_X4_part hl0 _ _ _ _ _ _ e_23) cs_L_37 rfl ⟨Nat.le_of_ble_eq_true rfl, Nat.le_of_ble_eq_true rfl⟩ ⟨Nat.le_of_ble_eq_true rfl, Nat.le_of_ble_eq_true rfl⟩ (hDD _) 0 rfl rfl rfl (Nat.le_of_ble_eq_true rfl) dL_act_165 (fun r_23 hr_23 => ?_) (fun E hE => ?_)
                    · replace h := hv_23 r_23 hr_23
                      refine ww_goto (tgt := 259) hx hb dL_act_168 (by decide) ?_
                      obtain ⟨rfl, rfl⟩ := os2 h
                      exact ww_hiret hx hb hr hlk rfl dL_act_259
                    · obtain ⟨h1, h2⟩ := hE_23 E hE
                      rw [← h2]
                      exact hcat 165 E _ _ (by decide) (by decide) (by decide) h1
                · replace h := it_p c_8 h
                  refine ww_aload_n hx hb dL_act_145 rfl 0 rfl ?_
                  refine ww_iload_n hx hb dL_act_146 rfl 2 rfl ?_
                  refine ww_iload_n hx hb dL_act_147 rfl 3 rfl ?_
                  obtain ⟨ρ_24, σ_24, e_24, hv_24, hE_24⟩ := obc h
                  refine ww_callX0 (w01 := WC q cA σ_24) hx hb hml hown hts hK hN hA hZ [.int (x2), .int (x3)] [] (m_X4_loan hl0 _ _ _ _ _ e_24) cs_L_34 rfl ⟨Nat.le_of_ble_eq_true rfl, Nat.le_of_ble_eq_true rfl⟩ ⟨Nat.le_of_ble_eq_true rfl, Nat.le_of_ble_eq_true rfl⟩ (hDD _) 0 rfl rfl rfl (Nat.le_of_ble_eq_true rfl) dL_act_148 (fun r_24 hr_24 => ?_) (fun E hE => ?_)
                  · replace h := hv_24 r_24 hr_24
                    refine ww_goto (tgt := 259) hx hb dL_act_151 (by decide) ?_
                    obtain ⟨rfl, rfl⟩ := os2 h
                    exact ww_hiret hx hb hr hlk rfl dL_act_259
                  · obtain ⟨h1, h2⟩ := hE_24 E hE
                    rw [← h2]
                    exact hcat 148 E _ _ (by decide) (by decide) (by decide) h1
              · replace h := it_p c_7 h
                refine ww_aload_n hx hb dL_act_130 rfl 0 rfl ?_
                refine ww_iload_n hx hb dL_act_131 rfl 2 rfl ?_
                refine ww_iload_n hx hb dL_act_132 rfl 3 rfl ?_
                obtain ⟨ρ_25, σ_25, e_25, hv_25, hE_25⟩ := obc h
                refine ww_callX0 (w01 := WC q cA σ_25) hx hb hml hown hts hK hN hA hZ [.int (x2), .int (x3)] [] (m_X4_bill hl0 _ _ _ _ _ e_25) cs_L_31 rfl ⟨Nat.le_of_ble_eq_true rfl, Nat.le_of_ble_eq_true rfl⟩ ⟨Nat.le_of_ble_eq_true rfl, Nat.le_of_ble_eq_true rfl⟩ (hDD _) 0 rfl rfl rfl (Nat.le_of_ble_eq_true rfl) dL_act_133 (fun r_25 hr_25 => ?_) (fun E hE => ?_)
                · replace h := hv_25 r_25 hr_25
                  refine ww_goto (tgt := 259) hx hb dL_act_136 (by decide) ?_
                  obtain ⟨rfl, rfl⟩ := os2 h
                  exact ww_hiret hx hb hr hlk rfl dL_act_259
                · obtain ⟨h1, h2⟩ := hE_25 E hE
                  rw [← h2]
                  exact hcat 133 E _ _ (by decide) (by decide) (by decide) h1
            · replace h := it_p c_6 h
              refine ww_aload_n hx hb dL_act_116 rfl 0 rfl ?_
              refine ww_iload_n hx hb dL_act_117 rfl 2 rfl ?_
              obtain ⟨ρ_26, σ_26, e_26, hv_26, hE_26⟩ := obc h
              refine ww_callX0 (w01 := WC q cA σ_26) hx hb hml hown hts hK hN hA hZ [.int (x2)] [] (m_X4_grant hl0 _ _ _ _ e_26) cs_L_27 rfl ⟨Nat.le_of_ble_eq_true rfl, Nat.le_of_ble_eq_true rfl⟩ ⟨Nat.le_of_ble_eq_true rfl, Nat.le_of_ble_eq_true rfl⟩ (hDD _) 0 rfl rfl rfl (Nat.le_of_ble_eq_true rfl) dL_act_118 (fun r_26 hr_26 => ?_) (fun E hE => ?_)
              · replace h := hv_26 r_26 hr_26
                refine ww_goto (tgt := 259) hx hb dL_act_121 (by decide) ?_
                obtain ⟨rfl, rfl⟩ := os2 h
                exact ww_hiret hx hb hr hlk rfl dL_act_259
              · obtain ⟨h1, h2⟩ := hE_26 E hE
                rw [← h2]
                exact hcat 118 E _ _ (by decide) (by decide) (by decide) h1
          · replace h := it_p c_5 h
            refine ww_aload_n hx hb dL_act_102 rfl 0 rfl ?_
            refine ww_iload_n hx hb dL_act_103 rfl 2 rfl ?_
            refine ww_iload_n hx hb dL_act_104 rfl 3 rfl ?_
            obtain ⟨ρ_27, σ_27, e_27, hv_27, hE_27⟩ := obc h
            refine ww_callX0 (w01 := WC q cA σ_27) hx hb hml hown hts hK hN hA hZ [.int (x2), .int (x3)] [] (m_X4_approve hl0 _ _ _ _ _ e_27) cs_L_24 rfl ⟨Nat.le_of_ble_eq_true rfl, Nat.le_of_ble_eq_true rfl⟩ ⟨Nat.le_of_ble_eq_true rfl, Nat.le_of_ble_eq_true rfl⟩ (hDD _) 0 rfl rfl rfl (Nat.le_of_ble_eq_true rfl) dL_act_105 (fun r_27 hr_27 => ?_) (fun E hE => ?_)
            · replace h := hv_27 r_27 hr_27
              refine ww_goto (tgt := 259) hx hb dL_act_108 (by decide) ?_
              obtain ⟨rfl, rfl⟩ := os2 h
              exact ww_hiret hx hb hr hlk rfl dL_act_259
            · obtain ⟨h1, h2⟩ := hE_27 E hE
              rw [← h2]
              exact hcat 105 E _ _ (by decide) (by decide) (by decide) h1
        · replace h := it_p c_4 h
          refine ww_aload_n hx hb dL_act_80 rfl 0 rfl ?_
          refine ww_iload_n hx hb dL_act_81 rfl 2 rfl ?_
          refine ww_iconst (v := 1) hx hb dL_act_82 (by decide) ?_
          refine ww_ne2 (tgt := 90) hx hb dL_act_83 (by decide) (fun c_28 => ?_) (fun c_28 => ?_)
          · replace h := it_n c_28 h
            refine ww_iconst (v := 0) hx hb dL_act_90 (by decide) ?_
            exact ww_sub (lv1 := []) [] rfl (bk91 _ _ h)
          · replace h := it_p c_28 h
            refine ww_iconst (v := 1) hx hb dL_act_86 (by decide) ?_
            refine ww_goto (tgt := 91) hx hb dL_act_87 (by decide) ?_
            exact ww_sub (lv1 := []) [] rfl (bk91 _ _ h)
      · replace h := it_p c_3 h
        refine ww_aload_n hx hb dL_act_66 rfl 0 rfl ?_
        refine ww_iload_n hx hb dL_act_67 rfl 2 rfl ?_
        refine ww_iload_n hx hb dL_act_68 rfl 3 rfl ?_
        obtain ⟨ρ_29, σ_29, e_29, hv_29, hE_29⟩ := obc h
        refine ww_callX0 (w01 := WC q cA σ_29) hx hb hml hown hts hK hN hA hZ [.int (x2), .int (x3)] [] (m_X4_setRates hl0 _ _ _ _ _ e_29) cs_L_16 rfl ⟨Nat.le_of_ble_eq_true rfl, Nat.le_of_ble_eq_true rfl⟩ ⟨Nat.le_of_ble_eq_true rfl, Nat.le_of_ble_eq_true rfl⟩ (hDD _) 0 rfl rfl rfl (Nat.le_of_ble_eq_true rfl) dL_act_69 (fun r_29 hr_29 => ?_) (fun E hE => ?_)
        · replace h := hv_29 r_29 hr_29
          refine ww_goto (tgt := 259) hx hb dL_act_72 (by decide) ?_
          obtain ⟨rfl, rfl⟩ := os2 h
          exact ww_hiret hx hb hr hlk rfl dL_act_259
        · obtain ⟨h1, h2⟩ := hE_29 E hE
          rw [← h2]
          exact hcat 69 E _ _ (by decide) (by decide) (by decide) h1
    · replace h := it_p c_2 h
      refine ww_aload_n hx hb dL_act_35 rfl 0 rfl ?_
      refine ww_iload_n hx hb dL_act_36 rfl 2 rfl ?_
      refine ww_iload_n hx hb dL_act_37 rfl 3 rfl ?_
      refine ww_iconst (v := 1) hx hb dL_act_38 (by decide) ?_
      refine ww_ne2 (tgt := 46) hx hb dL_act_39 (by decide) (fun c_30 => ?_) (fun c_30 => ?_)
      · replace h := it_n c_30 h
        refine ww_iconst (v := 0) hx hb dL_act_46 (by decide) ?_
        exact ww_sub (lv1 := []) [] rfl (bk47 _ _ _ h)
      · replace h := it_p c_30 h
        refine ww_iconst (v := 1) hx hb dL_act_42 (by decide) ?_
        refine ww_goto (tgt := 47) hx hb dL_act_43 (by decide) ?_
        exact ww_sub (lv1 := []) [] rfl (bk47 _ _ _ h)
  · replace h := it_p c_1 h
    refine ww_aload_n hx hb dL_act_4 rfl 0 rfl ?_
    refine ww_iload_n hx hb dL_act_5 rfl 2 rfl ?_
    refine ww_iload_n hx hb dL_act_6 rfl 3 rfl ?_
    refine ww_iconst (v := 1) hx hb dL_act_7 (by decide) ?_
    refine ww_ne2 (tgt := 15) hx hb dL_act_8 (by decide) (fun c_31 => ?_) (fun c_31 => ?_)
    · replace h := it_n c_31 h
      refine ww_iconst (v := 0) hx hb dL_act_15 (by decide) ?_
      exact ww_sub (lv1 := []) [] rfl (bk16 _ _ _ h)
    · replace h := it_p c_31 h
      refine ww_iconst (v := 1) hx hb dL_act_11 (by decide) ?_
      refine ww_goto (tgt := 16) hx hb dL_act_12 (by decide) ?_
      exact ww_sub (lv1 := []) [] rfl (bk16 _ _ _ h)
end
