section
variable {l : Launch} {D : va_G} {q : Nat → Nat} {cA : ClassId}
set_option maxHeartbeats 8000000 in
set_option maxRecDepth 100000 in
theorem m_L_scene (hl0 : l.stackTraces = false) (σ : SS) (x1 x2 x3 x4 x5 : Int32) (r : Int32) (σ1 : SS) (h : L_scene σ x1 x2 x3 x4 x5 = some (r, σ1)) : CtH l yL_scene cL_scene 7 [(0, 11, 12, 65), (0, 11, 17, 67)] 8 320 D vwCl [(cA, .int)] (WC q cA σ) (WC q cA σ1) [.ref (q 0), .int (x1), .int (x2), .int (x3), .int (x4), .int (x5)] r := by
  refine cth_of (by decide +kernel) (Nat.le_of_ble_eq_true rfl) ?_
  intro p e s m args below meth c hx hb hr hlk hml hown hts hK hD hN hA hZ htab
  have hown : s.vm.findClass RL = some m.cls := hown
  have hDD : ∀ τ : SS, va_D (va_A (WC q cA σ) s.heap.size) (WC q cA τ) := fun τ => hD.adr rfl
  unfold L_scene at h
  have hcat : ∀ (pc0 : Nat) (E : String) (lv0 : List (Nat × Value)) (st0 : List Value), (covers (⟨0, 11, 12, 65⟩ : ExceptionTableEntry) pc0 = true) → (covers (⟨0, 11, 17, 67⟩ : ExceptionTableEntry) pc0 = true) → hcl [("java/lang/IllegalArgumentException", -72), ("java/lang/IllegalStateException", -73)] E = some r → XW p l e (rmc 8 320 1 6) s m args below meth c D vwCl (va_A (WC q cA σ) s.heap.size) 7 (0 + 1) (0 + 6) (vx_MQ below (qxW D vwCl (WC q cA σ) (WC q cA σ1) (.inl r) s.heap.size) (xcW D vwCl (WC q cA σ) (WC q cA σ1) (.inl r) s.heap.size) args s 1 6 (va_A (WC q cA σ) s.heap.size)) (WC q cA σ1) E pc0 lv0 st0 := by
    intro pc0 E lv0 st0 cv0 cv1 hk1
    rw [hcl] at hk1
    by_cases hE0 : E = "java/lang/IllegalArgumentException"
    · rw [if_pos hE0] at hk1
      obtain rfl := os1 hk1
      subst hE0
      refine ww_catch hown hts hN (by decide) htab [] ⟨0, 11, 12, 65⟩ [⟨0, 11, 17, 67⟩] rfl (fun z hz => nomatch hz) cv0 (by decide) kw_350 (fun q9 => ?_)
      refine ww_astore (i := 6) (lv1 := [(6, .ref q9)]) hx hb dL_scene_12 (by decide) [0] rfl ?_
      refine ww_bipush (v := -72) hx hb dL_scene_14 (by decide) ?_
      exact ww_hiret hx hb hr hlk rfl dL_scene_16
    · rw [if_neg hE0] at hk1
      rw [hcl] at hk1
      by_cases hE1 : E = "java/lang/IllegalStateException"
      · rw [if_pos hE1] at hk1
        obtain rfl := os1 hk1
        subst hE1
        refine ww_catch hown hts hN (by decide) htab [(⟨0, 11, 12, 65⟩, "java/lang/IllegalArgumentException")] ⟨0, 11, 17, 67⟩ [] rfl (List.forall_mem_cons.mpr ⟨⟨by decide, kw_350, by decide, by decide⟩, fun _ h => nomatch h⟩) cv1 (by decide) kw_351 (fun q9 => ?_)
        refine ww_astore (i := 6) (lv1 := [(6, .ref q9)]) hx hb dL_scene_17 (by decide) [0] rfl ?_
        refine ww_bipush (v := -73) hx hb dL_scene_19 (by decide) ?_
        exact ww_hiret hx hb hr hlk rfl dL_scene_21
      · rw [if_neg hE1] at hk1
        rw [hcl] at hk1
        cases hk1
  refine ww_sub (lv1 := [(0, .ref (q 0)), (1, .int (x1)), (2, .int (x2)), (3, .int (x3)), (4, .int (x4)), (5, .int (x5))]) [0, 1, 2, 3, 4, 5] rfl ?_
  refine ww_aload_n hx hb dL_scene_0 rfl 0 rfl ?_
  refine ww_iload_n hx hb dL_scene_1 rfl 1 rfl ?_
  refine ww_iload_n hx hb dL_scene_2 rfl 2 rfl ?_
  refine ww_iload_n hx hb dL_scene_3 rfl 3 rfl ?_
  refine ww_iload hx hb dL_scene_4 4 rfl ?_
  refine ww_iload hx hb dL_scene_6 5 rfl ?_
  obtain ⟨ρ_1, σ_1, e_1, hv_1, hE_1⟩ := obc h
  refine ww_callX0 (w01 := WC q cA σ_1) hx hb hml hown hts hK hN hA hZ [.int (x1), .int (x2), .int (x3), .int (x4), .int (x5)] [] (m_X4_addScene hl0 _ _ _ _ _ _ _ _ e_1) cs_L_69 rfl ⟨Nat.le_of_ble_eq_true rfl, Nat.le_of_ble_eq_true rfl⟩ ⟨Nat.le_of_ble_eq_true rfl, Nat.le_of_ble_eq_true rfl⟩ (hDD _) 0 rfl rfl rfl (Nat.le_of_ble_eq_true rfl) dL_scene_8 (fun r_1 hr_1 => ?_) (fun E hE => ?_)
  · replace h := hv_1 r_1 hr_1
    obtain ⟨rfl, rfl⟩ := os2 h
    exact ww_hiret hx hb hr hlk rfl dL_scene_11
  · obtain ⟨h1, h2⟩ := hE_1 E hE
    rw [← h2]
    exact hcat 8 E _ _ (by decide) (by decide) h1
end
