/-! The turns of the law's refuses, and the whole of it. -/
theorem le_rf (x : Int32) : x ≤ x := Int32.le_iff_toInt_le.mpr (Int.le_refl _)
theorem ah_lo (n : Int32) {x : Int32} (h : x < 0) : X4_isWithin x 0 n = 0 := (win_iff _ _ _).mpr (Or.inl h)
theorem ah_max {P : PP} {m σ : SS} (S : Sh P m σ) : X4_isWithin 2147483647 0 (nI (2 ^ P 6 0 - 1)) = 0 := by
  have := pw_le S.1.1
  rw [win_iff]
  exact Or.inr (show nI (2 ^ P 6 0 - 1) < nI 2147483647 from nI_lt (by omega) (by decide))
theorem ah_1 {P : PP} {m σ : SS} (S : Sh P m σ) : X4_isWithin ((1 : Int32) <<< (nI (P 6 0) &&& 31)) 0 (nI (2 ^ P 6 0 - 1)) = 0 := by
  have := pw_le S.1.1
  have := pw_pos (P 6 0)
  have hn := S.1.1
  rw [shl_n (by omega), win_iff]
  exact Or.inr (nI_lt (by omega) (by omega))
theorem tn_0 {P : PP} {m σ : SS} (S : Sh P m σ) {x1 x2 x3 x4 : Int32} (h1 : x1 = nI (P 6 0)) (h2 : x2 = nI (rem P [])) {l p : Nat} (hl : l ≤ 12) (el : σ 4 7 = nI l) (h3 : x3 = nI l) (hp : p ≤ 12) (ep : σ 4 8 = nI p) (h4 : x4 = nI p) (x5 x6 x7 x8 : Int32) (n : Nat) : L_refuses_l31 (n + 1) σ x1 x2 x3 x4 x5 x6 x7 x8 2147483647 0 = L_refuses_l31 n σ x1 x2 x3 x4 x5 x6 x7 x8 2147483647 ((0 : Int32) + 1) := by
  rw [L_refuses_l31]
  refine gn (by decide) ?_
  refine gp (by decide) ?_
  unfold L_refuses_b62
  refine gn (by decide) ?_
  unfold L_refuses_b76
  refine gn (by decide) ?_
  unfold L_refuses_b91
  refine gn (by decide) ?_
  unfold L_refuses_b107
  refine gp (by decide) ?_
  unfold L_refuses_b131
  refine g2 (rf_0 (by decide)) ?_
  refine gp (by decide) ?_
  refine g2 (rf_1 (by decide)) ?_
  refine gp (by decide) ?_
  refine g2 (rf_2 (by decide)) ?_
  refine gp (by decide) ?_
  refine g2 (rf_2b (by decide)) ?_
  refine gp (by decide) ?_
  refine g2 (rf_4 (by decide)) ?_
  refine gp (by decide) ?_
  refine g2 (rf_4b (by decide)) ?_
  refine gp (by decide) ?_
  refine g2 (rf_5 (by decide)) ?_
  refine gp (by decide) ?_
  refine g2 (rf_6 (by decide)) ?_
  refine gp (by decide) ?_
  refine g2 (rf_6b (by decide)) ?_
  refine gp (by decide) ?_
  refine g2 (rf_7 (by decide)) ?_
  refine gp (by decide) ?_
  refine g2 (rf_7b (by decide)) ?_
  refine gp (by decide) ?_
  refine gp (by decide) ?_
  unfold L_refuses_b317
  refine g2 (rf_8 hp ep (Or.inl (by decide))) ?_
  refine gp (by decide) ?_
  refine g2 (rf_8b hp ep (by decide)) ?_
  refine gp (by decide) ?_
  refine gp (by decide) ?_
  unfold L_refuses_b369
  refine g2 (rf_8c hp ep (by decide)) ?_
  refine gp (by decide) ?_
  refine gp (by decide) ?_
  unfold L_refuses_b402
  refine g2 (rf_9 (by decide)) ?_
  refine gp (by decide) ?_
  refine gn (by decide) ?_
  unfold L_refuses_b427
  refine g2 (rf_11 S (Or.inl (by decide))) ?_
  refine gp (by decide) ?_
  refine gn (by decide) ?_
  unfold L_refuses_b452
  refine g2 (rf_12 S (Or.inl (by decide))) ?_
  refine gp (by decide) ?_
  refine g2 (rf_13 (by decide)) ?_
  refine gp (by decide) ?_
  refine gn (by decide) ?_
  unfold L_refuses_b492
  refine g2 (rf_14 hl el (Or.inl (by decide))) ?_
  refine gp (by decide) ?_
  refine g2 (rf_15 (by decide)) ?_
  refine gp (by decide) ?_
  unfold L_refuses_b522
  refine gn (by decide) ?_
  refine gp (by decide) ?_
  unfold L_refuses_b552
  refine g2 (rf_s1 (by decide)) ?_
  refine gp (by decide) ?_
  refine g2 (rf_s2 (by decide)) ?_
  refine gp (by decide) ?_
  refine gn (by decide) ?_
  unfold L_refuses_b595
  refine g2 (rf_s3 (by decide)) ?_
  refine gp (by decide) ?_
  refine gn (by decide) ?_
  unfold L_refuses_b621
  refine g2 (rf_s4 (by decide)) ?_
  refine gp (by decide) ?_
  refine gn (by decide) ?_
  unfold L_refuses_b649
  refine g2 (rf_s5 S (ah_lo _ (by decide))) ?_
  refine gp (by decide) ?_
  unfold L_refuses_b662
  refine gn (by decide) ?_
  rfl
theorem tn_1 {P : PP} {m σ : SS} (S : Sh P m σ) {x1 x2 x3 x4 : Int32} (h1 : x1 = nI (P 6 0)) (h2 : x2 = nI (rem P [])) {l p : Nat} (hl : l ≤ 12) (el : σ 4 7 = nI l) (h3 : x3 = nI l) (hp : p ≤ 12) (ep : σ 4 8 = nI p) (h4 : x4 = nI p) (x5 x6 x7 x8 : Int32) (n : Nat) : L_refuses_l31 (n + 1) σ x1 x2 x3 x4 x5 x6 x7 x8 2147483647 1 = L_refuses_l31 n σ x1 x2 x3 x4 x5 x6 x7 x8 2147483647 ((1 : Int32) + 1) := by
  rw [L_refuses_l31]
  refine gn (by decide) ?_
  refine gn (by decide) ?_
  refine gn (by decide) ?_
  unfold L_refuses_b62
  refine gp (by decide) ?_
  unfold L_refuses_b76
  refine gp (by decide) ?_
  unfold L_refuses_b91
  refine gp (by decide) ?_
  unfold L_refuses_b107
  refine gn (by decide) ?_
  refine gp (by decide) ?_
  unfold L_refuses_b131
  refine g2 (rf_0 (by decide)) ?_
  refine gp (by decide) ?_
  refine g2 (rf_1 (by decide)) ?_
  refine gp (by decide) ?_
  refine g2 (rf_2 (by decide)) ?_
  refine gp (by decide) ?_
  refine g2 (rf_2b (by decide)) ?_
  refine gp (by decide) ?_
  refine g2 (rf_4 (by decide)) ?_
  refine gp (by decide) ?_
  refine g2 (rf_4b (by decide)) ?_
  refine gp (by decide) ?_
  refine g2 (rf_5 (by decide)) ?_
  refine gp (by decide) ?_
  refine g2 (rf_6 (by decide)) ?_
  refine gp (by decide) ?_
  refine g2 (rf_6b (by decide)) ?_
  refine gp (by decide) ?_
  refine g2 (rf_7 (by decide)) ?_
  refine gp (by decide) ?_
  refine g2 (rf_7b (by decide)) ?_
  refine gp (by decide) ?_
  refine gn (by decide) ?_
  refine gp (by decide) ?_
  unfold L_refuses_b317
  refine g2 (rf_8 hp ep (Or.inr (by rw [h4]; exact le_rf _))) ?_
  refine gp (by decide) ?_
  refine g2 (rf_8b hp ep (by decide)) ?_
  refine gp (by decide) ?_
  refine gn (by decide) ?_
  refine gp (by decide) ?_
  unfold L_refuses_b369
  refine g2 (rf_8c hp ep (by decide)) ?_
  refine gp (by decide) ?_
  refine gn (by decide) ?_
  refine gp (by decide) ?_
  unfold L_refuses_b402
  refine g2 (rf_9 (by decide)) ?_
  refine gp (by decide) ?_
  refine gp (by decide) ?_
  unfold L_refuses_b427
  refine g2 (rf_11 S (Or.inr (by rw [h2]; exact le_rf _))) ?_
  refine gp (by decide) ?_
  refine gp (by decide) ?_
  unfold L_refuses_b452
  refine g2 (rf_12 S (Or.inr (by rw [h1]; exact le_rf _))) ?_
  refine gp (by decide) ?_
  refine g2 (rf_13 (by decide)) ?_
  refine gp (by decide) ?_
  refine gp (by decide) ?_
  unfold L_refuses_b492
  refine g2 (rf_14 hl el (Or.inr (by rw [h3]; exact le_rf _))) ?_
  refine gp (by decide) ?_
  refine g2 (rf_15 (by decide)) ?_
  refine gp (by decide) ?_
  unfold L_refuses_b522
  refine gn (by decide) ?_
  refine gn (by decide) ?_
  refine gp (by decide) ?_
  unfold L_refuses_b552
  refine g2 (rf_s1 (by decide)) ?_
  refine gp (by decide) ?_
  refine g2 (rf_s2 (by decide)) ?_
  refine gp (by decide) ?_
  refine gp (by decide) ?_
  unfold L_refuses_b595
  refine g2 (rf_s3 (by decide)) ?_
  refine gp (by decide) ?_
  refine gp (by decide) ?_
  unfold L_refuses_b621
  refine g2 (rf_s4 (by decide)) ?_
  refine gp (by decide) ?_
  refine gp (by decide) ?_
  unfold L_refuses_b649
  refine g2 (rf_s5 S (by rw [h1]; exact ah_1 S)) ?_
  refine gp (by decide) ?_
  unfold L_refuses_b662
  refine gn (by decide) ?_
  rfl
theorem tn_2 {P : PP} {m σ : SS} (S : Sh P m σ) {x1 x2 x3 x4 : Int32} (h1 : x1 = nI (P 6 0)) (h2 : x2 = nI (rem P [])) {l p : Nat} (hl : l ≤ 12) (el : σ 4 7 = nI l) (h3 : x3 = nI l) (hp : p ≤ 12) (ep : σ 4 8 = nI p) (h4 : x4 = nI p) (x5 x6 x7 x8 : Int32) (n : Nat) : L_refuses_l31 (n + 1) σ x1 x2 x3 x4 x5 x6 x7 x8 2147483647 2 = L_refuses_l31 n σ x1 x2 x3 x4 x5 x6 x7 x8 2147483647 ((2 : Int32) + 1) := by
  rw [L_refuses_l31]
  refine gn (by decide) ?_
  refine gn (by decide) ?_
  refine gp (by decide) ?_
  unfold L_refuses_b62
  refine gn (by decide) ?_
  unfold L_refuses_b76
  refine gn (by decide) ?_
  unfold L_refuses_b91
  refine gn (by decide) ?_
  unfold L_refuses_b107
  refine gn (by decide) ?_
  refine gn (by decide) ?_
  unfold L_refuses_b131
  refine g2 (rf_0 (by decide)) ?_
  refine gp (by decide) ?_
  refine g2 (rf_1 (by decide)) ?_
  refine gp (by decide) ?_
  refine g2 (rf_2 (by decide)) ?_
  refine gp (by decide) ?_
  refine g2 (rf_2b (by decide)) ?_
  refine gp (by decide) ?_
  refine g2 (rf_4 (by decide)) ?_
  refine gp (by decide) ?_
  refine g2 (rf_4b (by decide)) ?_
  refine gp (by decide) ?_
  refine g2 (rf_5 (by decide)) ?_
  refine gp (by decide) ?_
  refine g2 (rf_6 (by decide)) ?_
  refine gp (by decide) ?_
  refine g2 (rf_6b (by decide)) ?_
  refine gp (by decide) ?_
  refine g2 (rf_7 (by decide)) ?_
  refine gp (by decide) ?_
  refine g2 (rf_7b (by decide)) ?_
  refine gp (by decide) ?_
  refine gn (by decide) ?_
  refine gn (by decide) ?_
  unfold L_refuses_b317
  refine g2 (rf_8 hp ep (Or.inr (max_le _))) ?_
  refine gp (by decide) ?_
  refine g2 (rf_8b hp ep (by decide)) ?_
  refine gp (by decide) ?_
  refine gn (by decide) ?_
  refine gn (by decide) ?_
  unfold L_refuses_b369
  refine g2 (rf_8c hp ep (by decide)) ?_
  refine gp (by decide) ?_
  refine gn (by decide) ?_
  refine gn (by decide) ?_
  unfold L_refuses_b402
  refine g2 (rf_9 (by decide)) ?_
  refine gp (by decide) ?_
  refine gn (by decide) ?_
  unfold L_refuses_b427
  refine g2 (rf_11 S (Or.inr (max_le _))) ?_
  refine gp (by decide) ?_
  refine gn (by decide) ?_
  unfold L_refuses_b452
  refine g2 (rf_12 S (Or.inr (max_le _))) ?_
  refine gp (by decide) ?_
  refine g2 (rf_13 (by decide)) ?_
  refine gp (by decide) ?_
  refine gn (by decide) ?_
  unfold L_refuses_b492
  refine g2 (rf_14 hl el (Or.inr (max_le _))) ?_
  refine gp (by decide) ?_
  refine g2 (rf_15 (by decide)) ?_
  refine gp (by decide) ?_
  unfold L_refuses_b522
  refine gn (by decide) ?_
  refine gn (by decide) ?_
  refine gn (by decide) ?_
  unfold L_refuses_b552
  refine g2 (rf_s1 (by decide)) ?_
  refine gp (by decide) ?_
  refine g2 (rf_s2 (by decide)) ?_
  refine gp (by decide) ?_
  refine gn (by decide) ?_
  unfold L_refuses_b595
  refine g2 (rf_s3 (by decide)) ?_
  refine gp (by decide) ?_
  refine gn (by decide) ?_
  unfold L_refuses_b621
  refine g2 (rf_s4 (by decide)) ?_
  refine gp (by decide) ?_
  refine gn (by decide) ?_
  unfold L_refuses_b649
  refine g2 (rf_s5 S (ah_max S)) ?_
  refine gp (by decide) ?_
  unfold L_refuses_b662
  refine gn (by decide) ?_
  rfl
theorem tn_3 {P : PP} {m σ : SS} (S : Sh P m σ) {x1 x2 x3 x4 : Int32} (h1 : x1 = nI (P 6 0)) (h2 : x2 = nI (rem P [])) {l p : Nat} (hl : l ≤ 12) (el : σ 4 7 = nI l) (h3 : x3 = nI l) (hp : p ≤ 12) (ep : σ 4 8 = nI p) (h4 : x4 = nI p) (x5 x6 x7 x8 : Int32) (n : Nat) : L_refuses_l31 (n + 1) σ x1 x2 x3 x4 x5 x6 x7 x8 2147483647 3 = L_refuses_l31 n σ x1 x2 x3 x4 x5 x6 x7 x8 2147483647 ((3 : Int32) + 1) := by
  rw [L_refuses_l31]
  refine gn (by decide) ?_
  refine gn (by decide) ?_
  refine gn (by decide) ?_
  unfold L_refuses_b62
  refine gn (by decide) ?_
  unfold L_refuses_b76
  refine gn (by decide) ?_
  unfold L_refuses_b91
  refine gn (by decide) ?_
  unfold L_refuses_b107
  refine gn (by decide) ?_
  refine gn (by decide) ?_
  unfold L_refuses_b131
  refine g2 (rf_0 (by decide)) ?_
  refine gp (by decide) ?_
  refine g2 (rf_1 (by decide)) ?_
  refine gp (by decide) ?_
  refine g2 (rf_2 (by decide)) ?_
  refine gp (by decide) ?_
  refine g2 (rf_2b (by decide)) ?_
  refine gp (by decide) ?_
  refine g2 (rf_4 (by decide)) ?_
  refine gp (by decide) ?_
  refine g2 (rf_4b (by decide)) ?_
  refine gp (by decide) ?_
  refine g2 (rf_5 (by decide)) ?_
  refine gp (by decide) ?_
  refine g2 (rf_6 (by decide)) ?_
  refine gp (by decide) ?_
  refine g2 (rf_6b (by decide)) ?_
  refine gp (by decide) ?_
  refine g2 (rf_7 (by decide)) ?_
  refine gp (by decide) ?_
  refine g2 (rf_7b (by decide)) ?_
  refine gp (by decide) ?_
  refine gn (by decide) ?_
  refine gn (by decide) ?_
  unfold L_refuses_b317
  refine g2 (rf_8 hp ep (Or.inl (by decide))) ?_
  refine gp (by decide) ?_
  refine g2 (rf_8b hp ep (by decide)) ?_
  refine gp (by decide) ?_
  refine gn (by decide) ?_
  refine gn (by decide) ?_
  unfold L_refuses_b369
  refine g2 (rf_8c hp ep (by decide)) ?_
  refine gp (by decide) ?_
  refine gn (by decide) ?_
  refine gn (by decide) ?_
  unfold L_refuses_b402
  refine g2 (rf_9 (by decide)) ?_
  refine gp (by decide) ?_
  refine gn (by decide) ?_
  unfold L_refuses_b427
  refine g2 (rf_11 S (Or.inl (by decide))) ?_
  refine gp (by decide) ?_
  refine gn (by decide) ?_
  unfold L_refuses_b452
  refine g2 (rf_12 S (Or.inl (by decide))) ?_
  refine gp (by decide) ?_
  refine g2 (rf_13 (by decide)) ?_
  refine gp (by decide) ?_
  refine gn (by decide) ?_
  unfold L_refuses_b492
  refine g2 (rf_14 hl el (Or.inl (by decide))) ?_
  refine gp (by decide) ?_
  refine g2 (rf_15 (by decide)) ?_
  refine gp (by decide) ?_
  unfold L_refuses_b522
  refine gn (by decide) ?_
  refine gn (by decide) ?_
  refine gn (by decide) ?_
  unfold L_refuses_b552
  refine g2 (rf_s1 (by decide)) ?_
  refine gp (by decide) ?_
  refine g2 (rf_s2 (by decide)) ?_
  refine gp (by decide) ?_
  refine gn (by decide) ?_
  unfold L_refuses_b595
  refine g2 (rf_s3 (by decide)) ?_
  refine gp (by decide) ?_
  refine gn (by decide) ?_
  unfold L_refuses_b621
  refine g2 (rf_s4 (by decide)) ?_
  refine gp (by decide) ?_
  refine gn (by decide) ?_
  unfold L_refuses_b649
  refine g2 (rf_s5 S (ah_lo _ (by decide))) ?_
  refine gp (by decide) ?_
  unfold L_refuses_b662
  refine gn (by decide) ?_
  rfl
theorem sh_refuses {P : PP} {m σ : SS} (S : Sh P m σ) {x1 x2 x3 x4 : Int32} (h1 : x1 = nI (P 6 0)) (h2 : x2 = nI (rem P [])) {l p : Nat} (hl : l ≤ 12) (el : m 4 7 = nI l) (h3 : x3 = nI l) (hp : p ≤ 12) (ep : m 4 8 = nI p) (h4 : x4 = nI p) : ∃ σ1, L_refuses σ x1 x2 x3 x4 = some (1, σ1) ∧ Sh P m σ1 := by
  obtain ⟨b, hb, -⟩ := bst_some S.1
  obtain ⟨σ1, e1, S1⟩ := sh_days S hb
  obtain ⟨σ2, e2, S2⟩ := sh_days S1 hb
  refine ⟨σ2, ?_, S2⟩
  have el1 : σ1 4 7 = nI l := (sh_at S1 (by decide)).trans el
  have ep1 : σ1 4 8 = nI p := (sh_at S1 (by decide)).trans ep
  unfold L_refuses
  refine g2 e1 ?_
  refine (tn_0 S1 h1 h2 hl el1 h3 hp ep1 h4 _ _ _ _ 4).trans ?_
  refine (tn_1 S1 h1 h2 hl el1 h3 hp ep1 h4 _ _ _ _ 3).trans ?_
  refine (tn_2 S1 h1 h2 hl el1 h3 hp ep1 h4 _ _ _ _ 2).trans ?_
  refine (tn_3 S1 h1 h2 hl el1 h3 hp ep1 h4 _ _ _ _ 1).trans ?_
  rw [L_refuses_l31]
  refine gp (by decide) (g2 e2 (gp rfl (gp ?_ (gp ?_ (gp ?_ rfl)))))
  · exact (sh_at S2 (by decide)).trans (sh_at S1 (by decide)).symm
  · exact (sh_at S2 (by decide)).trans (sh_at S1 (by decide)).symm
  · exact (sh_at S2 (by decide)).trans (sh_at S1 (by decide)).symm
def ckRef (P : PP) (m : SS) (x1 x2 x3 x4 : Int32) (l p : Nat) : Bool := eqI x1 (nI (P 6 0)) && (eqI x2 (nI (rem P [])) && (Nat.ble l 12 && (eqI (m 4 7) (nI l) && (eqI x3 (nI l) && (Nat.ble p 12 && (eqI (m 4 8) (nI p) && eqI x4 (nI p)))))))
theorem sh_refusesL {P : PP} {m σ : SS} (S : Sh P m σ) (x1 x2 x3 x4 : Int32) (l p : Nat) (h : ckRef P m x1 x2 x3 x4 l p = true) : ∃ σ1, L_refuses σ x1 x2 x3 x4 = some (1, σ1) ∧ Sh P m σ1 := by
  unfold ckRef at h
  simp only [Bool.and_eq_true] at h
  obtain ⟨a1, a2, a3, a4, a5, a6, a7, a8⟩ := h
  exact sh_refuses S (eqI_t a1) (eqI_t a2) (Nat.le_of_ble_eq_true a3) (eqI_t a4) (eqI_t a5) (Nat.le_of_ble_eq_true a6) (eqI_t a7) (eqI_t a8)
