/-! Calls that make no plan: rates, places, money in and out. -/
theorem win_iff (x a b : Int32) : X4_isWithin x a b = 0 ↔ (x < a ∨ b < x) := by
  unfold X4_isWithin
  by_cases h : x < a
  · simp [h]
  · by_cases h2 : b < x
    · simp [h, h2]
    · simp [h, h2]
theorem isIn_w (x a b : Int32) : X5_isIn x a b = X4_isWithin x a b := rfl
theorem inn {x : Int32} {n : Nat} (hn : n < 2 ^ 31) (h : ¬ X4_isWithin x 0 (nI n) = 0) : ∃ i, i ≤ n ∧ x = nI i := by
  rw [win_iff] at h
  obtain ⟨i, hi, rfl⟩ := nI_of (fun e => h (Or.inl e))
  refine ⟨i, ?_, rfl⟩
  rcases Nat.lt_or_ge n i with q | q
  · exact absurd (Or.inr (nI_lt q hi)) h
  · exact q
theorem inn1 {x : Int32} {n : Nat} (hn : n < 2 ^ 31) (h : ¬ X4_isWithin x 1 (nI n) = 0) : ∃ i, 1 ≤ i ∧ i ≤ n ∧ x = nI i := by
  rw [win_iff] at h
  have h0 : ¬ x < 0 := fun e => h (Or.inl (by
    rw [Int32.lt_iff_toInt_lt] at e ⊢
    exact Int.lt_trans e (by decide)))
  obtain ⟨i, hi, rfl⟩ := nI_of h0
  refine ⟨i, ?_, ?_, rfl⟩
  · rcases Nat.lt_or_ge i 1 with q | q
    · exact absurd (Or.inl (nI_lt (b := 1) q (by decide))) h
    · exact q
  · rcases Nat.lt_or_ge n i with q | q
    · exact absurd (Or.inr (nI_lt q hi)) h
    · exact q
theorem and1 (y : Int32) : y &&& 1 = 0 ∨ y &&& 1 = 1 := by
  obtain ⟨j, hj, h⟩ := pk_andE y (m := 1) 1 (by decide)
  rw [h]
  rcases (by omega : j = 0 ∨ j = 1) with rfl | rfl
  · exact Or.inl rfl
  · exact Or.inr rfl
theorem SE_eq {σ σ1 τ τ1 : SS} (a : ∀ i, 4 ≤ i → i ≤ 6 → σ1 0 i = σ 0 i) (b : σ1 2 7 = σ 2 7) (c : ∀ i, 11 ≤ i → i ≤ 13 → τ1 0 i = τ 0 i) (d : τ1 0 9 = τ 0 9) (h : SE σ τ) : SE σ1 τ1 := by
  unfold SE
  rw [a 4 (by omega) (by omega), a 5 (by omega) (by omega), a 6 (by omega) (by omega), b, c 11 (by omega) (by omega), c 12 (by omega) (by omega), c 13 (by omega) (by omega), d]
  exact h
theorem LN_eq {j : Nat} {σ σ1 τ τ1 : SS} (a : ∀ i, σ1 14 i = σ 14 i) (b : ∀ i, τ1 11 i = τ 11 i) (h : LN j σ τ) : LN j σ1 τ1 := fun i hi => by
  rw [a i, b i]; exact h i hi
theorem FE_eq {σ σ1 τ τ1 : SS} (a : ∀ i, σ1 3 i = σ 3 i) (b : ∀ i, 22 ≤ i → i ≤ 24 → τ1 0 i = τ 0 i) (h : FE σ τ) : FE σ1 τ1 := by
  unfold FE
  rw [a 1, a 2, a 3, b 22 (by omega) (by omega), b 23 (by omega) (by omega), b 24 (by omega) (by omega)]
  exact h
theorem LO_eq {σ σ1 τ τ1 : SS} (a : σ1 4 7 = σ 4 7) (b : τ1 0 25 = τ 0 25) (c : ∀ i, σ1 15 i = σ 15 i ∧ σ1 16 i = σ 16 i) (d : ∀ i, τ1 12 i = τ 12 i ∧ τ1 13 i = τ 13 i) (h : LO σ τ) : LO σ1 τ1 := by
  obtain ⟨L, h1, h2, h3, h4⟩ := h
  refine ⟨L, h1, by rw [a]; exact h2, by rw [b]; exact h3, fun i hi => ?_⟩
  rw [(c i).1, (c i).2, (d i).1, (d i).2]
  exact h4 i hi
theorem PA_eq {σ σ1 τ τ1 : SS} (a : σ1 4 8 = σ 4 8) (b : τ1 0 28 = τ 0 28) (c : ∀ i, σ1 17 i = σ 17 i ∧ σ1 18 i = σ 18 i ∧ σ1 19 i = σ 19 i) (d : ∀ i, τ1 14 i = τ 14 i ∧ τ1 15 i = τ 15 i ∧ τ1 16 i = τ 16 i) (h : PA σ τ) : PA σ1 τ1 := by
  obtain ⟨L, h1, h2, h3, h4⟩ := h
  refine ⟨L, h1, by rw [a]; exact h2, by rw [b]; exact h3, fun i hi => ?_⟩
  rw [(c i).1, (c i).2.1, (c i).2.2, (d i).1, (d i).2.1, (d i).2.2]
  exact h4 i hi
theorem GA_eq {σ σ1 τ τ1 : SS} (a : ∀ i, σ1 21 i = σ 21 i) (b : σ1 4 9 = σ 4 9) (c : ∀ i, τ1 18 i = τ 18 i) (d : τ1 0 34 = τ 0 34) (h : GA σ τ) : GA σ1 τ1 := by
  refine ⟨fun i hi => ?_, ?_⟩
  · rw [a i, c i]; exact h.1 i hi
  · rw [b, d]; exact h.2
theorem st_setOut {j : Nat} (hj : j < 512) {σ τ : SS} (R : Rel j σ τ) (x1 : Int32) (x2 : Int32) (hx2 : x2 = 0 ∨ x2 = 1) : ∃ r σ1 b τ1, X4_setOut σ x1 x2 = some (r, σ1) ∧ X5_setOut τ x1 x2 = some (b, τ1) ∧ Rel (j + 1) σ1 τ1 ∧ Agr ["java/lang/IndexOutOfBoundsException"] r b (X5_thrown τ1) := by
  unfold X4_setOut X5_setOut X5_isIn4 X5_setOut_b13
  rw [isIn_w]
  by_cases h : X4_isWithin x1 0 3 = 0
  · rw [if_pos h, if_pos h, lt_eq, wr_at, if_neg (by decide)]
    exact ⟨_, _, _, _, rfl, rfl, thr R 1, agr_er rfl (thr_0 _ _) (by decide)⟩
  · rw [if_neg h, if_neg h, lt_eq, lt_eq, wr_at, if_pos (by decide), wr_o _ _ (by omega)]
    obtain ⟨P, hW, C, C2, M⟩ := R
    have hv : σ 2 7 = τ 0 9 := M.1.2.2.2
    have hb : ∀ y, (y = 0 ∨ y = 1) → X5_setOut_b42 (wr τ 0 35 0) x1 x2 y = some (y, wr (wr τ 0 35 0) 0 9 (X4_with (σ 2 7) x1 x2)) := by
      intro y hy
      unfold X5_setOut_b42 X5_setOut_b69 X4_with
      rw [wr_o τ _ (by omega), hv]
      by_cases h2 : x2 = 0
      · rw [if_pos h2, if_pos h2, lt_eq, if_pos (by rcases hy with rfl | rfl <;> decide)]
      · rw [if_neg h2, if_neg h2, lt_eq, if_pos (by rcases hy with rfl | rfl <;> decide)]
    have hi : (if ((τ 0 9 >>> (x1 &&& 31)) &&& 1) = 1 then X5_setOut_b42 (wr τ 0 35 0) x1 x2 1 else X5_setOut_b42 (wr τ 0 35 0) x1 x2 0) = some (X4_isIn (σ 2 7) x1, wr (wr τ 0 35 0) 0 9 (X4_with (σ 2 7) x1 x2)) := by
      rw [hb 1 (Or.inr rfl), hb 0 (Or.inl rfl), hv]
      unfold X4_isIn
      rcases and1 (τ 0 9 >>> (x1 &&& 31)) with e | e
      · rw [e, if_neg (by decide), if_pos rfl]
      · rw [e, if_pos rfl, if_neg (by decide)]
    rw [hi]
    refine ⟨_, _, _, _, rfl, rfl, ⟨P, hW, PC_eq (fun k i h => wr_o _ _ (by unfold cP at h; omega)) C, PR_eq (fun k i h => by unfold rP at h; rw [wr_o _ _ (by omega), wr_o _ _ (by omega)]) C2, ?_⟩, agr_ok ?_⟩
    · obtain ⟨⟨m1, m2, m3, m4⟩, m5, m6, m7, m8, m9⟩ := RM_up M
      refine ⟨⟨?_, ?_, ?_, ?_⟩, LN_eq (fun i => by simp [wr_app]) (fun i => by simp [wr_app]) m5, FE_eq (fun i => by simp [wr_app]) (fun i a b => by rw [wr_o _ _ (by omega), wr_o _ _ (by omega)]) m6, LO_eq (by simp [wr_app]) (by simp [wr_app]) (fun i => by simp [wr_app]) (fun i => by simp [wr_app]) m7, PA_eq (by simp [wr_app]) (by simp [wr_app]) (fun i => by simp [wr_app]) (fun i => by simp [wr_app]) m8, GA_eq (fun i => by simp [wr_app]) (by simp [wr_app]) (fun i => by simp [wr_app]) (by simp [wr_app]) m9⟩
      · simpa [wr_app] using m1
      · simpa [wr_app] using m2
      · simpa [wr_app] using m3
      · simp [wr_app]
    · show wr (wr τ 0 35 0) 0 9 _ 0 35 = 0
      rw [wr_o _ _ (by omega), wr_at]
theorem st_setRates {j : Nat} (hj : j < 512) {σ τ : SS} (R : Rel j σ τ) (x1 : Int32) (x2 : Int32) : ∃ r σ1 b τ1, X4_setRates σ x1 x2 = some (r, σ1) ∧ X5_setRates τ x1 x2 = some (b, τ1) ∧ Rel (j + 1) σ1 τ1 ∧ Agr ["java/lang/IllegalArgumentException"] r b (X5_thrown τ1) := by
  unfold X4_setRates X5_setRates X5_setRates_b27 X5_setRates_b28 X4_setRates_b22
  rw [isIn_w, isIn_w]
  have he : (lt (wr τ 0 35 1) (fun σ_3 => (if (σ_3 0 35) ≤ 0 then (lt (wr σ_3 0 11 x1) (fun σ_5 => (lt (wr σ_5 0 12 x2) (fun σ_6 => some (σ_3 0 11, σ_6))))) else some ((0 : Int32), σ_3)))) = some (0, wr τ 0 35 1) := by
    rw [lt_eq, wr_at, if_neg (by decide)]
  by_cases h : X4_isWithin x1 0 1000 = 0
  · rw [if_pos h, if_pos h, he]
    exact ⟨_, _, _, _, rfl, rfl, thr R 1, agr_er rfl (thr_0 _ _) (by decide)⟩
  · by_cases h2 : X4_isWithin x2 0 1000 = 0
    · rw [if_neg h, if_neg h, if_pos h2, if_pos h2, he]
      exact ⟨_, _, _, _, rfl, rfl, thr R 1, agr_er rfl (thr_0 _ _) (by decide)⟩
    · rw [if_neg h, if_neg h, if_neg h2, if_neg h2, lt_eq, lt_eq, lt_eq, wr_at, if_pos (by decide), lt_eq, lt_eq]
      obtain ⟨P, hW, C, C2, M⟩ := R
      obtain ⟨i1, hi1, rfl⟩ := inn (n := 1000) (by decide) h
      obtain ⟨i2, hi2, rfl⟩ := inn (n := 1000) (by decide) h2
      obtain ⟨⟨⟨r0, m0, m1, m2⟩, m3⟩, m⟩ := RM_up M
      refine ⟨_, _, _, _, rfl, rfl, ⟨P, hW, PC_eq (fun k i h => by unfold cP at h; rw [wr_o _ _ (by omega), wr_o _ _ (by omega)]) C, PR_eq (fun k i h => by unfold rP at h; rw [wr_o _ _ (by omega), wr_o _ _ (by omega), wr_o _ _ (by omega)]) C2, ?_⟩, ?_, ?_⟩
      · obtain ⟨m5, m6, m7, m8, m9⟩ := m
        obtain ⟨-, m3, m4⟩ := m3
        refine ⟨⟨⟨i1, hi1, ?_, ?_⟩, ⟨i2, hi2, ?_, ?_⟩, ?_, ?_⟩, LN_eq (fun i => by simp [wr_app]) (fun i => by simp [wr_app]) m5, FE_eq (fun i => by simp [wr_app]) (fun i a b => by rw [wr_o _ _ (by omega), wr_o _ _ (by omega), wr_o _ _ (by omega)]) m6, LO_eq (by simp [wr_app]) (by simp [wr_app]) (fun i => by simp [wr_app]) (fun i => by simp [wr_app]) m7, PA_eq (by simp [wr_app]) (by simp [wr_app]) (fun i => by simp [wr_app]) (fun i => by simp [wr_app]) m8, GA_eq (fun i => by simp [wr_app]) (by simp [wr_app]) (fun i => by simp [wr_app]) (by simp [wr_app]) m9⟩
        · simp [wr_app]
        · simp [wr_app]
        · simp [wr_app]
        · simp [wr_app]
        · simpa [wr_app] using m3
        · simpa [wr_app] using m4
      · show wr (wr (wr τ 0 35 0) 0 11 _) 0 12 _ 0 35 = 0
        simp [wr_app]
      · rw [wr_o _ _ (by omega), m1, m2]
theorem st_hold {j : Nat} (hj : j < 512) {σ τ : SS} (R : Rel j σ τ) (x1 : Int32) (hx1 : x1 = 0 ∨ x1 = 1) : ∃ r σ1 τ1, X4_hold σ x1 = some (r, σ1) ∧ X5_hold τ x1 = some (r, τ1) ∧ Rel (j + 1) σ1 τ1 := by
  obtain ⟨P, hW, C, C2, M⟩ := R
  obtain ⟨⟨m1, m2, ⟨m3, m3'⟩, m4⟩, m5, m6, m7, m8, m9⟩ := RM_up M
  have hx : x1 &&& 1 = x1 := by rcases hx1 with rfl | rfl <;> decide
  have hs : σ 0 6 &&& 1 = σ 0 6 := by rcases m3' with e | e <;> rw [e] <;> decide
  unfold X4_hold X5_hold
  rw [if_pos hx, lt_eq, if_pos hs, lt_eq, if_pos hx, lt_eq, wr_o τ _ (by omega), ← m3, if_pos hs]
  refine ⟨_, _, _, rfl, rfl, ⟨P, hW, PC_eq (fun k i h => by unfold cP at h; rw [wr_o _ _ (by omega)]) C, PR_eq (fun k i h => by unfold rP at h; rw [wr_o _ _ (by omega), wr_o _ _ (by omega)]) C2, ?_⟩⟩
  refine ⟨⟨?_, ?_, ⟨?_, ?_⟩, ?_⟩, LN_eq (fun i => by simp [wr_app]) (fun i => by simp [wr_app]) m5, FE_eq (fun i => by simp [wr_app]) (fun i a b => by rw [wr_o _ _ (by omega), wr_o _ _ (by omega)]) m6, LO_eq (by simp [wr_app]) (by simp [wr_app]) (fun i => by simp [wr_app]) (fun i => by simp [wr_app]) m7, PA_eq (by simp [wr_app]) (by simp [wr_app]) (fun i => by simp [wr_app]) (fun i => by simp [wr_app]) m8, GA_eq (fun i => by simp [wr_app]) (by simp [wr_app]) (fun i => by simp [wr_app]) (by simp [wr_app]) m9⟩
  · simpa [wr_app] using m1
  · simpa [wr_app] using m2
  · simp [wr_app]
  · simpa [wr_app] using hx1
  · simpa [wr_app] using m4
theorem st_left {j : Nat} (hj : j < 512) {σ τ : SS} (R : Rel j σ τ) (x1 : Int32) : ∃ r σ1 b τ1, X4_left σ x1 = some (r, σ1) ∧ X5_left τ x1 = some (b, τ1) ∧ Rel (j + 1) σ1 τ1 ∧ Agr ["java/lang/IndexOutOfBoundsException"] r b (X5_thrown τ1) := by
  unfold X4_left X5_left X5_isLine X5_isLine_b13 X5_isIn4
  rw [isIn_w]
  by_cases h : X4_isWithin x1 0 3 = 0
  · rw [if_pos h, if_pos h, lt_eq, wr_at, if_neg (by decide)]
    exact ⟨_, _, _, _, rfl, rfl, thr R 1, agr_er rfl (thr_0 _ _) (by decide)⟩
  · rw [if_neg h, if_neg h, lt_eq, wr_at, if_pos rfl]
    have R2 := thr R 0
    obtain ⟨P, hW, C, C2, M⟩ := R
    obtain ⟨i, hi, rfl⟩ := inn (n := 3) (by decide) h
    obtain ⟨n, h1, h2, h3⟩ := M.2.1 i (by omega)
    have hc : (nI i).toNatClampNeg = i := clamp_n (by omega)
    have g := gd_c (n := 4) (i := i) (by omega) (by decide)
    simp only [bd2, hc, g, not_false_eq_true, if_true]
    rw [if_neg (by decide), fat_n σ 14 (by omega) (by decide), wr_o _ _ (by omega), h2, h3]
    exact ⟨_, _, _, _, rfl, rfl, R2, agr_ok (thr_0 _ _)⟩
theorem st_openOf {j : Nat} (hj : j < 512) {σ τ : SS} (R : Rel j σ τ) (x1 : Int32) : ∃ r σ1 b τ1, X4_openOf σ x1 = some (r, σ1) ∧ X5_openOf τ x1 = some (b, τ1) ∧ Rel (j + 1) σ1 τ1 ∧ Agr ["java/lang/IndexOutOfBoundsException"] r b (X5_thrown τ1) := by
  have R1 := thr R 1
  have R2 := thr R 0
  obtain ⟨P, hW, C, C2, M⟩ := R
  obtain ⟨L, l1, l2, l3, l4⟩ := M.2.2.2.1
  unfold X4_openOf X5_openOf X5_openOf_b20
  rw [isIn_w, l2, l3]
  by_cases h : X4_isWithin x1 0 (nI L - 1) = 0
  · rw [if_pos h, if_pos h, lt_eq, wr_at, if_neg (by decide)]
    exact ⟨_, _, _, _, rfl, rfl, R1, agr_er rfl (thr_0 _ _) (by decide)⟩
  · rw [if_neg h, if_neg h, lt_eq, wr_at, if_pos (by decide)]
    have hL : L ≠ 0 := by
      rintro rfl
      rw [win_iff] at h
      exact h (by
        rw [Int32.lt_iff_toInt_lt, Int32.lt_iff_toInt_lt, show (nI 0 - 1).toInt = -1 by decide, show (0 : Int32).toInt = 0 by decide]
        omega)
    rw [il1, nI_sub' (by omega)] at h
    obtain ⟨i, hi, rfl⟩ := inn (n := L - 1) (by omega) h
    have h4 := (l4 i (by omega)).2
    have hc : (nI i).toNatClampNeg = i := clamp_n (by omega)
    have g := gd_c (n := 10) (i := i) (by omega) (by decide)
    simp only [hc, g, not_false_eq_true, if_true]
    rw [fat_n σ 16 (by omega) (by decide), wr_o _ _ (by omega), h4]
    exact ⟨_, _, _, _, rfl, rfl, R2, agr_ok (thr_0 _ _)⟩
theorem st_got {j : Nat} (hj : j < 512) {σ τ : SS} (R : Rel j σ τ) (x1 : Int32) : ∃ r σ1 b τ1, X4_got σ x1 = some (r, σ1) ∧ X5_got τ x1 = some (b, τ1) ∧ Rel (j + 1) σ1 τ1 ∧ Agr ["java/lang/IndexOutOfBoundsException"] r b (X5_thrown τ1) := by
  have R1 := thr R 1
  have R2 := thr R 0
  obtain ⟨P, hW, C, C2, M⟩ := R
  unfold X4_got X5_got X5_got_b13 X5_isPerson
  rw [isIn_w]
  by_cases h : X4_isWithin x1 0 5 = 0
  · rw [if_pos h, if_pos h, lt_eq, wr_at, if_neg (by decide)]
    exact ⟨_, _, _, _, rfl, rfl, R1, agr_er rfl (thr_0 _ _) (by decide)⟩
  · rw [if_neg h, if_neg h, lt_eq, wr_at, if_pos (by decide)]
    obtain ⟨i, hi, rfl⟩ := inn (n := 5) (by decide) h
    have h4 := M.2.2.2.2.2.1 i (by omega)
    have hc : (nI i).toNatClampNeg = i := clamp_n (by omega)
    have g := gd_c (n := 6) (i := i) (by omega) (by decide)
    simp only [hc, g, not_false_eq_true, if_true]
    rw [fat_n σ 21 (by omega) (by decide), wr_o _ _ (by omega), h4]
    exact ⟨_, _, _, _, rfl, rfl, R2, agr_ok (thr_0 _ _)⟩
