/-! Calls of money: lines, fee, bills, loans, parts. -/
theorem wr_wr (σ : SS) (k i : Nat) (x y : Int32) : wr (wr σ k i x) k i y = wr σ k i y := by
  funext k1 i1
  by_cases e : k1 = k ∧ i1 = i
  · obtain ⟨rfl, rfl⟩ := e
    rw [wr_at, wr_at]
  · rw [wr_o _ _ e, wr_o _ _ e, wr_o _ _ e]
theorem sub_gt0 {v w : Nat} (hv : v < 2 ^ 30) (hw : w < 2 ^ 30) : (0 < nI v - nI w ↔ w < v) := by
  rw [Int32.lt_iff_toInt_lt, Int32.toInt_sub, nI_toInt (by omega), nI_toInt (by omega), Int.bmod_eq_of_le (by omega) (by omega), show (0 : Int32).toInt = 0 by decide]
  omega
theorem add_sub3 (x y z : Int32) : x + (y - z) = x - (z - y) := by
  rw [Int32.sub_eq_add_neg x (z - y), Int32.neg_sub]
theorem lack_n {j : Nat} {σ τ : SS} (hj : j ≤ 512) (M : LN j σ τ) {i a : Nat} (hi : i < 4) (ha : a < 2 ^ 20) : ∃ n, n ≤ 100000 * j ∧ σ 14 i = nI n ∧ τ 11 i = nI n ∧ X0_lackOf σ (nI i) (nI a) = nI (a - n) ∧ X5_lacks τ (nI i) (nI a) = some (nI (a - n)) := by
  obtain ⟨n, h1, h2, h3⟩ := M i hi
  have hc : (nI i).toNatClampNeg = i := clamp_n (by omega)
  have g := gd_c (n := 4) (i := i) (by omega) (by decide)
  refine ⟨n, h1, h2, h3, ?_, ?_⟩
  · unfold X0_lackOf imax
    rw [fat_n σ 14 hi (by decide), h2]
    by_cases h : n < a
    · rw [if_pos ((sub_gt0 (by omega) (by omega)).mpr h), nI_sub' (by omega)]
    · rw [if_neg (fun e => h ((sub_gt0 (by omega) (by omega)).mp e)), show a - n = 0 by omega]
      rfl
  · unfold X5_lacks
    simp only [hc, g, not_false_eq_true, if_true, h3]
    by_cases h : a ≤ n
    · rw [if_pos (nI_le h (by omega)), show a - n = 0 by omega]
      rfl
    · rw [if_neg (nI_ge (by omega) (by omega)), nI_sub' (by omega)]
/-- a line pays -/
theorem pay_n {j : Nat} {σ τ : SS} (hj : j ≤ 512) (M : RM j σ τ) {i a : Nat} (hi : i < 4) (ha : a < 2 ^ 20) : ∃ r σ1 τ1, X0_pay σ (nI i) (nI a) = some (r, σ1) ∧ X5_lacks τ (nI i) (nI a) = some r ∧ X0_lackOf σ (nI i) (nI a) = r ∧ X5_pays τ (nI i) (nI a) = some τ1 ∧ RM j σ1 τ1 ∧
    (∀ k i, k ≠ 3 → k ≠ 14 → σ1 k i = σ k i) ∧ ∀ k i, k ≠ 11 → (k = 0 → i < 22 ∨ 24 < i) → τ1 k i = τ k i := by
  obtain ⟨n, h1, h2, h3, h4, h5⟩ := lack_n hj M.2.1 hi ha
  have hc : (nI i).toNatClampNeg = i := clamp_n (by omega)
  have g := gd_c (n := 4) (i := i) (by omega) (by decide)
  have hln : nI n + (nI (a - n) - nI a) = nI (n - (a - (a - n))) := by
    rw [add_sub3, nI_sub' (by omega), nI_sub' (by omega)]
  have e1 : X0_pay σ (nI i) (nI a) = some (nI (a - n), wr (wr (wr (wr σ 14 i (nI (n - (a - (a - n))))) 3 1 (σ 3 1 - nI (a - n))) 3 2 (σ 3 2 + nI a)) 3 3 (σ 3 3 + nI a)) := by
    unfold X0_pay
    rw [h4, fadd_n σ 14 _ hi (by decide), h2, hln, lt_eq, lt_eq, lt_eq, lt_eq]
    simp [wr_app]
  have e2 : X5_pays τ (nI i) (nI a) = some (wr (wr (wr (wr τ 11 i (nI (n - (a - (a - n))))) 0 22 (τ 0 22 - nI (a - n))) 0 23 (τ 0 23 + nI a)) 0 24 (τ 0 24 + nI a)) := by
    unfold X5_pays
    rw [h5, Option.bind_some]
    simp only [hc, g, not_false_eq_true, if_true]
    rw [h3, nI_sub' (by omega), nI_sub' (by omega), lt_eq, lt_eq, lt_eq, lt_eq]
    simp [wr_app]
  refine ⟨_, _, _, e1, h5, h4, e2, ?_, fun k i' a b => by rw [wr_o _ _ (by omega), wr_o _ _ (by omega), wr_o _ _ (by omega), wr_o _ _ (by omega)], fun k i' a b => by rw [wr_o _ _ (by omega), wr_o _ _ (by omega), wr_o _ _ (by omega), wr_o _ _ (by omega)]⟩
  obtain ⟨m1, m5, m6, m7, m8, m9⟩ := M
  refine ⟨SE_eq (fun i _ _ => by simp [wr_app]) (by simp [wr_app]) (fun i a b => by rw [wr_o _ _ (by omega), wr_o _ _ (by omega), wr_o _ _ (by omega), wr_o _ _ (by omega)]) (by simp [wr_app]) m1, fun i' hi' => ?_, ?_, LO_eq (by simp [wr_app]) (by simp [wr_app]) (fun i => by simp [wr_app]) (fun i => by simp [wr_app]) m7, PA_eq (by simp [wr_app]) (by simp [wr_app]) (fun i => by simp [wr_app]) (fun i => by simp [wr_app]) m8, GA_eq (fun i => by simp [wr_app]) (by simp [wr_app]) (fun i => by simp [wr_app]) (by simp [wr_app]) m9⟩
  · by_cases e : i' = i
    · subst e
      exact ⟨n - (a - (a - n)), by omega, by simp [wr_app], by simp [wr_app]⟩
    · obtain ⟨n', h⟩ := m5 i' hi'
      refine ⟨n', h.1, ?_, ?_⟩
      · rw [wr_o _ _ (by omega), wr_o _ _ (by omega), wr_o _ _ (by omega), wr_o _ _ (by omega)]
        exact h.2.1
      · rw [wr_o _ _ (by omega), wr_o _ _ (by omega), wr_o _ _ (by omega), wr_o _ _ (by omega)]
        exact h.2.2
  · obtain ⟨f1, f2, f3⟩ := m6
    refine ⟨?_, ?_, ?_⟩
    · simp [wr_app, f1]
    · simp [wr_app, f2]
    · simp [wr_app, f3]
theorem st_approve {j : Nat} (hj : j < 512) {σ τ : SS} (R : Rel j σ τ) (x1 : Int32) (x2 : Int32) : ∃ r σ1 b τ1, X4_approve σ x1 x2 = some (r, σ1) ∧ X5_approve τ x1 x2 = some (b, τ1) ∧ Rel (j + 1) σ1 τ1 ∧ Agr ["java/lang/IndexOutOfBoundsException", "java/lang/IllegalArgumentException"] r b (X5_thrown τ1) := by
  unfold X4_approve X5_approve X5_isIn4 X5_isMoney X5_approve_b24
  rw [isIn_w, isIn_w]
  by_cases h : X4_isWithin x1 0 3 = 0
  · rw [if_pos h, if_pos h, lt_eq, wr_at, if_neg (by decide)]
    exact ⟨_, _, _, _, rfl, rfl, thr R 1, agr_er rfl (thr_0 _ _) (by decide)⟩
  · by_cases h2 : X4_isWithin x2 1 100000 = 0
    · rw [if_neg h, if_neg h, if_pos h2, if_pos h2, lt_eq, wr_at, if_neg (by decide)]
      exact ⟨_, _, _, _, rfl, rfl, thr R 2, agr_er rfl (thr_0 _ _) (by decide)⟩
    · rw [if_neg h, if_neg h, if_neg h2, if_neg h2, lt_eq, lt_eq, wr_at, if_pos (by decide)]
      obtain ⟨P, hW, C, C2, M⟩ := R
      obtain ⟨i, hi, rfl⟩ := inn (n := 3) (by decide) h
      obtain ⟨a, ha1, ha, rfl⟩ := inn1 (n := 100000) (by decide) h2
      obtain ⟨n, h1, h2, h3⟩ := M.2.1 i (by omega)
      have hc : (nI i).toNatClampNeg = i := clamp_n (by omega)
      have g := gd_c (n := 4) (i := i) (by omega) (by decide)
      simp only [hc, g, not_false_eq_true, if_true]
      rw [fadd_n σ 14 _ (by omega) (by decide), fat_n _ 14 (by omega) (by decide), h2, nI_add, lt_eq, wr_at, wr_at, wr_o τ _ (by omega), h3, nI_add]
      refine ⟨_, _, _, _, rfl, rfl, ⟨P, hW, PC_eq (fun k i h => by unfold cP at h; rw [wr_o _ _ (by omega)]) C, PR_eq (fun k i h => by unfold rP at h; rw [wr_o _ _ (by omega), wr_o _ _ (by omega)]) C2, ?_⟩, agr_ok ?_⟩
      · obtain ⟨m1, m5, m6, m7, m8, m9⟩ := RM_up M
        refine ⟨SE_eq (fun i _ _ => by simp [wr_app]) (by simp [wr_app]) (fun i a b => by rw [wr_o _ _ (by omega), wr_o _ _ (by omega)]) (by simp [wr_app]) m1, fun i' hi' => ?_, FE_eq (fun i => by simp [wr_app]) (fun i a b => by rw [wr_o _ _ (by omega), wr_o _ _ (by omega)]) m6, LO_eq (by simp [wr_app]) (by simp [wr_app]) (fun i => by simp [wr_app]) (fun i => by simp [wr_app]) m7, PA_eq (by simp [wr_app]) (by simp [wr_app]) (fun i => by simp [wr_app]) (fun i => by simp [wr_app]) m8, GA_eq (fun i => by simp [wr_app]) (by simp [wr_app]) (fun i => by simp [wr_app]) (by simp [wr_app]) m9⟩
        by_cases e : i' = i
        · subst e
          exact ⟨n + a, by omega, by simp [wr_app], by simp [wr_app]⟩
        · obtain ⟨n', h⟩ := m5 i' hi'
          refine ⟨n', h.1, ?_, ?_⟩
          · rw [wr_o _ _ (by omega)]
            exact h.2.1
          · rw [wr_o _ _ (by omega), wr_o _ _ (by omega)]
            exact h.2.2
      · show wr (wr τ 0 35 0) 11 _ _ 0 35 = 0
        rw [wr_o _ _ (by omega), wr_at]
theorem st_grant {j : Nat} (hj : j < 512) {σ τ : SS} (R : Rel j σ τ) (x1 : Int32) : ∃ r σ1 b τ1, X4_grant σ x1 = some (r, σ1) ∧ X5_grant τ x1 = some (b, τ1) ∧ Rel (j + 1) σ1 τ1 ∧ Agr ["java/lang/IllegalArgumentException"] r b (X5_thrown τ1) := by
  unfold X4_grant X5_grant X5_isMoney X5_grant_b13
  rw [isIn_w]
  by_cases h : X4_isWithin x1 1 100000 = 0
  · rw [if_pos h, if_pos h, lt_eq, wr_at, if_neg (by decide)]
    exact ⟨_, _, _, _, rfl, rfl, thr R 1, agr_er rfl (thr_0 _ _) (by decide)⟩
  · rw [if_neg h, if_neg h, lt_eq, lt_eq, wr_at, wr_at, if_pos (by decide), lt_eq, wr_at, wr_o τ _ (by omega)]
    obtain ⟨P, hW, C, C2, M⟩ := R
    obtain ⟨m1, m5, ⟨f1, f2, f3⟩, m7, m8, m9⟩ := RM_up M
    rw [f1]
    refine ⟨_, _, _, _, rfl, rfl, ⟨P, hW, PC_eq (fun k i h => by unfold cP at h; rw [wr_o _ _ (by omega)]) C, PR_eq (fun k i h => by unfold rP at h; rw [wr_o _ _ (by omega), wr_o _ _ (by omega)]) C2, ?_⟩, agr_ok ?_⟩
    · refine ⟨SE_eq (fun i _ _ => by simp [wr_app]) (by simp [wr_app]) (fun i a b => by rw [wr_o _ _ (by omega), wr_o _ _ (by omega)]) (by simp [wr_app]) m1, LN_eq (fun i => by simp [wr_app]) (fun i => by simp [wr_app]) m5, ⟨?_, ?_, ?_⟩, LO_eq (by simp [wr_app]) (by simp [wr_app]) (fun i => by simp [wr_app]) (fun i => by simp [wr_app]) m7, PA_eq (by simp [wr_app]) (by simp [wr_app]) (fun i => by simp [wr_app]) (fun i => by simp [wr_app]) m8, GA_eq (fun i => by simp [wr_app]) (by simp [wr_app]) (fun i => by simp [wr_app]) (by simp [wr_app]) m9⟩
      · simp [wr_app]
      · simp [wr_app, f2]
      · simp [wr_app, f3]
    · show wr (wr τ 0 35 0) 0 22 _ 0 35 = 0
      rw [wr_o _ _ (by omega), wr_at]
theorem st_bill {j : Nat} (hj : j < 512) {σ τ : SS} (R : Rel j σ τ) (x1 : Int32) (x2 : Int32) : ∃ r σ1 b τ1, X4_bill σ x1 x2 = some (r, σ1) ∧ X5_bill τ x1 x2 = some (b, τ1) ∧ Rel (j + 1) σ1 τ1 ∧ Agr ["java/lang/IndexOutOfBoundsException", "java/lang/IllegalArgumentException", "java/lang/IllegalStateException"] r b (X5_thrown τ1) := by
  unfold X4_bill X5_bill X5_isIn4 X5_isMoney X5_bill_b24 X5_bill_b57
  rw [isIn_w, isIn_w]
  by_cases h : X4_isWithin x1 0 3 = 0
  · rw [if_pos h, if_pos h, lt_eq, wr_at, if_neg (by decide)]
    exact ⟨_, _, _, _, rfl, rfl, thr R 1, agr_er rfl (thr_0 _ _) (by decide)⟩
  · by_cases h2 : X4_isWithin x2 1 100000 = 0
    · rw [if_neg h, if_neg h, if_pos h2, if_pos h2, lt_eq, wr_at, if_neg (by decide)]
      exact ⟨_, _, _, _, rfl, rfl, thr R 2, agr_er rfl (thr_0 _ _) (by decide)⟩
    · rw [if_neg h, if_neg h, if_neg h2, if_neg h2, lt_eq, wr_at, if_pos (show (0 : Int32) ≤ 0 by decide)]
      have R0 := thr R 0
      have R3 := thr R 3
      obtain ⟨P, hW, C, C2, M⟩ := R0
      obtain ⟨i, hi, rfl⟩ := inn (n := 3) (by decide) h
      obtain ⟨a, ha1, ha, rfl⟩ := inn1 (n := 100000) (by decide) h2
      obtain ⟨r, σ1, τ1, p1, p2, p3, p4, p5, p6, p7⟩ := pay_n (by omega) M (i := i) (a := a) (by omega) (by omega)
      rw [p2, p3, Option.bind_some, show wr τ 0 35 0 0 22 = σ 3 1 from M.2.2.1.1.symm]
      by_cases hle : r ≤ σ 3 1
      · rw [if_pos hle, if_pos hle, p1, lt_eq, wr_wr, wr_at, if_pos (show (0 : Int32) ≤ 0 by decide), p4, Option.bind_some]
        simp only [bd2]
        refine ⟨_, _, _, _, rfl, rfl, ⟨P, hW, PC_eq (fun k i h => p6 k i (by unfold cP at h; omega) (by unfold cP at h; omega)) C, PR_eq (fun k i h => p7 k i (by unfold rP at h; omega) (by unfold rP at h; omega)) C2, p5⟩, agr_ok ?_⟩
        show τ1 0 35 = 0
        rw [p7 0 35 (by decide) (by omega), wr_at]
      · rw [if_neg hle, if_neg hle, lt_eq, wr_wr, wr_at, if_neg (by decide)]
        exact ⟨_, _, _, _, rfl, rfl, R3, agr_er rfl (thr_0 _ _) (by decide)⟩
theorem st_loan {j : Nat} (hj : j < 512) {σ τ : SS} (R : Rel j σ τ) (x1 : Int32) (x2 : Int32) : ∃ r σ1 b τ1, X4_loan σ x1 x2 = some (r, σ1) ∧ X5_loan τ x1 x2 = some (b, τ1) ∧ Rel (j + 1) σ1 τ1 ∧ Agr ["java/lang/IndexOutOfBoundsException", "java/lang/IllegalArgumentException", "java/lang/IllegalStateException"] r b (X5_thrown τ1) := by
  unfold X4_loan X5_loan X5_isPerson X5_isMoney X5_loan_b37
  rw [isIn_w, isIn_w]
  by_cases h : X4_isWithin x1 0 5 = 0
  · rw [if_pos h, if_pos h, lt_eq, wr_at, if_neg (by decide)]
    exact ⟨_, _, _, _, rfl, rfl, thr R 1, agr_er rfl (thr_0 _ _) (by decide)⟩
  · by_cases h2 : X4_isWithin x2 1 100000 = 0
    · rw [if_neg h, if_neg h, if_pos h2, if_pos h2, lt_eq, wr_at, if_neg (by decide)]
      exact ⟨_, _, _, _, rfl, rfl, thr R 2, agr_er rfl (thr_0 _ _) (by decide)⟩
    · rw [if_neg h, if_neg h, if_neg h2, if_neg h2]
      have R3 := thr R 3
      obtain ⟨P, hW, C, C2, M⟩ := R
      obtain ⟨m1, m5, m6, m7, m8, m9⟩ := RM_up M
      obtain ⟨L, l1, l2, l3, l4⟩ := m7
      obtain ⟨i, hi, rfl⟩ := inn (n := 5) (by decide) h
      rw [l2, l3]
      by_cases hL : L = 10
      · rw [if_neg (by rw [hL]; decide), if_pos (by rw [hL]; rfl), lt_eq, wr_at, if_neg (by decide)]
        exact ⟨_, _, _, _, rfl, rfl, R3, agr_er rfl (thr_0 _ _) (by decide)⟩
      · have hne : ¬ nI L = 10 := nI_ne (b := 10) (by omega) (by decide) hL
        have hlt : nI L < 10 := nI_lt (b := 10) (by omega) (by decide)
        have hc : (nI L).toNatClampNeg = L := clamp_n (by omega)
        have g := gd_c (n := 10) (i := L) (by omega) (by decide)
        have hx : X1_appendLoan σ (nI i) x2 = some (nI L, wr (wr (wr σ 15 L (nI i)) 16 L x2) 4 7 (nI (L + 1))) := by
          unfold X1_appendLoan
          rw [l2, fput_n σ 15 _ (by omega) (by decide), lt_eq, wr_o σ _ (by omega), l2, fput_n _ 16 _ (by omega) (by decide), lt_eq, wr_o _ _ (by omega), wr_o _ _ (by omega), l2, nI_1, lt_eq, wr_at, il1, nI_sub' (by omega), Nat.add_sub_cancel]
        have hy : (lt (wr τ 0 35 0) (fun σ_4 => (if (σ_4 0 35) ≤ 0 then (if ¬ ((σ_4 0 25) < 0 ∨ 10 ≤ (Int32.toNatClampNeg (σ_4 0 25))) then (lt (wr σ_4 12 (Int32.toNatClampNeg (σ_4 0 25)) (nI i)) (fun σ_7 => (if ¬ ((σ_7 0 25) < 0 ∨ 10 ≤ (Int32.toNatClampNeg (σ_7 0 25))) then (lt (wr σ_7 13 (Int32.toNatClampNeg (σ_7 0 25)) x2) (fun σ_9 => (lt (wr σ_9 0 25 ((σ_9 0 25) + (1 : Int32))) (fun σ_10 => some ((σ_10 0 25) - (1 : Int32), σ_10))))) else none))) else none) else some ((0 : Int32), σ_4)))) = some (nI L, wr (wr (wr (wr τ 0 35 0) 12 L (nI i)) 13 L x2) 0 25 (nI (L + 1))) := by
          rw [lt_eq, wr_at, if_pos (by decide), wr_o τ _ (by omega), l3, hc, if_pos g, lt_eq, wr_o _ _ (by omega), wr_o _ _ (by omega), l3, hc, if_pos g, lt_eq, wr_o _ _ (by omega), wr_o _ _ (by omega), wr_o _ _ (by omega), l3, nI_1, lt_eq, wr_at, il1, nI_sub' (by omega), Nat.add_sub_cancel]
        rw [if_pos hlt, if_neg hne, hx, hy]
        simp only [bd2]
        refine ⟨_, _, _, _, rfl, rfl, ⟨P, hW, PC_eq (fun k i h => by unfold cP at h; rw [wr_o _ _ (by omega), wr_o _ _ (by omega), wr_o _ _ (by omega)]) C, PR_eq (fun k i h => by unfold rP at h; rw [wr_o _ _ (by omega), wr_o _ _ (by omega), wr_o _ _ (by omega), wr_o _ _ (by omega)]) C2, ?_⟩, agr_ok ?_⟩
        · refine ⟨SE_eq (fun i _ _ => by simp [wr_app]) (by simp [wr_app]) (fun i a b => by rw [wr_o _ _ (by omega), wr_o _ _ (by omega), wr_o _ _ (by omega), wr_o _ _ (by omega)]) (by simp [wr_app]) m1, LN_eq (fun i => by simp [wr_app]) (fun i => by simp [wr_app]) m5, FE_eq (fun i => by simp [wr_app]) (fun i a b => by rw [wr_o _ _ (by omega), wr_o _ _ (by omega), wr_o _ _ (by omega), wr_o _ _ (by omega)]) m6, ⟨L + 1, by omega, by simp [wr_app], by simp [wr_app], fun i' hi' => ?_⟩, PA_eq (by simp [wr_app]) (by simp [wr_app]) (fun i => by simp [wr_app]) (fun i => by simp [wr_app]) m8, GA_eq (fun i => by simp [wr_app]) (by simp [wr_app]) (fun i => by simp [wr_app]) (by simp [wr_app]) m9⟩
          by_cases e : i' = L
          · subst e
            exact ⟨⟨i, by omega, by simp [wr_app], by simp [wr_app]⟩, by simp [wr_app]⟩
          · have h := l4 i' (by omega)
            simpa [wr_app, e] using h
        · show wr (wr (wr (wr τ 0 35 0) 12 L (nI i)) 13 L x2) 0 25 (nI (L + 1)) 0 35 = 0
          simp [wr_app]
