/-! Calls of money: parts, what comes in. -/
theorem nIm1_toInt {M : Nat} (h : M ≤ 12) : (nI M - 1).toInt = (M : Int) - 1 := by
  rw [Int32.toInt_sub, nI_toInt (by omega), show (1 : Int32).toInt = 1 by decide, Int.bmod_eq_of_le (by omega) (by omega)]
theorem part_of {M : Nat} (h : M ≤ 12) (x : Int32) : X4_isWithin x (-1) (nI M - 1) = 0 ↔ (x ≠ -1 ∧ X4_isWithin x 0 (nI M - 1) = 0) := by
  rw [win_iff, win_iff]
  have h1 : x = -1 ↔ x.toInt = -1 := by
    rw [← Int32.toInt_inj, show (-1 : Int32).toInt = -1 by decide]
  rw [Ne, h1, Int32.lt_iff_toInt_lt, Int32.lt_iff_toInt_lt, Int32.lt_iff_toInt_lt, nIm1_toInt h, show (-1 : Int32).toInt = -1 by decide, show (0 : Int32).toInt = 0 by decide]
  omega
theorem pct_loop {σ τ : SS} {M : Nat} (hM : M ≤ 12) (h2 : σ 4 8 = nI M) (h3 : τ 0 28 = nI M) (h4 : ∀ i, i < M → σ 17 i = τ 14 i ∧ σ 19 i = τ 16 i) (x1 x2 x3 : Int32) : ∀ k fuel fuel2 c s, c + k = M → k < fuel → k < fuel2 → ∃ s1, X1_percentOf_l4 fuel σ x1 s (nI c) = some s1 ∧ X5_part_l76 fuel2 τ x1 x2 x3 (s + x3) (nI c) = (if nI M = 12 then X5_part_b135 τ x1 x2 x3 else if s1 + x3 ≤ 100 then X5_part_b140 τ x1 x2 x3 0 else X5_part_b135 τ x1 x2 x3) := by
  intro k
  induction k with
  | zero =>
    intro fuel fuel2 c s hc hf hf2
    obtain ⟨f, rfl⟩ : ∃ f, fuel = f + 1 := ⟨fuel - 1, by omega⟩
    obtain ⟨f2, rfl⟩ : ∃ f, fuel2 = f + 1 := ⟨fuel2 - 1, by omega⟩
    rw [X1_percentOf_l4, X5_part_l76, h2, h3, if_pos (nI_le (by omega) (by omega)), if_pos (nI_le (by omega) (by omega))]
    exact ⟨s, rfl, rfl⟩
  | succ k ih =>
    intro fuel fuel2 c s hc hf hf2
    obtain ⟨f, rfl⟩ : ∃ f, fuel = f + 1 := ⟨fuel - 1, by omega⟩
    obtain ⟨f2, rfl⟩ : ∃ f, fuel2 = f + 1 := ⟨fuel2 - 1, by omega⟩
    obtain ⟨e1, e2⟩ := h4 c (by omega)
    have hcc : (nI c).toNatClampNeg = c := clamp_n (by omega)
    have g := gd_c (n := 12) (i := c) (by omega) (by decide)
    rw [X1_percentOf_l4, X5_part_l76, h2, h3, if_neg (nI_ge (by omega) (by omega)), if_neg (nI_ge (by omega) (by omega))]
    unfold X1_percentOf_b35 X5_part_b109
    simp only [hcc, g, not_false_eq_true, if_true]
    rw [fat_n σ 17 (by omega) (by decide), fat_n σ 19 (by omega) (by decide), e1, e2, nI_1]
    by_cases e : τ 14 c = x1
    · rw [if_pos e, if_pos e, show s + x3 + τ 16 c = (s + τ 16 c) + x3 by rw [Int32.add_assoc, Int32.add_comm x3, ← Int32.add_assoc]]
      exact ih f f2 (c + 1) (s + τ 16 c) (by omega) (by omega) (by omega)
    · rw [if_neg e, if_neg e, Int32.add_zero]
      exact ih f f2 (c + 1) s (by omega) (by omega) (by omega)
theorem st_part {j : Nat} (hj : j < 512) {σ τ : SS} (R : Rel j σ τ) (x1 : Int32) (x2 : Int32) (x3 : Int32) : ∃ r σ1 b τ1, X4_part σ x1 x2 x3 = some (r, σ1) ∧ X5_part τ x1 x2 x3 = some (b, τ1) ∧ Rel (j + 1) σ1 τ1 ∧ Agr ["java/lang/IndexOutOfBoundsException", "java/lang/IllegalArgumentException", "java/lang/IllegalStateException"] r b (X5_thrown τ1) := by
  have R1 := thr R 1
  have R2 := thr R 2
  have R3 := thr R 3
  obtain ⟨P, hW, C, C2, M0⟩ := R
  obtain ⟨m1, m5, m6, m7, m8, m9⟩ := RM_up M0
  obtain ⟨M, l1, l2, l3, l4⟩ := m8
  have hq := part_of l1 x1
  have hb58 : ∀ y, ¬ y ≤ 0 → X5_part_b58 τ x1 x2 x3 y = some (0, wr τ 0 35 y) := by
    intro y hy
    unfold X5_part_b58
    rw [lt_eq, wr_at, if_neg hy]
  have href : X5_part τ x1 x2 x3 = if X4_isWithin x1 (-1) (nI M - 1) = 0 then X5_part_b58 τ x1 x2 x3 1 else X5_part_b24 τ x1 x2 x3 1 := by
    unfold X5_part X5_part_b19
    rw [isIn_w, l3]
    by_cases e : x1 = -1
    · rw [if_pos e, if_neg (fun h => (hq.mp h).1 e)]
    · rw [if_neg e]
      by_cases h : X4_isWithin x1 0 (nI M - 1) = 0
      · rw [if_pos h, if_pos (hq.mpr ⟨e, h⟩)]
        unfold X5_part_b24
        rw [if_pos rfl]
        rfl
      · rw [if_neg h, if_neg (fun e2 => h (hq.mp e2).2)]
  rw [href]
  unfold X4_part X4_part_b26 X4_part_b79
  rw [l2]
  by_cases h1 : X4_isWithin x1 (-1) (nI M - 1) = 0
  · rw [if_pos h1, if_pos h1, hb58 1 (by decide)]
    exact ⟨_, _, _, _, rfl, rfl, R1, agr_er rfl (thr_0 _ _) (by decide)⟩
  rw [if_neg h1, if_neg h1]
  unfold X5_part_b24 X5_part_b39 X5_isPerson
  rw [isIn_w, isIn_w, if_neg (show ¬ (1 : Int32) = 0 by decide)]
  by_cases h2 : X4_isWithin x2 0 5 = 0
  · rw [if_pos h2, if_pos h2, hb58 1 (by decide)]
    exact ⟨_, _, _, _, rfl, rfl, R1, agr_er rfl (thr_0 _ _) (by decide)⟩
  rw [if_neg h2, if_neg h2]
  by_cases h3 : X4_isWithin x3 1 100 = 0
  · rw [if_pos h3, if_pos h3, hb58 2 (by decide)]
    exact ⟨_, _, _, _, rfl, rfl, R2, agr_er rfl (thr_0 _ _) (by decide)⟩
  rw [if_neg h3, if_neg h3]
  have hl := pct_loop (σ := σ) (τ := wr τ 0 35 0) l1 l2 (by rw [wr_o _ _ (by omega)]; exact l3) (fun i hi => by
    rw [wr_o _ _ (by omega), wr_o _ _ (by omega)]
    exact ⟨(l4 i hi).1.1, (l4 i hi).2.2⟩) x1 x2 x3 M fuel_X1_percentOf_4 fuel_X5_part_76 0 0 (by omega) (by show _ < 64; omega) (by show _ < 64; omega)
  obtain ⟨s, hs1, hs2⟩ := hl
  have hs2' : X5_part_b58 τ x1 x2 x3 0 = (if nI M = 12 then X5_part_b135 (wr τ 0 35 0) x1 x2 x3 else if s + x3 ≤ 100 then X5_part_b140 (wr τ 0 35 0) x1 x2 x3 0 else X5_part_b135 (wr τ 0 35 0) x1 x2 x3) := by
    unfold X5_part_b58
    rw [lt_eq, wr_at, if_pos (show (0 : Int32) ≤ 0 by decide), ← hs2, Int32.zero_add]
    rfl
  have hb135 : X5_part_b135 (wr τ 0 35 0) x1 x2 x3 = some (0, wr τ 0 35 3) := by
    unfold X5_part_b135 X5_part_b140
    rw [lt_eq, wr_wr, wr_at, if_neg (by decide)]
  have hs1' : X1_percentOf σ x1 = some s := hs1
  rw [hs2', hb135, hs1', Option.bind_some]
  by_cases hM : M = 12
  · rw [if_pos (show (12 : Int32) ≤ nI M by rw [hM]; decide), if_pos (by rw [hM]; rfl)]
    exact ⟨_, _, _, _, rfl, rfl, R3, agr_er rfl (thr_0 _ _) (by decide)⟩
  have hne : ¬ nI M = 12 := nI_ne (b := 12) (by omega) (by decide) hM
  have hge : ¬ (12 : Int32) ≤ nI M := nI_ge (b := 12) (by omega) (by decide)
  rw [if_neg hge, if_neg hne]
  by_cases h100 : s + x3 ≤ 100
  · have hc : (nI M).toNatClampNeg = M := clamp_n (by omega)
    have g := gd_c (n := 12) (i := M) (by omega) (by decide)
    have hx : X1_appendPart σ x1 x2 x3 = some (nI M, wr (wr (wr (wr σ 17 M x1) 18 M x2) 19 M x3) 4 8 (nI (M + 1))) := by
      unfold X1_appendPart
      rw [l2, fput_n σ 17 _ (by omega) (by decide), lt_eq, wr_o σ _ (by omega), l2, fput_n _ 18 _ (by omega) (by decide), lt_eq, wr_o _ _ (by omega), wr_o _ _ (by omega), l2, fput_n _ 19 _ (by omega) (by decide), lt_eq, wr_o _ _ (by omega), wr_o _ _ (by omega), wr_o _ _ (by omega), l2, nI_1, lt_eq, wr_at, il1, nI_sub' (by omega), Nat.add_sub_cancel]
    have hy : X5_part_b140 (wr τ 0 35 0) x1 x2 x3 0 = some (nI M, wr (wr (wr (wr (wr τ 0 35 0) 14 M x1) 15 M x2) 16 M x3) 0 28 (nI (M + 1))) := by
      unfold X5_part_b140
      rw [lt_eq, wr_wr, wr_at, if_pos (show (0 : Int32) ≤ 0 by decide), wr_o τ _ (by omega), l3, hc, if_pos g, lt_eq, wr_o _ _ (by omega), wr_o _ _ (by omega), l3, hc, if_pos g, lt_eq, wr_o _ _ (by omega), wr_o _ _ (by omega), wr_o _ _ (by omega), l3, hc, if_pos g, lt_eq, wr_o _ _ (by omega), wr_o _ _ (by omega), wr_o _ _ (by omega), wr_o _ _ (by omega), l3, nI_1, lt_eq, wr_at, il1, nI_sub' (by omega), Nat.add_sub_cancel]
    rw [if_pos h100, if_pos h100, hx, hy]
    simp only [bd2]
    refine ⟨_, _, _, _, rfl, rfl, ⟨P, hW, PC_eq (fun k i h => by unfold cP at h; rw [wr_o _ _ (by omega), wr_o _ _ (by omega), wr_o _ _ (by omega), wr_o _ _ (by omega)]) C, PR_eq (fun k i h => by unfold rP at h; rw [wr_o _ _ (by omega), wr_o _ _ (by omega), wr_o _ _ (by omega), wr_o _ _ (by omega), wr_o _ _ (by omega)]) C2, ?_⟩, agr_ok ?_⟩
    · refine ⟨SE_eq (fun i _ _ => by simp [wr_app]) (by simp [wr_app]) (fun i a b => by rw [wr_o _ _ (by omega), wr_o _ _ (by omega), wr_o _ _ (by omega), wr_o _ _ (by omega), wr_o _ _ (by omega)]) (by simp [wr_app]) m1, LN_eq (fun i => by simp [wr_app]) (fun i => by simp [wr_app]) m5, FE_eq (fun i => by simp [wr_app]) (fun i a b => by rw [wr_o _ _ (by omega), wr_o _ _ (by omega), wr_o _ _ (by omega), wr_o _ _ (by omega), wr_o _ _ (by omega)]) m6, LO_eq (by simp [wr_app]) (by simp [wr_app]) (fun i => by simp [wr_app]) (fun i => by simp [wr_app]) m7, ⟨M + 1, by omega, by simp [wr_app], by simp [wr_app], fun i' hi' => ?_⟩, GA_eq (fun i => by simp [wr_app]) (by simp [wr_app]) (fun i => by simp [wr_app]) (by simp [wr_app]) m9⟩
      by_cases e : i' = M
      · subst e
        obtain ⟨p, hp, rfl⟩ := inn (n := 5) (by decide) h2
        refine ⟨⟨by simp [wr_app], ?_⟩, ⟨p, by omega, by simp [wr_app], by simp [wr_app]⟩, by simp [wr_app]⟩
        rw [show wr (wr (wr (wr σ 17 i' x1) 18 i' (nI p)) 19 i' x3) 4 8 (nI (i' + 1)) 17 i' = x1 by simp [wr_app]]
        by_cases e : x1 = -1
        · exact Or.inl e
        · have h0 : ¬ X4_isWithin x1 0 (nI i' - 1) = 0 := fun h => h1 (hq.mpr ⟨e, h⟩)
          have hi0 : i' ≠ 0 := by
            rintro rfl
            rw [win_iff, Int32.lt_iff_toInt_lt, Int32.lt_iff_toInt_lt, nIm1_toInt (by omega), show (0 : Int32).toInt = 0 by decide] at h0
            omega
          rw [il1, nI_sub' (by omega)] at h0
          obtain ⟨q, hq1, rfl⟩ := inn (n := i' - 1) (by omega) h0
          exact Or.inr ⟨q, by omega, rfl⟩
      · have h := l4 i' (by omega)
        simpa [wr_app, e] using h
    · show wr (wr (wr (wr (wr τ 0 35 0) 14 M x1) 15 M x2) 16 M x3) 0 28 (nI (M + 1)) 0 35 = 0
      simp [wr_app]
  · rw [if_neg h100, if_neg h100]
    exact ⟨_, _, _, _, rfl, rfl, R3, agr_er rfl (thr_0 _ _) (by decide)⟩
/-- loans come back -/
theorem loans_n {j L : Nat} (hL : L ≤ 10) : ∀ k fuel fuel2 c σ τ x, c + k = L → k < fuel → k < fuel2 → RM j σ τ → σ 4 7 = nI L → ∃ y σ1 τ1, X1_payBackLoans_l4 fuel σ x (nI c) = some (y, σ1) ∧ X5_income_l62 fuel2 τ x (nI c) = (lt (wr τ1 0 34 ((τ1 0 34) + y)) (fun σ_7 => (X5_income_l148 fuel_X5_income_148 σ_7 y (0 : Int32)))) ∧ RM j σ1 τ1 ∧
    (∀ k i, k ≠ 16 → k ≠ 21 → σ1 k i = σ k i) ∧ ∀ k i, k ≠ 13 → k ≠ 18 → τ1 k i = τ k i := by
  intro k
  induction k with
  | zero =>
    intro fuel fuel2 c σ τ x hc hf hf2 M h7
    obtain ⟨f, rfl⟩ : ∃ f, fuel = f + 1 := ⟨fuel - 1, by omega⟩
    obtain ⟨f2, rfl⟩ : ∃ f, fuel2 = f + 1 := ⟨fuel2 - 1, by omega⟩
    obtain ⟨m1, m5, m6, ⟨L2, l1, l2, l3, l4⟩, m8, m9⟩ := M
    obtain rfl : L2 = L := nI_inj (by omega) (by omega) (l2.symm.trans h7)
    rw [X1_payBackLoans_l4, X5_income_l62, l2, l3, if_pos (nI_le (by omega) (by omega)), if_pos (nI_le (by omega) (by omega))]
    exact ⟨x, σ, τ, rfl, rfl, ⟨m1, m5, m6, ⟨L2, l1, l2, l3, l4⟩, m8, m9⟩, fun _ _ _ _ => rfl, fun _ _ _ _ => rfl⟩
  | succ k ih =>
    intro fuel fuel2 c σ τ x hc hf hf2 M h7
    obtain ⟨f, rfl⟩ : ∃ f, fuel = f + 1 := ⟨fuel - 1, by omega⟩
    obtain ⟨f2, rfl⟩ : ∃ f, fuel2 = f + 1 := ⟨fuel2 - 1, by omega⟩
    obtain ⟨m1, m5, m6, ⟨L2, l1, l2, l3, l4⟩, m8, m9⟩ := M
    obtain rfl : L2 = L := nI_inj (by omega) (by omega) (l2.symm.trans h7)
    obtain ⟨⟨p, hp, p1, p2⟩, q1⟩ := l4 c (by omega)
    have hcc : (nI c).toNatClampNeg = c := clamp_n (by omega)
    have hpc : (nI p).toNatClampNeg = p := clamp_n (by omega)
    have g := gd_c (n := 10) (i := c) (by omega) (by decide)
    have gp := gd_c (n := 6) (i := p) (by omega) (by decide)
    have g21 := m9.1 p hp
    have key : ∀ b, b = imin x (τ 13 c) → ∃ y σ1 τ1, X1_payBackLoans_l4 (f + 1) σ x (nI c) = some (y, σ1) ∧ X5_income_b93 (X5_income_l62 f2) τ x (nI c) b = (lt (wr τ1 0 34 ((τ1 0 34) + y)) (fun σ_7 => (X5_income_l148 fuel_X5_income_148 σ_7 y (0 : Int32)))) ∧ RM j σ1 τ1 ∧
        (∀ k i, k ≠ 16 → k ≠ 21 → σ1 k i = σ k i) ∧ ∀ k i, k ≠ 13 → k ≠ 18 → τ1 k i = τ k i := by
      intro b hb
      have M1 : RM j (wr (wr σ 16 c (τ 13 c + -b)) 21 p (τ 18 p + b)) (wr (wr τ 13 c (τ 13 c - b)) 18 p (τ 18 p + b)) := by
        refine ⟨SE_eq (fun i _ _ => by simp [wr_app]) (by simp [wr_app]) (fun i _ _ => by simp [wr_app]) (by simp [wr_app]) m1, LN_eq (fun i => by simp [wr_app]) (fun i => by simp [wr_app]) m5, FE_eq (fun i => by simp [wr_app]) (fun i _ _ => by simp [wr_app]) m6, ⟨L2, l1, by simp [wr_app, l2], by simp [wr_app, l3], fun i hi => ?_⟩, PA_eq (by simp [wr_app]) (by simp [wr_app]) (fun i => by simp [wr_app]) (fun i => by simp [wr_app]) m8, fun i hi => ?_, ?_⟩
        · have h := l4 i hi
          by_cases e : i = c
          · subst e
            refine ⟨?_, ?_⟩
            · simpa [wr_app] using h.1
            · simp [wr_app, Int32.sub_eq_add_neg]
          · simpa [wr_app, e] using h
        · have h := m9.1 i hi
          by_cases e : i = p
          · simp [wr_app, e]
          · simpa [wr_app, e] using h
        · simpa [wr_app] using m9.2
      obtain ⟨y, σ1, τ1, r1, r2, r3, r4, r5⟩ := ih f f2 (c + 1) _ _ (x - b) (by omega) (by omega) (by omega) M1 (by simp [wr_app, h7])
      refine ⟨y, σ1, τ1, ?_, ?_, r3, fun k i a b => by rw [r4 k i a b, wr_o _ _ (by omega), wr_o _ _ (by omega)], fun k i a b => by rw [r5 k i a b, wr_o _ _ (by omega), wr_o _ _ (by omega)]⟩
      · rw [X1_payBackLoans_l4, l2, if_neg (nI_ge (by omega) (by omega)), fat_n σ 16 (by omega) (by decide), q1, ← hb, fadd_n σ 16 _ (by omega) (by decide), q1, lt_eq, fat_n _ 15 (by omega) (by decide), wr_o σ _ (by omega), p1, fadd_n _ 21 _ hp (by decide), wr_o σ _ (by omega), g21, lt_eq, nI_1]
        exact r1
      · unfold X5_income_b93
        simp only [hcc, g, not_false_eq_true, if_true]
        rw [lt_eq, wr_o τ _ (by omega), p2]
        simp only [hpc, gp, not_false_eq_true, if_true]
        rw [lt_eq, wr_o τ _ (by omega), nI_1]
        exact r2
    rw [X5_income_l62, l3, if_neg (nI_ge (by omega) (by omega))]
    simp only [hcc, g, not_false_eq_true, if_true]
    by_cases hle : x ≤ τ 13 c
    · rw [if_pos hle]
      exact key x (by unfold imin; rw [if_neg (Int32.not_lt.mpr hle)])
    · rw [if_neg hle]
      exact key (τ 13 c) (by unfold imin; rw [if_pos (Int32.not_le.mp hle)])
