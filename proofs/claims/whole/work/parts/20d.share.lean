/-! What comes in: the parts. -/
theorem shareC_step {σ : SS} {M c k0 : Nat} {ofv q : Int32} {p : Nat} (hM : M ≤ 12) (h8 : σ 4 8 = nI M) (hc : c < M) (h17 : σ 17 c = ofv) (h18 : σ 18 c = nI p) (h19 : σ 19 c = q) (hp : p < 6) (f : Nat) (x a : Int32) :
    (ofv = -1 → X1_share_l4 (f + 1) σ x a (nI c) = X1_share_l4 f (wr (wr σ 20 c (x * q / 100)) 21 p (σ 21 p + x * q / 100)) x (a - x * q / 100) (nI (c + 1))) ∧
    (∀ k0 pk, ofv = nI k0 → k0 < c → σ 18 k0 = nI pk → pk < 6 → X1_share_l4 (f + 1) σ x a (nI c) = X1_share_l4 f (wr (wr (wr σ 20 c (σ 20 k0 * q / 100)) 21 p (σ 21 p + σ 20 k0 * q / 100)) 21 pk (wr (wr σ 20 c (σ 20 k0 * q / 100)) 21 p (σ 21 p + σ 20 k0 * q / 100) 21 pk + -(σ 20 k0 * q / 100))) x a (nI (c + 1))) := by
  constructor
  · intro ho
    rw [X1_share_l4, h8, if_neg (nI_ge (by omega) (by omega)), fat_n σ 17 (by omega) (by decide), h17, if_pos ho]
    unfold X1_share_b41 X1_share_b115
    rw [fat_n σ 19 (by omega) (by decide), h19, fput_n σ 20 _ (by omega) (by decide), lt_eq, fat_n _ 18 (by omega) (by decide), wr_o σ _ (by omega), h18, fadd_n _ 21 _ hp (by decide), wr_o σ _ (by omega), lt_eq, if_pos ho, nI_1]
  · intro k0 pk ho hk hpk hpk6
    have hne : ¬ ofv = -1 := by
      rw [ho]
      intro e
      exact nI_pos (n := k0) (by omega) (by rw [e]; decide)
    rw [X1_share_l4, h8, if_neg (nI_ge (by omega) (by omega)), fat_n σ 17 (by omega) (by decide), h17, if_neg hne, ho, fat_n σ 20 (by omega) (by decide)]
    unfold X1_share_b41 X1_share_b115
    rw [fat_n σ 19 (by omega) (by decide), h19, fput_n σ 20 _ (by omega) (by decide), lt_eq, fat_n _ 18 (by omega) (by decide), wr_o σ _ (by omega), h18, fadd_n _ 21 _ hp (by decide), wr_o σ _ (by omega), lt_eq, if_neg (by rw [← ho]; exact hne), fat_n _ 18 (by omega) (by decide), wr_o _ _ (by omega), wr_o σ _ (by omega), hpk, fadd_n _ 21 _ hpk6 (by decide), lt_eq, nI_1]
theorem shareR_step {τ : SS} {M c : Nat} {ofv q : Int32} {p : Nat} (hM : M ≤ 12) (h8 : τ 0 28 = nI M) (hc : c < M) (h17 : τ 14 c = ofv) (h18 : τ 15 c = nI p) (h19 : τ 16 c = q) (hp : p < 6) (f : Nat) (x : Int32) :
    (ofv = -1 → X5_income_l148 (f + 1) τ x (nI c) = X5_income_l148 f (wr (wr (wr τ 17 c (x * q / 100)) 18 p (τ 18 p + x * q / 100)) 0 34 (τ 0 34 - x * q / 100)) x (nI (c + 1))) ∧
    (∀ k0 pk, ofv = nI k0 → k0 < c → τ 15 k0 = nI pk → pk < 6 → X5_income_l148 (f + 1) τ x (nI c) = X5_income_l148 f (wr (wr (wr τ 17 c (τ 17 k0 * q / 100)) 18 p (τ 18 p + τ 17 k0 * q / 100)) 18 pk (wr (wr τ 17 c (τ 17 k0 * q / 100)) 18 p (τ 18 p + τ 17 k0 * q / 100) 18 pk - τ 17 k0 * q / 100)) x (nI (c + 1))) := by
  have hcc : (nI c).toNatClampNeg = c := clamp_n (by omega)
  have hpc : (nI p).toNatClampNeg = p := clamp_n (by omega)
  have g := gd_c (n := 12) (i := c) (by omega) (by decide)
  have gp := gd_c (n := 6) (i := p) (by omega) (by decide)
  have hput : ∀ s, X5_income_b189 (X5_income_l148 f) τ x (nI c) (nI c) s = (if 0 ≤ ofv then (if ¬ (ofv < 0 ∨ 12 ≤ ofv.toNatClampNeg) then (if ¬ ((τ 15 ofv.toNatClampNeg) < 0 ∨ 6 ≤ (τ 15 ofv.toNatClampNeg).toNatClampNeg) then (X5_income_l148 f (wr (wr (wr τ 17 c (s * q / 100)) 18 p (τ 18 p + s * q / 100)) 18 (τ 15 ofv.toNatClampNeg).toNatClampNeg (wr (wr τ 17 c (s * q / 100)) 18 p (τ 18 p + s * q / 100) 18 (τ 15 ofv.toNatClampNeg).toNatClampNeg - s * q / 100)) x (nI (c + 1))) else none) else none) else X5_income_l148 f (wr (wr (wr τ 17 c (s * q / 100)) 18 p (τ 18 p + s * q / 100)) 0 34 (τ 0 34 - s * q / 100)) x (nI (c + 1))) := by
    intro s
    unfold X5_income_b189 X5_income_b279
    simp only [hcc, g, not_false_eq_true, if_true]
    rw [lt_eq, h19, wr_o τ _ (by omega), h18]
    simp only [hpc, gp, not_false_eq_true, if_true]
    rw [lt_eq, wr_o τ _ (by omega), wr_at]
    have e14 : wr (wr τ 17 c (s * q / 100)) 18 p (τ 18 p + s * q / 100) 14 c = ofv := by rw [wr_o _ _ (by omega), wr_o _ _ (by omega), h17]
    have e17 : wr (wr τ 17 c (s * q / 100)) 18 p (τ 18 p + s * q / 100) 17 c = s * q / 100 := by rw [wr_o _ _ (by omega), wr_at]
    have e15 : ∀ i, wr (wr τ 17 c (s * q / 100)) 18 p (τ 18 p + s * q / 100) 15 i = τ 15 i := fun i => by rw [wr_o _ _ (by omega), wr_o _ _ (by omega)]
    have e34 : wr (wr τ 17 c (s * q / 100)) 18 p (τ 18 p + s * q / 100) 0 34 = τ 0 34 := by rw [wr_o _ _ (by omega), wr_o _ _ (by omega)]
    simp only [e14, e17, e15, e34, nI_1, lt_eq]
    by_cases h0 : 0 ≤ ofv
    · simp only [if_pos h0]
      by_cases h1 : ofv < 0 ∨ 12 ≤ ofv.toNatClampNeg
      · simp only [h1, not_true_eq_false, if_false]
      · simp only [h1, not_false_eq_true, if_true]
        by_cases h2 : τ 15 ofv.toNatClampNeg < 0 ∨ 6 ≤ (τ 15 ofv.toNatClampNeg).toNatClampNeg
        · simp only [h2, not_true_eq_false, if_false]
        · simp only [h2, not_false_eq_true, if_true]
    · simp only [if_neg h0]
  constructor
  · intro ho
    have hn : ¬ (0 : Int32) ≤ ofv := by rw [ho]; decide
    rw [X5_income_l148, h8, if_neg (nI_ge (by omega) (by omega))]
    simp only [hcc, g, not_false_eq_true, if_true]
    rw [h17, if_neg hn, hput, if_neg hn]
  · intro k0 pk ho hk hpk hpk6
    have hn : (0 : Int32) ≤ ofv := by rw [ho]; exact nI_pos' (by omega)
    have hkc : ofv.toNatClampNeg = k0 := by rw [ho]; exact clamp_n (by omega)
    have gk : ¬ (ofv < 0 ∨ 12 ≤ ofv.toNatClampNeg) := by rw [ho]; exact gd_n (by omega) (by decide)
    have hpkc : (nI pk).toNatClampNeg = pk := clamp_n (by omega)
    have gpk := gd_n (n := 6) (i := pk) hpk6 (by decide)
    rw [X5_income_l148, h8, if_neg (nI_ge (by omega) (by omega))]
    simp only [hcc, g, not_false_eq_true, if_true]
    rw [h17, if_pos hn, if_pos gk, hput, if_pos hn, if_pos gk, hkc, hpk, if_pos gpk, hpkc]
theorem share_n {j M : Nat} (hM : M ≤ 12) : ∀ k fuel fuel2 c σ τ x a, c + k = M → k < fuel → k < fuel2 → SE σ τ → LN j σ τ → FE σ τ → LO σ τ → PA σ τ → (∀ i, i < 6 → σ 21 i = τ 18 i) → σ 4 9 + a = τ 0 34 → σ 4 8 = nI M → (∀ i, i < c → σ 20 i = τ 17 i) →
    ∃ σ1 τ1, X1_share_l4 fuel σ x a (nI c) = some σ1 ∧ X5_income_l148 fuel2 τ x (nI c) = some (x, τ1) ∧ RM j σ1 τ1 ∧ (∀ k i, k ≠ 20 → k ≠ 21 → k ≠ 4 → σ1 k i = σ k i) ∧ ∀ k i, k ≠ 17 → k ≠ 18 → (k = 0 → i ≠ 34) → τ1 k i = τ k i := by
  intro k
  induction k with
  | zero =>
    intro fuel fuel2 c σ τ x a hc hf hf2 m1 m5 m6 m7 m8 hg hh h8 hs
    obtain ⟨f, rfl⟩ : ∃ f, fuel = f + 1 := ⟨fuel - 1, by omega⟩
    obtain ⟨f2, rfl⟩ : ∃ f, fuel2 = f + 1 := ⟨fuel2 - 1, by omega⟩
    obtain ⟨M2, l1, l2, l3, l4⟩ := m8
    obtain rfl : M2 = M := nI_inj (by omega) (by omega) (l2.symm.trans h8)
    rw [X1_share_l4, X5_income_l148, l2, l3, if_pos (nI_le (by omega) (by omega)), if_pos (nI_le (by omega) (by omega)), lt_eq, hh]
    refine ⟨_, _, rfl, rfl, ⟨SE_eq (fun i _ _ => by simp [wr_app]) (by simp [wr_app]) (fun _ _ _ => rfl) rfl m1, LN_eq (fun i => by simp [wr_app]) (fun _ => rfl) m5, FE_eq (fun i => by simp [wr_app]) (fun _ _ _ => rfl) m6, LO_eq (by simp [wr_app]) rfl (fun i => by simp [wr_app]) (fun _ => ⟨rfl, rfl⟩) m7, PA_eq (by simp [wr_app]) rfl (fun i => by simp [wr_app]) (fun _ => ⟨rfl, rfl, rfl⟩) ⟨M2, l1, l2, l3, l4⟩, fun i hi => ?_, wr_at _ _ _ _⟩, fun k i _ _ a => wr_o _ _ (by omega), fun _ _ _ _ _ => rfl⟩
    rw [wr_o _ _ (by omega)]
    exact hg i hi
  | succ k ih =>
    intro fuel fuel2 c σ τ x a hc hf hf2 m1 m5 m6 m7 m8 hg hh h8 hs
    obtain ⟨f, rfl⟩ : ∃ f, fuel = f + 1 := ⟨fuel - 1, by omega⟩
    obtain ⟨f2, rfl⟩ : ∃ f, fuel2 = f + 1 := ⟨fuel2 - 1, by omega⟩
    have m8' := m8
    obtain ⟨M2, l1, l2, l3, l4⟩ := m8'
    obtain rfl : M2 = M := nI_inj (by omega) (by omega) (l2.symm.trans h8)
    obtain ⟨⟨o1, o2⟩, ⟨p, hp, p1, p2⟩, q1⟩ := l4 c (by omega)
    have sc := shareC_step (k0 := 0) l1 l2 (show c < M2 by omega) rfl p1 rfl hp f x a
    have sr := shareR_step l1 l3 (show c < M2 by omega) o1.symm p2 q1.symm hp f2 x
    rcases o2 with o2 | ⟨k0, hk0, o2⟩
    · rw [sc.1 o2, sr.1 o2, ← hg p hp]
      have hgp := hg p hp
      obtain ⟨σ1, τ1, r1, r2, r3, r4, r5⟩ := ih f f2 (c + 1) (wr (wr σ 20 c (x * σ 19 c / 100)) 21 p (σ 21 p + x * σ 19 c / 100)) (wr (wr (wr τ 17 c (x * σ 19 c / 100)) 18 p (σ 21 p + x * σ 19 c / 100)) 0 34 (τ 0 34 - x * σ 19 c / 100)) x (a - x * σ 19 c / 100) (by omega) (by omega) (by omega)
        (SE_eq (fun i _ _ => by simp [wr_app]) (by simp [wr_app]) (fun i _ _ => by rw [wr_o _ _ (by omega), wr_o _ _ (by omega), wr_o _ _ (by omega)]) (by simp [wr_app]) m1)
        (LN_eq (fun i => by simp [wr_app]) (fun i => by simp [wr_app]) m5) (FE_eq (fun i => by simp [wr_app]) (fun i _ _ => by rw [wr_o _ _ (by omega), wr_o _ _ (by omega), wr_o _ _ (by omega)]) m6) (LO_eq (by simp [wr_app]) (by simp [wr_app]) (fun i => by simp [wr_app]) (fun i => by simp [wr_app]) m7) (PA_eq (by simp [wr_app]) (by simp [wr_app]) (fun i => by simp [wr_app]) (fun i => by simp [wr_app]) m8)
        (fun i hi => by
          have h := hg i hi
          by_cases e : i = p
          · simp [wr_app, e]
          · simpa [wr_app, e] using h)
        (by
          rw [wr_o _ _ (by omega), wr_o _ _ (by omega), wr_at, ← hh]
          simp only [Int32.sub_eq_add_neg, Int32.add_assoc])
        (by simp [wr_app, h8])
        (fun i hi => by
          by_cases e : i = c
          · simp [wr_app, e]
          · have h := hs i (by omega)
            simpa [wr_app, e] using h)
      exact ⟨σ1, τ1, r1, r2, r3, fun k i a b d => by rw [r4 k i a b d, wr_o _ _ (by omega), wr_o _ _ (by omega)], fun k i a b d => by rw [r5 k i a b d, wr_o _ _ (by omega), wr_o _ _ (by omega), wr_o _ _ (by omega)]⟩
    · obtain ⟨-, ⟨pk, hpk, pk1, pk2⟩, -⟩ := l4 k0 (by omega)
      rw [sc.2 k0 pk o2 hk0 pk1 hpk, sr.2 k0 pk o2 hk0 pk2 hpk, ← hg p hp, ← hs k0 hk0]
      generalize σ 20 k0 * σ 19 c / 100 = s
      have hgp := hg p hp
      have e21 : wr (wr σ 20 c s) 21 p (σ 21 p + s) 21 pk = wr (wr τ 17 c s) 18 p (σ 21 p + s) 18 pk := by
        have h := hg pk hpk
        by_cases e : pk = p
        · simp [wr_app, e]
        · simpa [wr_app, e] using h
      obtain ⟨σ1, τ1, r1, r2, r3, r4, r5⟩ := ih f f2 (c + 1) (wr (wr (wr σ 20 c s) 21 p (σ 21 p + s)) 21 pk (wr (wr σ 20 c s) 21 p (σ 21 p + s) 21 pk + -s)) (wr (wr (wr τ 17 c s) 18 p (σ 21 p + s)) 18 pk (wr (wr τ 17 c s) 18 p (σ 21 p + s) 18 pk - s)) x a (by omega) (by omega) (by omega)
        (SE_eq (fun i _ _ => by simp [wr_app]) (by simp [wr_app]) (fun i _ _ => by simp [wr_app]) (by simp [wr_app]) m1)
        (LN_eq (fun i => by simp [wr_app]) (fun i => by simp [wr_app]) m5) (FE_eq (fun i => by simp [wr_app]) (fun i _ _ => by simp [wr_app]) m6) (LO_eq (by simp [wr_app]) (by simp [wr_app]) (fun i => by simp [wr_app]) (fun i => by simp [wr_app]) m7) (PA_eq (by simp [wr_app]) (by simp [wr_app]) (fun i => by simp [wr_app]) (fun i => by simp [wr_app]) m8)
        (fun i hi => by
          by_cases e : i = pk
          · rw [e, wr_at, wr_at, e21, Int32.sub_eq_add_neg]
          · rw [wr_ni _ _ _ e, wr_ni _ _ _ e]
            have h := hg i hi
            by_cases e2 : i = p
            · simp [wr_app, e2]
            · simpa [wr_app, e2] using h)
        (by
          rw [wr_o _ _ (by omega), wr_o _ _ (by omega), wr_o _ _ (by omega), wr_o _ _ (by omega), wr_o _ _ (by omega), wr_o _ _ (by omega)]
          exact hh)
        (by simp [wr_app, h8])
        (fun i hi => by
          by_cases e : i = c
          · simp [wr_app, e]
          · have h := hs i (by omega)
            simpa [wr_app, e] using h)
      exact ⟨σ1, τ1, r1, r2, r3, fun k i a b d => by rw [r4 k i a b d, wr_o _ _ (by omega), wr_o _ _ (by omega), wr_o _ _ (by omega)], fun k i a b d => by rw [r5 k i a b d, wr_o _ _ (by omega), wr_o _ _ (by omega), wr_o _ _ (by omega)]⟩
theorem st_income {j : Nat} (hj : j < 512) {σ τ : SS} (R : Rel j σ τ) (x1 : Int32) : ∃ r σ1 b τ1, X4_income σ x1 = some (r, σ1) ∧ X5_income τ x1 = some (b, τ1) ∧ Rel (j + 1) σ1 τ1 ∧ Agr ["java/lang/IllegalArgumentException"] r b (X5_thrown τ1) := by
  unfold X4_income X5_income X5_income_b16
  rw [isIn_w]
  by_cases h : X4_isWithin x1 1 1000000 = 0
  · rw [if_pos h, if_pos h, lt_eq, wr_at, if_neg (by decide)]
    exact ⟨_, _, _, _, rfl, rfl, thr R 1, agr_er rfl (thr_0 _ _) (by decide)⟩
  · have R0 := thr R 0
    rw [if_neg h, if_neg h, lt_eq, wr_at, if_pos (show (0 : Int32) ≤ 0 by decide)]
    obtain ⟨P, hW, C, C2, m1, m5, m6, m7, m8, m9⟩ := R0
    have h24 : wr τ 0 35 0 0 24 = σ 3 3 := m6.2.2.symm
    have hmin : (if x1 ≤ wr τ 0 35 0 0 24 then X5_income_b44 (wr τ 0 35 0) x1 x1 else X5_income_b44 (wr τ 0 35 0) x1 (wr τ 0 35 0 0 24)) = X5_income_b44 (wr τ 0 35 0) x1 (imin x1 (σ 3 3)) := by
      rw [h24]
      unfold imin
      by_cases hle : x1 ≤ σ 3 3
      · rw [if_pos hle, if_neg (Int32.not_lt.mpr hle)]
      · rw [if_neg hle, if_pos (Int32.not_le.mp hle)]
    rw [hmin]
    unfold X0_payBack X5_income_b44
    rw [lt_eq, lt_eq, h24]
    generalize imin x1 (σ 3 3) = b
    have M1 : RM (j + 1) (wr σ 3 3 (σ 3 3 - b)) (wr (wr τ 0 35 0) 0 24 (σ 3 3 - b)) := by
      refine ⟨SE_eq (fun i _ _ => by simp [wr_app]) (by simp [wr_app]) (fun i _ _ => by rw [wr_o _ _ (by omega)]) (by simp [wr_app]) m1, LN_eq (fun i => by simp [wr_app]) (fun i => wr_o _ _ (by omega)) m5, ⟨?_, ?_, ?_⟩, LO_eq (by simp [wr_app]) (wr_o _ _ (by omega)) (fun i => by simp [wr_app]) (fun i => ⟨wr_o _ _ (by omega), wr_o _ _ (by omega)⟩) m7, PA_eq (by simp [wr_app]) (wr_o _ _ (by omega)) (fun i => by simp [wr_app]) (fun i => ⟨wr_o _ _ (by omega), wr_o _ _ (by omega), wr_o _ _ (by omega)⟩) m8, GA_eq (fun i => by simp [wr_app]) (by simp [wr_app]) (fun i => wr_o _ _ (by omega)) (wr_o _ _ (by omega)) m9⟩
      · rw [wr_o _ _ (by omega), wr_o _ _ (by omega)]; exact m6.1
      · rw [wr_o _ _ (by omega), wr_o _ _ (by omega)]; exact m6.2.1
      · rw [wr_at, wr_at]
    have F1 : ∀ k i, k ≠ 3 → wr σ 3 3 (σ 3 3 - b) k i = σ k i := fun k i a => wr_o _ _ (by omega)
    have F2 : ∀ k i, (k = 0 → i ≠ 24) → wr (wr τ 0 35 0) 0 24 (σ 3 3 - b) k i = wr τ 0 35 0 k i := fun k i a => wr_o _ _ (by omega)
    generalize wr σ 3 3 (σ 3 3 - b) = σ2 at M1 F1
    generalize wr (wr τ 0 35 0) 0 24 (σ 3 3 - b) = τ2 at M1 F2
    have M1' := M1
    obtain ⟨-, -, -, ⟨L, l1, l2, -, -⟩, -⟩ := M1'
    obtain ⟨y, σ3, τ3, r1, r2, r3, r4, r5⟩ := loans_n l1 L fuel_X1_payBackLoans_4 fuel_X5_income_62 0 σ2 τ2 (x1 - b) (by omega) (by show _ < 64; omega) (by show _ < 64; omega) M1 l2
    have r1' : X1_payBackLoans σ2 (x1 - b) = some (y, σ3) := r1
    obtain ⟨n1, n5, n6, n7, n8, n9⟩ := r3
    have n8' := n8
    obtain ⟨M, l1, l2, -, -⟩ := n8'
    obtain ⟨σ4, τ4, s1, s2, s3, s4, s5⟩ := share_n (j := j + 1) l1 M fuel_X1_share_4 fuel_X5_income_148 0 σ3 (wr τ3 0 34 (τ3 0 34 + y)) y y (by omega) (by show _ < 64; omega) (by show _ < 64; omega)
      (SE_eq (fun _ _ _ => rfl) rfl (fun i _ _ => wr_o _ _ (by omega)) (wr_o _ _ (by omega)) n1) (LN_eq (fun _ => rfl) (fun i => wr_o _ _ (by omega)) n5) (FE_eq (fun _ => rfl) (fun i _ _ => wr_o _ _ (by omega)) n6) (LO_eq rfl (wr_o _ _ (by omega)) (fun _ => ⟨rfl, rfl⟩) (fun i => ⟨wr_o _ _ (by omega), wr_o _ _ (by omega)⟩) n7) (PA_eq rfl (wr_o _ _ (by omega)) (fun _ => ⟨rfl, rfl, rfl⟩) (fun i => ⟨wr_o _ _ (by omega), wr_o _ _ (by omega), wr_o _ _ (by omega)⟩) n8)
      (fun i hi => by rw [wr_o _ _ (by omega)]; exact n9.1 i hi) (by rw [wr_at, n9.2]) l2 (fun i hi => absurd hi (by omega))
    have s1' : X1_share σ3 y = some σ4 := s1
    have s2' : X5_income_l62 fuel_X5_income_62 τ2 (x1 - b) 0 = some (y, τ4) := by
      rw [lt_eq] at r2
      exact r2.trans s2
    rw [s2']
    simp only [bd2]
    rw [r1']
    simp only [s1', Option.bind_some]
    refine ⟨_, _, _, _, rfl, rfl, ⟨P, hW, PC_eq (fun k i h => ?_) C, PR_eq (fun k i h => ?_) C2, s3⟩, agr_ok ?_⟩
    · unfold cP at h
      rw [s4 k i (by omega) (by omega) (by omega), r4 k i (by omega) (by omega), F1 k i (by omega)]
    · unfold rP at h
      rw [s5 k i (by omega) (by omega) (by omega), wr_o _ _ (by omega), r5 k i (by omega) (by omega), F2 k i (by omega)]
    · show τ4 0 35 = 0
      rw [s5 0 35 (by decide) (by decide) (by omega), wr_o _ _ (by omega), r5 0 35 (by decide) (by decide), F2 0 35 (by omega), wr_at]
