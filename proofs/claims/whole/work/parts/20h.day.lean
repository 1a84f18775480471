/-! Shooting a day: the reference's loops, the end of the day, the whole call. -/
section
variable {P : PP} {w : Nat → Bool}
theorem shootR {τ : SS} {b : Od} {r : Nat} (hW : Wf P) (hv : Vd P b) (B : BR P τ) (h16 : τ 0 16 = nI b.length) (O : OP τ b) (hr : r ≤ 1000) (h11 : τ 0 11 = nI r) (x1 : Int32) (hw : ∀ s, w s = (decide (x1 ≠ 0) && decide (τ 0 13 = 0) && decide (X4_isIn (τ 0 9) (nI (P 1 s)) ≠ 0))) : X5_shoot_l14 fuel_X5_shoot_14 τ x1 (nI (P 6 1)) 0 0 = (if τ 0 13 = 0 then X5_shoot_b147 τ (nI (P 6 1 ||| tdy P w b)) (nI (hrs P (tdy P w b) * r)) 0 else X5_shoot_b147 τ (nI (P 6 1 ||| tdy P w b)) (nI (hrs P (tdy P w b) * r)) (τ 0 12)) := by
  have hn := hW.1
  have hl8 := len_8 hW hv
  have hd4 := hW.2.2.2.2.1
  have hdone := wf_done hW
  have hQ := OP_AQ O
  have key : ∀ k fuel j, j + k = b.length → k < fuel → X5_shoot_l14 fuel τ x1 (nI (P 6 1 ||| tdy P w (sfx b j))) (nI (hrs P (tdy P w (sfx b j)) * r)) (nI j) = (if τ 0 13 = 0 then X5_shoot_b147 τ (nI (P 6 1 ||| tdy P w b)) (nI (hrs P (tdy P w b) * r)) 0 else X5_shoot_b147 τ (nI (P 6 1 ||| tdy P w b)) (nI (hrs P (tdy P w b) * r)) (τ 0 12)) := by
    intro k
    induction k with
    | zero =>
      intro fuel j hj hf
      obtain ⟨f, rfl⟩ : ∃ f, fuel = f + 1 := ⟨fuel - 1, by omega⟩
      rw [X5_shoot_l14, h16, if_pos (nI_le (by omega) (by omega)), show j = b.length by omega, sfx_len]
    | succ k ih =>
      intro fuel j hj hf
      obtain ⟨f, rfl⟩ : ∃ f, fuel = f + 1 := ⟨fuel - 1, by omega⟩
      obtain ⟨x, h1, ⟨h2, h3⟩, h4⟩ := sfxQ (j := j) hQ hv (by omega)
      have hx := h4.2.1
      have hbx := bgn_x hW h4
      have hx5 := B.2.2.2.2.1 x.1 hx
      have ha := (hW.2.1 x.1 hx).2.2.2.2.2
      have ha8 : P 4 x.1 < 256 := Nat.lt_of_lt_of_le ha (pw_le (by omega))
      have hT := tdy_256 (w := w) hW h4.1
      have hor := or_lt hdone hT
      have hnot : (tdy P w (sfx b j)).testBit x.1 = false := by
        cases hb : (tdy P w (sfx b j)).testBit x.1
        · rfl
        · have := (tdy_in h4.1 x.1 hb).1
          rw [(canF_t h4.2.2.1).1] at this
          cases this
      have h := ih f (j + 1) (by omega) (by omega)
      rw [h1, tdy] at h
      have hjc : (nI j).toNatClampNeg = j := clamp_n (by omega)
      have hxc : (nI x.1).toNatClampNeg = x.1 := clamp_n (by omega)
      have g8 := gd_c (n := 8) (i := j) (by omega) (by decide)
      have gx := gd_c (n := 8) (i := x.1) (by omega) (by decide)
      have b66 : ∀ y, (y = 0 ∨ y = 1) → (w x.1 = decide (y ≠ 0)) → X5_shoot_b66 (X5_shoot_l14 f) τ x1 (nI (P 6 1 ||| tdy P w (sfx b j))) (nI (hrs P (tdy P w (sfx b j)) * r)) (nI j) (nI x.1) y = (if τ 0 13 = 0 then X5_shoot_b147 τ (nI (P 6 1 ||| tdy P w b)) (nI (hrs P (tdy P w b) * r)) 0 else X5_shoot_b147 τ (nI (P 6 1 ||| tdy P w b)) (nI (hrs P (tdy P w b) * r)) (τ 0 12)) := by
        intro y hy hwy
        unfold X5_shoot_b66 X5_shoot_b126
        simp only [hjc, hxc, g8, gx, not_false_eq_true, if_true]
        rw [h3, il24, nI_div (by omega) (by decide) (by decide), B.2.2.2.1, hx5.2.2.2.2, wo_n ha8 hor, hx5.1, h11, nI_mul, nI_add, shl_n (by omega), nI_or, nI_1]
        by_cases hday : x.2 / 24 = P 6 3
        · rw [if_pos (by rw [hday])]
          by_cases hy0 : y = 0
          · have hwf : w x.1 = false := by rw [hwy, hy0]; rfl
            rw [if_pos hy0]
            by_cases hah : wo (P 4 x.1) (P 6 1 ||| tdy P w (sfx b j)) = 0
            · rw [if_pos ⟨hday, hwf, hah⟩, hrs_put hx hnot, ← Nat.or_assoc, Nat.add_mul] at h
              rw [if_pos (by rw [hah]; rfl)]
              exact h
            · have hah' : ¬ nI (wo (P 4 x.1) (P 6 1 ||| tdy P w (sfx b j))) = 0 := nI_ne (b := 0) (by have := wo_lt (b := P 6 1 ||| tdy P w (sfx b j)) ha8; omega) (by decide) hah
              rw [if_neg (fun e => hah e.2.2)] at h
              rw [if_neg hah']
              exact h
          · have hwt : w x.1 = true := by rw [hwy]; simp [hy0]
            rw [if_neg (fun e => by rw [hwt] at e; cases e.2.1)] at h
            rw [if_neg hy0]
            exact h
        · rw [if_neg (fun e => hday e.1)] at h
          rw [if_neg (nI_ne (by omega) (by omega) hday)]
          exact h
      rw [X5_shoot_l14, h16, if_neg (nI_ge (by omega) (by omega))]
      unfold X5_shoot_b65
      simp only [hjc, g8, not_false_eq_true, if_true, h2, hxc, gx]
      rw [hx5.2.1]
      have hbit : X4_isIn (τ 0 9) (nI (P 1 x.1)) = if ((τ 0 9 >>> (nI (P 1 x.1) &&& 31)) &&& 1) = 0 then 0 else 1 := rfl
      by_cases hx0 : x1 = 0
      · rw [if_pos hx0]
        exact b66 0 (Or.inl rfl) (by rw [hw, hx0]; rfl)
      · rw [if_neg hx0]
        by_cases hh : τ 0 13 = 0
        · rw [if_pos hh]
          rcases and1 (τ 0 9 >>> (nI (P 1 x.1) &&& 31)) with e | e
          · rw [e, if_neg (show ¬ (0 : Int32) = 1 by decide)]
            exact b66 0 (Or.inl rfl) (by rw [hw, hbit, e]; simp)
          · rw [e, if_pos rfl]
            exact b66 1 (Or.inr rfl) (by rw [hw, hbit, e]; simp [hx0, hh])
        · rw [if_neg hh]
          exact b66 0 (Or.inl rfl) (by rw [hw]; simp [hh])
  have h := key b.length fuel_X5_shoot_14 0 (by omega) (by show _ < 64; omega)
  rw [sfx_0, tdy, Nat.or_zero] at h
  have h0 : hrs P 0 = 0 := sm_0 (fun i _ => by rw [Nat.zero_testBit]; rfl)
  rw [h0, Nat.zero_mul] at h
  exact h
theorem endDay_n {n T : Nat} (hn : n ≤ 8) (hT : T < 256) : ∀ k fuel c σ, c + k = n → k < fuel → σ 2 5 = nI n → ∃ σ1, X2_endDay_l2 fuel σ (nI T) (nI c) = some (wr (wr (wr σ1 2 6 (σ 2 6 ||| nI T)) 1 6 (σ 1 6 + 1)) 1 7 0) ∧ (∀ k i, k ≠ 11 → σ1 k i = σ k i) ∧ (∀ i, c ≤ i → i < n → T.testBit i = true → σ1 11 i = σ 13 i) ∧ ∀ i, (i < c ∨ T.testBit i = false) → σ1 11 i = σ 11 i := by
  intro k
  induction k with
  | zero =>
    intro fuel c σ hc hf h5
    obtain ⟨f, rfl⟩ : ∃ f, fuel = f + 1 := ⟨fuel - 1, by omega⟩
    refine ⟨σ, ?_, fun _ _ _ => rfl, fun i h1 h2 => by omega, fun _ _ => rfl⟩
    rw [X2_endDay_l2, h5, if_pos (nI_le (by omega) (by omega)), lt_eq, lt_eq, wr_o σ _ (by omega)]
    unfold X2_forget
    rw [lt_eq, Option.bind_some]
  | succ k ih =>
    intro fuel c σ hc hf h5
    obtain ⟨f, rfl⟩ : ∃ f, fuel = f + 1 := ⟨fuel - 1, by omega⟩
    rw [X2_endDay_l2, h5, if_neg (nI_ge (by omega) (by omega)), isIn_n hT (by omega)]
    unfold X2_endDay_b37
    cases hb : T.testBit c
    · obtain ⟨σ1, h1, h2, h3, h4⟩ := ih f (c + 1) σ (by omega) (by omega) h5
      rw [if_pos (by decide), nI_1]
      refine ⟨σ1, h1, h2, fun i a b d => h3 i (by
        rcases Nat.lt_or_ge c i with q | q
        · exact q
        · obtain rfl : i = c := by omega
          rw [hb] at d
          cases d) b d, fun i a => h4 i (a.imp (by omega) id)⟩
    · rw [if_neg (by decide), fat_n σ 13 (by omega) (by decide), fput_n σ 11 _ (by omega) (by decide), lt_eq, nI_1]
      obtain ⟨σ1, h1, h2, h3, h4⟩ := ih f (c + 1) (wr σ 11 c (σ 13 c)) (by omega) (by omega) (by rw [wr_o _ _ (by omega)]; exact h5)
      rw [wr_o σ _ (by omega), wr_o σ _ (by omega)] at h1
      refine ⟨σ1, h1, fun k i a => by rw [h2 k i a, wr_o _ _ (by omega)], fun i a b d => ?_, fun i a => ?_⟩
      · by_cases e : i = c
        · subst e
          rw [h4 i (Or.inl (by omega)), wr_at]
        · rw [h3 i (by omega) b d, wr_o _ _ (by omega)]
      · have hne : i ≠ c := by
          rintro rfl
          rcases a with a | a
          · omega
          · rw [hb] at a; cases a
        rw [h4 i (a.imp (by omega) id), wr_o _ _ (by omega)]
/-- how many of T are among the first scenes -/
def cnt (P : PP) (T : Nat) (o : Od) : Nat := sm (P 6 0) (fun i => if T.testBit i = true ∧ (msk P o).testBit i = true then 1 else 0)
theorem cnt_put {T : Nat} {x : Nat × Nat} {o : Od} (hx : x.1 < P 6 0) (hc : canF P o x.1 = true) : cnt P T (x :: o) = cnt P T o + if T.testBit x.1 = true then 1 else 0 := by
  have h0 := (canF_t hc).1
  unfold cnt
  rw [sm_one (s := x.1) (f := fun i => if T.testBit i = true ∧ (msk P (x :: o)).testBit i = true then 1 else 0) (g := fun i => if T.testBit i = true ∧ (msk P o).testBit i = true then 1 else 0) hx (fun i _ hi => by
    have : (msk P (x :: o)).testBit i = (msk P o).testBit i := by
      rw [msk, or_tb]
      have : ¬ x.1 = i := fun e => hi e.symm
      simp [this]
    simp only [this]) (by simp only [h0, Bool.false_eq_true, and_false, if_false])]
  have : (msk P (x :: o)).testBit x.1 = true := msk_cons.mpr (Or.inr rfl)
  simp only [this, and_true]
theorem cnt_le (hW : Wf P) (T : Nat) (o : Od) : cnt P T o ≤ 8 := by
  have h : cnt P T o ≤ P 6 0 * 1 := sm_le (fun i _ => by split <;> omega)
  have := hW.1
  omega
theorem endR {b : Od} {T : Nat} (hW : Wf P) (hv : Vd P b) (hT : T < 256) (hTD : ∀ i, T.testBit i = true → (P 6 1).testBit i = false) (hown : AQ (fun _ x => bgn P b x.1 = x.2) b) : ∀ k fuel j τ, j + k = b.length → k < fuel → τ 0 16 = nI b.length → τ 0 6 = nI (P 6 1) → OP τ b →
    ∃ τ1, X5_shoot_l217 fuel τ (nI (P 6 1 ||| T)) (nI (cnt P T (sfx b j))) (nI j) = some (nI (cnt P T b), wr (wr (wr τ1 0 6 (nI (P 6 1 ||| T))) 0 10 (τ 0 10 + 1)) 0 18 1) ∧ (∀ k i, k ≠ 6 → τ1 k i = τ k i) ∧
    (∀ i, T.testBit i = true → (msk P (sfx b j)).testBit i = false → (msk P b).testBit i = true → τ1 6 i = nI (bgn P b i)) ∧ ∀ i, (T.testBit i = false ∨ (msk P (sfx b j)).testBit i = true) → τ1 6 i = τ 6 i := by
  have hn := hW.1
  have hl8 := len_8 hW hv
  have hdone := wf_done hW
  intro k
  induction k with
  | zero =>
    intro fuel j τ hj hf h16 h6 O
    obtain ⟨f, rfl⟩ : ∃ f, fuel = f + 1 := ⟨fuel - 1, by omega⟩
    obtain rfl : j = b.length := by omega
    refine ⟨τ, ?_, fun _ _ _ => rfl, fun i _ h1 h2 => ?_, fun _ _ => rfl⟩
    · rw [X5_shoot_l217, h16, if_pos (nI_le (by omega) (by omega)), lt_eq, lt_eq, lt_eq, wr_o τ _ (by omega), sfx_len]
    · rw [sfx_len, h2] at h1
      cases h1
  | succ k ih =>
    intro fuel j τ hj hf h16 h6 O
    obtain ⟨f, rfl⟩ : ∃ f, fuel = f + 1 := ⟨fuel - 1, by omega⟩
    obtain ⟨x, h1, ⟨⟨h2, h3⟩, hbx⟩, h4⟩ := sfxQ (j := j) (AQ_and (OP_AQ O) hown) hv (by omega)
    have hx := h4.2.1
    have hx0 := (canF_t h4.2.2.1).1
    have hjc : (nI j).toNatClampNeg = j := clamp_n (by omega)
    have hxc : (nI x.1).toNatClampNeg = x.1 := clamp_n (by omega)
    have g8 := gd_c (n := 8) (i := j) (by omega) (by decide)
    have gx := gd_c (n := 8) (i := x.1) (by omega) (by decide)
    have hwo : wo (P 6 1 ||| T) (P 6 1) = T := by
      refine tb_ext (wo_lt (or_lt hdone hT)) hT (fun i _ => ?_)
      rw [wo_tb (or_lt hdone hT) hdone, Nat.testBit_or]
      cases hb : T.testBit i
      · cases (P 6 1).testBit i <;> rfl
      · rw [hTD i hb]; rfl
    have hlow := lowbit_all T hT x.1 (by omega)
    have hcnt := cnt_put (T := T) hx h4.2.2.1
    rw [← h1] at hcnt
    rw [X5_shoot_l217, h16, if_neg (nI_ge (by omega) (by omega))]
    unfold X5_shoot_b269
    simp only [hjc, g8, not_false_eq_true, if_true, h2, hxc, gx, h3]
    rw [h6, wo_n (or_lt hdone hT) hdone, hwo]
    cases hb : T.testBit x.1
    · rw [if_pos (hlow.mpr hb), nI_1]
      rw [hb, if_neg (by decide), Nat.add_zero] at hcnt
      obtain ⟨τ1, r1, r2, r3, r4⟩ := ih f (j + 1) τ (by omega) (by omega) h16 h6 O
      rw [hcnt] at r1
      refine ⟨τ1, r1, r2, fun i a d e => r3 i a ?_ e, fun i a => r4 i (a.imp id (fun e => ?_))⟩
      · have hne : i ≠ x.1 := by rintro rfl; rw [hb] at a; cases a
        rw [h1, msk, or_tb, d]
        have hne2 : ¬ x.1 = i := fun e2 => hne e2.symm
        simp [hne2]
      · rw [h1]; exact msk_cons.mpr (Or.inl e)
    · rw [if_neg (fun e => by have := hlow.mp e; rw [hb] at this; cases this), lt_eq, nI_1, nI_1]
      rw [hb, if_pos rfl] at hcnt
      obtain ⟨τ1, r1, r2, r3, r4⟩ := ih f (j + 1) (wr τ 6 x.1 (nI x.2)) (by omega) (by omega) (by rw [wr_o _ _ (by omega)]; exact h16) (by rw [wr_o _ _ (by omega)]; exact h6) (OP_eq (fun i _ => ⟨wr_o _ _ (by omega), wr_o _ _ (by omega)⟩) O)
      rw [hcnt, wr_o τ _ (by omega)] at r1
      refine ⟨τ1, r1, fun k i a => by rw [r2 k i a, wr_o _ _ (by omega)], fun i a d e => ?_, fun i a => ?_⟩
      · by_cases hne : i = x.1
        · subst hne
          rw [r4 x.1 (Or.inr (by rw [h1]; exact msk_cons.mpr (Or.inr rfl))), wr_at, hbx]
        · refine r3 i a ?_ e
          rw [h1, msk, or_tb, d]
          have hne2 : ¬ x.1 = i := fun e2 => hne e2.symm
          simp [hne2]
      · have hne : i ≠ x.1 := by
          rintro rfl
          rcases a with a | a
          · rw [hb] at a; cases a
          · rw [hx0] at a; cases a
        rw [r4 i (a.imp id (fun e => by rw [h1]; exact msk_cons.mpr (Or.inl e))), wr_o _ _ (by omega)]
end
