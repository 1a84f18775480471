/-! Shooting a day: the whole call. -/
def shP (P : PP) (T : Nat) (b : Od) : PP := fun k i => if k = 6 then (if i = 1 then P 6 1 ||| T else if i = 3 then P 6 3 + 1 else P 6 i) else if k = 5 then (if T.testBit i = true then bgn P b i else P 5 i) else P k i
theorem shP_o {P : PP} {T : Nat} {b : Od} {k i : Nat} (h : k ≠ 6) (h5 : k ≠ 5) : shP P T b k i = P k i := by
  unfold shP
  rw [if_neg h, if_neg h5]
theorem shP_5 {P : PP} {T : Nat} {b : Od} (i : Nat) : shP P T b 5 i = if T.testBit i = true then bgn P b i else P 5 i := rfl
theorem shP_Wf {P : PP} {w : Nat → Bool} {b : Od} (hW : Wf P) (hv : Vd P b) (hd : P 6 3 ≠ 1000) : Wf (shP P (tdy P w b) b) := by
  have hd4 := hW.2.2.2.2.1
  refine ⟨hW.1, fun i hi => ?_, Nat.or_lt_two_pow hW.2.2.1 (tdy_lt hW hv), hW.2.2.2.1, by show P 6 3 + 1 ≤ 1000; omega, fun i hi hb => ?_⟩
  · rw [shP_o (by decide) (by decide), shP_o (by decide) (by decide), shP_o (by decide) (by decide), shP_o (by decide) (by decide), shP_o (by decide) (by decide)]
    exact hW.2.1 i hi
  · have hb : (P 6 1 ||| tdy P w b).testBit i = true := hb
    have hi : i < P 6 0 := hi
    rw [shP_5, shP_o (k := 0) (by decide) (by decide), shP_o (k := 4) (by decide) (by decide)]
    show _ / 24 < P 6 3 + 1 ∧ _ ∧ ∀ j, _ → (P 6 1 ||| tdy P w b).testBit j = true
    cases hT : (tdy P w b).testBit i
    · rw [if_neg (by decide)]
      rw [Nat.testBit_or, hT, Bool.or_false] at hb
      have h := hW.2.2.2.2.2 i hi hb
      refine ⟨by omega, h.2.1, fun j hj => ?_⟩
      rw [Nat.testBit_or, h.2.2 j hj]
      rfl
    · rw [if_pos rfl]
      have h := tdy_in hv i hT
      have hG := (Gd_of hW hv).2 i h.1
      exact ⟨by omega, hG.2, fun j hj => tdy_ah hW hv i hT j hj⟩
theorem RM_plans {j : Nat} {σ σ1 τ τ1 : SS} (M : RM j σ τ) (hc : ∀ k i, k ≠ 10 → k ≠ 11 → k ≠ 12 → k ≠ 13 → k ≠ 1 → σ1 k i = σ k i) (hr : FrG τ τ1) : RM j σ1 τ1 :=
  RM_eq (fun k i h => hc k i (by unfold cM at h; omega) (by unfold cM at h; omega) (by unfold cM at h; omega) (by unfold cM at h; omega) (by unfold cM at h; omega)) (fun k i h => hr k i (by unfold rM at h; omega) (by unfold rM at h; omega) (by unfold rM at h; omega) (by unfold rM at h; omega) (by unfold rM at h; omega)) M
theorem st_shoot {j : Nat} (hj : j < 512) {σ τ : SS} (R : Rel j σ τ) (x1 : Int32) (hx1 : x1 = 0 ∨ x1 = 1) : ∃ r σ1 b τ1, X4_shoot σ x1 = some (r, σ1) ∧ X5_shoot τ x1 = some (b, τ1) ∧ Rel (j + 1) σ1 τ1 ∧ Agr ["java/lang/IllegalStateException"] r b (X5_thrown τ1) := by
  obtain ⟨P, hW, C, C2, M⟩ := R
  have hn := hW.1
  have hpw := pw_le hn
  have hd4 := hW.2.2.2.2.1
  have hdone := wf_done hW
  obtain ⟨σ1, h1, h2, h3, h4⟩ := planC_n hW C
  obtain ⟨τ1, g1, g2, g3, g4, g5⟩ := planR_n hW C2
  obtain ⟨b, hb, b1, b2, b3, b4⟩ := bst_some hW
  have M1 := RM_plans M h4 g5
  have RR : Rel j σ1 τ1 := rel_plans hW h2 g2 M h4 g5
  have M1' := M1
  obtain ⟨⟨⟨r, hr, e4, e11⟩, ⟨c, hc, e5, e12⟩, ⟨e6, e6'⟩, e27⟩, m5, m6, -⟩ := M1'
  obtain ⟨K1, K2⟩ := h3.2 b hb
  have O := g4.2 b hb
  have hl8 := len_8 hW b1
  obtain ⟨y, hy⟩ : ∃ y : Int32, y = if x1 = 0 then 0 else if σ1 0 6 = 0 then 1 else 0 := ⟨_, rfl⟩
  obtain ⟨w, hw⟩ : ∃ w : Nat → Bool, ∀ s, w s = (decide (y ≠ 0) && decide (X4_isIn (σ1 2 7) (nI (P 1 s)) ≠ 0)) := ⟨_, fun _ => rfl⟩
  have hw2 : ∀ s, w s = (decide (x1 ≠ 0) && decide (τ1 0 13 = 0) && decide (X4_isIn (τ1 0 9) (nI (P 1 s)) ≠ 0)) := by
    intro s
    rw [hw, ← e6, ← e27, hy]
    by_cases a : x1 = 0
    · simp [a]
    · by_cases a2 : σ1 0 6 = 0
      · simp [a, a2]
      · simp [a, a2]
  have hsC := shootC (w := w) hW b1 b3 h2.1.1 K1 K2 y hw
  have hsR := shootR (w := w) hW b1 g2.1 (by rw [g3, b3]) O hr e11 x1 hw2
  have hT := tdy_256 (w := w) hW b1
  have hTn := tdy_lt (w := w) hW b1
  have hin := tdy_in (w := w) b1
  have hWf := fun hd => shP_Wf (w := w) hW b1 hd
  have hH := hrs_le hW (tdy P w b)
  generalize tdy P w b = T at hsC hsR hT hTn hin hWf hH
  have hA : hrs P T * r ≤ 48 * 1000 := Nat.mul_le_mul hH hr
  have hcost : X3_hoursOf σ1 (nI T) = some (nI (hrs P T)) := hoursOf_n hW h2.1.1 hT
  generalize hrs P T = H at hsR hH hA hcost
  obtain ⟨cv, hcv⟩ : ∃ cv, cv = if σ1 0 6 = 0 then 0 else c := ⟨_, rfl⟩
  have hcv2 : cv ≤ 1000 := by rw [hcv]; split <;> omega
  have hC : X4_shoot σ x1 = X4_shoot_b60 σ1 (nI T) (nI (H * r)) (nI cv) := by
    unfold X4_shoot X4_shoot_b26
    rw [h1, Option.bind_some]
    have hyy : (if x1 = 0 then X4_shoot_b27 σ1 0 else if σ1 0 6 = 0 then X4_shoot_b27 σ1 1 else X4_shoot_b27 σ1 0) = X4_shoot_b27 σ1 y := by
      rw [hy]
      by_cases a : x1 = 0
      · rw [if_pos a, if_pos a]
      · rw [if_neg a, if_neg a]
        by_cases a2 : σ1 0 6 = 0
        · rw [if_pos a2, if_pos a2]
        · rw [if_neg a2, if_neg a2]
    rw [hyy]
    unfold X4_shoot_b27
    rw [hsC, Option.bind_some, hcost, Option.bind_some, e4, nI_mul, hcv]
    by_cases a2 : σ1 0 6 = 0
    · rw [if_pos a2, if_pos a2]; rfl
    · rw [if_neg a2, if_neg a2, e5]
  have hR : X5_shoot τ x1 = X5_shoot_b147 τ1 (nI (P 6 1 ||| T)) (nI (H * r)) (nI cv) := by
    unfold X5_shoot
    rw [g1, Option.bind_some, g2.1.2.1, hsR, hcv, ← e6]
    by_cases a2 : σ1 0 6 = 0
    · rw [if_pos a2, if_pos a2]; rfl
    · rw [if_neg a2, if_neg a2, e12]
  rw [hC, hR]
  obtain ⟨n0, -, -, -, k0, k0'⟩ := lack_n (by omega) m5 (i := 0) (a := H * r) (by omega) (by omega)
  obtain ⟨n1, -, -, -, k1, k1'⟩ := lack_n (by omega) m5 (i := 1) (a := cv) (by omega) (by omega)
  have k0a : X0_lackOf σ1 0 (nI (H * r)) = nI (H * r - n0) := k0
  have k0b : X5_lacks τ1 0 (nI (H * r)) = some (nI (H * r - n0)) := k0'
  have k1a : X0_lackOf σ1 1 (nI cv) = nI (cv - n1) := k1
  have k1b : X5_lacks τ1 1 (nI cv) = some (nI (cv - n1)) := k1'
  have he : X5_shoot_b181 τ1 (nI (P 6 1 ||| T)) (nI (H * r)) (nI cv) = some (0, wr τ1 0 35 1) := by
    unfold X5_shoot_b181 X5_shoot_b186
    rw [lt_eq, wr_at, if_neg (by decide)]
  unfold X4_shoot_b60 X5_shoot_b147 X4_shoot_b109
  rw [k0a, k1a, k0b, Option.bind_some, k1b, Option.bind_some, he, m6.1, h2.1.1.2.2.2.1, g2.1.2.2.2.1]
  by_cases hfee : τ1 0 22 < nI (H * r - n0) + nI (cv - n1)
  · rw [if_pos hfee, if_pos hfee]
    exact ⟨_, _, _, _, rfl, rfl, thr RR 1, agr_er rfl (thr_0 _ _) (by decide)⟩
  rw [if_neg hfee, if_neg hfee]
  by_cases hd : P 6 3 = 1000
  · rw [if_neg (by rw [hd]; decide), if_pos (by rw [hd]; rfl)]
    exact ⟨_, _, _, _, rfl, rfl, thr RR 1, agr_er rfl (thr_0 _ _) (by decide)⟩
  have hdl : nI (P 6 3) < 1000 := nI_lt (b := 1000) (by omega) (by decide)
  have hdn : ¬ nI (P 6 3) = 1000 := nI_ne (b := 1000) (by omega) (by decide) hd
  rw [if_pos hdl, if_neg hdn]
  have M2 : RM j σ1 (wr τ1 0 35 0) := RM_eq (fun _ _ _ => rfl) (fun k i h => wr_o _ _ (by unfold rM at h; omega)) M1
  obtain ⟨r0, σ2, τ2, p1, -, -, p4, p5, p6, p7⟩ := pay_n (by omega) M2 (i := 0) (a := H * r) (by omega) (by omega)
  obtain ⟨r1, σ3, τ3, q1, -, -, q4, q5, q6, q7⟩ := pay_n (by omega) p5 (i := 1) (a := cv) (by omega) (by omega)
  have p1' : X0_pay σ1 0 (nI (H * r)) = some (r0, σ2) := p1
  have q1' : X0_pay σ2 1 (nI cv) = some (r1, σ3) := q1
  have p4' : X5_pays (wr τ1 0 35 0) 0 (nI (H * r)) = some τ2 := p4
  have q4' : X5_pays τ2 1 (nI cv) = some τ3 := q4
  have F3 : ∀ k i, k ≠ 3 → k ≠ 14 → σ3 k i = σ1 k i := fun k i a d => (q6 k i a d).trans (p6 k i a d)
  have G3 : ∀ k i, k ≠ 11 → (k = 0 → (i < 22 ∨ 24 < i) ∧ i ≠ 35) → τ3 k i = τ1 k i := fun k i a d => by
    rw [q7 k i a (fun e => (d e).1), p7 k i a (fun e => (d e).1), wr_o _ _ (by omega)]
  have c25 : σ3 2 5 = nI (P 6 0) := by rw [F3 2 5 (by decide) (by decide)]; exact h2.1.1.1
  obtain ⟨σ4, s1, s2, s3, s4⟩ := endDay_n hn hT (P 6 0) fuel_X2_endDay_2 0 σ3 (by omega) (by show _ < 64; omega) c25
  have hTD : ∀ i, T.testBit i = true → (P 6 1).testBit i = false := fun i h => (hin i h).2.1
  obtain ⟨τ4, t1, t2, t3, t4⟩ := endR hW b1 hT hTD (own_AQ b1 (fun _ _ => rfl)) b.length fuel_X5_shoot_217 0 τ3 (by omega) (by show _ < 64; omega) (by rw [G3 0 16 (by decide) (by omega), g3, b3]) (by rw [G3 0 6 (by decide) (by omega)]; exact g2.1.2.1) (OP_eq (fun i _ => ⟨G3 7 i (by decide) (by omega), G3 8 i (by decide) (by omega)⟩) O)
  rw [sfx_0] at t1 t3 t4
  have hc0 : cnt P T [] = 0 := sm_0 (fun i _ => if_neg (fun e => by
    have := hTD i e.1
    have e2 : (P 6 1).testBit i = true := e.2
    rw [this] at e2
    cases e2))
  rw [hc0] at t1
  have hcb : J6_bitCount (nI T) = nI (cnt P T b) := by
    rw [bc_all T hT, sm_bits hn hTn]
    congr 1
    refine sm_congr (fun i hi => ?_)
    simp only [b4 i hi, and_true]
  have s1' : X2_endDay σ3 (nI T) = some (wr (wr (wr σ4 2 6 (σ3 2 6 ||| nI T)) 1 6 (σ3 1 6 + 1)) 1 7 0) := s1
  have t1' : X5_shoot_l217 fuel_X5_shoot_217 τ3 (nI (P 6 1 ||| T)) 0 0 = some (nI (cnt P T b), wr (wr (wr τ4 0 6 (nI (P 6 1 ||| T))) 0 10 (τ3 0 10 + 1)) 0 18 1) := t1
  have hrf : X5_shoot_b186 τ1 (nI (P 6 1 ||| T)) (nI (H * r)) (nI cv) 0 = some (nI (cnt P T b), wr (wr (wr τ4 0 6 (nI (P 6 1 ||| T))) 0 10 (τ3 0 10 + 1)) 0 18 1) := by
    unfold X5_shoot_b186
    rw [lt_eq, wr_at, if_pos (show (0 : Int32) ≤ 0 by decide), p4', Option.bind_some, q4', Option.bind_some]
    exact t1'
  rw [hrf, p1']
  simp only [bd2]
  rw [q1']
  simp only [s1', Option.bind_some]
  rw [hcb]
  have hlt8 : ∀ i, T.testBit i = true → i < P 6 0 := fun i h => by
    rcases Nat.lt_or_ge i (P 6 0) with q | q
    · exact q
    · rw [Nat.testBit_lt_two_pow (Nat.lt_of_lt_of_le hTn (Nat.pow_le_pow_right (by decide) q))] at h
      cases h
  have F4 : ∀ k i, k ≠ 11 → k ≠ 3 → k ≠ 14 → σ4 k i = σ1 k i := fun k i a d e => (s2 k i a).trans (F3 k i d e)
  have F5 : ∀ k i, k ≠ 11 → k ≠ 3 → k ≠ 14 → (k = 2 → i ≠ 6) → (k = 1 → i ≠ 6 ∧ i ≠ 7) → wr (wr (wr σ4 2 6 (σ3 2 6 ||| nI T)) 1 6 (σ3 1 6 + 1)) 1 7 0 k i = σ1 k i := fun k i a d e f1 f2 => by
    rw [wr_o _ _ (by omega), wr_o _ _ (by omega), wr_o _ _ (by omega)]
    exact F4 k i a d e
  have G5 : ∀ k i, k ≠ 6 → k ≠ 11 → (k = 0 → (i < 22 ∨ 24 < i) ∧ i ≠ 35 ∧ i ≠ 6 ∧ i ≠ 10 ∧ i ≠ 18) → wr (wr (wr τ4 0 6 (nI (P 6 1 ||| T))) 0 10 (τ3 0 10 + 1)) 0 18 1 k i = τ1 k i := fun k i a d e => by
    rw [wr_o _ _ (by omega), wr_o _ _ (by omega), wr_o _ _ (by omega), t2 k i a]
    exact G3 k i d (fun e2 => ⟨(e e2).1, (e e2).2.1⟩)
  refine ⟨_, _, _, _, rfl, rfl, ⟨shP P T b, hWf hd, ⟨⟨⟨?_, ?_, ?_, ?_, fun i hi => ?_⟩, trivial, fun i hi => ?_⟩, Or.inl ?_⟩, ⟨⟨?_, ?_, ?_, ?_, fun i hi => ?_, fun i hi => ?_⟩, fun h => ?_⟩, RM_up (RM_eq (fun k i h => ?_) (fun k i h => ?_) q5)⟩, agr_ok ?_⟩
  · rw [F5 2 5 (by decide) (by decide) (by decide) (by omega) (by omega)]; exact h2.1.1.1
  · rw [wr_o _ _ (by omega), wr_o _ _ (by omega), wr_at, F3 2 6 (by decide) (by decide), h2.1.1.2.1, nI_or]
    rfl
  · rw [F5 2 8 (by decide) (by decide) (by decide) (by omega) (by omega)]; exact h2.1.1.2.2.1
  · rw [wr_o _ _ (by omega), wr_at, F3 1 6 (by decide) (by decide), h2.1.1.2.2.2.1, nI_1]
    rfl
  · rw [F5 5 i (by decide) (by decide) (by decide) (by omega) (by omega), F5 6 i (by decide) (by decide) (by decide) (by omega) (by omega), F5 7 i (by decide) (by decide) (by decide) (by omega) (by omega), F5 8 i (by decide) (by decide) (by decide) (by omega) (by omega), F5 9 i (by decide) (by decide) (by decide) (by omega) (by omega), shP_o (by decide) (by decide), shP_o (by decide) (by decide), shP_o (by decide) (by decide), shP_o (by decide) (by decide), shP_o (by decide) (by decide)]
    exact h2.1.1.2.2.2.2 i hi
  · have hi : (P 6 1 ||| T).testBit i = true := hi
    rw [wr_o _ _ (by omega), wr_o _ _ (by omega), wr_o _ _ (by omega)]
    show σ4 11 i = nI (shP P T b 5 i)
    rw [shP_5]
    cases hTi : T.testBit i
    · rw [Nat.testBit_or, hTi, Bool.or_false] at hi
      rw [if_neg (by decide), s4 i (Or.inr hTi), F3 11 i (by decide) (by decide)]
      exact h2.1.2.2 i hi
    · rw [if_pos rfl, s3 i (by omega) (hlt8 i hTi) hTi, F3 13 i (by decide) (by decide)]
      exact K2 i (hin i hTi).1
  · exact wr_at _ _ _ _
  · rw [G5 0 0 (by decide) (by decide) (by omega)]; exact g2.1.1
  · rw [wr_o _ _ (by omega), wr_o _ _ (by omega), wr_at]
    rfl
  · rw [G5 0 8 (by decide) (by decide) (by omega)]; exact g2.1.2.2.1
  · rw [wr_o _ _ (by omega), wr_at, G3 0 10 (by decide) (by omega), g2.1.2.2.2.1, nI_1]
    rfl
  · rw [G5 1 i (by decide) (by decide) (by omega), G5 2 i (by decide) (by decide) (by omega), G5 3 i (by decide) (by decide) (by omega), G5 4 i (by decide) (by decide) (by omega), G5 5 i (by decide) (by decide) (by omega), shP_o (by decide) (by decide), shP_o (by decide) (by decide), shP_o (by decide) (by decide), shP_o (by decide) (by decide), shP_o (by decide) (by decide)]
    exact g2.1.2.2.2.2.1 i hi
  · have hi : (P 6 1 ||| T).testBit i = true := hi
    rw [wr_o _ _ (by omega), wr_o _ _ (by omega), wr_o _ _ (by omega), shP_5]
    cases hTi : T.testBit i
    · rw [Nat.testBit_or, hTi, Bool.or_false] at hi
      rw [if_neg (by decide), t4 i (Or.inl hTi), G3 6 i (by decide) (by omega)]
      exact g2.1.2.2.2.2.2 i hi
    · rw [if_pos rfl, t3 i hTi (hTD i hTi) (hin i hTi).1]
  · rw [wr_at] at h
    exact absurd h (by decide)
  · unfold cM at h
    rw [wr_o _ _ (by omega), wr_o _ _ (by omega), wr_o _ _ (by omega), s2 k i (by omega)]
  · unfold rM at h
    rw [wr_o _ _ (by omega), wr_o _ _ (by omega), wr_o _ _ (by omega), t2 k i (by omega)]
  · show wr (wr (wr τ4 0 6 (nI (P 6 1 ||| T))) 0 10 (τ3 0 10 + 1)) 0 18 1 0 35 = 0
    rw [wr_o _ _ (by omega), wr_o _ _ (by omega), wr_o _ _ (by omega), t2 0 35 (by decide), q7 0 35 (by decide) (by omega), p7 0 35 (by decide) (by omega), wr_at]
