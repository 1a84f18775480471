/-! Calls that ask for the plan. -/
theorem bc_all : ∀ s, s < 256 → J6_bitCount (nI s) = nI (sm 8 (fun i => if s.testBit i = true then 1 else 0)) := by decide +kernel
theorem sm_ext {n : Nat} {f : Nat → Nat} (h : ∀ i, n ≤ i → f i = 0) : ∀ k, sm (n + k) f = sm n f
  | 0 => rfl
  | k + 1 => by rw [← Nat.add_assoc, sm, sm_ext h k, h (n + k) (by omega), Nat.add_zero]
theorem sm_bits {m n : Nat} (hn : n ≤ 8) (hm : m < 2 ^ n) : sm 8 (fun i => if m.testBit i = true then 1 else 0) = sm n (fun i => if m.testBit i = true then 1 else 0) := by
  have h := sm_ext (n := n) (f := fun i => if m.testBit i = true then 1 else 0) (fun i hi => by
    have hb : m.testBit i = false := Nat.testBit_lt_two_pow (Nat.lt_of_lt_of_le hm (Nat.pow_le_pow_right (by decide) hi))
    simp only [hb, Bool.false_eq_true, if_false]) (8 - n)
  rw [← h, show n + (8 - n) = 8 by omega]
theorem sm_cpl (c : Nat → Prop) [DecidablePred c] : ∀ n, sm n (fun i => if c i then 0 else 1) + sm n (fun i => if c i then 1 else 0) = n
  | 0 => rfl
  | n + 1 => by
    have h := sm_cpl c n
    simp only [sm]
    by_cases e : c n
    · simp only [e, if_true]; omega
    · simp only [e, if_false]; omega
theorem open_n {P : PP} {σ : SS} (hW : Wf P) (B : BC P σ) : X3_countOpen σ = nI (rem P []) := by
  have hn := hW.1
  have hd := wf_done hW
  have h := sm_cpl (fun i => (P 6 1).testBit i = true) (P 6 0)
  have hr : rem P [] = sm (P 6 0) (fun i => if (P 6 1).testBit i = true then 0 else 1) := rfl
  unfold X3_countOpen
  rw [B.1, B.2.1, bc_all _ hd, sm_bits hn hW.2.2.1, nI_sub' (by omega)]
  congr 1
  omega
theorem srch_Cmp {P : PP} : ∀ {r : Nat} {o : Od} {a : Option Od} {b : Od}, srch P r o a = some b → a = some b ∨ Cmp P r o b
  | 0, o, a, b, h => by
    cases a with
    | none => exact Or.inr (Option.some.inj h).symm
    | some c =>
      change (if dys P o < dys P c then some o else some c) = some b at h
      split at h
      · exact Or.inr (Option.some.inj h).symm
      · exact Or.inl h
  | r + 1, o, a, b, h => by
    have key : ∀ (k c : Nat) (a : Option Od), c + k ≤ P 6 0 → fdl (fun s a => if canF P o s = true then srch P r ((s, plc P o s) :: o) a else a) k c a = some b → a = some b ∨ Cmp P (r + 1) o b := by
      intro k
      induction k with
      | zero => intro c a _ h; exact Or.inl h
      | succ k ih =>
        intro c a hc h
        rw [fdl] at h
        rcases ih (c + 1) _ (by omega) h with h1 | h1
        · by_cases hcf : canF P o c = true
          · rw [if_pos hcf] at h1
            rcases srch_Cmp h1 with h2 | h2
            · exact Or.inl h2
            · exact Or.inr ⟨c, by omega, hcf, h2⟩
          · rw [if_neg hcf] at h1
            exact Or.inl h1
        · exact Or.inr h1
    rw [srch] at h
    exact key (P 6 0) 0 a (by omega) h
theorem bst_some {P : PP} (hW : Wf P) : ∃ b, bst P = some b ∧ Vd P b ∧ rem P b = 0 ∧ b.length = rem P [] ∧ ∀ s, s < P 6 0 → (msk P b).testBit s = true := by
  obtain ⟨b, hb⟩ := srch_some hW
  have hc : Cmp P (rem P []) [] b := by
    rcases srch_Cmp hb with h | h
    · cases h
    · exact h
  have hv : Vd P b := Cmp_Vd (o := []) trivial hc
  have h1 := Cmp_rem hc
  have h2 := rem_len hv
  refine ⟨b, hb, hv, by omega, by omega, fun s hs => ?_⟩
  rw [(rem_0 hW hv).mp (by omega), Nat.testBit_two_pow_sub_one]
  exact decide_eq_true hs
theorem planC_n {P : PP} {σ : SS} (hW : Wf P) (C : PC P σ) : ∃ σ1, X2_makePlan σ = some σ1 ∧ PC P σ1 ∧ KeepC P (bst P) σ1 ∧ ∀ k i, k ≠ 10 → k ≠ 11 → k ≠ 12 → k ≠ 13 → k ≠ 1 → σ1 k i = σ k i := by
  obtain ⟨σ1, h1, h2, h3, h4, h5⟩ := plan_n hW C.1 C.2
  exact ⟨σ1, h1, ⟨h3, Or.inr ⟨h4, h5⟩⟩, h5, fun k i a b c d e => h2 k i a b c d (fun e2 => absurd e2 e)⟩
theorem planR_n {P : PP} {τ : SS} (hW : Wf P) (C : PR P τ) : ∃ τ1, X5_plans τ = some τ1 ∧ PR P τ1 ∧ τ1 0 16 = nI (rem P []) ∧ KeepR P (bst P) τ1 ∧ FrG τ τ1 := by
  obtain ⟨τ1, h1, h2, h3, h4, h5⟩ := plansR_n hW C.1 C.2
  exact ⟨τ1, h1, ⟨BR_eq (fun k i hk hi => h2 k i (by omega) (by omega) (by omega) (by omega) (fun e => by have := hi e; omega)) C.1, fun _ => ⟨h4, h5⟩⟩, h4, h5, h2⟩
theorem rel_plans {j : Nat} {P : PP} {σ σ1 τ τ1 : SS} (hW : Wf P) (C : PC P σ1) (C2 : PR P τ1) (M : RM j σ τ) (hc : ∀ k i, k ≠ 10 → k ≠ 11 → k ≠ 12 → k ≠ 13 → k ≠ 1 → σ1 k i = σ k i) (hr : FrG τ τ1) : Rel j σ1 τ1 :=
  ⟨P, hW, C, C2, RM_eq (fun k i h => hc k i (by unfold cM at h; omega) (by unfold cM at h; omega) (by unfold cM at h; omega) (by unfold cM at h; omega) (by unfold cM at h; omega)) (fun k i h => hr k i (by unfold rM at h; omega) (by unfold rM at h; omega) (by unfold rM at h; omega) (by unfold rM at h; omega) (by unfold rM at h; omega)) M⟩
theorem dac_R {P : PP} (hW : Wf P) : dacR P (bst P) = dac P (bst P) := by
  obtain ⟨b, hb, -⟩ := bst_some hW
  rw [hb]
  rfl
theorem st_days {j : Nat} (hj : j < 512) {σ τ : SS} (R : Rel j σ τ) : ∃ r σ1 τ1, X4_days σ = some (r, σ1) ∧ X5_days τ = some (r, τ1) ∧ Rel (j + 1) σ1 τ1 := by
  obtain ⟨P, hW, C, C2, M⟩ := thr R 0
  obtain ⟨σ1, h1, h2, h3, h4⟩ := planC_n hW C
  obtain ⟨τ1, g1, g2, g3, g4, g5⟩ := planR_n hW C2
  unfold X4_days X5_days
  rw [h1, Option.bind_some, lt_eq, g1, Option.bind_some, h3.1, g4.1, dac_R hW]
  exact ⟨_, _, _, rfl, rfl, rel_plans hW h2 g2 M h4 g5⟩
theorem st_daysByAll {j : Nat} (hj : j < 512) {σ τ : SS} (R : Rel j σ τ) : ∃ r σ1 b τ1, X4_daysByAll σ = some (r, σ1) ∧ X5_daysByAll τ = some (b, τ1) ∧ Rel (j + 1) σ1 τ1 ∧ Agr ["java/lang/IllegalStateException"] r b (X5_thrown τ1) := by
  obtain ⟨P, hW, C, C2, M⟩ := R
  have hr8 := rem_8 hW []
  obtain ⟨τ1, g1, g2, g3, g4, g5⟩ := planR_n hW C2
  have hR : ∀ x, Rel (j + 1) σ (wr τ1 0 35 x) := fun x => thr (rel_plans hW C g2 M (fun _ _ _ _ _ _ _ => rfl) g5) x
  unfold X4_daysByAll X5_daysByAll X5_daysByAll_b19
  rw [g1, Option.bind_some, g3, open_n hW C.1.1]
  by_cases h : nI (rem P []) ≤ 6
  · obtain ⟨σ1, h1, h2, h3⟩ := fewest_n hW C.1
    rw [if_pos h, if_pos h, h1, lt_eq, wr_at, if_pos (show (0 : Int32) ≤ 0 by decide), wr_o _ _ (by omega), g4.1, dac_R hW]
    simp only [bd2]
    refine ⟨_, _, _, _, rfl, rfl, ?_, agr_ok (thr_0 _ _)⟩
    have hPC : PC P σ1 := by
      refine ⟨h3, ?_⟩
      unfold PlC
      rw [h2 1 7 (by decide) (by decide)]
      rcases C.2 with e | ⟨e, K⟩
      · exact Or.inl e
      · exact Or.inr ⟨e, KeepC_eq (h2 1 5 (by decide) (by decide)) (fun i => h2 12 i (by decide) (by decide)) (fun i => h2 13 i (by decide) (by decide)) K⟩
    exact thr (rel_plans hW hPC g2 M (fun k i a b _ _ _ => h2 k i a b) g5) 0
  · rw [if_neg h, if_neg h, lt_eq, wr_at, if_neg (by decide)]
    exact ⟨_, _, _, _, rfl, rfl, hR 1, agr_er rfl (thr_0 _ _) (by decide)⟩
theorem OK_OP {σ τ : SS} : ∀ {b : Od}, OK σ b → OP τ b → ∀ i, i < b.length → σ 12 i = τ 7 i
  | [], _, _, i, hi => absurd hi (by simp)
  | x :: t, h1, h2, i, hi => by
    by_cases e : i = t.length
    · subst e
      rw [h1.1, h2.1.1]
    · exact OK_OP h1.2 h2.2 i (by rw [List.length_cons] at hi; omega)
theorem ask_in {x : Int32} {n : Nat} (hn : n < 2 ^ 31) (h : ¬ X4_isWithin x 0 (nI n - 1) = 0) : ∃ i, i < n ∧ x = nI i := by
  have h0 : n ≠ 0 := by
    rintro rfl
    rw [win_iff, Int32.lt_iff_toInt_lt, Int32.lt_iff_toInt_lt, show (nI 0 - 1).toInt = -1 by decide, show (0 : Int32).toInt = 0 by decide] at h
    omega
  rw [il1, nI_sub' (by omega)] at h
  obtain ⟨i, hi, rfl⟩ := inn (n := n - 1) (by omega) h
  exact ⟨i, by omega, rfl⟩
theorem st_planned {j : Nat} (hj : j < 512) {σ τ : SS} (R : Rel j σ τ) (x1 : Int32) : ∃ r σ1 b τ1, X4_planned σ x1 = some (r, σ1) ∧ X5_planned τ x1 = some (b, τ1) ∧ Rel (j + 1) σ1 τ1 ∧ Agr ["java/lang/IndexOutOfBoundsException"] r b (X5_thrown τ1) := by
  obtain ⟨P, hW, C, C2, M⟩ := R
  have hr8 := rem_8 hW []
  obtain ⟨τ1, g1, g2, g3, g4, g5⟩ := planR_n hW C2
  unfold X4_planned X5_planned X5_planned_b24
  rw [g1, Option.bind_some, g3, open_n hW C.1.1, isIn_w]
  by_cases h : X4_isWithin x1 0 (nI (rem P []) - 1) = 0
  · rw [if_pos h, if_pos h, lt_eq, wr_at, if_neg (by decide)]
    exact ⟨_, _, _, _, rfl, rfl, thr (rel_plans hW C g2 M (fun _ _ _ _ _ _ _ => rfl) g5) 1, agr_er rfl (thr_0 _ _) (by decide)⟩
  · obtain ⟨σ1, h1, h2, h3, h4⟩ := planC_n hW C
    obtain ⟨b, hb, b1, b2, b3, b4⟩ := bst_some hW
    rw [if_neg h, if_neg h]
    obtain ⟨i, hi, rfl⟩ := ask_in (by omega) h
    have hc : (nI i).toNatClampNeg = i := clamp_n (by omega)
    have g := gd_c (n := 8) (i := i) (by omega) (by decide)
    rw [h1, Option.bind_some, lt_eq, wr_at, if_pos (show (0 : Int32) ≤ 0 by decide)]
    simp only [hc, g, not_false_eq_true, if_true]
    rw [fat_n σ1 12 (by omega) (by decide), wr_o _ _ (by omega), OK_OP (h3.2 b hb).1 (g4.2 b hb) i (by omega)]
    exact ⟨_, _, _, _, rfl, rfl, thr (rel_plans hW h2 g2 M h4 g5) 0, agr_ok (thr_0 _ _)⟩
theorem sfxP_succ {P : PP} {τ : SS} : ∀ {o : Od} {j : Nat}, OP τ o → Vd P o → j < o.length → ∃ x, sfx o (j + 1) = x :: sfx o j ∧ τ 7 j = nI x.1 ∧ τ 8 j = nI x.2 ∧ Vd P (x :: sfx o j)
  | [], j, _, _, h => absurd h (by simp)
  | x :: t, j, ho, hv, h => by
    rw [List.length_cons] at h
    by_cases hj : j = t.length
    · subst hj
      refine ⟨x, ?_, ho.1.1, ho.1.2, ?_⟩
      · rw [sfx, if_pos (by omega), sfx, if_neg (by omega), sfx_len]
      · rw [sfx, if_neg (by omega), sfx_len]; exact hv
    · obtain ⟨y, h1, h2⟩ := sfxP_succ (o := t) (j := j) ho.2 hv.1 (by omega)
      refine ⟨y, ?_, ?_⟩
      · rw [sfx, if_neg (by omega), sfx, if_neg (by omega)]; exact h1
      · rw [sfx, if_neg (by omega)]; exact h2
theorem begR_loop {P : PP} {τ : SS} {b : Od} (hW : Wf P) (hv : Vd P b) (h16 : τ 0 16 = nI b.length) (O : OP τ b) {s : Nat} (hs : s < P 6 0) (hm : (msk P b).testBit s = true) : ∀ k fuel j v, j + k = b.length → k < fuel → ((msk P (sfx b j)).testBit s = true → v = nI (bgn P (sfx b j) s)) → X5_begins_l45 fuel τ (nI s) v (nI j) = some (nI (bgn P b s), τ) := by
  have hn := hW.1
  have hl8 := len_8 hW hv
  intro k
  induction k with
  | zero =>
    intro fuel j v hj hf hvv
    obtain ⟨f, rfl⟩ : ∃ f, fuel = f + 1 := ⟨fuel - 1, by omega⟩
    obtain rfl : j = b.length := by omega
    rw [sfx_len] at hvv
    rw [X5_begins_l45, h16, if_pos (nI_le (by omega) (by omega)), hvv hm]
  | succ k ih =>
    intro fuel j v hj hf hvv
    obtain ⟨f, rfl⟩ : ∃ f, fuel = f + 1 := ⟨fuel - 1, by omega⟩
    obtain ⟨x, h1, h2, h3, h4⟩ := sfxP_succ (j := j) O hv (by omega)
    have hx := h4.2.1
    have hjc : (nI j).toNatClampNeg = j := clamp_n (by omega)
    have g8 := gd_c (n := 8) (i := j) (by omega) (by decide)
    rw [X5_begins_l45, h16, if_neg (nI_ge (by omega) (by omega))]
    unfold X5_begins_b73
    simp only [hjc, g8, not_false_eq_true, if_true]
    rw [h2, h3, nI_1]
    by_cases e : x.1 = s
    · rw [if_pos (by rw [e])]
      refine ih f (j + 1) _ (by omega) (by omega) (fun _ => ?_)
      rw [h1, ← e, bgn_eq]
    · rw [if_neg (nI_ne (by omega) (by omega) e)]
      refine ih f (j + 1) _ (by omega) (by omega) (fun hm1 => ?_)
      rw [h1] at hm1 ⊢
      rw [bgn_ne (fun e2 => e e2.symm)]
      exact hvv ((msk_cons.mp hm1).resolve_right (fun e2 => e e2.symm))
theorem st_begins {j : Nat} (hj : j < 512) {σ τ : SS} (R : Rel j σ τ) (x1 : Int32) : ∃ r σ1 b τ1, X4_begins σ x1 = some (r, σ1) ∧ X5_begins τ x1 = some (b, τ1) ∧ Rel (j + 1) σ1 τ1 ∧ Agr ["java/lang/IndexOutOfBoundsException"] r b (X5_thrown τ1) := by
  obtain ⟨P, hW, C, C2, M⟩ := R
  have hn := hW.1
  obtain ⟨τ1, g1, g2, g3, g4, g5⟩ := planR_n hW C2
  unfold X4_begins X5_begins X5_begins_b24
  rw [g1, Option.bind_some, g2.1.1, C.1.1.1, isIn_w]
  by_cases h : X4_isWithin x1 0 (nI (P 6 0) - 1) = 0
  · rw [if_pos h, if_pos h, lt_eq, wr_at, if_neg (by decide)]
    exact ⟨_, _, _, _, rfl, rfl, thr (rel_plans hW C g2 M (fun _ _ _ _ _ _ _ => rfl) g5) 1, agr_er rfl (thr_0 _ _) (by decide)⟩
  · obtain ⟨σ1, h1, h2, h3, h4⟩ := planC_n hW C
    obtain ⟨b, hb, b1, b2, b3, b4⟩ := bst_some hW
    have hr8 := len_8 hW b1
    rw [if_neg h, if_neg h]
    obtain ⟨i, hi, rfl⟩ := ask_in (by omega) h
    have hc : (nI i).toNatClampNeg = i := clamp_n (by omega)
    have g := gd_c (n := 8) (i := i) (by omega) (by decide)
    rw [h1, Option.bind_some, lt_eq, wr_at, if_pos (show (0 : Int32) ≤ 0 by decide)]
    simp only [hc, g, not_false_eq_true, if_true]
    have hO : OP (wr τ1 0 35 0) b := OP_eq (fun i _ => ⟨wr_o _ _ (by omega), wr_o _ _ (by omega)⟩) (g4.2 b hb)
    have hlp := begR_loop (τ := wr τ1 0 35 0) hW b1 (by rw [wr_o _ _ (by omega), g3, b3]) hO hi (b4 i hi) b.length fuel_X5_begins_45 0 (wr τ1 0 35 0 6 i) (by omega) (by show _ < 64; omega) (fun hm => by
      rw [sfx_0] at hm ⊢
      rw [wr_o _ _ (by omega)]
      exact g2.1.2.2.2.2.2 i hm)
    rw [show X5_begins_l45 fuel_X5_begins_45 (wr τ1 0 35 0) (nI i) (wr τ1 0 35 0 6 i) 0 = some (nI (bgn P b i), wr τ1 0 35 0) from hlp, fat_n σ1 13 (by omega) (by decide), (h3.2 b hb).2 i (b4 i hi)]
    exact ⟨_, _, _, _, rfl, rfl, thr (rel_plans hW h2 g2 M h4 g5) 0, agr_ok (thr_0 _ _)⟩
