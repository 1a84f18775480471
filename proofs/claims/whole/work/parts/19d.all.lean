/-! The reference's planner: all orders in one loop. -/
def dacR (P : PP) : Option Od → Nat
  | none => 1000000
  | some o => dys P o
/-- rows 7 and 8 show an order -/
def OP (τ : SS) : Od → Prop
  | [] => True
  | x :: t => (τ 7 t.length = nI x.1 ∧ τ 8 t.length = nI x.2) ∧ OP τ t
def KeepR (P : PP) (a : Option Od) (τ : SS) : Prop := τ 0 17 = nI (dacR P a) ∧ ∀ b, a = some b → OP τ b
/-- what the loop leaves alone -/
def FrF (τ τ1 : SS) : Prop := ∀ k i, k ≠ 7 → k ≠ 8 → k ≠ 9 → k ≠ 10 → ¬ (k = 0 ∧ i = 17) → τ1 k i = τ k i
def Bd : Nat → Nat
  | 0 => 0
  | r + 1 => 9 + 8 * Bd r
section
variable {P : PP} {τ : SS} {o : Od}
theorem FrF.refl : FrF τ τ := fun _ _ _ _ _ _ _ => rfl
theorem FrF.trans {τ1 τ2 : SS} (h1 : FrF τ τ1) (h2 : FrF τ1 τ2) : FrF τ τ2 := fun k i a b c d e => (h2 k i a b c d e).trans (h1 k i a b c d e)
theorem BR_eq {τ1 : SS} (h : ∀ k i, k ≤ 6 → (k = 0 → i ≤ 10) → τ1 k i = τ k i) (B : BR P τ) : BR P τ1 := by
  refine ⟨by rw [h 0 0 (by decide) (by omega)]; exact B.1, by rw [h 0 6 (by decide) (by omega)]; exact B.2.1, by rw [h 0 8 (by decide) (by omega)]; exact B.2.2.1, by rw [h 0 10 (by decide) (by omega)]; exact B.2.2.2.1, fun i hi => ?_, fun i hi => ?_⟩
  · rw [h 1 i (by decide) (by omega), h 2 i (by decide) (by omega), h 3 i (by decide) (by omega), h 4 i (by decide) (by omega), h 5 i (by decide) (by omega)]
    exact B.2.2.2.2.1 i hi
  · rw [h 6 i (by decide) (by omega)]
    exact B.2.2.2.2.2 i hi
theorem BR_fr {τ1 : SS} (h : FrF τ τ1) (B : BR P τ) : BR P τ1 := BR_eq (fun k i hk hi => h k i (by omega) (by omega) (by omega) (by omega) (by omega)) B
theorem OR_eq {τ1 : SS} : ∀ {o : Od}, (∀ i, i < o.length → τ1 9 i = τ 9 i ∧ τ1 10 i = τ 10 i) → OR τ o → OR τ1 o
  | [], _, _ => trivial
  | x :: t, h, ho => ⟨⟨by rw [(h t.length (by simp)).1]; exact ho.1.1, by rw [(h t.length (by simp)).2]; exact ho.1.2⟩, OR_eq (fun i hi => h i (by simp; omega)) ho.2⟩
theorem OP_eq {τ1 : SS} : ∀ {o : Od}, (∀ i, i < o.length → τ1 7 i = τ 7 i ∧ τ1 8 i = τ 8 i) → OP τ o → OP τ1 o
  | [], _, _ => trivial
  | x :: t, h, ho => ⟨⟨by rw [(h t.length (by simp)).1]; exact ho.1.1, by rw [(h t.length (by simp)).2]; exact ho.1.2⟩, OP_eq (fun i hi => h i (by simp; omega)) ho.2⟩
theorem OP_OR {τ1 : SS} : ∀ {o : Od}, (∀ i, i < o.length → τ1 7 i = τ 9 i ∧ τ1 8 i = τ 10 i) → OR τ o → OP τ1 o
  | [], _, _ => trivial
  | x :: t, h, ho => ⟨⟨by rw [(h t.length (by simp)).1]; exact ho.1.1, by rw [(h t.length (by simp)).2]; exact ho.1.2⟩, OP_OR (fun i hi => h i (by simp; omega)) ho.2⟩
theorem KeepR_eq {τ1 : SS} {a : Option Od} (h0 : τ1 0 17 = τ 0 17) (h7 : ∀ i, τ1 7 i = τ 7 i) (h8 : ∀ i, τ1 8 i = τ 8 i) (K : KeepR P a τ) : KeepR P a τ1 :=
  ⟨by rw [h0]; exact K.1, fun b hb => OP_eq (fun i _ => ⟨h7 i, h8 i⟩) (K.2 b hb)⟩
theorem Bd_le : ∀ r, r ≤ 8 → Bd r ≤ 21570705 := by decide +kernel
theorem keeps_loop (m : Nat) (hm : m ≤ 8) : ∀ k fuel c τ, c + k = m → k < fuel → τ 0 16 = nI m → ∃ τ1, X5_keeps_l2 fuel τ (nI c) = some τ1 ∧ (∀ k i, k ≠ 7 → k ≠ 8 → τ1 k i = τ k i) ∧ (∀ i, i < c → τ1 7 i = τ 7 i ∧ τ1 8 i = τ 8 i) ∧ ∀ i, c ≤ i → i < m → τ1 7 i = τ 9 i ∧ τ1 8 i = τ 10 i := by
  intro k
  induction k with
  | zero =>
    intro fuel c τ hc hf h16
    obtain ⟨f, rfl⟩ : ∃ f, fuel = f + 1 := ⟨fuel - 1, by omega⟩
    rw [X5_keeps_l2, h16, if_pos (nI_le (by omega) (by omega))]
    exact ⟨τ, rfl, fun _ _ _ _ => rfl, fun _ _ => ⟨rfl, rfl⟩, fun i h1 h2 => by omega⟩
  | succ k ih =>
    intro fuel c τ hc hf h16
    obtain ⟨f, rfl⟩ : ∃ f, fuel = f + 1 := ⟨fuel - 1, by omega⟩
    have hcc : (nI c).toNatClampNeg = c := clamp_n (by omega)
    have g9 := gd_c (n := 9) (i := c) (by omega) (by decide)
    have g8 := gd_c (n := 8) (i := c) (by omega) (by decide)
    rw [X5_keeps_l2, h16, if_neg (nI_ge (by omega) (by omega))]
    simp only [hcc, g9, g8, not_false_eq_true, if_true]
    rw [lt_eq, lt_eq, nI_1]
    obtain ⟨τ1, h1, h2, h3, h4⟩ := ih f (c + 1) (wr (wr τ 7 c (τ 9 c)) 8 c ((wr τ 7 c (τ 9 c)) 10 c)) (by omega) (by omega) (by simp [wr_app, h16])
    refine ⟨τ1, h1, fun k i a b => by rw [h2 k i a b, wr_ne _ _ _ _ _ b, wr_ne _ _ _ _ _ a], fun i hi => ?_, fun i ha hb => ?_⟩
    · have hic : i ≠ c := by omega
      rw [(h3 i (by omega)).1, (h3 i (by omega)).2]
      simp [wr_app, hic]
    · by_cases hic : i = c
      · subst hic
        rw [(h3 i (by omega)).1, (h3 i (by omega)).2]
        simp [wr_app]
      · rw [(h4 i (by omega) hb).1, (h4 i (by omega) hb).2]
        simp [wr_app]
theorem keeps_n {m : Nat} (hm : m ≤ 8) (h16 : τ 0 16 = nI m) : ∃ τ1, X5_keeps τ = some τ1 ∧ (∀ k i, k ≠ 7 → k ≠ 8 → τ1 k i = τ k i) ∧ ∀ i, i < m → τ1 7 i = τ 9 i ∧ τ1 8 i = τ 10 i := by
  obtain ⟨τ1, h1, h2, -, h4⟩ := keeps_loop m hm m fuel_X5_keeps_2 0 τ (by omega) (by show _ < 64; omega) h16
  exact ⟨τ1, h1, h2, fun i hi => h4 i (Nat.zero_le _) hi⟩
theorem SR_put (S : SR P o τ) (s b : Nat) : SR P ((s, b) :: o) (wr (wr τ 9 o.length (nI s)) 10 o.length (nI b)) := by
  refine ⟨BR_eq (fun k i hk _ => ?_) S.1, ⟨⟨?_, wr_at _ _ _ _⟩, OR_eq (fun i hi => ⟨?_, ?_⟩) S.2⟩⟩
  · rw [wr_ne _ _ _ _ _ (by omega), wr_ne _ _ _ _ _ (by omega)]
  · rw [wr_ne _ _ _ _ _ (by decide), wr_at]
  · rw [wr_ne _ _ _ _ _ (by decide), wr_ni _ _ _ (by omega)]
  · rw [wr_ni _ _ _ (by omega), wr_ne _ _ _ _ _ (by decide)]
theorem SR_row (S : SR P o τ) {j : Nat} (hj : o.length ≤ j) (x : Int32) : SR P o (wr τ 9 j x) := by
  refine ⟨BR_eq (fun k i hk _ => wr_ne _ _ _ _ _ (by omega)) S.1, OR_eq (fun i hi => ⟨wr_ni _ _ _ (by omega), wr_ne _ _ _ _ _ (by decide)⟩) S.2⟩
theorem SR_rowS (S : SR P o τ) {j : Nat} (hj : o.length ≤ j) (x : Int32) : SR P o (wr τ 10 j x) := by
  refine ⟨BR_eq (fun k i hk _ => wr_ne _ _ _ _ _ (by omega)) S.1, OR_eq (fun i hi => ⟨wr_ne _ _ _ _ _ (by decide), wr_ni _ _ _ (by omega)⟩) S.2⟩
theorem SR_17 (S : SR P o τ) (x : Int32) : SR P o (wr τ 0 17 x) := by
  refine ⟨BR_eq (fun k i hk h => ?_) S.1, OR_eq (fun i hi => ⟨wr_ne _ _ _ _ _ (by decide), wr_ne _ _ _ _ _ (by decide)⟩) S.2⟩
  by_cases e : k = 0
  · subst e
    exact wr_ni _ _ _ (by have := h rfl; omega)
  · exact wr_ne _ _ _ _ _ e
theorem SR_78 {τ1 : SS} (h : ∀ k i, k ≠ 7 → k ≠ 8 → τ1 k i = τ k i) (S : SR P o τ) : SR P o τ1 :=
  ⟨BR_eq (fun k i hk _ => h k i (by omega) (by omega)) S.1, OR_eq (fun i _ => ⟨h 9 i (by decide) (by decide), h 10 i (by decide) (by decide)⟩) S.2⟩
theorem FrF_9 (j : Nat) (x : Int32) : FrF τ (wr τ 9 j x) := fun k i _ _ a _ _ => wr_ne _ _ _ _ _ a
theorem FrF_10 (j : Nat) (x : Int32) : FrF τ (wr τ 10 j x) := fun k i _ _ _ a _ => wr_ne _ _ _ _ _ a
theorem FrF_17 (x : Int32) : FrF τ (wr τ 0 17 x) := fun k i _ _ _ _ a => by
  rw [wr_app]
  by_cases e : k = 0
  · subst e
    rw [if_pos rfl, if_neg (by omega)]
  · rw [if_neg e]
theorem FrF_78 {τ1 : SS} (h : ∀ k i, k ≠ 7 → k ≠ 8 → τ1 k i = τ k i) : FrF τ τ1 := fun k i a b _ _ _ => h k i a b
theorem KeepR_9 {a : Option Od} (K : KeepR P a τ) (j : Nat) (x : Int32) : KeepR P a (wr τ 9 j x) := KeepR_eq (wr_ne _ _ _ _ _ (by decide)) (fun _ => wr_ne _ _ _ _ _ (by decide)) (fun _ => wr_ne _ _ _ _ _ (by decide)) K
theorem KeepR_10 {a : Option Od} (K : KeepR P a τ) (j : Nat) (x : Int32) : KeepR P a (wr τ 10 j x) := KeepR_eq (wr_ne _ _ _ _ _ (by decide)) (fun _ => wr_ne _ _ _ _ _ (by decide)) (fun _ => wr_ne _ _ _ _ _ (by decide)) K
theorem dacR_le {a : Option Od} {o : Od} (hW : Wf P) (hv : Vd P o) (hA : dac P a ≤ 9) : (dacR P a ≤ dys P o → dac P a ≤ dys P o) ∧ dacR P a ≤ 1000000 := by
  have h8 := dys_8 hW hv
  cases a with
  | none => exact ⟨fun h => by have h : 1000000 ≤ dys P o := h; omega, Nat.le_refl _⟩
  | some b => exact ⟨fun h => h, by have hA : dys P b ≤ 9 := hA; show dys P b ≤ _; omega⟩
theorem nI_m1 (n : Nat) : nI (n + 1) + -1 = nI n := by
  rw [← nI_1, Int32.add_assoc, show (1 : Int32) + -1 = 0 by decide, Int32.add_zero]
theorem find_n (hW : Wf P) : ∀ (r : Nat) {o : Od} {a : Option Od} {τ : SS}, Vd P o → rem P o = r + 1 → SR P o τ → τ 9 o.length + 1 = nI 0 → τ 0 16 = nI (rem P []) → KeepR P a τ → dac P a ≤ 9 →
    ∃ m τ1, m ≤ Bd (r + 1) ∧ (∀ f, X5_finds_l83 (f + m) τ (nI o.length) = X5_finds_l83 f τ1 (nI o.length + -1)) ∧ FrF τ τ1 ∧ SR P o τ1 ∧ KeepR P (srch P (r + 1) o a) τ1 := by
  have hn := hW.1
  have hr8 := rem_8 hW []
  intro r
  induction r using Nat.strongRecOn with
  | _ r ih =>
    intro o a τ hv hr S h9 h16 K hA
    have hl := len_lt hW hv (by omega)
    have hrl := rem_len hv
    have hlc : (nI o.length).toNatClampNeg = o.length := clamp_n (by omega)
    have g9 := gd_c (n := 9) (i := o.length) (by omega) (by decide)
    have key : ∀ k c τ b, c + k = P 6 0 → SR P o τ → τ 9 o.length + 1 = nI c → τ 0 16 = nI (rem P []) → KeepR P b τ → dac P b ≤ 9 →
        ∃ m τ1, m ≤ 1 + k * (1 + Bd r) ∧ (∀ f, X5_finds_l83 (f + m) τ (nI o.length) = X5_finds_l83 f τ1 (nI o.length + -1)) ∧ FrF τ τ1 ∧ SR P o τ1 ∧ KeepR P (fdl (fun s a => if canF P o s = true then srch P r ((s, plc P o s) :: o) a else a) k c b) τ1 := by
      intro k
      induction k with
      | zero =>
        intro c τ b hc S h9 h16 K hA
        refine ⟨1, wr τ 9 o.length (nI c), by omega, fun f => ?_, FrF_9 _ _, SR_row S (Nat.le_refl _) _, KeepR_9 K _ _⟩
        rw [X5_finds_l83, if_neg (nI_pos (by omega))]
        simp only [hlc, g9, not_false_eq_true, if_true]
        rw [lt_eq, h9, wr_at, wr_ne _ _ _ _ _ (by decide), S.1.1, if_neg (nI_nlt (by omega) (by omega))]
      | succ k ih2 =>
        intro c τ b hc S h9 h16 K hA
        have hs : c < P 6 0 := by omega
        have S13 := SR_row S (Nat.le_refl _) (nI c)
        have F13 := FrF_9 (τ := τ) o.length (nI c)
        have K13 := KeepR_9 K o.length (nI c)
        have h13 : wr τ 9 o.length (nI c) 9 o.length = nI c := wr_at _ _ _ _
        have m13 : wr τ 9 o.length (nI c) 0 16 = nI (rem P []) := by rw [wr_ne _ _ _ _ _ (by decide)]; exact h16
        obtain ⟨q, hq1, hq2⟩ := may_n hW hv S13 hs hl h13
        have turn : ∀ f, X5_finds_l83 (f + 1) τ (nI o.length) = if q = 0 then X5_finds_l83 f (wr τ 9 o.length (nI c)) (nI o.length) else (X5_begin (wr τ 9 o.length (nI c)) (nI o.length)).bind (fun r_18 => (lt (wr (wr τ 9 o.length (nI c)) 10 o.length r_18) (fun σ_20 => (if (σ_20 0 17) ≤ ((((σ_20 10 o.length) / (24 : Int32)) - (σ_20 0 10)) + (1 : Int32)) then (X5_finds_b182 (X5_finds_l83 f) σ_20 (nI o.length) ((((σ_20 10 o.length) / (24 : Int32)) - (σ_20 0 10)) + (1 : Int32))) else (if (nI o.length + (1 : Int32)) = (σ_20 0 16) then (lt (wr σ_20 0 17 ((((σ_20 10 o.length) / (24 : Int32)) - (σ_20 0 10)) + (1 : Int32))) (fun σ_24 => ((X5_keeps σ_24).bind (fun σ_25 => (X5_finds_b200 (X5_finds_l83 f) σ_25 (nI o.length)))))) else (X5_finds_b182 (X5_finds_l83 f) σ_20 (nI o.length) ((((σ_20 10 o.length) / (24 : Int32)) - (σ_20 0 10)) + (1 : Int32)))))))) := by
          intro f
          rw [X5_finds_l83, if_neg (nI_pos (by omega))]
          simp only [hlc, g9, not_false_eq_true, if_true]
          rw [lt_eq, h9, wr_at, wr_ne _ _ _ _ _ (by decide), S.1.1, if_pos (nI_lt hs (by omega)), hq1, Option.bind_some]
        by_cases hcf : canF P o c = true
        · have hq : ¬ q = 0 := fun e => hq2.mp e hcf
          have hv1 : Vd P ((c, plc P o c) :: o) := ⟨hv, hs, hcf, rfl⟩
          have hr1 : rem P ((c, plc P o c) :: o) = r := by
            have := rem_cons (x := (c, plc P o c)) hs hcf
            omega
          have hb8 := dys_8 hW hv1
          have hbx := bgn_x hW hv1
          have hG1 : P 6 3 ≤ (c, plc P o c).2 / 24 := (Gd_of hW hv1).1
          have S20 := SR_put S c (plc P o c)
          have F20 : FrF τ (wr (wr τ 9 o.length (nI c)) 10 o.length (nI (plc P o c))) := F13.trans (FrF_10 _ _)
          have K20 := KeepR_10 K13 o.length (nI (plc P o c))
          have m20 : wr (wr τ 9 o.length (nI c)) 10 o.length (nI (plc P o c)) 0 16 = nI (rem P []) := by rw [wr_ne _ _ _ _ _ (by decide)]; exact m13
          have turn2 := fun f => (turn f).trans (by rw [if_neg hq, begin_n hW hv S13 hs hl h13, Option.bind_some, lt_eq])
          generalize wr (wr τ 9 o.length (nI c)) 10 o.length (nI (plc P o c)) = σ at S20 F20 K20 m20 turn2
          have hD : (((σ 10 o.length) / (24 : Int32)) - (σ 0 10)) + (1 : Int32) = nI (dys P ((c, plc P o c) :: o)) := by
            rw [S20.2.1.2, S20.1.2.2.2.1, il24, nI_div (by dsimp only at hbx ⊢; omega) (by decide) (by decide), nI_sub' hG1, nI_1]
            rfl
          rw [hD, K20.1, m20, nI_1] at turn2
          have hA1 : (dacR P b ≤ dys P ((c, plc P o c) :: o) → dac P b ≤ dys P ((c, plc P o c) :: o)) ∧ dacR P b ≤ 1000000 := dacR_le hW hv1 hA
          rw [fdl, if_pos hcf]
          by_cases hle : dacR P b ≤ dys P ((c, plc P o c) :: o)
          · have hid : srch P r ((c, plc P o c) :: o) b = b := srch_id hW hv1 (fun o1 h1 => Nat.le_trans (hA1.1 hle) (Cmp_days hW hv1 h1))
            obtain ⟨m, τ1, g1, g2, g3, g4, g5⟩ := ih2 (c + 1) σ b (by omega) ⟨S20.1, S20.2.2⟩ (by rw [S20.2.1.1, nI_1]) m20 K20 hA
            rw [hid]
            refine ⟨m + 1, τ1, by rw [Nat.succ_mul]; omega, fun f => ?_, F20.trans g3, g4, g5⟩
            rw [show f + (m + 1) = (f + m) + 1 by omega, turn2, if_pos (nI_le hle (by omega))]
            unfold X5_finds_b182 X5_finds_b200
            rw [K20.1, if_pos (nI_le hle (by omega))]
            exact g2 f
          · by_cases hr0 : r = 0
            · subst hr0
              have hlm : o.length + 1 = rem P [] := by omega
              have he : srch P 0 ((c, plc P o c) :: o) b = some ((c, plc P o c) :: o) := by
                cases b with
                | none => rfl
                | some b => exact if_pos (Nat.lt_of_not_le hle)
              have S24 := SR_17 S20 (nI (dys P ((c, plc P o c) :: o)))
              have m24 : wr σ 0 17 (nI (dys P ((c, plc P o c) :: o))) 0 16 = nI (rem P []) := by rw [wr_ni _ _ _ (by decide)]; exact m20
              obtain ⟨σ5, k1, k2, k3⟩ := keeps_n hr8 m24
              have S25 := SR_78 k2 S24
              have K25 : KeepR P (some ((c, plc P o c) :: o)) σ5 := by
                refine ⟨by rw [k2 0 17 (by decide) (by decide), wr_at]; rfl, fun b hb => ?_⟩
                obtain rfl := Option.some.inj hb
                exact OP_OR (fun i hi => k3 i (by rw [← hlm]; exact hi)) S24.2
              have m25 : σ5 0 16 = nI (rem P []) := by rw [k2 0 16 (by decide) (by decide)]; exact m24
              have F25 : FrF τ σ5 := (F20.trans (FrF_17 _)).trans (FrF_78 k2)
              obtain ⟨m, τ1, g1, g2, g3, g4, g5⟩ := ih2 (c + 1) σ5 (some ((c, plc P o c) :: o)) (by omega) ⟨S25.1, S25.2.2⟩ (by rw [S25.2.1.1, nI_1]) m25 K25 (by show dys P ((c, plc P o c) :: o) ≤ 9; omega)
              rw [he]
              refine ⟨m + 1, τ1, by rw [Nat.succ_mul]; omega, fun f => ?_, F25.trans g3, g4, g5⟩
              rw [show f + (m + 1) = (f + m) + 1 by omega, turn2, if_neg (nI_ge (by omega) (by omega)), if_pos (by rw [hlm]), lt_eq, k1, Option.bind_some]
              unfold X5_finds_b200
              exact g2 f
            · have hlm : o.length + 1 ≠ rem P [] := by omega
              have S28 := SR_row S20 (j := o.length + 1) (Nat.le_refl _) (-1)
              have K28 := KeepR_9 K20 (o.length + 1) (-1)
              have m28 : wr σ 9 (o.length + 1) (-1) 0 16 = nI (rem P []) := by rw [wr_ne _ _ _ _ _ (by decide)]; exact m20
              obtain ⟨m2, σ5, p1, p2, p3, p4, p5⟩ := ih (r - 1) (by omega) (o := (c, plc P o c) :: o) (a := b) (τ := wr σ 9 (o.length + 1) (-1)) hv1 (by omega) S28 (by rw [show ((c, plc P o c) :: o).length = o.length + 1 from rfl, wr_at]; decide) m28 K28 hA
              rw [show r - 1 + 1 = r by omega] at p1 p5
              have F25 : FrF τ σ5 := (F20.trans (FrF_9 _ _)).trans p3
              have m25 : σ5 0 16 = nI (rem P []) := by rw [p3 0 16 (by decide) (by decide) (by decide) (by decide) (by decide)]; exact m28
              have hA5 : dac P (srch P r ((c, plc P o c) :: o) b) ≤ 9 := by
                rw [srch_fewe hW hv1 hA]; omega
              obtain ⟨m, τ1, g1, g2, g3, g4, g5⟩ := ih2 (c + 1) σ5 _ (by omega) ⟨p4.1, p4.2.2⟩ (by rw [p4.2.1.1, nI_1]) m25 p5 hA5
              refine ⟨m + (m2 + 1), τ1, by rw [Nat.succ_mul]; omega, fun f => ?_, F25.trans g3, g4, g5⟩
              have hgd := gd_c (n := 9) (i := o.length + 1) (by omega) (by decide)
              have hl1 : (nI (o.length + 1)).toNatClampNeg = o.length + 1 := clamp_n (by omega)
              rw [show f + (m + (m2 + 1)) = ((f + m) + m2) + 1 by omega, turn2, if_neg (nI_ge (by omega) (by omega)), if_neg (nI_ne (by omega) (by omega) hlm)]
              unfold X5_finds_b182 X5_finds_b200
              rw [K20.1, if_neg (nI_ge (by omega) (by omega)), nI_1, hl1, if_pos hgd, lt_eq]
              have p2' := p2 (f + m)
              rw [show ((c, plc P o c) :: o).length = o.length + 1 from rfl, nI_m1] at p2'
              rw [p2']
              exact g2 f
        · have hq : q = 0 := hq2.mpr hcf
          obtain ⟨m, τ1, g1, g2, g3, g4, g5⟩ := ih2 (c + 1) _ b (by omega) S13 (by rw [h13, nI_1]) m13 K13 hA
          rw [fdl, if_neg hcf]
          refine ⟨m + 1, τ1, by rw [Nat.succ_mul]; omega, fun f => ?_, F13.trans g3, g4, g5⟩
          rw [show f + (m + 1) = (f + m) + 1 by omega, turn, if_pos hq]
          exact g2 f
    obtain ⟨m, τ1, g1, g2⟩ := key (P 6 0) 0 τ a (by omega) S h9 h16 K hA
    refine ⟨m, τ1, ?_, g2⟩
    have hm : P 6 0 * (1 + Bd r) ≤ 8 * (1 + Bd r) := Nat.mul_le_mul_right _ hn
    show m ≤ 9 + 8 * Bd r
    omega
/-- what planning leaves alone -/
def FrG (τ τ1 : SS) : Prop := ∀ k i, k ≠ 7 → k ≠ 8 → k ≠ 9 → k ≠ 10 → (k = 0 → i < 16 ∨ 18 < i) → τ1 k i = τ k i
theorem finds_n (hW : Wf P) (B : BR P τ) : ∃ τ1, X5_finds τ = some τ1 ∧ FrG τ τ1 ∧ τ1 0 18 = 0 ∧ τ1 0 16 = nI (rem P []) ∧ KeepR P (bst P) τ1 := by
  have hn := hW.1
  have hr8 := rem_8 hW []
  have hdone := wf_done hW
  have cnt : ∀ k fuel c τ, c + k = P 6 0 → k < fuel → BR P τ → τ 0 16 = nI (sm c (fun i => if (P 6 1).testBit i = true then 0 else 1)) → ∃ τ1, X5_finds_l7 fuel τ (nI c) = (if nI (rem P []) = 0 then X5_finds_b60 τ1 0 else X5_finds_b60 τ1 1000000) ∧ (∀ k i, ¬ (k = 0 ∧ i = 16) → τ1 k i = τ k i) ∧ τ1 0 16 = nI (rem P []) := by
    intro k
    induction k with
    | zero =>
      intro fuel c τ hc hf B h16
      obtain ⟨f, rfl⟩ : ∃ f, fuel = f + 1 := ⟨fuel - 1, by omega⟩
      obtain rfl : c = P 6 0 := by omega
      have h16' : τ 0 16 = nI (rem P []) := h16
      rw [X5_finds_l7, B.1, if_pos (nI_le (by omega) (by omega)), h16']
      exact ⟨τ, rfl, fun _ _ _ => rfl, h16'⟩
    | succ k ih =>
      intro fuel c τ hc hf B h16
      obtain ⟨f, rfl⟩ : ∃ f, fuel = f + 1 := ⟨fuel - 1, by omega⟩
      have fr : ∀ x, ∀ k i, ¬ (k = 0 ∧ i = 16) → wr τ 0 16 x k i = τ k i := by
        intro x k i h
        rw [wr_app]
        by_cases e : k = 0
        · subst e
          rw [if_pos rfl, if_neg (by omega)]
        · rw [if_neg e]
      have hB : ∀ x, BR P (wr τ 0 16 x) := fun x => BR_eq (fun k i _ h => fr x k i (fun e => by have := h e.1; omega)) B
      rw [X5_finds_l7, B.1, if_neg (nI_ge (by omega) (by omega)), B.2.1, bit_n hdone (by omega)]
      unfold X5_finds_b36
      cases hb : (P 6 1).testBit c
      · rw [if_pos (by decide), lt_eq, h16, nI_1, nI_1]
        obtain ⟨τ1, h1, h2, h3⟩ := ih f (c + 1) (wr τ 0 16 (nI (sm c (fun i => if (P 6 1).testBit i = true then 0 else 1) + 1))) (by omega) (by omega) (hB _) (by rw [wr_at, sm, hb]; rfl)
        exact ⟨τ1, h1, fun k i h => by rw [h2 k i h, fr _ k i h], h3⟩
      · rw [if_neg (by decide), lt_eq, h16, show nI (sm c (fun i => if (P 6 1).testBit i = true then 0 else 1)) + 0 = nI (sm c (fun i => if (P 6 1).testBit i = true then 0 else 1)) from nI_add _ 0, nI_1]
        obtain ⟨τ1, h1, h2, h3⟩ := ih f (c + 1) (wr τ 0 16 (nI (sm c (fun i => if (P 6 1).testBit i = true then 0 else 1)))) (by omega) (by omega) (hB _) (by rw [wr_at, sm, hb]; rfl)
        exact ⟨τ1, h1, fun k i h => by rw [h2 k i h, fr _ k i h], h3⟩
  have fr0 : ∀ k i, ¬ (k = 0 ∧ i = 16) → wr τ 0 16 0 k i = τ k i := by
    intro k i h
    rw [wr_app]
    by_cases e : k = 0
    · subst e
      rw [if_pos rfl, if_neg (by omega)]
    · rw [if_neg e]
  obtain ⟨τ1, h1, h2, h3⟩ := cnt (P 6 0) fuel_X5_finds_7 0 (wr τ 0 16 0) (by omega) (by show _ < 64; omega) (BR_eq (fun k i _ h => fr0 k i (fun e => by have := h e.1; omega)) B) (wr_at _ _ _ _)
  have F1 : ∀ k i, ¬ (k = 0 ∧ i = 16) → τ1 k i = τ k i := fun k i h => by rw [h2 k i h, fr0 k i h]
  have B1 : BR P τ1 := BR_eq (fun k i _ h => F1 k i (fun e => by have := h e.1; omega)) B
  have hF : 21570706 < fuel_X5_finds_83 := by unfold fuel_X5_finds_83; decide
  have hx : X5_finds τ = (if nI (rem P []) = 0 then X5_finds_b60 τ1 0 else X5_finds_b60 τ1 1000000) := by
    unfold X5_finds
    rw [lt_eq]
    exact h1
  rw [hx]
  have hneg : ∀ (τ : SS) (x : Int32) (f : Nat), x < 0 → X5_finds_l83 (f + 1) τ x = some (wr τ 0 18 0) := by
    intro τ x f h
    rw [X5_finds_l83, if_pos h, lt_eq]
  have h0c : (0 : Int32).toNatClampNeg = 0 := by decide
  have h0g : ¬ ((0 : Int32) < 0 ∨ 9 ≤ 0) := by decide
  unfold X5_finds_b60 X5_finds_b75
  simp only [h0c, h0g, not_false_eq_true, if_true]
  generalize fuel_X5_finds_83 = fu at hF
  by_cases hr : rem P [] = 0
  · obtain ⟨f, rfl⟩ : ∃ f, fu = f + 1 := ⟨fu - 1, by omega⟩
    have hb : bst P = some [] := by
      unfold bst
      rw [hr]
      rfl
    have hc : wr τ1 0 17 0 0 16 = 0 := by rw [wr_ni _ _ _ (by decide), h3, hr]; rfl
    rw [if_pos (by rw [hr]; rfl), lt_eq, if_pos hc, lt_eq, hneg _ _ _ (by decide), hb]
    refine ⟨_, rfl, fun k i a b c d e => ?_, wr_at _ _ _ _, ?_, ?_, fun b hb => ?_⟩
    · by_cases e0 : k = 0
      · subst e0
        have := e rfl
        rw [wr_ni _ _ _ (by omega), wr_ne _ _ _ _ _ (by decide), wr_ni _ _ _ (by omega), F1 _ _ (by omega)]
      · rw [wr_ne _ _ _ _ _ e0, wr_ne _ _ _ _ _ c, wr_ne _ _ _ _ _ e0, F1 _ _ (by omega)]
    · rw [wr_ni _ _ _ (by decide), wr_ne _ _ _ _ _ (by decide), wr_ni _ _ _ (by decide), h3]
    · rw [wr_ni _ _ _ (by decide), wr_ne _ _ _ _ _ (by decide), wr_at]
      rfl
    · obtain rfl := Option.some.inj hb
      trivial
  · have hne : ¬ nI (rem P []) = 0 := nI_ne (b := 0) (by omega) (by decide) hr
    have hc : ¬ wr τ1 0 17 1000000 0 16 = 0 := by rw [wr_ni _ _ _ (by decide), h3]; exact hne
    rw [if_neg hne, lt_eq, if_neg hc, lt_eq]
    have F8 : FrF τ1 (wr (wr τ1 0 17 1000000) 9 0 (-1)) := (FrF_17 _).trans (FrF_9 _ _)
    have h16 : wr (wr τ1 0 17 1000000) 9 0 (-1) 0 16 = nI (rem P []) := by rw [F8 0 16 (by decide) (by decide) (by decide) (by decide) (by decide)]; exact h3
    obtain ⟨r, hr1⟩ : ∃ r, rem P [] = r + 1 := ⟨rem P [] - 1, by omega⟩
    obtain ⟨m, σ1, p1, p2, p3, p4, p5⟩ := find_n hW r (o := []) (a := none) (τ := wr (wr τ1 0 17 1000000) 9 0 (-1)) trivial hr1 ⟨BR_fr F8 B1, trivial⟩ (by show wr (wr τ1 0 17 1000000) 9 0 (-1) 9 0 + 1 = _; rw [wr_at]; decide) h16 ⟨by rw [wr_ne _ _ _ _ _ (by decide), wr_at]; rfl, fun b hb => by cases hb⟩ (Nat.le_refl _)
    have hm := Bd_le (r + 1) (by omega)
    obtain ⟨f, rfl⟩ : ∃ f, fu = (f + 1) + m := ⟨fu - 1 - m, by omega⟩
    have hfin : X5_finds_l83 (f + 1 + m) (wr (wr τ1 0 17 1000000) 9 0 (-1)) 0 = some (wr σ1 0 18 0) := (p2 (f + 1)).trans (hneg _ _ _ (by decide))
    have hb : bst P = srch P (r + 1) [] none := by
      unfold bst
      rw [hr1]
    rw [hfin, hb]
    have F9 := F8.trans p3
    refine ⟨_, rfl, fun k i a b c d e => ?_, wr_at _ _ _ _, ?_, ?_⟩
    · by_cases e0 : k = 0
      · subst e0
        have := e rfl
        rw [wr_ni _ _ _ (by omega), F9 _ _ a b c d (by omega), F1 _ _ (by omega)]
      · rw [wr_ne _ _ _ _ _ e0, F9 _ _ a b c d (by omega), F1 _ _ (by omega)]
    · rw [wr_ni _ _ _ (by decide), F9 0 16 (by decide) (by decide) (by decide) (by decide) (by decide), h3]
    · exact KeepR_eq (wr_ni _ _ _ (by decide)) (fun i => wr_ne _ _ _ _ _ (by decide)) (fun i => wr_ne _ _ _ _ _ (by decide)) p5
theorem plansR_n (hW : Wf P) (B : BR P τ) (h : τ 0 18 = 0 → τ 0 16 = nI (rem P []) ∧ KeepR P (bst P) τ) : ∃ τ1, X5_plans τ = some τ1 ∧ FrG τ τ1 ∧ τ1 0 18 = 0 ∧ τ1 0 16 = nI (rem P []) ∧ KeepR P (bst P) τ1 := by
  unfold X5_plans
  by_cases h18 : τ 0 18 = 0
  · rw [if_pos h18]
    exact ⟨τ, rfl, fun _ _ _ _ _ _ _ => rfl, h18, (h h18).1, (h h18).2⟩
  · rw [if_neg h18]
    obtain ⟨τ1, h1, h2⟩ := finds_n hW B
    rw [h1, Option.bind_some]
    exact ⟨τ1, rfl, h2⟩
end
