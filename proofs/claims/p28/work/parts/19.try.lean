/-! The class's planner: placing, room, keeping, trying. -/
theorem nI_ne {a b : Nat} (ha : a < 2 ^ 31) (hb : b < 2 ^ 31) (h : a ≠ b) : nI a ≠ nI b := fun e => h (nI_inj ha hb e)
theorem lt_eq {α β : Type} (v : α) (f : α → β) : lt v f = f v := by rw [lt]
section
variable {P : PP} {σ : SS} {o : Od}
theorem endsIn_n (hW : Wf P) (B : BC P σ) {s b day : Nat} (hs : s < P 6 0) (hb : b < 2 ^ 20) (hd : day ≤ 1010) : X2_endsInTime σ (nI s) (nI b) (nI day) = if cls P s day < b + P 0 s then 0 else 1 := by
  have hn := hW.1
  have hs5 := B.2.2.2.2 s hs
  have hws := hW.2.1 s hs
  have key : ∀ y, y ≤ 24 → X2_endsInTime_b22 σ (nI s) (nI b) (nI day) (nI y) = if 24 * day + y < b + P 0 s then 0 else 1 := by
    intro y hy
    unfold X2_endsInTime_b22
    rw [il24, nI_mul, nI_add, fat_n σ 5 (by omega) (by decide), hs5.1, nI_add]
    by_cases h : 24 * day + y < b + P 0 s
    · rw [if_pos h, if_pos (nI_lt h (by omega))]
    · rw [if_neg h, if_neg (nI_nlt (by omega) (by omega))]
  unfold X2_endsInTime cls
  rw [fat_n σ 8 (by omega) (by decide), hs5.2.2.2.1]
  by_cases h : P 3 s = 1
  · rw [if_pos h, if_pos (show nI (P 3 s) = 1 by rw [h]; rfl)]
    exact key 18 (by decide)
  · have hne : ¬ nI (P 3 s) = 1 := nI_ne (b := 1) (by omega) (by decide) h
    rw [if_neg h, if_neg hne]
    exact key 24 (by decide)
theorem lastC {x : Nat × Nat} {t : Od} (S : SC P (x :: t) σ) (hl : t.length < 8) : fat σ 10 8 (nI (x :: t).length - 1) = nI x.1 := by
  rw [il1, nI_sub' (by simp), List.length_cons, Nat.add_sub_cancel, fat_n σ 10 hl (by decide)]
  exact S.2.1.1
theorem begC {x : Nat × Nat} {t : Od} (hW : Wf P) (hv : Vd P (x :: t)) (S : SC P (x :: t) σ) : fat σ 11 8 (nI x.1) = nI x.2 := by
  have := hW.1
  have := hv.2.1
  rw [fat_n σ 11 (by omega) (by decide), S.2.2 x.1 (msk_cons.mpr (Or.inr rfl)), bgn_eq]
theorem place_n (hW : Wf P) (hv : Vd P o) (S : SC P o σ) {s : Nat} (hs : s < P 6 0) (hl : o.length < 8) : X2_place σ (nI s) (nI o.length) (nI (msk P o)) = some (wr (wr σ 10 o.length (nI s)) 11 s (nI (plc P o s))) := by
  have hn := hW.1
  have hd := day_lt hW hv
  have hws := hW.2.1 s hs
  have hmx : mx (P 6 0) (gr P o s (day0 P o)) ≤ 24 * day0 P o + 11 := mx_le (fun i _ => gr_le (Gd_of hW hv) i)
  have hb136 : ∀ b, X2_place_b136 σ (nI s) (nI o.length) b = some (wr (wr σ 10 o.length (nI s)) 11 s b) := by
    intro b
    show some (fput (fput σ 10 8 _ _) 11 8 (nI s) b) = _
    rw [fput_n σ 10 _ hl (by decide), fput_n _ 11 _ (by omega) (by decide)]
  have hdw : ∀ d, max (24 * d + 8) (dwn P s d) = max 0 (dwn P s d) := by
    intro d
    unfold dwn
    split <;> omega
  have hdl : dwn P s (day0 P o) < 2 ^ 19 := by
    unfold dwn
    split <;> omega
  have hb118 : hr0 P s (day0 P o + 1) o = 0 → X2_place_b118 σ (nI s) (nI o.length) (nI (msk P o)) (nI (day0 P o)) = some (wr (wr σ 10 o.length (nI s)) 11 s (nI (cnd P o s (day0 P o + 1)))) := by
    intro h0
    unfold X2_place_b118 X2_startOf
    rw [nI_1, il24, nI_mul, il8, nI_add, beginFrom_n hW hv S hs (by omega) (by omega), Option.bind_some, hb136]
    unfold cnd
    rw [hdw, h0]
  have h118 : hr0 P s (day0 P o + 1) o = 0 := by
    cases o with
    | nil => rfl
    | cons x t => rw [hr0, if_neg]; show ¬ x.2 / 24 = x.2 / 24 + 1; omega
  have hb83 : ∀ h0, h0 < 2 ^ 19 → max h0 (dwn P s (day0 P o)) = max (hr0 P s (day0 P o) o) (dwn P s (day0 P o)) → X2_place_b83 σ (nI s) (nI o.length) (nI (msk P o)) (nI (day0 P o)) (nI h0) = some (wr (wr σ 10 o.length (nI s)) 11 s (nI (plc P o s))) := by
    intro h0 hh he
    have hc : cnd P o s (day0 P o) < 2 ^ 20 := by
      unfold cnd
      rw [← he]
      omega
    unfold X2_place_b83
    rw [beginFrom_n hW hv S hs (by omega) (by omega), he, Option.bind_some, ← show cnd P o s (day0 P o) = max (max (hr0 P s (day0 P o) o) (dwn P s (day0 P o))) (mx (P 6 0) (gr P o s (day0 P o))) from rfl, endsIn_n hW S.1 hs hc (by omega)]
    by_cases h1 : cls P s (day0 P o) < cnd P o s (day0 P o) + P 0 s
    · rw [if_pos h1, if_pos rfl, plc_f (fun h => absurd h.1 (by omega))]
      exact hb118 h118
    · rw [if_neg h1, if_neg (by decide)]
      obtain ⟨r, hr1, hr2⟩ := fit_n hW hv S hs (day := day0 P o) (by omega)
      rw [hr1, Option.bind_some]
      by_cases h2 : fitC P o s (day0 P o)
      · rw [if_neg (fun e => hr2.mp e h2), plc_t ⟨by omega, h2⟩, hb136]
      · rw [if_pos (hr2.mpr h2), plc_f (fun h => h2 h.2)]
        exact hb118 h118
  unfold X2_place
  cases o with
  | nil =>
    have h := hb83 (24 * P 6 3 + 8) (by have := hW.2.2.2.2.1; omega) (hdw _)
    rw [if_pos (show nI ([] : Od).length ≤ 0 by decide), S.1.2.2.2.1]
    unfold X2_startOf
    rw [il24, nI_mul, il8, nI_add]
    exact h
  | cons x t =>
    have hx := hv.2.1
    have hxl := bgn_lt hW hv (msk_cons.mpr (Or.inr rfl) : (msk P (x :: t)).testBit x.1 = true)
    rw [bgn_eq] at hxl
    have hx5 := S.1.2.2.2.2 x.1 hx
    have hs5 := S.1.2.2.2.2 s hs
    have hwx := hW.2.1 x.1 hx
    have hlt : t.length < 8 := by simp at hl; omega
    rw [if_neg (show ¬ nI (x :: t).length ≤ 0 by rw [il0]; exact nI_ge (by simp) (by simp; omega)), lastC S hlt]
    unfold X2_endOf
    rw [begC hW hv S, fat_n σ 5 (by omega) (by decide), hx5.1, dayOf_n (by omega), nI_add, fat_n σ 6 (by omega) (by decide), hx5.2.1, fat_n σ 6 (by omega) (by decide), hs5.2.1]
    unfold X2_place_b80
    have hhr : hr0 P s (day0 P (x :: t)) (x :: t) = x.2 + P 0 x.1 + (if P 1 x.1 = P 1 s then 0 else 1) := by
      rw [hr0, if_pos (show x.2 / 24 = day0 P (x :: t) from rfl)]
    by_cases hp : P 1 x.1 = P 1 s
    · rw [if_pos (by rw [hp]), il0, nI_add]
      rw [if_pos hp] at hhr
      exact hb83 _ (by omega) (by rw [hhr])
    · rw [if_neg (fun e => hp (nI_inj (by omega) (by omega) e)), il1, nI_add]
      rw [if_neg hp] at hhr
      exact hb83 _ (by omega) (by rw [hhr])
/-- what planning leaves alone -/
def FrP (σ σ1 : SS) : Prop := ∀ k i, k ≠ 10 → k ≠ 11 → k ≠ 12 → k ≠ 13 → ¬ (k = 1 ∧ i = 5) → σ1 k i = σ k i
theorem FrP.refl : FrP σ σ := fun _ _ _ _ _ _ _ => rfl
theorem FrP.trans {σ1 σ2 : SS} (h1 : FrP σ σ1) (h2 : FrP σ1 σ2) : FrP σ σ2 := fun k i a b c d e => (h2 k i a b c d e).trans (h1 k i a b c d e)
theorem BC_fr {σ1 : SS} (h : FrP σ σ1) (B : BC P σ) : BC P σ1 := by
  have e : ∀ k i, k < 10 → (k ≠ 1 ∨ i ≠ 5) → σ1 k i = σ k i := fun k i hk hi => h k i (by omega) (by omega) (by omega) (by omega) (by omega)
  refine ⟨by rw [e 2 5 (by decide) (by decide)]; exact B.1, by rw [e 2 6 (by decide) (by decide)]; exact B.2.1, by rw [e 2 8 (by decide) (by decide)]; exact B.2.2.1, by rw [e 1 6 (by decide) (by decide)]; exact B.2.2.2.1, fun i hi => ?_⟩
  rw [e 5 i (by decide) (by omega), e 6 i (by decide) (by omega), e 7 i (by decide) (by omega), e 8 i (by decide) (by omega), e 9 i (by decide) (by omega)]
  exact B.2.2.2.2 i hi
theorem OC_eq {σ1 : SS} : ∀ {o : Od}, (∀ i, i < o.length → σ1 10 i = σ 10 i) → OC σ o → OC σ1 o
  | [], _, _ => trivial
  | x :: t, h, ho => ⟨by rw [h t.length (by simp)]; exact ho.1, OC_eq (fun i hi => h i (by simp; omega)) ho.2⟩
theorem FrP_put {σ : SS} (a b : Nat) (x y : Int32) : FrP σ (wr (wr σ 10 a x) 11 b y) := fun k i h1 h2 _ _ _ => by rw [wr_ne _ _ _ _ _ h2, wr_ne _ _ _ _ _ h1]
theorem SC_put (S : SC P o σ) {s b : Nat} (hc : canF P o s = true) : SC P ((s, b) :: o) (wr (wr σ 10 o.length (nI s)) 11 s (nI b)) := by
  refine ⟨BC_fr (FrP_put _ _ _ _) S.1, ⟨?_, OC_eq (fun i hi => ?_) S.2.1⟩, fun i hi => ?_⟩
  · rw [wr_ne _ _ _ _ _ (by decide), wr_at]
  · rw [wr_ne _ _ _ _ _ (by decide), wr_ni _ _ _ (by omega)]
  · by_cases h : i = s
    · subst h
      rw [wr_at]
      exact congrArg nI (bgn_eq (x := (i, b))).symm
    · rw [wr_ni _ _ _ h, wr_ne _ _ _ _ _ (by decide), bgn_ne (x := (s, b)) h]
      exact S.2.2 i ((msk_cons.mp hi).resolve_right h)
theorem SC_tail {x : Nat × Nat} (hc : canF P o x.1 = true) (S : SC P (x :: o) σ) : SC P o σ := by
  refine ⟨S.1, S.2.1.2, fun i hi => ?_⟩
  have h : i ≠ x.1 := by
    rintro rfl
    rw [(canF_t hc).1] at hi
    cases hi
  rw [S.2.2 i (msk_cons.mpr (Or.inl hi)), bgn_ne h]
theorem daysUp_n (hW : Wf P) (hv : Vd P o) (S : SC P o σ) : X2_daysUpTo σ (nI o.length) = nI (dys P o) := by
  unfold X2_daysUpTo
  have hl := len_8 hW hv
  have hd := day_lt hW hv
  have hG := (Gd_of hW hv).1
  cases o with
  | nil => rfl
  | cons x t =>
    have hxl := bgn_lt hW hv (msk_cons.mpr (Or.inr rfl) : (msk P (x :: t)).testBit x.1 = true)
    rw [bgn_eq] at hxl
    change P 6 3 ≤ x.2 / 24 at hG
    have hne : ¬ nI (x :: t).length = 0 := nI_ne (b := 0) (by omega) (by decide) (by simp)
    rw [if_neg hne, lastC S (by simp at hl; omega), begC hW hv S, dayOf_n (by omega), S.1.2.2.2.1, nI_sub' hG, nI_1]
    rfl
/-- the plan that is kept -/
def OK (σ : SS) : Od → Prop
  | [] => True
  | x :: t => σ 12 t.length = nI x.1 ∧ OK σ t
def KeepC (P : PP) (a : Option Od) (σ : SS) : Prop := σ 1 5 = nI (dac P a) ∧ ∀ b, a = some b → OK σ b ∧ ∀ i, (msk P b).testBit i = true → σ 13 i = nI (bgn P b i)
theorem OK_eq {σ1 : SS} : ∀ {o : Od}, (∀ i, i < o.length → σ1 12 i = σ 12 i) → OK σ o → OK σ1 o
  | [], _, _ => trivial
  | x :: t, h, ho => ⟨by rw [h t.length (by simp)]; exact ho.1, OK_eq (fun i hi => h i (by simp; omega)) ho.2⟩
theorem OK_OC {σ1 : SS} : ∀ {o : Od}, (∀ i, i < o.length → σ1 12 i = σ 10 i) → OC σ o → OK σ1 o
  | [], _, _ => trivial
  | x :: t, h, ho => ⟨by rw [h t.length (by simp)]; exact ho.1, OK_OC (fun i hi => h i (by simp; omega)) ho.2⟩
theorem KeepC_eq {σ1 : SS} {a : Option Od} (h5 : σ1 1 5 = σ 1 5) (h12 : ∀ i, σ1 12 i = σ 12 i) (h13 : ∀ i, σ1 13 i = σ 13 i) (K : KeepC P a σ) : KeepC P a σ1 :=
  ⟨by rw [h5]; exact K.1, fun b hb => ⟨OK_eq (fun i _ => h12 i) (K.2 b hb).1, fun i hi => by rw [h13]; exact (K.2 b hb).2 i hi⟩⟩
theorem keep_loop : ∀ k fuel c τ, c + k = 8 → k < fuel → ∃ τ1, X2_keepIfBetter_l24 fuel τ (nI c) = some τ1 ∧ (∀ k i, k ≠ 12 → k ≠ 13 → τ1 k i = τ k i) ∧ (∀ i, i < c → τ1 12 i = τ 12 i ∧ τ1 13 i = τ 13 i) ∧ ∀ i, c ≤ i → i < 8 → τ1 12 i = τ 10 i ∧ τ1 13 i = τ 11 i := by
  intro k
  induction k with
  | zero =>
    intro fuel c τ hc hf
    obtain ⟨f, rfl⟩ : ∃ f, fuel = f + 1 := ⟨fuel - 1, by omega⟩
    rw [X2_keepIfBetter_l24, il8, if_pos (nI_le (by omega) (by omega))]
    exact ⟨τ, rfl, fun _ _ _ _ => rfl, fun _ _ => ⟨rfl, rfl⟩, fun i h1 h2 => by omega⟩
  | succ k ih =>
    intro fuel c τ hc hf
    obtain ⟨f, rfl⟩ : ∃ f, fuel = f + 1 := ⟨fuel - 1, by omega⟩
    rw [X2_keepIfBetter_l24, il8, if_neg (nI_ge (by omega) (by omega))]
    rw [lt_eq, lt_eq]
    rw [fat_n τ 10 (by omega) (by decide), fput_n τ 12 _ (by omega) (by decide), fat_n _ 11 (by omega) (by decide), fput_n _ 13 _ (by omega) (by decide), nI_1]
    obtain ⟨τ1, h1, h2, h3, h4⟩ := ih f (c + 1) (wr (wr τ 12 c (τ 10 c)) 13 c ((wr τ 12 c (τ 10 c)) 11 c)) (by omega) (by omega)
    refine ⟨τ1, h1, fun k i a b => by rw [h2 k i a b, wr_ne _ _ _ _ _ b, wr_ne _ _ _ _ _ a], fun i hi => ?_, fun i ha hb => ?_⟩
    · have hic : i ≠ c := by omega
      rw [(h3 i (by omega)).1, (h3 i (by omega)).2]
      simp [wr_app, hic]
    · by_cases hic : i = c
      · subst hic
        rw [(h3 i (by omega)).1, (h3 i (by omega)).2]
        simp [wr_app]
      · rw [(h4 i (by omega) hb).1, (h4 i (by omega) hb).2]
        simp [wr_app]
theorem keep_n (hW : Wf P) (hv : Vd P o) (S : SC P o σ) {b : Nat} (h9 : σ 1 5 = nI b) (hA : b ≤ 9) (hlt : dys P o < b) : ∃ σ1, X2_keepIfBetter σ (nI o.length) = some σ1 ∧ FrP σ σ1 ∧ SC P o σ1 ∧ KeepC P (some o) σ1 := by
  obtain ⟨σ1, h1, h2, -, h4⟩ := keep_loop 8 fuel_X2_keepIfBetter_24 0 (wr σ 1 5 (nI (dys P o))) (Nat.zero_add 8) (by show _ < 64; omega)
  have hf : ∀ k i, k ≠ 12 → k ≠ 13 → ¬ (k = 1 ∧ i = 5) → σ1 k i = σ k i := by
    intro k i a b c
    rw [h2 k i a b]
    by_cases e : k = 1
    · subst e
      exact wr_ni _ _ _ (fun e2 => c ⟨rfl, e2⟩)
    · exact wr_ne _ _ _ _ _ e
  have hk : X2_keepIfBetter σ (nI o.length) = some σ1 := by
    unfold X2_keepIfBetter
    rw [daysUp_n hW hv S, h9, if_pos (nI_lt hlt (by omega)), lt_eq]
    exact h1
  have h5 : σ1 1 5 = nI (dac P (some o)) := by
    rw [h2 1 5 (by decide) (by decide), wr_at, dac]
  have hS : SC P o σ1 := by
    refine ⟨BC_fr (fun k i _ _ a b c => hf k i a b c) S.1, OC_eq (fun i _ => hf 10 i (by decide) (by decide) (by omega)) S.2.1, fun i hi => ?_⟩
    rw [hf 11 i (by decide) (by decide) (by omega)]
    exact S.2.2 i hi
  have hl := len_8 hW hv
  refine ⟨σ1, hk, fun k i _ _ a b c => hf k i a b c, hS, h5, fun b hb => ?_⟩
  obtain rfl : o = b := Option.some.inj hb
  refine ⟨OK_OC (σ := σ) (fun i hi => ?_) S.2.1, fun i hi => ?_⟩
  · rw [(h4 i (by omega) (by omega)).1]
    exact wr_ne _ _ _ _ _ (by decide)
  · have := msk_n hW hv hi
    have := hW.1
    rw [(h4 i (by omega) (by omega)).2, wr_ne _ _ _ _ _ (by decide)]
    exact S.2.2 i hi
end
