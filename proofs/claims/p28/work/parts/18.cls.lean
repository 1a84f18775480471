/-! The class's planner computes the specification. -/
theorem z10 (t : Bool) : ((if t = true then (1 : Int32) else 0) = 0) ↔ t = false := by cases t <;> simp
theorem z10' (c : Prop) [Decidable c] : ((if c then (1 : Int32) else 0) = 0) ↔ ¬ c := by by_cases h : c <;> simp [h]
/-- the class's state shows the problem -/
def BC (P : PP) (σ : SS) : Prop := σ 2 5 = nI (P 6 0) ∧ σ 2 6 = nI (P 6 1) ∧ σ 2 8 = nI (P 6 2) ∧ σ 1 6 = nI (P 6 3) ∧
  ∀ i, i < P 6 0 → σ 5 i = nI (P 0 i) ∧ σ 6 i = nI (P 1 i) ∧ σ 7 i = nI (P 2 i) ∧ σ 8 i = nI (P 3 i) ∧ σ 9 i = nI (P 4 i)
def OC (σ : SS) : Od → Prop
  | [] => True
  | x :: t => σ 10 t.length = nI x.1 ∧ OC σ t
def SC (P : PP) (o : Od) (σ : SS) : Prop := BC P σ ∧ OC σ o ∧ ∀ i, (msk P o).testBit i = true → σ 11 i = nI (bgn P o i)
theorem bgn_lt {P : PP} (hW : Wf P) {o : Od} (hv : Vd P o) {i : Nat} (hi : (msk P o).testBit i = true) : bgn P o i + P 0 i ≤ 24 * 1010 := by
  have h1 := (Gd_of hW hv).2 i hi
  have h2 := days_len hW hv
  have h3 := len_8 hW hv
  have h4 := hW.2.2.2.2.1
  have h5 : (if o = [] then 1 else 0) ≤ 1 := by split <;> omega
  omega
theorem day_lt {P : PP} (hW : Wf P) {o : Od} (hv : Vd P o) : day0 P o ≤ 1009 := by
  have h2 := days_len hW hv
  have h3 := len_8 hW hv
  have h4 := hW.2.2.2.2.1
  have h5 : (if o = [] then 1 else 0) ≤ 1 := by split <;> omega
  omega
theorem dayOf_n {b : Nat} (h : b < 2 ^ 31) : X2_dayOf (nI b) = nI (b / 24) := by
  unfold X2_dayOf
  rw [il24, nI_div h (by decide) (by decide)]
section
variable {P : PP} {σ : SS} {o : Od}
theorem SC.n (S : SC P o σ) : σ 2 5 = nI (P 6 0) := S.1.1
theorem hoursOf_n (hW : Wf P) (B : BC P σ) {set : Nat} (hs : set < 256) : X3_hoursOf σ (nI set) = some (nI (sm (P 6 0) (fun i => if set.testBit i = true then P 0 i else 0))) := by
  have hn := hW.1
  have key : ∀ k fuel c, c + k = P 6 0 → k < fuel → X3_hoursOf_l4 fuel σ (nI set) (nI (sm c (fun i => if set.testBit i = true then P 0 i else 0))) (nI c) = some (nI (sm (P 6 0) (fun i => if set.testBit i = true then P 0 i else 0))) := by
    intro k
    induction k with
    | zero =>
      intro fuel c hc hf
      obtain ⟨f, rfl⟩ : ∃ f, fuel = f + 1 := ⟨fuel - 1, by omega⟩
      rw [X3_hoursOf_l4, B.1, if_pos (nI_le (by omega) (by omega)), show c = P 6 0 by omega]
    | succ k ih =>
      intro fuel c hc hf
      obtain ⟨f, rfl⟩ : ∃ f, fuel = f + 1 := ⟨fuel - 1, by omega⟩
      rw [X3_hoursOf_l4, B.1, if_neg (nI_ge (by omega) (by omega)), isIn_n hs (by omega)]
      have h := ih f (c + 1) (by omega) (by omega)
      rw [sm] at h
      cases hb : set.testBit c
      · rw [hb] at h
        simp only [Bool.false_eq_true, if_false, if_true, Nat.add_zero, X3_hoursOf_b31, nI_1] at h ⊢
        exact h
      · rw [hb] at h
        simp only [if_true, X3_hoursOf_b31, nI_1] at h ⊢
        rw [if_neg (by decide), fat_n σ 5 (by omega) (by decide), (B.2.2.2.2 c (by omega)).1, nI_add]
        exact h
  have h := key (P 6 0) fuel_X3_hoursOf_4 0 (by omega) (by show _ < 64; omega)
  exact h
theorem hoursIn_n (hW : Wf P) (B : BC P σ) {set l : Nat} (hs : set < 256) (hl : l < 256) : X2_hoursIn σ (nI set) (nI l) = some (nI (sm (P 6 0) (fun i => if set.testBit i = true ∧ P 3 i = l then P 0 i else 0))) := by
  have hn := hW.1
  have key : ∀ k fuel c, c + k = P 6 0 → k < fuel → X2_hoursIn_l5 fuel σ (nI set) (nI l) (nI (sm c (fun i => if set.testBit i = true ∧ P 3 i = l then P 0 i else 0))) (nI c) = some (nI (sm (P 6 0) (fun i => if set.testBit i = true ∧ P 3 i = l then P 0 i else 0))) := by
    intro k
    induction k with
    | zero =>
      intro fuel c hc hf
      obtain ⟨f, rfl⟩ : ∃ f, fuel = f + 1 := ⟨fuel - 1, by omega⟩
      rw [X2_hoursIn_l5, B.1, if_pos (nI_le (by omega) (by omega)), show c = P 6 0 by omega]
    | succ k ih =>
      intro fuel c hc hf
      obtain ⟨f, rfl⟩ : ∃ f, fuel = f + 1 := ⟨fuel - 1, by omega⟩
      have hc5 := B.2.2.2.2 c (by omega)
      have hwf := hW.2.1 c (by omega)
      rw [X2_hoursIn_l5, B.1, if_neg (nI_ge (by omega) (by omega)), isIn_n hs (by omega)]
      have h := ih f (c + 1) (by omega) (by omega)
      rw [sm] at h
      cases hb : set.testBit c
      · rw [hb] at h
        simp only [Bool.false_eq_true, if_false, if_true, false_and, Nat.add_zero, X2_hoursIn_b57, nI_1] at h ⊢
        exact h
      · rw [hb] at h
        simp only [if_true, true_and, X2_hoursIn_b57, nI_1] at h ⊢
        rw [if_neg (by decide), fat_n σ 8 (by omega) (by decide), hc5.2.2.2.1]
        by_cases hl2 : P 3 c = l
        · rw [if_pos (by rw [hl2]), fat_n σ 5 (by omega) (by decide), hc5.1, nI_add]
          rw [if_pos hl2] at h
          exact h
        · rw [if_neg (fun e => hl2 (nI_inj (by omega) (by omega) e))]
          rw [if_neg hl2, Nat.add_zero] at h
          exact h
  exact key (P 6 0) fuel_X2_hoursIn_5 0 (by omega) (by show _ < 64; omega)
theorem hoursFor_n (hW : Wf P) (B : BC P σ) {set p : Nat} (hs : set < 256) (hp : p < 6) : X2_hoursFor σ (nI p) (nI set) = some (nI (sm (P 6 0) (fun i => if set.testBit i = true ∧ (P 2 i).testBit p = true then P 0 i else 0))) := by
  have hn := hW.1
  have key : ∀ k fuel c, c + k = P 6 0 → k < fuel → X2_hoursFor_l5 fuel σ (nI p) (nI set) (nI (sm c (fun i => if set.testBit i = true ∧ (P 2 i).testBit p = true then P 0 i else 0))) (nI c) = some (nI (sm (P 6 0) (fun i => if set.testBit i = true ∧ (P 2 i).testBit p = true then P 0 i else 0))) := by
    intro k
    induction k with
    | zero =>
      intro fuel c hc hf
      obtain ⟨f, rfl⟩ : ∃ f, fuel = f + 1 := ⟨fuel - 1, by omega⟩
      rw [X2_hoursFor_l5, B.1, if_pos (nI_le (by omega) (by omega)), show c = P 6 0 by omega]
    | succ k ih =>
      intro fuel c hc hf
      obtain ⟨f, rfl⟩ : ∃ f, fuel = f + 1 := ⟨fuel - 1, by omega⟩
      have hc5 := B.2.2.2.2 c (by omega)
      have hwf := hW.2.1 c (by omega)
      rw [X2_hoursFor_l5, B.1, if_neg (nI_ge (by omega) (by omega)), isIn_n hs (by omega)]
      have h := ih f (c + 1) (by omega) (by omega)
      rw [sm] at h
      cases hb : set.testBit c
      · rw [hb] at h
        simp only [Bool.false_eq_true, if_false, if_true, false_and, Nat.add_zero, X2_hoursFor_b60, nI_1] at h ⊢
        exact h
      · rw [hb] at h
        simp only [if_true, true_and, X2_hoursFor_b60, nI_1] at h ⊢
        rw [if_neg (by decide), fat_n σ 7 (by omega) (by decide), hc5.2.2.1, isIn_n (by omega) (by omega)]
        cases hb2 : (P 2 c).testBit p
        · rw [hb2] at h
          simp only [Bool.false_eq_true, if_false, if_true, Nat.add_zero] at h ⊢
          exact h
        · rw [hb2] at h
          simp only [if_true] at h ⊢
          rw [if_neg (by decide), fat_n σ 5 (by omega) (by decide), hc5.1, nI_add]
          exact h
  exact key (P 6 0) fuel_X2_hoursFor_5 0 (by omega) (by show _ < 64; omega)
/-- the placed scenes of a day, among the first c -/
def pon (P : PP) (o : Od) (day : Nat) : Nat → Nat
  | 0 => 0
  | c + 1 => if (msk P o).testBit c = true ∧ bgn P o c / 24 = day then pon P o day c ||| 2 ^ c else pon P o day c
theorem pon_lt {day c : Nat} (hc : c ≤ 8) : pon P o day c < 256 := by
  induction c with
  | zero => exact (by decide : 0 < 256)
  | succ c ih =>
    rw [pon]
    split
    · exact or_lt (ih (by omega)) (p2_lt (by omega))
    · exact ih (by omega)
theorem pon_tb {day i : Nat} : ∀ {c : Nat}, (pon P o day c).testBit i = true ↔ i < c ∧ (msk P o).testBit i = true ∧ bgn P o i / 24 = day
  | 0 => by simp [pon]
  | c + 1 => by
    rw [pon]
    by_cases h : (msk P o).testBit c = true ∧ bgn P o c / 24 = day
    · rw [if_pos h, or_tb, Bool.or_eq_true, decide_eq_true_eq, pon_tb]
      constructor
      · rintro (⟨h1, h2⟩ | rfl)
        · exact ⟨by omega, h2⟩
        · exact ⟨by omega, h⟩
      · rintro ⟨h1, h2⟩
        by_cases hi : i = c
        · exact Or.inr hi.symm
        · exact Or.inl ⟨by omega, h2⟩
    · rw [if_neg h, pon_tb]
      constructor
      · rintro ⟨h1, h2⟩; exact ⟨by omega, h2⟩
      · rintro ⟨h1, h2⟩
        refine ⟨?_, h2⟩
        by_cases hi : i = c
        · subst hi; exact absurd h2 h
        · omega
theorem placedOn_n (hW : Wf P) (hv : Vd P o) (S : SC P o σ) {day : Nat} (hd : day < 2 ^ 31) : X2_placedOn σ (nI day) (nI (msk P o)) = some (nI (pon P o day (P 6 0))) := by
  have hn := hW.1
  have hm := msk_256 hW hv
  have key : ∀ k fuel c, c + k = P 6 0 → k < fuel → X2_placedOn_l5 fuel σ (nI day) (nI (msk P o)) (nI (pon P o day c)) (nI c) = some (nI (pon P o day (P 6 0))) := by
    intro k
    induction k with
    | zero =>
      intro fuel c hc hf
      obtain ⟨f, rfl⟩ : ∃ f, fuel = f + 1 := ⟨fuel - 1, by omega⟩
      rw [X2_placedOn_l5, S.n, if_pos (nI_le (by omega) (by omega)), show c = P 6 0 by omega]
    | succ k ih =>
      intro fuel c hc hf
      obtain ⟨f, rfl⟩ : ∃ f, fuel = f + 1 := ⟨fuel - 1, by omega⟩
      rw [X2_placedOn_l5, S.n, if_neg (nI_ge (by omega) (by omega)), isIn_n hm (by omega)]
      have h := ih f (c + 1) (by omega) (by omega)
      rw [pon] at h
      cases hb : (msk P o).testBit c
      · rw [hb] at h
        simp only [Bool.false_eq_true, if_false, if_true, false_and, X2_placedOn_b50, nI_1] at h ⊢
        exact h
      · have hbl := bgn_lt hW hv hb
        rw [hb] at h
        simp only [if_true, true_and, X2_placedOn_b50, nI_1] at h ⊢
        rw [if_neg (by decide), fat_n σ 11 (by omega) (by decide), S.2.2 c hb, dayOf_n (by omega)]
        by_cases hd2 : bgn P o c / 24 = day
        · rw [if_pos (by rw [hd2]), with_n (pon_lt (by omega)) (by omega)]
          rw [if_pos hd2] at h
          exact h
        · rw [if_neg (fun e => hd2 (nI_inj (by omega) hd e))]
          rw [if_neg hd2] at h
          exact h
  exact key (P 6 0) fuel_X2_placedOn_5 0 (by omega) (by show _ < 64; omega)
theorem kid_pon (p day : Nat) : sm (P 6 0) (fun i => if (pon P o day (P 6 0)).testBit i = true ∧ (P 2 i).testBit p = true then P 0 i else 0) = kid P o p day := by
  refine sm_congr (fun i hi => ?_)
  by_cases h : (msk P o).testBit i = true ∧ bgn P o i / 24 = day ∧ (P 2 i).testBit p = true
  · rw [if_pos h, if_pos ⟨pon_tb.mpr ⟨hi, h.1, h.2.1⟩, h.2.2⟩]
  · rw [if_neg h, if_neg (fun hh => h ⟨(pon_tb.mp hh.1).2.1, (pon_tb.mp hh.1).2.2, hh.2⟩)]
theorem kidC_n (hW : Wf P) (hv : Vd P o) (S : SC P o σ) {day p : Nat} (hd : day < 2 ^ 31) (hp : p < 6) : ∃ r, X2_placedOn σ (nI day) (nI (msk P o)) = some (nI r) ∧ X2_hoursFor σ (nI p) (nI r) = some (nI (kid P o p day)) := by
  refine ⟨_, placedOn_n hW hv S hd, ?_⟩
  rw [hoursFor_n hW S.1 (pon_lt hW.1) hp, kid_pon]
theorem kid_le (hW : Wf P) (p day : Nat) : kid P o p day ≤ 48 := by
  have h : kid P o p day ≤ P 6 0 * 6 := sm_le (fun i hi => by
    have := hW.2.1 i hi
    split <;> omega)
  have := hW.1
  omega
theorem fit_n (hW : Wf P) (hv : Vd P o) (S : SC P o σ) {s day : Nat} (hs : s < P 6 0) (hd : day < 2 ^ 31) : ∃ r, X2_isFitForChildren σ (nI s) (nI day) (nI (msk P o)) = some r ∧ (r = 0 ↔ ¬ fitC P o s day) := by
  have hn := hW.1
  have hs5 := S.1.2.2.2.2 s hs
  have hws := hW.2.1 s hs
  have hch := hW.2.2.2.1
  have hcl : P 6 2 &&& P 2 s < 256 := Nat.lt_of_le_of_lt Nat.and_le_left (by omega)
  have key : ∀ k fuel c, c + k = 6 → k < fuel → (∀ p, p < c → (P 6 2 &&& P 2 s).testBit p = true → kid P o p day + P 0 s ≤ 6) → ∃ r, X2_isFitForChildren_l24 fuel σ (nI s) (nI day) (nI (msk P o)) (nI (P 6 2 &&& P 2 s)) (nI c) = some r ∧ (r = 0 ↔ ¬ fitC P o s day) := by
    intro k
    induction k with
    | zero =>
      intro fuel c hc hf hall
      obtain ⟨f, rfl⟩ : ∃ f, fuel = f + 1 := ⟨fuel - 1, by omega⟩
      rw [X2_isFitForChildren_l24, il6, if_pos (nI_le (by omega) (by omega))]
      exact ⟨1, rfl, ⟨fun h => absurd h (by decide), fun h => absurd (fun p hp => hall p (by omega)) h⟩⟩
    | succ k ih =>
      intro fuel c hc hf hall
      obtain ⟨f, rfl⟩ : ∃ f, fuel = f + 1 := ⟨fuel - 1, by omega⟩
      rw [X2_isFitForChildren_l24, il6, if_neg (nI_ge (by omega) (by omega)), isIn_n hcl (by omega)]
      cases hb : (P 6 2 &&& P 2 s).testBit c
      · simp only [Bool.false_eq_true, if_false, if_true, X2_isFitForChildren_b72, nI_1]
        refine ih f (c + 1) (by omega) (by omega) (fun p hp hpb => ?_)
        by_cases hpc : p = c
        · subst hpc; rw [hb] at hpb; cases hpb
        · exact hall p (by omega) hpb
      · obtain ⟨r, h1, h2⟩ := kidC_n hW hv S (p := c) hd (by omega)
        have hk := kid_le (o := o) hW c day
        simp only [if_true, X2_isFitForChildren_b72, nI_1, h1, h2, Option.bind_some]
        rw [if_neg (by decide), fat_n σ 5 (by omega) (by decide), hs5.1, nI_add]
        by_cases hle : kid P o c day + P 0 s ≤ 6
        · rw [if_pos (nI_le hle (by omega))]
          refine ih f (c + 1) (by omega) (by omega) (fun p hp hpb => ?_)
          by_cases hpc : p = c
          · subst hpc; exact hle
          · exact hall p (by omega) hpb
        · rw [if_neg (nI_ge (by omega) (by omega))]
          exact ⟨0, rfl, ⟨fun _ h => hle (h c (by omega) hb), fun _ => rfl⟩⟩
  unfold X2_isFitForChildren
  rw [fat_n σ 7 (by omega) (by decide), hs5.2.2.1, S.1.2.2.1, nI_and]
  exact key 6 fuel_X2_isFitForChildren_24 0 rfl (by show _ < 64; omega) (fun p hp => by omega)
/-- the earliest hour by light and rests -/
theorem beginFrom_n (hW : Wf P) (hv : Vd P o) (S : SC P o σ) {h0 s day : Nat} (hs : s < P 6 0) (hd : day ≤ 1010) (hh : h0 < 2 ^ 20) : X2_beginFrom σ (nI h0) (nI s) (nI day) (nI (msk P o)) = some (nI (max (max h0 (dwn P s day)) (mx (P 6 0) (gr P o s day)))) := by
  have hn := hW.1
  have hm := msk_256 hW hv
  have hs5 := S.1.2.2.2.2 s hs
  have hws := hW.2.1 s hs
  have hdw : dwn P s day < 2 ^ 20 := by
    unfold dwn
    split <;> omega
  have hmx : ∀ c, c ≤ P 6 0 → mx c (gr P o s day) < 2 ^ 20 := by
    intro c hc
    have : mx c (gr P o s day) ≤ 24 * day + 11 := mx_le (fun i _ => gr_le (Gd_of hW hv) i)
    omega
  have key : ∀ k fuel c e0, e0 < 2 ^ 20 → c + k = P 6 0 → k < fuel → X2_beginFrom_l40 fuel σ (nI s) (nI day) (nI (msk P o)) (nI (max e0 (mx c (gr P o s day)))) (nI c) = some (nI (max e0 (mx (P 6 0) (gr P o s day)))) := by
    intro k
    induction k with
    | zero =>
      intro fuel c e0 he hc hf
      obtain ⟨f, rfl⟩ : ∃ f, fuel = f + 1 := ⟨fuel - 1, by omega⟩
      rw [X2_beginFrom_l40, S.n, if_pos (nI_le (by omega) (by omega)), show c = P 6 0 by omega]
    | succ k ih =>
      intro fuel c e0 he hc hf
      obtain ⟨f, rfl⟩ : ∃ f, fuel = f + 1 := ⟨fuel - 1, by omega⟩
      have hc5 := S.1.2.2.2.2 c (by omega)
      have hwc := hW.2.1 c (by omega)
      have hmc := hmx c (by omega)
      rw [X2_beginFrom_l40, S.n, if_neg (nI_ge (by omega) (by omega)), isIn_n hm (by omega)]
      have h := ih f (c + 1) e0 he (by omega) (by omega)
      rw [mx] at h
      simp only [X2_beginFrom_b121, nI_1]
      cases hb : (msk P o).testBit c
      · have hg : gr P o s day c = 0 := if_neg (fun hh => by rw [hb] at hh; cases hh.1)
        rw [hg, Nat.max_zero] at h
        simp only [Bool.false_eq_true, if_false, if_true]
        exact h
      · have hbl := bgn_lt hW hv hb
        simp only [if_true]
        rw [if_neg (by decide), fat_n σ 7 (by omega) (by decide), fat_n σ 7 (by omega) (by decide), hc5.2.2.1, hs5.2.2.1, nI_and, il0]
        have hpl : P 2 c &&& P 2 s < 256 := Nat.lt_of_le_of_lt Nat.and_le_left (by omega)
        by_cases hcm : P 2 c &&& P 2 s = 0
        · have hg : gr P o s day c = 0 := if_neg (fun hh => hh.2.1 hcm)
          rw [hg, Nat.max_zero] at h
          rw [if_pos (by rw [hcm])]
          exact h
        · rw [if_neg (fun e => hcm (nI_inj (by omega) (by omega) e)), fat_n σ 11 (by omega) (by decide), S.2.2 c hb, dayOf_n (by omega)]
          by_cases hdd : bgn P o c / 24 < day
          · have hg : gr P o s day c = bgn P o c + P 0 c + 11 := if_pos ⟨hb, hcm, hdd⟩
            rw [hg] at h
            rw [if_neg (nI_ge hdd (by omega))]
            unfold X2_endOf
            rw [fat_n σ 11 (by omega) (by decide), S.2.2 c hb, fat_n σ 5 (by omega) (by decide), hc5.1, nI_add, il11, nI_add, imax_n (by omega) (by omega), Nat.max_assoc]
            exact h
          · have hg : gr P o s day c = 0 := if_neg (fun hh => hdd hh.2.2)
            rw [hg, Nat.max_zero] at h
            rw [if_pos (nI_le (by omega) (by omega))]
            exact h
  unfold X2_beginFrom X2_beginFrom_b26
  rw [fat_n σ 8 (by omega) (by decide), hs5.2.2.2.1, il24, nI_mul, il2]
  have k2 := key (P 6 0) fuel_X2_beginFrom_40 0 (max h0 (dwn P s day)) (by omega) (by omega) (by show _ < 64; omega)
  rw [mx, Nat.max_zero] at k2
  by_cases h2 : P 3 s = 2
  · have hdv : dwn P s day = 24 * day + 18 := by unfold dwn; rw [if_pos h2]
    rw [if_pos (by rw [h2]), il18, nI_add, imax_n (by omega) (by omega), ← hdv]
    exact k2
  · have hdv : dwn P s day = 24 * day + 8 := by unfold dwn; rw [if_neg h2]
    rw [if_neg (fun e => h2 (nI_inj (by omega) (by omega) e)), il8, nI_add, imax_n (by omega) (by omega), ← hdv]
    exact k2
end
