/-! Shooting a day. -/
def AQ (Q : Nat → Nat × Nat → Prop) : Od → Prop
  | [] => True
  | x :: t => Q t.length x ∧ AQ Q t
theorem sfxQ {P : PP} {Q : Nat → Nat × Nat → Prop} : ∀ {o : Od} {j : Nat}, AQ Q o → Vd P o → j < o.length → ∃ x, sfx o (j + 1) = x :: sfx o j ∧ Q j x ∧ Vd P (x :: sfx o j)
  | [], j, _, _, h => absurd h (by simp)
  | x :: t, j, ho, hv, h => by
    rw [List.length_cons] at h
    by_cases hj : j = t.length
    · subst hj
      refine ⟨x, ?_, ho.1, ?_⟩
      · rw [sfx, if_pos (by omega), sfx, if_neg (by omega), sfx_len]
      · rw [sfx, if_neg (by omega), sfx_len]; exact hv
    · obtain ⟨y, h1, h2⟩ := sfxQ (o := t) (j := j) ho.2 hv.1 (by omega)
      refine ⟨y, ?_, ?_⟩
      · rw [sfx, if_neg (by omega), sfx, if_neg (by omega)]; exact h1
      · rw [sfx, if_neg (by omega)]; exact h2
theorem AQ_and {Q R : Nat → Nat × Nat → Prop} : ∀ {o : Od}, AQ Q o → AQ R o → AQ (fun i x => Q i x ∧ R i x) o
  | [], _, _ => trivial
  | _ :: _, h1, h2 => ⟨⟨h1.1, h2.1⟩, AQ_and h1.2 h2.2⟩
theorem OK_AQ {σ : SS} : ∀ {o : Od}, OK σ o → AQ (fun i x => σ 12 i = nI x.1) o
  | [], _ => trivial
  | _ :: _, h => ⟨h.1, OK_AQ h.2⟩
theorem OP_AQ {τ : SS} : ∀ {o : Od}, OP τ o → AQ (fun i x => τ 7 i = nI x.1 ∧ τ 8 i = nI x.2) o
  | [], _ => trivial
  | _ :: _, h => ⟨h.1, OP_AQ h.2⟩
theorem own_AQ {P : PP} {B : Od} : ∀ {o : Od}, Vd P o → (∀ i, (msk P o).testBit i = true → bgn P B i = bgn P o i) → AQ (fun _ x => bgn P B x.1 = x.2) o
  | [], _, _ => trivial
  | x :: t, hv, h => by
    refine ⟨?_, own_AQ hv.1 (fun i hi => ?_)⟩
    · show bgn P B x.1 = x.2
      rw [h x.1 (msk_cons.mpr (Or.inr rfl)), bgn_eq]
    · have hne : i ≠ x.1 := by
        rintro rfl
        rw [(canF_t hv.2.2.1).1] at hi
        cases hi
      rw [h i (msk_cons.mpr (Or.inl hi)), bgn_ne hne]
/-- the scenes of the plan that are shot today -/
def tdy (P : PP) (w : Nat → Bool) : Od → Nat
  | [] => 0
  | x :: t => if x.2 / 24 = P 6 3 ∧ w x.1 = false ∧ wo (P 4 x.1) (P 6 1 ||| tdy P w t) = 0 then tdy P w t ||| 2 ^ x.1 else tdy P w t
theorem done_in {P : PP} {i : Nat} (h : (P 6 1).testBit i = true) : ∀ (o : Od), (msk P o).testBit i = true
  | [] => h
  | _ :: t => msk_cons.mpr (Or.inl (done_in h t))
section
variable {P : PP} {w : Nat → Bool}
theorem tdy_in : ∀ {o : Od}, Vd P o → ∀ i, (tdy P w o).testBit i = true → (msk P o).testBit i = true ∧ (P 6 1).testBit i = false ∧ bgn P o i / 24 = P 6 3
  | [], _, i, h => by
    rw [tdy, Nat.zero_testBit] at h
    cases h
  | x :: t, hv, i, h => by
    have hx := (canF_t hv.2.2.1).1
    have old : (tdy P w t).testBit i = true → (msk P (x :: t)).testBit i = true ∧ (P 6 1).testBit i = false ∧ bgn P (x :: t) i / 24 = P 6 3 := by
      intro h
      obtain ⟨h1, h2, h3⟩ := tdy_in hv.1 i h
      have hne : i ≠ x.1 := by
        rintro rfl
        rw [hx] at h1
        cases h1
      exact ⟨msk_cons.mpr (Or.inl h1), h2, by rw [bgn_ne hne]; exact h3⟩
    rw [tdy] at h
    split at h
    · next hc =>
      rw [or_tb, Bool.or_eq_true, decide_eq_true_eq] at h
      rcases h with h | h
      · exact old h
      · subst h
        refine ⟨msk_cons.mpr (Or.inr rfl), ?_, by rw [bgn_eq]; exact hc.1⟩
        cases hb : (P 6 1).testBit x.1
        · rfl
        · rw [done_in hb t] at hx
          cases hx
    · exact old h
theorem tdy_lt (hW : Wf P) : ∀ {o : Od}, Vd P o → tdy P w o < 2 ^ P 6 0
  | [], _ => pw_pos _
  | x :: t, hv => by
    rw [tdy]
    split
    · exact Nat.or_lt_two_pow (tdy_lt hW hv.1) (Nat.pow_lt_pow_right (by decide) hv.2.1)
    · exact tdy_lt hW hv.1
theorem tdy_256 (hW : Wf P) {o : Od} (hv : Vd P o) : tdy P w o < 256 := Nat.lt_of_lt_of_le (tdy_lt hW hv) (pw_le hW.1)
theorem tdy_ah (hW : Wf P) : ∀ {o : Od}, Vd P o → ∀ i, (tdy P w o).testBit i = true → ∀ j, (P 4 i).testBit j = true → (P 6 1 ||| tdy P w o).testBit j = true
  | [], _, i, h => by
    rw [tdy, Nat.zero_testBit] at h
    cases h
  | x :: t, hv, i, h => by
    intro j hj
    have mono : (P 6 1 ||| tdy P w t).testBit j = true → (P 6 1 ||| tdy P w (x :: t)).testBit j = true := by
      rw [Nat.testBit_or, Nat.testBit_or, Bool.or_eq_true, Bool.or_eq_true]
      rintro (e | e)
      · exact Or.inl e
      · refine Or.inr ?_
        rw [tdy]
        split
        · rw [or_tb, e]; rfl
        · exact e
    have h0 := h
    rw [tdy] at h
    split at h
    · next hc =>
      rw [or_tb, Bool.or_eq_true, decide_eq_true_eq] at h
      rcases h with h | h
      · exact mono (tdy_ah hW hv.1 i h j hj)
      · subst h
        have hx8 : x.1 < 8 := by have := hW.1; have := hv.2.1; omega
        have ha := (hW.2.1 x.1 hv.2.1).2.2.2.2.2
        have ha8 : P 4 x.1 < 256 := Nat.lt_of_lt_of_le ha (pw_le (by omega))
        have hj8 : j < 8 := by
          rcases Nat.lt_or_ge j 8 with q | q
          · exact q
          · rw [tb_hi ha8 (by omega)] at hj
            cases hj
        exact mono ((wo_0 ha8 (or_lt (wf_done hW) (tdy_256 hW hv.1))).mp hc.2.2 j hj8 hj)
    · exact mono (tdy_ah hW hv.1 i h j hj)
/-- the hours of a set -/
def hrs (P : PP) (T : Nat) : Nat := sm (P 6 0) (fun i => if T.testBit i = true then P 0 i else 0)
theorem hrs_put {T s : Nat} (hs : s < P 6 0) (h : T.testBit s = false) : hrs P (T ||| 2 ^ s) = hrs P T + P 0 s := by
  unfold hrs
  rw [sm_one (s := s) (f := fun i => if (T ||| 2 ^ s).testBit i = true then P 0 i else 0) (g := fun i => if T.testBit i = true then P 0 i else 0) hs (fun i _ hi => by
    have : (T ||| 2 ^ s).testBit i = T.testBit i := by
      rw [or_tb]
      have : ¬ s = i := fun e => hi e.symm
      simp [this]
    simp only [this]) (by simp only [h, Bool.false_eq_true, if_false])]
  have : (T ||| 2 ^ s).testBit s = true := by rw [or_tb]; simp
  simp only [this, if_true]
theorem hrs_le (hW : Wf P) (T : Nat) : hrs P T ≤ 48 := by
  have h : hrs P T ≤ P 6 0 * 6 := sm_le (fun i hi => by
    have := (hW.2.1 i hi).2.1
    split <;> omega)
  have := hW.1
  omega
theorem shootC {σ : SS} {b : Od} (hW : Wf P) (hv : Vd P b) (hlen : b.length = rem P []) (B : BC P σ) (K : OK σ b) (K2 : ∀ i, (msk P b).testBit i = true → σ 13 i = nI (bgn P b i)) (y : Int32) (hw : ∀ s, w s = (decide (y ≠ 0) && decide (X4_isIn (σ 2 7) (nI (P 1 s)) ≠ 0))) : X2_shootable σ y = some (nI (tdy P w b)) := by
  have hn := hW.1
  have hl8 := len_8 hW hv
  have hd4 := hW.2.2.2.2.1
  have hdone := wf_done hW
  have hQ := AQ_and (OK_AQ K) (own_AQ (B := b) hv (fun _ _ => rfl))
  have hin : ∀ j x, j < b.length → sfx b (j + 1) = x :: sfx b j → (msk P b).testBit x.1 = true := by
    have mono : ∀ k j, j + k = b.length → ∀ i, (msk P (sfx b j)).testBit i = true → (msk P b).testBit i = true := by
      intro k
      induction k with
      | zero =>
        intro j hj i hi
        rw [show j = b.length by omega, sfx_len] at hi
        exact hi
      | succ k ih =>
        intro j hj i hi
        obtain ⟨x, h1, -, -⟩ := sfxQ (j := j) hQ hv (by omega)
        exact ih (j + 1) (by omega) i (by rw [h1]; exact msk_cons.mpr (Or.inl hi))
    intro j x hj h
    exact mono (b.length - (j + 1)) (j + 1) (by omega) x.1 (by rw [h]; exact msk_cons.mpr (Or.inr rfl))
  have key : ∀ k fuel j, j + k = b.length → k < fuel → X2_shootable_l4 fuel σ y (nI (tdy P w (sfx b j))) (nI j) = some (nI (tdy P w b)) := by
    intro k
    induction k with
    | zero =>
      intro fuel j hj hf
      obtain ⟨f, rfl⟩ : ∃ f, fuel = f + 1 := ⟨fuel - 1, by omega⟩
      rw [X2_shootable_l4, open_n hW B, if_pos (nI_le (by omega) (by omega)), show j = b.length by omega, sfx_len]
    | succ k ih =>
      intro fuel j hj hf
      obtain ⟨f, rfl⟩ : ∃ f, fuel = f + 1 := ⟨fuel - 1, by omega⟩
      obtain ⟨x, h1, ⟨h2, h3⟩, h4⟩ := sfxQ (j := j) hQ hv (by omega)
      have hx := h4.2.1
      have hxb := hin j x (by omega) h1
      have hbx := bgn_x hW h4
      have hx5 := B.2.2.2.2 x.1 hx
      have ha := (hW.2.1 x.1 hx).2.2.2.2.2
      have ha8 : P 4 x.1 < 256 := Nat.lt_of_lt_of_le ha (pw_le (by omega))
      have hT := tdy_256 (w := w) hW h4.1
      have hor := or_lt hdone hT
      have h := ih f (j + 1) (by omega) (by omega)
      rw [h1, tdy] at h
      rw [X2_shootable_l4, open_n hW B, if_neg (nI_ge (by omega) (by omega)), fat_n σ 12 (by omega) (by decide), h2, fat_n σ 13 (by omega) (by decide), K2 x.1 hxb, h3, dayOf_n (by omega), B.2.2.2.1]
      unfold X2_shootable_b60 X2_shootable_b89 X3_isFree
      rw [fat_n σ 9 (by omega) (by decide), hx5.2.2.2.2, B.2.1, nI_or, wo_n ha8 hor, with_n hT (by omega), nI_1]
      by_cases hday : x.2 / 24 = P 6 3
      · rw [if_pos (by rw [hday])]
        unfold X3_isOutdoors
        rw [fat_n σ 6 (by omega) (by decide), hx5.2.1]
        by_cases hah : wo (P 4 x.1) (P 6 1 ||| tdy P w (sfx b j)) = 0
        · have hah' : nI (wo (P 4 x.1) (P 6 1 ||| tdy P w (sfx b j))) = 0 := by rw [hah]; rfl
          rw [if_pos hah', if_neg (show ¬ (1 : Int32) = 0 by decide)]
          by_cases hy : y = 0
          · have hwx : w x.1 = false := by rw [hw, hy]; rfl
            rw [if_pos ⟨hday, hwx, hah⟩] at h
            rw [if_pos hy]
            exact h
          · rw [if_neg hy]
            by_cases ho : X4_isIn (σ 2 7) (nI (P 1 x.1)) = 0
            · have hwx : w x.1 = false := by rw [hw, ho]; simp
              rw [if_pos ⟨hday, hwx, hah⟩] at h
              rw [if_pos ho]
              exact h
            · have hwx : w x.1 = true := by rw [hw]; simp [hy, ho]
              rw [if_neg (fun e => by rw [hwx] at e; cases e.2.1)] at h
              rw [if_neg ho]
              exact h
        · have hah' : ¬ nI (wo (P 4 x.1) (P 6 1 ||| tdy P w (sfx b j))) = 0 := nI_ne (b := 0) (by have := wo_lt (b := P 6 1 ||| tdy P w (sfx b j)) ha8; omega) (by decide) hah
          rw [if_neg (fun e => hah e.2.2)] at h
          rw [if_neg hah', if_pos rfl]
          by_cases hy : y = 0
          · rw [if_pos hy]
            exact h
          · rw [if_neg hy]
            by_cases ho : X4_isIn (σ 2 7) (nI (P 1 x.1)) = 0
            · rw [if_pos ho]
              exact h
            · rw [if_neg ho]
              exact h
      · rw [if_neg (fun e => hday e.1)] at h
        rw [if_neg (nI_ne (by omega) (by omega) hday)]
        exact h
  have h := key b.length fuel_X2_shootable_4 0 (by omega) (by show _ < 64; omega)
  rw [sfx_0] at h
  exact h
end
