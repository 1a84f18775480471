/-! Children, scenes, days that are shot. -/
theorem Zo_ch {P : PP} (hZ : Zo P) (c : Nat) : Zo (chP P c) := by
  intro k i h
  unfold chP
  by_cases e : k = 6
  · subst e
    rw [if_pos rfl, if_neg (by omega)]
    exact hZ _ _ h
  · rw [if_neg e]
    exact hZ _ _ h
theorem sh_setChild {P : PP} {m σ : SS} (S : Sh P m σ) (i : Nat) (hi : i < 6) (x2 : Int32) {v : Int32} (c : Nat) (hc : c ≤ 63) (hv : X4_isIn (nI (P 6 2)) (nI i) = v) (hw : X4_with (nI (P 6 2)) (nI i) x2 = nI c) (hne : ¬ v = x2) : ∃ σ1, X4_setChild σ (nI i) x2 = some (.inl v, σ1) ∧ Sh (chP P c) m σ1 := by
  obtain ⟨hW, hZ, C, hm⟩ := id S
  have h2 : σ 2 8 = nI (P 6 2) := C.1.1.2.2.1
  have hin : ¬ X4_isWithin (nI i) 0 5 = 0 := by
    rw [win_iff]
    rintro (e | e)
    · exact nI_pos (by omega) e
    · exact nI_nlt (a := 5) (show i ≤ 5 by omega) (by decide) e
  unfold X4_setChild X2_forget
  rw [if_neg hin, h2, hv, if_neg hne, lt_eq, Option.bind_some, lt_eq, wr_o σ _ (by omega), h2, hw]
  refine ⟨_, rfl, sh_mk (chP_Wf hW hc) (Zo_ch hZ c) (chP_PC C) (fun k i hd => ?_)⟩
  have hh := dm_cM hd
  rw [wr_o _ _ (by omega), wr_o _ _ (by omega), sh_at S hd]
theorem Zo_ad {P : PP} (hZ : Zo P) (h8 : P 6 0 < 8) (h p q l a : Nat) : Zo (adP P h p q l a) := by
  intro k i hki
  unfold adP
  by_cases e : k = 6
  · subst e
    rw [if_pos rfl, if_neg (by omega)]
    exact hZ _ _ hki
  · rw [if_neg e]
    by_cases e2 : i = P 6 0
    · rw [if_pos e2]
      have hk : 7 ≤ k := by omega
      rw [if_neg (by omega), if_neg (by omega), if_neg (by omega), if_neg (by omega), if_neg (by omega)]
      exact hZ _ _ hki
    · rw [if_neg e2]
      exact hZ _ _ hki
theorem sh_add {P : PP} {m σ : SS} (S : Sh P m σ) (v1 v2 v3 v4 v5 : Nat) (h8 : P 6 0 < 8) (h1 : 1 ≤ v1) (h1' : v1 ≤ 6) (h2 : v2 ≤ 3) (h3 : v3 ≤ 63) (h4 : v4 ≤ 2) (h5 : v5 < 2 ^ P 6 0) : ∃ σ1, X4_addScene σ (nI v1) (nI v2) (nI v3) (nI v4) (nI v5) = some (.inl (nI (P 6 0)), σ1) ∧ Sh (adP P v1 v2 v3 v4 v5) m σ1 := by
  obtain ⟨hW, hZ, C, hm⟩ := id S
  have hn := hW.1
  have hpw := pw_le hn
  have hp0 := pw_pos (P 6 0)
  have w : ∀ (x a b : Nat), a ≤ x → x ≤ b → b < 2 ^ 31 → ¬ X4_isWithin (nI x) (nI a) (nI b) = 0 := by
    intro x a b h1 h2 h3
    rw [win_iff]
    rintro (e | e)
    · exact nI_nlt h1 (by omega) e
    · exact nI_nlt h2 h3 e
  have hc : (nI (P 6 0)).toNatClampNeg = P 6 0 := clamp_n (by omega)
  have c5 : σ 2 5 = nI (P 6 0) := C.1.1.1
  have hx : X3_append (wr σ 1 7 0) (nI v1) (nI v2) (nI v3) (nI v4) (nI v5) = some (nI (P 6 0), wr (wr (wr (wr (wr (wr (wr σ 1 7 0) 5 (P 6 0) (nI v1)) 6 (P 6 0) (nI v2)) 7 (P 6 0) (nI v3)) 8 (P 6 0) (nI v4)) 9 (P 6 0) (nI v5)) 2 5 (nI (P 6 0 + 1))) := by
    unfold X3_append
    rw [wr_o σ _ (by omega), c5, fput_n _ 5 _ h8 (by decide), lt_eq, wr_o _ _ (by omega), wr_o σ _ (by omega), c5, fput_n _ 6 _ h8 (by decide), lt_eq, wr_o _ _ (by omega), wr_o _ _ (by omega), wr_o σ _ (by omega), c5, fput_n _ 7 _ h8 (by decide), lt_eq, wr_o _ _ (by omega), wr_o _ _ (by omega), wr_o _ _ (by omega), wr_o σ _ (by omega), c5, fput_n _ 8 _ h8 (by decide), lt_eq, wr_o _ _ (by omega), wr_o _ _ (by omega), wr_o _ _ (by omega), wr_o _ _ (by omega), wr_o σ _ (by omega), c5, fput_n _ 9 _ h8 (by decide), lt_eq, wr_o _ _ (by omega), wr_o _ _ (by omega), wr_o _ _ (by omega), wr_o _ _ (by omega), wr_o _ _ (by omega), wr_o σ _ (by omega), c5, nI_1, lt_eq, wr_at, il1, nI_sub' (by omega), Nat.add_sub_cancel]
  have ha : ¬ X4_isWithin (nI v5) 0 (nI (2 ^ P 6 0 - 1)) = 0 := w v5 0 _ (by omega) (by omega) (by omega)
  unfold X4_addScene X4_addScene_b54 X2_forget
  rw [if_neg (show ¬ X4_isWithin (nI v1) 1 6 = 0 from w v1 1 6 h1 h1' (by decide)), if_neg (show ¬ X4_isWithin (nI v2) 0 3 = 0 from w v2 0 3 (by omega) h2 (by decide)), if_neg (show ¬ X4_isWithin (nI v3) 0 63 = 0 from w v3 0 63 (by omega) h3 (by decide)), if_neg (show ¬ X4_isWithin (nI v4) 0 2 = 0 from w v4 0 2 (by omega) h4 (by decide)), every_n hW C.1.1, if_pos ((ahead_n hn _).mpr ha), c5, if_pos (show nI (P 6 0) < 8 from nI_lt (b := 8) (by omega) (by decide)), lt_eq, Option.bind_some, hx]
  simp only [bd2]
  have hb : ∀ i, (P 6 1).testBit i = true → i ≠ P 6 0 := by
    rintro i hi rfl
    rw [Nat.testBit_lt_two_pow hW.2.2.1] at hi
    cases hi
  have hP0 : adP P v1 v2 v3 v4 v5 6 0 = P 6 0 + 1 := rfl
  refine ⟨_, rfl, sh_mk (adP_Wf hW h8 h1 h1' h2 h3 h4 h5) (Zo_ad hZ h8 v1 v2 v3 v4 v5) ⟨⟨⟨?_, ?_, ?_, ?_, fun i hi => ?_⟩, trivial, fun i hi => ?_⟩, Or.inl ?_⟩ (fun k i hd => ?_)⟩
  · rw [wr_at]; rfl
  · rw [wr_o _ _ (by omega), wr_o _ _ (by omega), wr_o _ _ (by omega), wr_o _ _ (by omega), wr_o _ _ (by omega), wr_o _ _ (by omega), wr_o _ _ (by omega)]; exact C.1.1.2.1
  · rw [wr_o _ _ (by omega), wr_o _ _ (by omega), wr_o _ _ (by omega), wr_o _ _ (by omega), wr_o _ _ (by omega), wr_o _ _ (by omega), wr_o _ _ (by omega)]; exact C.1.1.2.2.1
  · rw [wr_o _ _ (by omega), wr_o _ _ (by omega), wr_o _ _ (by omega), wr_o _ _ (by omega), wr_o _ _ (by omega), wr_o _ _ (by omega), wr_o _ _ (by omega)]; exact C.1.1.2.2.2.1
  · rw [hP0] at hi
    by_cases e : i = P 6 0
    · subst e
      obtain ⟨a0, a1, a2, a3, a4⟩ := adP_n (P := P) (h := v1) (p := v2) (q := v3) (l := v4) (a := v5)
      rw [a0, a1, a2, a3, a4]
      simp [wr_app]
    · have h := C.1.1.2.2.2.2 i (by omega)
      rw [adP_o (by decide) e, adP_o (by decide) e, adP_o (by decide) e, adP_o (by decide) e, adP_o (by decide) e]
      simpa [wr_app, e] using h
  · have hi : (P 6 1).testBit i = true := hi
    rw [wr_o _ _ (by omega), wr_o _ _ (by omega), wr_o _ _ (by omega), wr_o _ _ (by omega), wr_o _ _ (by omega), wr_o _ _ (by omega), wr_o _ _ (by omega)]
    rw [C.1.2.2 i hi]
    show nI (P 5 i) = nI (adP P v1 v2 v3 v4 v5 5 i)
    rw [adP_5]
  · simp [wr_app]
  · have hh := dm_cM hd
    rw [wr_o _ _ (by omega), wr_o _ _ (by omega), wr_o _ _ (by omega), wr_o _ _ (by omega), wr_o _ _ (by omega), wr_o _ _ (by omega), wr_o _ _ (by omega), sh_at S hd]
/-- eight scenes are the most -/
theorem sh_add8 {P : PP} {m σ : SS} (S : Sh P m σ) (v1 v2 v3 v4 v5 : Nat) (h8 : P 6 0 = 8) (h1 : 1 ≤ v1) (h1' : v1 ≤ 6) (h2 : v2 ≤ 3) (h3 : v3 ≤ 63) (h4 : v4 ≤ 2) (h5 : v5 < 2 ^ P 6 0) : X4_addScene σ (nI v1) (nI v2) (nI v3) (nI v4) (nI v5) = some (.inr "java/lang/IllegalStateException", σ) := by
  obtain ⟨hW, hZ, C, hm⟩ := id S
  have hn := hW.1
  have hpw := pw_le hn
  have hp0 := pw_pos (P 6 0)
  have w : ∀ (x a b : Nat), a ≤ x → x ≤ b → b < 2 ^ 31 → ¬ X4_isWithin (nI x) (nI a) (nI b) = 0 := by
    intro x a b h1 h2 h3
    rw [win_iff]
    rintro (e | e)
    · exact nI_nlt h1 (by omega) e
    · exact nI_nlt h2 h3 e
  have c5 : σ 2 5 = nI (P 6 0) := C.1.1.1
  have ha : ¬ X4_isWithin (nI v5) 0 (nI (2 ^ P 6 0 - 1)) = 0 := w v5 0 _ (by omega) (by omega) (by omega)
  unfold X4_addScene X4_addScene_b54
  rw [if_neg (show ¬ X4_isWithin (nI v1) 1 6 = 0 from w v1 1 6 h1 h1' (by decide)), if_neg (show ¬ X4_isWithin (nI v2) 0 3 = 0 from w v2 0 3 (by omega) h2 (by decide)), if_neg (show ¬ X4_isWithin (nI v3) 0 63 = 0 from w v3 0 63 (by omega) h3 (by decide)), if_neg (show ¬ X4_isWithin (nI v4) 0 2 = 0 from w v4 0 2 (by omega) h4 (by decide)), every_n hW C.1.1, if_pos ((ahead_n hn _).mpr ha), c5, if_neg (by rw [h8]; decide)]
/-! Shooting. -/
def wet (m : SS) (x1 : Int32) : Int32 := if x1 = 0 then 0 else if m 0 6 = 0 then 1 else 0
def wv (P : PP) (m : SS) (x1 : Int32) : Nat → Bool := fun s => decide (wet m x1 ≠ 0) && decide (X4_isIn (m 2 7) (nI (P 1 s)) ≠ 0)
def cov (m : SS) : Int32 := if m 0 6 = 0 then 0 else m 0 5
def pay1 (m : SS) (i a : Int32) : SS := match X0_pay m i a with
  | some (_, m1) => m1
  | none => m
/-- whether a day can be paid -/
def canPay (m : SS) (a c : Int32) : Bool := decide (¬ m 3 1 < X0_lackOf m 0 a + X0_lackOf m 1 c)
theorem pay_some (m : SS) (i a : Int32) : ∃ r, X0_pay m i a = some (r, pay1 m i a) := by
  have h : ∃ r m1, X0_pay m i a = some (r, m1) := by
    unfold X0_pay
    simp only [lt_eq]
    exact ⟨_, _, rfl⟩
  obtain ⟨r, m1, h⟩ := h
  refine ⟨r, ?_⟩
  unfold pay1
  rw [h]
theorem Zo_sh {P : PP} (hZ : Zo P) {T : Nat} (hT : T < 256) (b : Od) : Zo (shP P T b) := by
  intro k i h
  unfold shP
  by_cases e : k = 6
  · subst e
    rw [if_pos rfl, if_neg (by omega), if_neg (by omega)]
    exact hZ _ _ h
  · rw [if_neg e]
    by_cases e5 : k = 5
    · rw [if_pos e5, if_neg (by rw [tb_hi hT (by omega)]; decide)]
      subst e5
      exact hZ _ _ h
    · rw [if_neg e5]
      exact hZ _ _ h
theorem sh_day {P : PP} {m σ : SS} (S : Sh P m σ) {b : Od} (hb : bst P = some b) (x1 : Int32) {T : Nat} (hT : tdy P (wv P m x1) b = T) : ∃ σ1, X4_shoot σ x1 = X4_shoot_b60 σ1 (nI T) (nI (hrs P T) * m 0 4) (cov m) ∧ Sh P m σ1 ∧ KeepC P (bst P) σ1 := by
  obtain ⟨σ1, h1, S1, h3⟩ := sh_make S
  obtain ⟨b', hb', b1, b2, b3, b4⟩ := bst_some S.1
  rw [hb] at hb'
  obtain rfl : b = b' := Option.some.inj hb'
  obtain ⟨K1, K2⟩ := h3.2 b hb
  have e6 : σ1 0 6 = m 0 6 := sh_at S1 (by decide)
  have e7 : σ1 2 7 = m 2 7 := sh_at S1 (by decide)
  have e4 : σ1 0 4 = m 0 4 := sh_at S1 (by decide)
  have e5 : σ1 0 5 = m 0 5 := sh_at S1 (by decide)
  have hs := shootC (w := wv P m x1) S.1 b1 b3 S1.2.2.1.1.1 K1 K2 (wet m x1) (fun s => by rw [e7]; rfl)
  have ht := tdy_256 (w := wv P m x1) S.1 b1
  rw [hT] at hs ht
  have hh := hoursOf_n S.1 S1.2.2.1.1.1 ht
  have h27 : X4_shoot_b27 σ1 (wet m x1) = X4_shoot_b60 σ1 (nI T) (nI (hrs P T) * m 0 4) (cov m) := by
    unfold X4_shoot_b27
    rw [hs, Option.bind_some, hh, Option.bind_some, e4, e6, e5]
    unfold cov
    by_cases a : m 0 6 = 0
    · rw [if_pos a, if_pos a]; rfl
    · rw [if_neg a, if_neg a]; rfl
  refine ⟨σ1, ?_, S1, h3⟩
  unfold X4_shoot X4_shoot_b26
  rw [h1, Option.bind_some, e6, ← h27]
  unfold wet
  by_cases a : x1 = 0
  · rw [if_pos a, if_pos a]
  · rw [if_neg a, if_neg a]
    by_cases a2 : m 0 6 = 0
    · rw [if_pos a2, if_pos a2]
    · rw [if_neg a2, if_neg a2]
theorem lack_sh {P : PP} {m σ : SS} (S : Sh P m σ) (i a : Int32) : X0_lackOf σ i a = X0_lackOf m i a := by
  have e := cm_lack i a σ m
  rw [S.2.2.2] at e
  exact e
theorem sh_shootE {P : PP} {m σ : SS} (S : Sh P m σ) {b : Od} (hb : bst P = some b) (x1 : Int32) {T : Nat} (hT : tdy P (wv P m x1) b = T) (hp : canPay m (nI (hrs P T) * m 0 4) (cov m) = false ∨ P 6 3 = 1000) : ∃ σ1, X4_shoot σ x1 = some (.inr "java/lang/IllegalStateException", σ1) ∧ Sh P m σ1 := by
  obtain ⟨σ1, h1, S1, h3⟩ := sh_day S hb x1 hT
  refine ⟨σ1, ?_, S1⟩
  rw [h1]
  unfold X4_shoot_b60 X4_shoot_b109
  rw [lack_sh S1, lack_sh S1, sh_at S1 (by decide), S1.2.2.1.1.1.2.2.2.1]
  by_cases hl : m 3 1 < X0_lackOf m 0 (nI (hrs P T) * m 0 4) + X0_lackOf m 1 (cov m)
  · rw [if_pos hl]
  · rw [if_neg hl]
    rcases hp with hp | hp
    · unfold canPay at hp
      rw [decide_eq_true hl] at hp
      cases hp
    · rw [if_neg (by rw [hp]; decide)]
theorem sh_shoot {P : PP} {m σ : SS} (S : Sh P m σ) {b : Od} (hb : bst P = some b) (x1 : Int32) {T : Nat} (hT : tdy P (wv P m x1) b = T) (hp : canPay m (nI (hrs P T) * m 0 4) (cov m) = true) (hd : P 6 3 ≠ 1000) : ∃ σ1, X4_shoot σ x1 = some (.inl (J6_bitCount (nI T)), σ1) ∧ Sh (shP P T b) (pay1 (pay1 m 0 (nI (hrs P T) * m 0 4)) 1 (cov m)) σ1 := by
  obtain ⟨σ1, h1, S1, h3⟩ := sh_day S hb x1 hT
  obtain ⟨b', hb', b1, b2, b3, b4⟩ := bst_some S.1
  rw [hb] at hb'
  obtain rfl : b = b' := Option.some.inj hb'
  have hW := S.1
  have hn := hW.1
  have hd4 := hW.2.2.2.2.1
  obtain ⟨K1, K2⟩ := h3.2 b hb
  have ht := tdy_256 (w := wv P m x1) hW b1
  have hTn := tdy_lt (w := wv P m x1) hW b1
  have hin := tdy_in (w := wv P m x1) b1
  have hWf := shP_Wf (w := wv P m x1) hW b1 hd
  rw [hT] at ht hTn hin hWf
  have hl : ¬ m 3 1 < X0_lackOf m 0 (nI (hrs P T) * m 0 4) + X0_lackOf m 1 (cov m) := of_decide_eq_true hp
  generalize nI (hrs P T) * m 0 4 = A at h1 hl
  generalize cov m = cv at h1 hl
  obtain ⟨r0, p0⟩ := pay_some m 0 A
  obtain ⟨r1, p1⟩ := pay_some (pay1 m 0 A) 1 cv
  have q0 : X0_pay σ1 0 A = some (r0, mix σ1 (pay1 m 0 A)) := by
    have e := cm_pay 0 A σ1 m
    rw [S1.2.2.2, p0] at e
    exact e
  have q1 : X0_pay (mix σ1 (pay1 m 0 A)) 1 cv = some (r1, mix σ1 (pay1 (pay1 m 0 A) 1 cv)) := by
    rw [cm_pay, p1]
    rfl
  have hdl : nI (P 6 3) < 1000 := nI_lt (b := 1000) (by omega) (by decide)
  have c25 : mix σ1 (pay1 (pay1 m 0 A) 1 cv) 2 5 = nI (P 6 0) := by
    rw [mix_no _ _ (by decide)]
    exact S1.2.2.1.1.1.1
  obtain ⟨σ4, s1, s2, s3, s4⟩ := endDay_n hn ht (P 6 0) fuel_X2_endDay_2 0 _ (by omega) (by show _ < 64; omega) c25
  have s1' : X2_endDay (mix σ1 (pay1 (pay1 m 0 A) 1 cv)) (nI T) = _ := s1
  rw [h1]
  unfold X4_shoot_b60
  rw [lack_sh S1, lack_sh S1, sh_at S1 (by decide), if_neg hl, S1.2.2.1.1.1.2.2.2.1, if_pos hdl, q0]
  simp only [bd2]
  rw [q1]
  simp only [s1', Option.bind_some]
  have hlt8 : ∀ i, T.testBit i = true → i < P 6 0 := fun i h => by
    rcases Nat.lt_or_ge i (P 6 0) with q | q
    · exact q
    · rw [Nat.testBit_lt_two_pow (Nat.lt_of_lt_of_le hTn (Nat.pow_le_pow_right (by decide) q))] at h
      cases h
  have C := S1.2.2.1
  have F : ∀ k i, cP k i → k ≠ 11 → (k = 2 → i ≠ 6) → (k = 1 → i ≠ 6 ∧ i ≠ 7) → wr (wr (wr σ4 2 6 (mix σ1 (pay1 (pay1 m 0 A) 1 cv) 2 6 ||| nI T)) 1 6 (mix σ1 (pay1 (pay1 m 0 A) 1 cv) 1 6 + 1)) 1 7 0 k i = σ1 k i := fun k i hc a d e => by
    rw [wr_o _ _ (by omega), wr_o _ _ (by omega), wr_o _ _ (by omega), s2 k i a, mix_no _ _ (dm_cP hc)]
  have cp : ∀ k i, (k = 1 ∨ (5 ≤ k ∧ k ≤ 13) ∨ (k = 2 ∧ i ≠ 7)) → cP k i := fun _ _ h => h
  refine ⟨_, rfl, sh_mk hWf (Zo_sh S.2.1 ht b) ⟨⟨⟨?_, ?_, ?_, ?_, fun i hi => ?_⟩, trivial, fun i hi => ?_⟩, Or.inl ?_⟩ (fun k i hdm => ?_)⟩
  · rw [F 2 5 (cp _ _ (by omega)) (by decide) (by omega) (by omega)]; exact C.1.1.1
  · rw [wr_o _ _ (by omega), wr_o _ _ (by omega), wr_at, mix_no _ _ (by decide), C.1.1.2.1, nI_or]
    rfl
  · rw [F 2 8 (cp _ _ (by omega)) (by decide) (by omega) (by omega)]; exact C.1.1.2.2.1
  · rw [wr_o _ _ (by omega), wr_at, mix_no _ _ (by decide), C.1.1.2.2.2.1, nI_1]
    rfl
  · rw [F 5 i (cp _ _ (by omega)) (by decide) (by omega) (by omega), F 6 i (cp _ _ (by omega)) (by decide) (by omega) (by omega), F 7 i (cp _ _ (by omega)) (by decide) (by omega) (by omega), F 8 i (cp _ _ (by omega)) (by decide) (by omega) (by omega), F 9 i (cp _ _ (by omega)) (by decide) (by omega) (by omega), shP_o (by decide) (by decide), shP_o (by decide) (by decide), shP_o (by decide) (by decide), shP_o (by decide) (by decide), shP_o (by decide) (by decide)]
    exact C.1.1.2.2.2.2 i hi
  · have hi : (P 6 1 ||| T).testBit i = true := hi
    rw [wr_o _ _ (by omega), wr_o _ _ (by omega), wr_o _ _ (by omega)]
    show σ4 11 i = nI (shP P T b 5 i)
    rw [shP_5]
    cases hTi : T.testBit i
    · rw [Nat.testBit_or, hTi, Bool.or_false] at hi
      rw [if_neg (by decide), s4 i (Or.inr hTi), mix_no _ _ (dm_cP (cp _ _ (by omega)))]
      exact C.1.2.2 i hi
    · rw [if_pos rfl, s3 i (by omega) (hlt8 i hTi) hTi, mix_no _ _ (dm_cP (cp _ _ (by omega)))]
      exact K2 i (hin i hTi).1
  · exact wr_at _ _ _ _
  · have hh := dm_cM hdm
    rw [wr_o _ _ (by omega), wr_o _ _ (by omega), wr_o _ _ (by omega), s2 k i (by omega), mix_at _ _ hdm]
