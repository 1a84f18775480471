/-! What law asks of an empty house for a thousand days, and of a drawn one. -/
def kq0 : Nat := 0x3e8000000000000000000000000000000000000000000000000000000000000000000000000000000000000000000000000000000000000000000000000000000000000000000000000000000000000000000000000000000000000000000000000000000000000
def kq1 : Nat := 0x3e8000000000001000000000000000000000000000000000000000000000000000000000000000000000000000000000000000000000002000000000000000000000000000000000000000000000000000000000000000000000000000000000000000000000001
def kr1 : Nat := 0x10000000100000000000000000000000000000000
def kr2 : Nat := 0x186a000000000000000000000000000000000000000000000000000000000000000000000000000000000000000000000000000000000000000000000000000000000000000000000000000000000000000000000000000000000000000000000000000000000000000000000000000000000000000000000000000000000000000010000000100000000000000000000000000000000
def Pf (k : Nat) : PP := fun a i => if a = 6 ∧ i = 3 then k else 0
theorem bst_e {P : PP} (h : rem P [] = 0) : bst P = some [] := by
  unfold bst
  rw [h]
  rfl
theorem Pf_sh (k : Nat) : shP (Pf k) 0 [] = Pf (k + 1) := by
  funext a i
  unfold shP
  by_cases h6 : a = 6
  · subst h6
    rw [if_pos rfl]
    by_cases h1 : i = 1
    · subst h1
      show (Pf k 6 1 ||| 0) = Pf (k + 1) 6 1
      rw [Nat.or_zero]
      rfl
    · rw [if_neg h1]
      by_cases h3 : i = 3
      · subst h3; rfl
      · rw [if_neg h3]
        unfold Pf
        rw [if_neg (by omega), if_neg (by omega)]
  · rw [if_neg h6]
    by_cases h5 : a = 5
    · subst h5
      rw [if_pos rfl, Nat.zero_testBit, if_neg (by decide)]
      rfl
    · rw [if_neg h5]
      unfold Pf
      rw [if_neg (by omega), if_neg (by omega)]
theorem f_step {k : Nat} (hk : k < 1000) {σ : SS} (S : Sh (Pf k) (lit km0) σ) (a : Int32) : ∃ σ1, L_act σ 3 a 0 0 = some (0, σ1) ∧ Sh (Pf (k + 1)) (lit km0) σ1 := by
  have hc : canPay (lit km0) (nI (hrs (Pf k) 0) * lit km0 0 4) (cov (lit km0)) = true := by
    show canPay (lit km0) (nI 0 * lit km0 0 4) (cov (lit km0)) = true
    decide +kernel
  obtain ⟨σ1, e1, S1⟩ := sh_shoot S (b := []) (bst_e rfl) (if a = 1 then 1 else 0) (T := 0) rfl hc (by show k ≠ 1000; omega)
  rw [Pf_sh] at S1
  refine ⟨σ1, (act_3 σ a 0 0).trans (bdc_v (v := 0) (e1.trans rfl)), S1.1, S1.2.1, S1.2.2.1, ?_⟩
  have h2 : agb (pay1 (pay1 (lit km0) 0 (nI 0 * lit km0 0 4)) 1 (cov (lit km0))) (lit km0) = true := by decide +kernel
  rw [← mix_cg σ1 (agb_t h2)]
  exact S1.2.2.2
theorem d_last {P : PP} {m σ : SS} (hd : P 6 3 = 1000) (S : Sh P m σ) (a : Int32) : ∃ σ1, L_act σ 3 a 0 0 = some (-73, σ1) ∧ Sh P m σ1 := by
  obtain ⟨b, hb, -⟩ := bst_some S.1
  obtain ⟨σ1, e1, S1⟩ := sh_shootE S hb (if a = 1 then 1 else 0) rfl (Or.inr hd)
  exact ⟨σ1, (act_3 σ a 0 0).trans (bdc_E e1 rfl), S1⟩
/-! The drawn house. -/
def DI (k d : Nat) (P : PP) (m : SS) : Prop := P 6 0 = k ∧ P 6 3 ≤ d ∧ m 0 4 = 1 ∧ m 0 6 = 0 ∧ m 2 7 = 0 ∧ m 14 0 = 0 ∧ m 14 1 = 0 ∧ m 4 7 = 0 ∧ m 4 8 = 0 ∧ ∃ f, m 3 1 = nI f ∧ f ≤ 100000 ∧ 100000 ≤ f + 48 * P 6 3
theorem DI_up {k d d1 : Nat} {P : PP} {m : SS} (h : d ≤ d1) (I : DI k d P m) : DI k d1 P m := ⟨I.1, Nat.le_trans I.2.1 h, I.2.2⟩
theorem sm_lt {n i : Nat} {f g : Nat → Nat} (hi : i < n) (h : ∀ j, j < n → f j ≤ g j) (hl : f i < g i) : sm n f < sm n g := by
  induction n with
  | zero => omega
  | succ n ih =>
    rw [sm, sm]
    by_cases e : i = n
    · subst e
      have := sm_mono (n := i) (f := f) (g := g) (fun j hj => h j (by omega))
      omega
    · have := ih (by omega) (fun j hj => h j (by omega))
      have := h n (by omega)
      omega
theorem pay_one {m : SS} {i H f : Nat} (hi : i < 4) (h0 : m 14 i = 0) (hf : m 3 1 = nI f) (hH : H ≤ f) (hf2 : f ≤ 100000) : X0_lackOf m (nI i) (nI H) = nI H ∧ (∀ k j, k ≠ 3 → k ≠ 14 → pay1 m (nI i) (nI H) k j = m k j) ∧ (∀ j, pay1 m (nI i) (nI H) 14 j = m 14 j) ∧ pay1 m (nI i) (nI H) 3 1 = nI (f - H) := by
  have hl : X0_lackOf m (nI i) (nI H) = nI H := by
    unfold X0_lackOf
    rw [fat_n m 14 hi (by decide), h0, il0, nI_sub' (Nat.zero_le _), imax_n (by decide) (by omega), Nat.sub_zero, Nat.max_eq_right (Nat.zero_le _)]
  have hp : X0_pay m (nI i) (nI H) = some (nI H, wr (wr (wr (wr m 14 i 0) 3 1 (nI (f - H))) 3 2 (m 3 2 + nI H)) 3 3 (m 3 3 + nI H)) := by
    unfold X0_pay
    rw [hl, fadd_n m 14 _ hi (by decide), h0, nI_sub' (Nat.le_refl _), Nat.sub_self]
    simp only [lt_eq]
    rw [wr_o m _ (by omega), hf, nI_sub' hH, show (0 : Int32) + nI 0 = 0 from rfl]
    rw [wr_o _ _ (by omega), wr_o _ _ (by omega), wr_o _ _ (by omega), wr_o _ _ (by omega), wr_o _ _ (by omega)]
  have e : pay1 m (nI i) (nI H) = wr (wr (wr (wr m 14 i 0) 3 1 (nI (f - H))) 3 2 (m 3 2 + nI H)) 3 3 (m 3 3 + nI H) := by
    unfold pay1
    rw [hp]
  rw [e]
  refine ⟨hl, fun k j a b => ?_, fun j => ?_, ?_⟩
  · rw [wr_o _ _ (by omega), wr_o _ _ (by omega), wr_o _ _ (by omega), wr_o _ _ (by omega)]
  · rw [wr_o _ _ (by omega), wr_o _ _ (by omega), wr_o _ _ (by omega)]
    by_cases hj : j = i
    · subst hj
      rw [wr_at, h0]
    · rw [wr_ni _ _ _ hj]
  · rw [wr_o _ _ (by omega), wr_o _ _ (by omega), wr_at]
/-- in a house without rain the first scene of the plan is shot -/
theorem T_first {P : PP} {w : Nat → Bool} (hW : Wf P) (hw : ∀ s, w s = false) : ∀ {b : Od}, Vd P b → b ≠ [] → ∃ x, x < P 6 0 ∧ (tdy P w b).testBit x = true
  | [], _, h => absurd rfl h
  | x :: t, hv, _ => by
    by_cases ht : t = []
    · subst ht
      refine ⟨x.1, hv.2.1, ?_⟩
      obtain ⟨d, h1, h2, h3, h4, h5, h6⟩ := step hW (o := []) trivial hv.2.1
      have hd := h4 rfl
      have hc := hv.2.2.1
      unfold canF at hc
      rw [Bool.and_eq_true, decide_eq_true_eq] at hc
      rw [tdy, if_pos ⟨by rw [hv.2.2.2, h5, hd], hw _, by rw [tdy, Nat.or_zero]; exact hc.2⟩, or_tb]
      simp
    · obtain ⟨y, hy, hb⟩ := T_first hW hw hv.1 ht
      refine ⟨y, hy, ?_⟩
      rw [tdy]
      split
      · rw [or_tb, hb]; rfl
      · exact hb
theorem isIn_0 : ∀ i, i < 4 → X4_isIn 0 (nI i) = 0 := by decide +kernel
theorem o_shoot {P : PP} {m σ : SS} {k d : Nat} (S : Sh P m σ) (I : DI k d P m) (hd : d ≤ 40) (x1 : Int32) : ∃ c σ1 P1 m1, X4_shoot σ x1 = some (.inl (nI c), σ1) ∧ Sh P1 m1 σ1 ∧ DI k (d + 1) P1 m1 ∧ c ≤ 8 ∧ rem P1 [] ≤ rem P [] - 1 ∧ (rem P [] ≠ 0 → 1 ≤ c) := by
  obtain ⟨b, hb, b1, b2, b3, b4⟩ := bst_some S.1
  obtain ⟨i1, i2, i3, i4, i5, i6, i7, i8, i9, f, f1, f2, f3⟩ := I
  have hW := S.1
  have hn := hW.1
  have ht := tdy_256 (w := wv P m x1) hW b1
  have hTn := tdy_lt (w := wv P m x1) hW b1
  have hin := tdy_in (w := wv P m x1) b1
  have hwf : ∀ s, s < P 6 0 → wv P m x1 s = false := by
    intro s hs
    have := (hW.2.1 s hs).2.2.1
    unfold wv
    rw [i5, isIn_0 _ (by omega)]
    simp
  have hT1 : rem P [] ≠ 0 → ∃ x, x < P 6 0 ∧ (tdy P (wv P m x1) b).testBit x = true := by
    intro hr
    have hne : b ≠ [] := by
      rintro rfl
      exact hr b3.symm
    -- only scenes that there are count
    have e : tdy P (wv P m x1) b = tdy P (fun _ => false) b := by
      have key : ∀ {o : Od}, Vd P o → tdy P (wv P m x1) o = tdy P (fun _ => false) o := by
        intro o
        induction o with
        | nil => intro _; rfl
        | cons x t ih =>
          intro hv
          rw [tdy, tdy, ih hv.1, hwf x.1 hv.2.1]
      exact key b1
    rw [e]
    exact T_first hW (fun _ => rfl) b1 hne
  have hH := hrs_le hW (tdy P (wv P m x1) b)
  obtain ⟨T, hT⟩ : ∃ T, tdy P (wv P m x1) b = T := ⟨_, rfl⟩
  rw [hT] at ht hTn hin hT1 hH
  have hcv : cov m = nI 0 := by unfold cov; rw [if_pos i4]; rfl
  have hwg : nI (hrs P T) * m 0 4 = nI (hrs P T) := by rw [i3, il1, nI_mul, Nat.mul_one]
  obtain ⟨p1, p2, p3, p4⟩ := pay_one (m := m) (i := 0) (H := hrs P T) (by omega) i6 f1 (by omega) f2
  obtain ⟨q1, q2, q3, q4⟩ := pay_one (m := m) (i := 1) (H := 0) (by omega) i7 f1 (by omega) f2
  obtain ⟨r1, r2, r3, r4⟩ := pay_one (m := pay1 m (nI 0) (nI (hrs P T))) (i := 1) (H := 0) (by omega) (by rw [p3]; exact i7) p4 (by omega) (by omega)
  have hc : canPay m (nI (hrs P T) * m 0 4) (cov m) = true := by
    rw [hwg, hcv]
    have p1' : X0_lackOf m 0 (nI (hrs P T)) = nI (hrs P T) := p1
    have q1' : X0_lackOf m 1 (nI 0) = nI 0 := q1
    unfold canPay
    rw [p1', q1', nI_add, f1]
    exact decide_eq_true (nI_nlt (by omega) (by omega))
  obtain ⟨σ1, e1, S1⟩ := sh_shoot S hb x1 hT hc (by omega)
  rw [hwg, hcv] at S1
  refine ⟨sm 8 (fun i => if T.testBit i = true then 1 else 0), σ1, shP P T b, pay1 (pay1 m (nI 0) (nI (hrs P T))) (nI 1) (nI 0), by rw [← bc_all T ht]; exact e1, S1, ⟨i1, by show P 6 3 + 1 ≤ d + 1; omega, ?_, ?_, ?_, ?_, ?_, ?_, ?_, f - hrs P T - 0, r4, by omega, by show 100000 ≤ f - hrs P T - 0 + 48 * (P 6 3 + 1); omega⟩, ?_, ?_, ?_⟩
  · rw [r2 _ _ (by decide) (by decide), p2 _ _ (by decide) (by decide)]; exact i3
  · rw [r2 _ _ (by decide) (by decide), p2 _ _ (by decide) (by decide)]; exact i4
  · rw [r2 _ _ (by decide) (by decide), p2 _ _ (by decide) (by decide)]; exact i5
  · rw [r3, p3]; exact i6
  · rw [r3, p3]; exact i7
  · rw [r2 _ _ (by decide) (by decide), p2 _ _ (by decide) (by decide)]; exact i8
  · rw [r2 _ _ (by decide) (by decide), p2 _ _ (by decide) (by decide)]; exact i9
  · have : sm 8 (fun i => if T.testBit i = true then 1 else 0) ≤ 8 * 1 := sm_le (fun i _ => by split <;> omega)
    omega
  · have hle : ∀ j, j < P 6 0 → (if (P 6 1 ||| T).testBit j = true then 0 else 1) ≤ (if (P 6 1).testBit j = true then 0 else 1) := by
      intro j _
      rw [Nat.testBit_or]
      cases (P 6 1).testBit j <;> cases T.testBit j <;> decide
    have e0 : rem (shP P T b) [] = sm (P 6 0) (fun j => if (P 6 1 ||| T).testBit j = true then 0 else 1) := rfl
    have e2 : rem P [] = sm (P 6 0) (fun j => if (P 6 1).testBit j = true then 0 else 1) := rfl
    by_cases hr : rem P [] = 0
    · have h9 := sm_mono hle
      omega
    · obtain ⟨x, hx, hbx⟩ := hT1 hr
      have h9 := sm_lt hx hle (by rw [Nat.testBit_or, hbx, (hin x hbx).2.1]; decide)
      omega
  · intro hr
    obtain ⟨x, hx, hbx⟩ := hT1 hr
    have h9 := sm_lt (n := 8) (i := x) (f := fun _ => 0) (g := fun i => if T.testBit i = true then 1 else 0) (by omega) (fun j _ => Nat.zero_le _) (by simp only [hbx, if_true]; decide)
    omega
theorem o_add {P : PP} {m σ : SS} {k d : Nat} (S : Sh P m σ) (I : DI k d P m) (hk : k < 8) (y a : Nat) (ha : a < 2 ^ k) : ∃ σ1 P1, X4_addScene σ (nI (1 + y % 6)) (nI (y % 4)) (nI (y % 64)) (nI (y % 3)) (nI a) = some (.inl (nI k), σ1) ∧ Sh P1 m σ1 ∧ DI (k + 1) d P1 m ∧ rem P1 [] ≠ 0 := by
  obtain ⟨i1, i2, i3⟩ := I
  have hm6 := Nat.mod_lt y (show 6 > 0 by decide)
  have hm4 := Nat.mod_lt y (show 4 > 0 by decide)
  have hm64 := Nat.mod_lt y (show 64 > 0 by decide)
  have hm3 := Nat.mod_lt y (show 3 > 0 by decide)
  obtain ⟨σ1, e1, S1⟩ := sh_add S (1 + y % 6) (y % 4) (y % 64) (y % 3) a (by omega) (by omega) (by omega) (by omega) (by omega) (by omega) (by rw [i1]; exact ha)
  rw [i1] at e1
  refine ⟨σ1, _, e1, S1, ⟨by show P 6 0 + 1 = k + 1; rw [i1], i2, i3⟩, ?_⟩
  have e0 : rem (adP P (1 + y % 6) (y % 4) (y % 64) (y % 3) a) [] = sm (P 6 0 + 1) (fun j => if (P 6 1).testBit j = true then 0 else 1) := rfl
  have hb : (P 6 1).testBit (P 6 0) = false := Nat.testBit_lt_two_pow S.1.2.2.1
  have h9 := sm_lt (n := P 6 0 + 1) (i := P 6 0) (f := fun _ => 0) (g := fun j => if (P 6 1).testBit j = true then 0 else 1) (Nat.lt_succ_self _) (fun j _ => Nat.zero_le _) (by simp only [hb, Bool.false_eq_true, if_false]; decide)
  omega
theorem rem_le (P : PP) : rem P [] ≤ P 6 0 := by
  have h : rem P [] ≤ P 6 0 * 1 := sm_le (fun i _ => by split <;> omega)
  omega
theorem o_days {P : PP} {m σ : SS} (S : Sh P m σ) : ∃ v, v ≤ 8 ∧ (∃ σ1, X4_days σ = some (nI v, σ1) ∧ Sh P m σ1) ∧ ∀ {σ2 : SS}, Sh P m σ2 → rem P [] ≤ 6 → (∃ σ1, X4_days σ2 = some (nI v, σ1) ∧ Sh P m σ1) ∧ ∃ σ1, X4_daysByAll σ2 = some (.inl (nI v), σ1) ∧ Sh P m σ1 := by
  obtain ⟨b, hb, b1, -⟩ := bst_some S.1
  exact ⟨dys P b, dys_8 S.1 b1, sh_days S hb, fun S2 h6 => ⟨sh_days S2 hb, sh_all S2 hb h6⟩⟩
theorem rem_n {y d : Nat} (hy : y < 2 ^ 31) (h0 : 0 < d) (hd : d < 2 ^ 31) : nI y - nI y / nI d * nI d = nI (y % d) := by
  have h1 := Nat.div_add_mod y d
  have h2 : y / d * d = d * (y / d) := Nat.mul_comm _ _
  rw [nI_div hy h0 hd, nI_mul, nI_sub' (by omega)]
  congr 1
  omega
theorem ius_n (x : Int32) : ∃ y, y < 2 ^ 24 ∧ ius x 8 = nI y := by
  refine ⟨x.toBitVec.toNat >>> 8, ?_, ?_⟩
  · rw [Nat.shiftRight_eq_div_pow]
    have := x.toBitVec.isLt
    omega
  · apply Int32.toBitVec_inj.1
    apply BitVec.eq_of_toNat_eq
    have h : (ius x 8).toBitVec = x.toBitVec >>> 8 := rfl
    rw [h, BitVec.toNat_ushiftRight]
    show _ = (BitVec.ofNat 32 _).toNat
    rw [BitVec.toNat_ofNat]
    have := x.toBitVec.isLt
    have h2 : x.toBitVec.toNat >>> 8 < 2 ^ 32 := by
      rw [Nat.shiftRight_eq_div_pow]
      omega
    exact (Nat.mod_eq_of_lt h2).symm
section
variable (xs : Nat → Int32) (L : Nat)
theorem hs_291 : ∀ (j i : Nat), i + j = 30 → ∀ (n : Nat), j < n → ∀ (σ : SS) (P : PP) (m : SS) (s : Nat), Sh P m σ → DI 8 (8 + i) P m → rem P [] ≤ 8 - i → s ≤ 8 * i → L_law_l291 xs L n σ (nI s) (nI i) = some 1 := by
  intro j
  induction j with
  | zero =>
    intro i hi n hn σ P m s S I hr hs
    obtain ⟨f, rfl⟩ : ∃ f, n = f + 1 := ⟨n - 1, by omega⟩
    obtain rfl : i = 30 := by omega
    have hr0 : rem P [] = 0 := by omega
    have h255 : P 6 1 = 255 := by
      have h := (rem_0 S.1 (o := []) trivial).mp hr0
      rw [I.1] at h
      exact h
    rw [L_law_l291]
    refine gp (by decide) (gn (nI_pos (by omega)) ?_)
    unfold L_law_b316
    refine gp ((S.2.2.1.1.1.2.1).trans (by rw [h255]; rfl)) ?_
    obtain ⟨σ1, e1, S1⟩ := sh_days S (bst_e hr0)
    refine g2 e1 (gp rfl ?_)
    obtain ⟨σ2, e2, S2⟩ := sh_refuses S1 (x1 := 8) (x2 := 0) (x3 := 0) (x4 := 0) (l := 0) (p := 0) (by rw [I.1]; rfl) (by rw [hr0]; rfl) (by omega) I.2.2.2.2.2.2.2.1 rfl (by omega) I.2.2.2.2.2.2.2.2.1 rfl
    exact g2 e2 (gn (by decide) rfl)
  | succ j ih =>
    intro i hi n hn σ P m s S I hr hs
    obtain ⟨f, rfl⟩ : ∃ f, n = f + 1 := ⟨n - 1, by omega⟩
    rw [L_law_l291]
    refine gn (show ¬ nI 30 ≤ nI i from nI_ge (by omega) (by omega)) ?_
    obtain ⟨c, σ1, P1, m1, e1, S1, I1, hc, hr1, -⟩ := o_shoot S I (by omega) 0
    refine gx e1 ?_
    rw [nI_add, nI_1]
    exact ih (i + 1) (by omega) f (by omega) σ1 P1 m1 (s + c) S1 I1 (by omega) (by omega)
theorem hs_150 (hL : L ≤ 260) : ∀ (j k : Nat), k + j = 8 → ∀ (n : Nat), j < n → ∀ (σ : SS) (P : PP) (m : SS), Sh P m σ → DI k k P m → L_law_l150 xs L n σ 0 (nI k) = some 1 := by
  intro j
  induction j with
  | zero =>
    intro k hk n hn σ P m S I
    obtain ⟨f, rfl⟩ : ∃ f, n = f + 1 := ⟨n - 1, by omega⟩
    obtain rfl : k = 8 := by omega
    have hr := rem_8 S.1 []
    rw [L_law_l150]
    refine gp (by decide) ?_
    exact hs_291 xs L 30 0 (by omega) 31 (by omega) σ P m 0 S I hr (by omega)
  | succ j ih =>
    intro k hk n hn σ P m S I
    obtain ⟨f, rfl⟩ : ∃ f, n = f + 1 := ⟨n - 1, by omega⟩
    have k255 : ∀ (σ : SS) (P : PP) (m : SS), Sh P m σ → DI (k + 1) (k + 1) P m → L_law_b255 xs L (L_law_l150 xs L f) σ 0 (nI k) = some 1 := by
      intro σ P m S I
      obtain ⟨v, hv, ⟨σ1, e1, S1⟩, hall⟩ := o_days S
      unfold L_law_b255 L_law_b282
      refine g2 e1 (gn (nI_pos (by omega)) ?_)
      by_cases h6 : 6 ≤ k
      · refine gp (show nI 6 ≤ nI k from nI_le h6 (by omega)) ?_
        rw [nI_1]
        exact ih (k + 1) (by omega) f (by omega) σ1 P m S1 I
      · refine gn (show ¬ nI 6 ≤ nI k from nI_ge (by omega) (by omega)) ?_
        have hr := rem_le P
        rw [I.1] at hr
        obtain ⟨⟨σ2, e2, S2⟩, -⟩ := hall S1 (by omega)
        obtain ⟨-, σ3, e3, S3⟩ := hall S2 (by omega)
        refine g2 e2 (gx e3 (gp rfl ?_))
        rw [nI_1]
        exact ih (k + 1) (by omega) f (by omega) σ3 P m S3 I
    have k248 : ∀ (σ : SS) (P : PP) (m : SS) (y1 : Int32), Sh P m σ → DI (k + 1) k P m → rem P [] ≠ 0 → L_law_b248 xs L (L_law_l150 xs L f) σ 0 (nI k) y1 = some 1 := by
      intro σ P m y1 S I hr
      obtain ⟨c, σ1, P1, m1, e1, S1, I1, hc, -, h1⟩ := o_shoot S I (by omega) y1
      unfold L_law_b248
      refine gx e1 (gn (show ¬ nI c < nI 1 from nI_nlt (h1 hr) (by omega)) ?_)
      exact k255 σ1 P1 m1 S1 I1
    have k219 : ∀ (y a : Nat), y < 2 ^ 31 → a < 2 ^ k → L_law_b219 xs L (L_law_l150 xs L f) σ 0 (nI k) (nI y) ((1 : Int32) + (nI y - nI y / (6 : Int32) * (6 : Int32))) (nI y - nI y / (4 : Int32) * (4 : Int32)) (nI y - nI y / (64 : Int32) * (64 : Int32)) (nI y - nI y / (3 : Int32) * (3 : Int32)) (nI a) = some 1 := by
      intro y a hy ha
      have r6 : nI y - nI y / (6 : Int32) * (6 : Int32) = nI (y % 6) := rem_n hy (by decide) (by decide)
      have r4 : nI y - nI y / (4 : Int32) * (4 : Int32) = nI (y % 4) := rem_n hy (by decide) (by decide)
      have r64 : nI y - nI y / (64 : Int32) * (64 : Int32) = nI (y % 64) := rem_n hy (by decide) (by decide)
      have r3 : nI y - nI y / (3 : Int32) * (3 : Int32) = nI (y % 3) := rem_n hy (by decide) (by decide)
      have rk : nI k - nI k / (3 : Int32) * (3 : Int32) = nI (k % 3) := rem_n (by omega) (by decide) (by decide)
      obtain ⟨σ1, P1, e1, S1, I1, hr⟩ := o_add S I (by omega) y a ha
      unfold L_law_b219
      rw [r6, r4, r64, r3, show (1 : Int32) + nI (y % 6) = nI (1 + y % 6) by rw [il1, nI_add]]
      refine gx e1 (gp rfl ?_)
      rw [rk]
      by_cases h2 : k % 3 = 2
      · refine gp (by rw [h2]; rfl) ?_
        by_cases hp : nI y - nI y / (2 : Int32) * (2 : Int32) = 0
        · exact gp hp (k248 σ1 P1 m 1 S1 I1 hr)
        · exact gn hp (k248 σ1 P1 m 0 S1 I1 hr)
      · have h3 := Nat.mod_lt k (show 3 > 0 by decide)
        exact gn (fun e => h2 (nI_inj (b := 2) (by omega) (by decide) e)) (k255 σ1 P1 m S1 (DI_up (Nat.le_succ k) I1))
    have k180 : ∀ (y : Nat), y < 2 ^ 31 → L_law_b180 xs L (L_law_l150 xs L f) σ 0 (nI k) (nI y) = some 1 := by
      intro y hy
      unfold L_law_b180
      by_cases h0 : k = 0
      · refine gp (by rw [h0]; rfl) ?_
        exact k219 y 0 hy (Nat.pow_pos (by decide))
      · have hs : (1 : Int32) <<< (nI k &&& 31) = nI (2 ^ k) := shl_n (by omega)
        have hp := pw_le (n := k) (by omega)
        have hp0 := pw_pos k
        refine gn (fun e => h0 (nI_inj (b := 0) (by omega) (by decide) e)) ?_
        rw [hs]
        refine gp (fun e => by have := nI_inj (b := 0) (by omega) (by decide) e; omega) ?_
        have rr : nI y - nI y / nI (2 ^ k) * nI (2 ^ k) = nI (y % 2 ^ k) := rem_n hy (by omega) (by omega)
        rw [rr]
        exact k219 y (y % 2 ^ k) hy (Nat.mod_lt _ hp0)
    rw [L_law_l150]
    refine gn (show ¬ nI 8 ≤ nI k from nI_ge (by omega) (by omega)) ?_
    by_cases hl : L = 0
    · refine gp (by rw [hl]; rfl) ?_
      rw [show (71 : Int32) * nI k = nI (71 * k) from nI_mul 71 k]
      exact k180 _ (by omega)
    · have hne : ¬ Int32.ofNat L = 0 := fun e => hl (nI_inj (b := 0) (by omega) (by decide) e)
      have hm : nI k - nI k / Int32.ofNat L * Int32.ofNat L = nI (k % L) := rem_n (by omega) (by omega) (by omega)
      have hlt := Nat.mod_lt k (show L > 0 by omega)
      refine gn hne (gp hne ?_)
      rw [hm]
      refine gp (gd_n (by omega) (by omega)) ?_
      obtain ⟨y, hy, e⟩ := ius_n (xs (Int32.toNatClampNeg (nI (k % L))))
      rw [e]
      exact k180 y (by omega)
theorem hs_fend (hL : L ≤ 260) (n : Nat) {σ : SS} (S : Sh (Pf 1000) (lit km0) σ) : L_law_l24 xs L (n + 1) σ (nI 1001) = some 1 := by
  rw [L_law_l24]
  refine gp (by decide) ?_
  have S0 := sh_to S kq0 (lit km0) (by decide +kernel) (by decide +kernel) (by decide +kernel)
  refine gp (sh_today S0 (by decide +kernel)) ?_
  obtain ⟨σ1, e1, S1⟩ := sh_addL S0 1 0 0 2 0 0 kq1 (by decide +kernel)
  refine gx e1 (gp (by decide) ?_)
  have kbq : bsB (pl kq1) [(0, 24018)] = true := by decide +kernel
  obtain ⟨σ2, e2, S2⟩ := sh_beginsL S1 kbq 0 24018 (by decide +kernel)
  refine gx e2 (gp (by decide) ?_)
  obtain ⟨σ3, e3, S3⟩ := d_last (P := pl kq1) (by decide +kernel) S2 0
  refine g2 e3 (gp (by decide) ?_)
  obtain ⟨σ4, e4, S4⟩ := sh_opL (f := fun m => X4_setRates m 1 1) (cm_setRates 1 1) sh_new 100 kr1 (by decide +kernel)
  refine gx e4 (gp (by decide) ?_)
  obtain ⟨σ5, e5, S5⟩ := sh_opL (f := fun m => X4_grant m 100000) (cm_grant 100000) S4 100000 kr2 (by decide +kernel)
  refine gx e5 (gp (by decide) ?_)
  exact hs_150 xs L hL 8 0 (by omega) 9 (by omega) σ5 (pl kp0) (lit kr2) S5 ⟨by decide +kernel, by decide +kernel, by decide +kernel, by decide +kernel, by decide +kernel, by decide +kernel, by decide +kernel, by decide +kernel, by decide +kernel, 100000, by decide +kernel, by omega, by omega⟩
theorem hs_f (hL : L ≤ 260) : ∀ (j k : Nat), k + j = 1001 → ∀ (n : Nat), j < n → ∀ (σ : SS), Sh (Pf (min k 1000)) (lit km0) σ → L_law_l24 xs L n σ (nI k) = some 1 := by
  intro j
  induction j with
  | zero =>
    intro k hk n hn σ S
    obtain ⟨f, rfl⟩ : ∃ f, n = f + 1 := ⟨n - 1, by omega⟩
    obtain rfl : k = 1001 := by omega
    exact hs_fend xs L hL f S
  | succ j ih =>
    intro k hk n hn σ S
    obtain ⟨f, rfl⟩ : ∃ f, n = f + 1 := ⟨n - 1, by omega⟩
    rw [L_law_l24]
    refine gn (show ¬ nI 1001 ≤ nI k from nI_ge (by omega) (by omega)) ?_
    unfold L_law_b54
    rcases Nat.lt_or_ge k 1000 with h | h
    · rw [Nat.min_eq_left (by omega)] at S
      obtain ⟨σ1, e1, S1⟩ := f_step h S (nI k - nI k / (2 : Int32) * (2 : Int32))
      refine g2 e1 (gn (show ¬ nI 1000 ≤ nI k from nI_ge (by omega) (by omega)) (gp rfl ?_))
      rw [nI_1]
      exact ih (k + 1) (by omega) f (by omega) σ1 (by rw [Nat.min_eq_left (by omega)]; exact S1)
    · obtain rfl : k = 1000 := by omega
      obtain ⟨σ1, e1, S1⟩ := d_last (P := Pf 1000) rfl S (nI 1000 - nI 1000 / (2 : Int32) * (2 : Int32))
      refine g2 e1 (gp (by decide) (gp rfl ?_))
      rw [nI_1]
      exact ih 1001 (by omega) f (by omega) σ1 S1
theorem hs_law (hL : L ≤ 260) : L_law xs L = some 1 := by
  unfold L_law
  rw [hs_house, Option.bind_some]
  refine gn (by decide) ?_
  rw [hs_plans, Option.bind_some]
  refine gn (by decide) ?_
  obtain ⟨n, hn⟩ : ∃ n, n = fuel_L_law_24 := ⟨_, rfl⟩
  rw [← hn]
  have S : Sh (Pf (min 0 1000)) (lit km0) sC0 := by
    have S1 := sh_new
    have e : pl kp0 = Pf (min 0 1000) := eqP_t S1.2.1 (fun k i h => by unfold Pf; split <;> rfl) (by decide +kernel)
    rw [← e]
    exact S1
  exact hs_f xs L hL 1001 0 (by omega) n (by rw [hn]; decide) sC0 S
end
