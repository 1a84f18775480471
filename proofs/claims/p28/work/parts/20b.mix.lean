/-! Money apart from plans: the class's calls of money on a state whose money is m. -/
/-- the cells of money -/
def dm (k i : Nat) : Bool := decide (i < 12) && (k == 0 || k == 3 || k == 4 || (decide (14 ≤ k) && decide (k < 22)) || (k == 2 && i == 7))
def mix (σ m : SS) : SS := fun k i => if dm k i = true then m k i else σ k i
theorem mix_at (σ m : SS) {k i : Nat} (h : dm k i = true) : mix σ m k i = m k i := by unfold mix; rw [if_pos h]
theorem mix_no (σ m : SS) {k i : Nat} (h : dm k i = false) : mix σ m k i = σ k i := by unfold mix; rw [if_neg (by rw [h]; decide)]
theorem mix_wr (σ m : SS) {k i : Nat} (x : Int32) (h : dm k i = true) : wr (mix σ m) k i x = mix σ (wr m k i x) := by
  funext k1 i1
  by_cases e : k1 = k ∧ i1 = i
  · obtain ⟨rfl, rfl⟩ := e
    rw [wr_at, mix_at _ _ h, wr_at]
  · rw [wr_o _ _ e]
    cases hd : dm k1 i1
    · rw [mix_no _ _ hd, mix_no _ _ hd]
    · rw [mix_at _ _ hd, mix_at _ _ hd, wr_o _ _ e]
/-- a row of money, with its length -/
def rowM (k n : Nat) : Bool := decide (n ≤ 12) && decide (14 ≤ k) && decide (k < 22)
theorem rowM_dm {k n i : Nat} (h : rowM k n = true) (hi : i < n) : dm k i = true := by
  unfold rowM at h
  simp only [Bool.and_eq_true, decide_eq_true_eq] at h
  unfold dm
  simp only [Bool.and_eq_true, Bool.or_eq_true, decide_eq_true_eq]
  exact ⟨by omega, Or.inl (Or.inr ⟨by omega, by omega⟩)⟩
theorem idx_lt {x : Int32} {n : Nat} (hn : n ≤ 12) (h1 : ¬ x < 0) (h2 : ¬ Int32.ofNat n ≤ x) : x.toNatClampNeg < n := by
  obtain ⟨i, hi, rfl⟩ := nI_of h1
  rw [clamp_n hi]
  rcases Nat.lt_or_ge i n with q | q
  · exact q
  · exact absurd (nI_le q hi) h2
theorem rowM_n {k n : Nat} (h : rowM k n = true) : n ≤ 12 := by
  unfold rowM at h
  simp only [Bool.and_eq_true, decide_eq_true_eq] at h
  exact h.1.1
theorem mix_fat (σ m : SS) {k n : Nat} (x : Int32) (h : rowM k n = true) : fat (mix σ m) k n x = fat m k n x := by
  unfold fat
  by_cases h1 : x < 0
  · rw [if_pos h1, if_pos h1]
  · rw [if_neg h1, if_neg h1]
    by_cases h2 : Int32.ofNat n ≤ x
    · rw [if_pos h2, if_pos h2]
    · rw [if_neg h2, if_neg h2, mix_at _ _ (rowM_dm h (idx_lt (rowM_n h) h1 h2))]
theorem mix_fput (σ m : SS) {k n : Nat} (x y : Int32) (h : rowM k n = true) : fput (mix σ m) k n x y = mix σ (fput m k n x y) := by
  unfold fput
  by_cases h1 : x < 0
  · rw [if_pos h1, if_pos h1]
  · rw [if_neg h1, if_neg h1]
    by_cases h2 : Int32.ofNat n ≤ x
    · rw [if_pos h2, if_pos h2]
    · rw [if_neg h2, if_neg h2, mix_wr _ _ _ (rowM_dm h (idx_lt (rowM_n h) h1 h2))]
theorem mix_fadd (σ m : SS) {k n : Nat} (x y : Int32) (h : rowM k n = true) : fadd (mix σ m) k n x y = mix σ (fadd m k n x y) := by
  unfold fadd
  rw [mix_fat _ _ _ h, mix_fput _ _ _ _ h]
/-- what a call answers, its state mixed -/
def mx2 {α : Type} (σ : SS) : Option (α × SS) → Option (α × SS) := Option.map (fun p => (p.1, mix σ p.2))
theorem mx2_s {α : Type} (σ : SS) (a : α) (m : SS) : mx2 σ (some (a, m)) = some (a, mix σ m) := rfl
theorem mx2_n {α : Type} (σ : SS) : mx2 σ (none : Option (α × SS)) = none := rfl
theorem mx2_if {α : Type} (σ : SS) {c : Prop} [Decidable c] (a b : Option (α × SS)) : mx2 σ (if c then a else b) = if c then mx2 σ a else mx2 σ b := by
  by_cases h : c
  · rw [if_pos h, if_pos h]
  · rw [if_neg h, if_neg h]
theorem mx2_bd {α β : Type} (σ : SS) (o : Option (α × SS)) (f g : α → SS → Option (β × SS)) (h : ∀ a m, f a (mix σ m) = mx2 σ (g a m)) : bd2 (mx2 σ o) f = mx2 σ (bd2 o g) := by
  rcases o with _ | ⟨a, m⟩
  · rfl
  · exact h a m
theorem cm_setOut (x1 x2 : Int32) (σ m : SS) : X4_setOut (mix σ m) x1 x2 = mx2 σ (X4_setOut m x1 x2) := by
  unfold X4_setOut
  rw [mx2_if, lt_eq, lt_eq, mix_at _ _ (by decide), mix_wr _ _ _ (by decide)]
  rfl
theorem cm_setRates (x1 x2 : Int32) (σ m : SS) : X4_setRates (mix σ m) x1 x2 = mx2 σ (X4_setRates m x1 x2) := by
  unfold X4_setRates X4_setRates_b22
  rw [mx2_if, mx2_if, lt_eq, lt_eq, lt_eq, lt_eq, mix_at _ _ (by decide), mix_wr _ _ _ (by decide), mix_wr _ _ _ (by decide)]
  rfl
theorem cm_hold (x1 : Int32) (σ m : SS) : X4_hold (mix σ m) x1 = mx2 σ (X4_hold m x1) := by
  unfold X4_hold
  rw [mx2_if, lt_eq, lt_eq, mx2_if, mix_at _ _ (by decide), mix_wr _ _ _ (by decide)]
  rfl
theorem cm_approve (x1 x2 : Int32) (σ m : SS) : X4_approve (mix σ m) x1 x2 = mx2 σ (X4_approve m x1 x2) := by
  unfold X4_approve
  rw [mx2_if, mx2_if, lt_eq, lt_eq, mix_fadd _ _ _ _ (by decide), mix_fat _ _ _ (by decide)]
  rfl
theorem cm_grant (x1 : Int32) (σ m : SS) : X4_grant (mix σ m) x1 = mx2 σ (X4_grant m x1) := by
  unfold X4_grant
  rw [mx2_if, lt_eq, lt_eq, mix_at _ _ (by decide), mix_wr _ _ _ (by decide), mix_at _ _ (by decide)]
  rfl
theorem cm_lack (x1 x2 : Int32) (σ m : SS) : X0_lackOf (mix σ m) x1 x2 = X0_lackOf m x1 x2 := by
  unfold X0_lackOf
  rw [mix_fat _ _ _ (by decide)]
theorem cm_pay (x1 x2 : Int32) (σ m : SS) : X0_pay (mix σ m) x1 x2 = mx2 σ (X0_pay m x1 x2) := by
  unfold X0_pay
  rw [cm_lack, mix_fadd _ _ _ _ (by decide)]
  simp only [lt_eq]
  rw [mix_at _ _ (by decide), mix_wr _ _ _ (by decide), mix_at _ _ (by decide), mix_wr _ _ _ (by decide), mix_at _ _ (by decide), mix_wr _ _ _ (by decide)]
  rfl
theorem cm_bill (x1 x2 : Int32) (σ m : SS) : X4_bill (mix σ m) x1 x2 = mx2 σ (X4_bill m x1 x2) := by
  unfold X4_bill
  rw [mx2_if, mx2_if, mx2_if, cm_lack, mix_at _ _ (by decide), cm_pay, mx2_bd σ _ _ (fun r σ => some (.inl r, σ)) (fun _ _ => rfl)]
  rfl
theorem cm_appL (x1 x2 : Int32) (σ m : SS) : X1_appendLoan (mix σ m) x1 x2 = mx2 σ (X1_appendLoan m x1 x2) := by
  unfold X1_appendLoan
  simp only [lt_eq]
  rw [mix_at _ _ (by decide), mix_fput _ _ _ _ (by decide), mix_at _ _ (by decide), mix_fput _ _ _ _ (by decide), mix_at _ _ (by decide), mix_wr _ _ _ (by decide), mix_at _ _ (by decide)]
  rfl
theorem cm_loan (x1 x2 : Int32) (σ m : SS) : X4_loan (mix σ m) x1 x2 = mx2 σ (X4_loan m x1 x2) := by
  unfold X4_loan
  rw [mx2_if, mx2_if, mx2_if, mix_at _ _ (by decide), cm_appL, mx2_bd σ _ _ (fun r σ => some (.inl r, σ)) (fun _ _ => rfl)]
  rfl
theorem cm_pct (x1 : Int32) (σ m : SS) : X1_percentOf (mix σ m) x1 = X1_percentOf m x1 := by
  have key : ∀ (n : Nat) (a b : Int32), X1_percentOf_l4 n (mix σ m) x1 a b = X1_percentOf_l4 n m x1 a b := by
    intro n
    induction n with
    | zero => intro a b; rfl
    | succ n ih =>
      intro a b
      rw [X1_percentOf_l4, X1_percentOf_l4]
      unfold X1_percentOf_b35
      rw [mix_at _ _ (by decide), mix_fat _ _ _ (by decide), mix_fat _ _ _ (by decide), ih, ih]
  exact key _ _ _
theorem cm_appP (x1 x2 x3 : Int32) (σ m : SS) : X1_appendPart (mix σ m) x1 x2 x3 = mx2 σ (X1_appendPart m x1 x2 x3) := by
  unfold X1_appendPart
  simp only [lt_eq]
  rw [mix_at _ _ (by decide), mix_fput _ _ _ _ (by decide), mix_at _ _ (by decide), mix_fput _ _ _ _ (by decide), mix_at _ _ (by decide), mix_fput _ _ _ _ (by decide), mix_at _ _ (by decide), mix_wr _ _ _ (by decide), mix_at _ _ (by decide)]
  rfl
theorem cm_part (x1 x2 x3 : Int32) (σ m : SS) : X4_part (mix σ m) x1 x2 x3 = mx2 σ (X4_part m x1 x2 x3) := by
  have hb : (X1_percentOf m x1).bind (fun r_5 => (if (r_5 + x3) ≤ (100 : Int32) then (bd2 (X1_appendPart (mix σ m) x1 x2 x3) (fun r_7 σ_7 => some ((Sum.inl r_7 : Int32 ⊕ String), σ_7))) else some (.inr "java/lang/IllegalStateException", mix σ m))) = mx2 σ ((X1_percentOf m x1).bind (fun r_5 => (if (r_5 + x3) ≤ (100 : Int32) then (bd2 (X1_appendPart m x1 x2 x3) (fun r_7 σ_7 => some ((Sum.inl r_7 : Int32 ⊕ String), σ_7))) else some (.inr "java/lang/IllegalStateException", m)))) := by
    cases X1_percentOf m x1 with
    | none => rfl
    | some a =>
      rw [Option.bind_some, Option.bind_some, mx2_if, cm_appP, mx2_bd σ _ _ (fun r σ => some (.inl r, σ)) (fun _ _ => rfl)]
      rfl
  unfold X4_part X4_part_b79 X4_part_b26
  rw [mx2_if, mx2_if, mx2_if, mx2_if, mix_at _ _ (by decide), cm_pct, hb]
  rfl
theorem cm_payBack (x1 : Int32) (σ m : SS) : X0_payBack (mix σ m) x1 = mx2 σ (X0_payBack m x1) := by
  unfold X0_payBack
  rw [lt_eq, lt_eq, mix_at _ _ (by decide), mix_wr _ _ _ (by decide)]
  rfl
theorem cm_payLoans (x1 : Int32) (σ m : SS) : X1_payBackLoans (mix σ m) x1 = mx2 σ (X1_payBackLoans m x1) := by
  have key : ∀ (n : Nat) (m : SS) (a b : Int32), X1_payBackLoans_l4 n (mix σ m) a b = mx2 σ (X1_payBackLoans_l4 n m a b) := by
    intro n
    induction n with
    | zero => intro m a b; rfl
    | succ n ih =>
      intro m a b
      rw [X1_payBackLoans_l4, X1_payBackLoans_l4]
      simp only [lt_eq]
      rw [mx2_if, mix_at _ _ (by decide), mix_fat _ _ _ (by decide), mix_fadd _ _ _ _ (by decide), mix_fat _ _ _ (by decide), mix_fadd _ _ _ _ (by decide), ih]
      rfl
  exact key _ _ _ _
/-- a state alone, mixed -/
def mx1 (σ : SS) : Option SS → Option SS := Option.map (mix σ)
theorem mx1_if (σ : SS) {c : Prop} [Decidable c] (a b : Option SS) : mx1 σ (if c then a else b) = if c then mx1 σ a else mx1 σ b := by
  by_cases h : c
  · rw [if_pos h, if_pos h]
  · rw [if_neg h, if_neg h]
theorem cm_share (x1 : Int32) (σ m : SS) : X1_share (mix σ m) x1 = mx1 σ (X1_share m x1) := by
  have key : ∀ (n : Nat) (m : SS) (a b c : Int32), X1_share_l4 n (mix σ m) a b c = mx1 σ (X1_share_l4 n m a b c) := by
    intro n
    induction n with
    | zero => intro m a b c; rfl
    | succ n ih =>
      intro m a b c
      have hb : ∀ (x4 y0 : Int32), X1_share_b41 (X1_share_l4 n) (mix σ m) a b c x4 y0 = mx1 σ (X1_share_b41 (X1_share_l4 n) m a b c x4 y0) := by
        intro x4 y0
        unfold X1_share_b41 X1_share_b115
        simp only [lt_eq]
        rw [mx1_if, mix_fat _ _ _ (by decide), mix_fput _ _ _ _ (by decide), mix_fat _ _ _ (by decide), mix_fadd _ _ _ _ (by decide), mix_fat _ _ _ (by decide), mix_fadd _ _ _ _ (by decide), ih, ih]
      rw [X1_share_l4, X1_share_l4]
      simp only [lt_eq]
      rw [mx1_if, mx1_if, mix_at _ _ (by decide), mix_at _ _ (by decide), mix_wr _ _ _ (by decide), mix_fat _ _ _ (by decide), mix_fat _ _ _ (by decide), hb, hb]
      rfl
  exact key _ _ _ _ _
theorem cm_income (x1 : Int32) (σ m : SS) : X4_income (mix σ m) x1 = mx2 σ (X4_income m x1) := by
  have h2 : ∀ (a : Int32) (m : SS), (X1_share (mix σ m) a).bind (fun σ_4 => some ((Sum.inl a : Int32 ⊕ String), σ_4)) = mx2 σ ((X1_share m a).bind (fun σ_4 => some (.inl a, σ_4))) := by
    intro a m
    rw [cm_share]
    cases X1_share m a with
    | none => rfl
    | some m1 => rfl
  have h1 : ∀ (a : Int32) (m : SS), (bd2 (X1_payBackLoans (mix σ m) a) (fun r_3 σ_3 => ((X1_share σ_3 r_3).bind (fun σ_4 => some ((Sum.inl r_3 : Int32 ⊕ String), σ_4))))) = mx2 σ (bd2 (X1_payBackLoans m a) (fun r_3 σ_3 => ((X1_share σ_3 r_3).bind (fun σ_4 => some (.inl r_3, σ_4))))) := by
    intro a m
    rw [cm_payLoans]
    exact mx2_bd σ _ _ _ h2
  unfold X4_income
  rw [mx2_if, cm_payBack, mx2_bd σ _ _ _ h1]
  rfl
theorem cm_left (x1 : Int32) (σ m : SS) : X4_left (mix σ m) x1 = mx2 σ (X4_left m x1) := by
  unfold X4_left
  rw [mx2_if, mix_fat _ _ _ (by decide)]
  rfl
theorem cm_openOf (x1 : Int32) (σ m : SS) : X4_openOf (mix σ m) x1 = mx2 σ (X4_openOf m x1) := by
  unfold X4_openOf
  rw [mx2_if, mix_fat _ _ _ (by decide), mix_at _ _ (by decide)]
  rfl
theorem cm_got (x1 : Int32) (σ m : SS) : X4_got (mix σ m) x1 = mx2 σ (X4_got m x1) := by
  unfold X4_got
  rw [mx2_if, mix_fat _ _ _ (by decide)]
  rfl
