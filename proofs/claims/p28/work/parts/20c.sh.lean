/-! A state that shows a problem and money; what the class's calls do to it. -/
def Zo (P : PP) : Prop := ∀ k i, (7 ≤ k ∨ 8 ≤ i) → P k i = 0
def Sh (P : PP) (m σ : SS) : Prop := Wf P ∧ Zo P ∧ PC P σ ∧ mix σ m = σ
theorem dm_cP {k i : Nat} (h : cP k i) : dm k i = false := by
  have h' : k = 1 ∨ (5 ≤ k ∧ k ≤ 13) ∨ (k = 2 ∧ i ≠ 7) := h
  cases hd : dm k i
  · rfl
  · exfalso
    unfold dm at hd
    simp only [Bool.and_eq_true, Bool.or_eq_true, decide_eq_true_eq, beq_iff_eq] at hd
    omega
theorem dm_cM {k i : Nat} (h : dm k i = true) : k = 0 ∨ k = 3 ∨ k = 4 ∨ (14 ≤ k ∧ k < 22) ∨ (k = 2 ∧ i = 7) := by
  unfold dm at h
  simp only [Bool.and_eq_true, Bool.or_eq_true, decide_eq_true_eq, beq_iff_eq] at h
  omega
theorem mix_mix (σ a b : SS) : mix (mix σ a) b = mix σ b := by
  funext k i
  cases h : dm k i
  · rw [mix_no _ _ h, mix_no _ _ h, mix_no _ _ h]
  · rw [mix_at _ _ h, mix_at _ _ h]
theorem mix_cg {a b : SS} (σ : SS) (h : ∀ k i, dm k i = true → a k i = b k i) : mix σ a = mix σ b := by
  funext k i
  cases hd : dm k i
  · rw [mix_no _ _ hd, mix_no _ _ hd]
  · rw [mix_at _ _ hd, mix_at _ _ hd, h k i hd]
theorem PC_mix {P : PP} {σ m : SS} (C : PC P σ) : PC P (mix σ m) := PC_eq (fun _ _ h => mix_no _ _ (dm_cP h)) C
theorem sh_at {P : PP} {m σ : SS} (S : Sh P m σ) {k i : Nat} (h : dm k i = true) : σ k i = m k i := by
  have := mix_at σ m h
  rw [S.2.2.2] at this
  exact this
theorem sh_mk {P : PP} {m σ1 : SS} (hW : Wf P) (hZ : Zo P) (C : PC P σ1) (h : ∀ k i, dm k i = true → σ1 k i = m k i) : Sh P m σ1 := by
  refine ⟨hW, hZ, C, ?_⟩
  funext k i
  cases hd : dm k i
  · rw [mix_no _ _ hd]
  · rw [mix_at _ _ hd, h k i hd]
/-! What is decided of literals. -/
def alB : Nat → (Nat → Bool) → Bool
  | 0, _ => true
  | n + 1, f => f n && alB n f
theorem alB_t {f : Nat → Bool} : ∀ {n : Nat}, alB n f = true → ∀ i, i < n → f i = true
  | 0, _, i, hi => absurd hi (Nat.not_lt_zero _)
  | n + 1, h, i, hi => by
    rw [alB, Bool.and_eq_true] at h
    by_cases e : i = n
    · rw [e]; exact h.1
    · exact alB_t h.2 i (by omega)
def eqI (x y : Int32) : Bool := Nat.beq x.toBitVec.toNat y.toBitVec.toNat
theorem eqI_t {x y : Int32} (h : eqI x y = true) : x = y := Int32.toBitVec_inj.mp (BitVec.eq_of_toNat_eq (Nat.eq_of_beq_eq_true h))
def agb (a b : SS) : Bool := alB 22 (fun k => alB 12 (fun i => !dm k i || eqI (a k i) (b k i)))
theorem agb_t {a b : SS} (h : agb a b = true) : ∀ k i, dm k i = true → a k i = b k i := by
  intro k i hd
  have hk : k < 22 := by have := dm_cM hd; omega
  have hi : i < 12 := by
    unfold dm at hd
    simp only [Bool.and_eq_true, decide_eq_true_eq] at hd
    exact hd.1
  have h1 := alB_t (alB_t h k hk) i hi
  rw [hd] at h1
  exact eqI_t h1
def eqP (P Q : PP) : Bool := alB 7 (fun k => alB 8 (fun i => Nat.beq (P k i) (Q k i)))
theorem eqP_t {P Q : PP} (hP : Zo P) (hQ : Zo Q) (h : eqP P Q = true) : P = Q := by
  funext k i
  by_cases hk : k < 7
  · by_cases hi : i < 8
    · exact Nat.eq_of_beq_eq_true (alB_t (alB_t h k hk) i hi)
    · rw [hP k i (Or.inr (by omega)), hQ k i (Or.inr (by omega))]
  · rw [hP k i (Or.inl (by omega)), hQ k i (Or.inl (by omega))]
/-- a problem (16 bits a number, 8 numbers a row), a state's money (32 bits, 12 numbers a row) out of one number -/
def pl (N : Nat) : PP := fun k i => (((N >>> (128 * k)) % 2 ^ 128) >>> (16 * i)) % 65536
def lit (N : Nat) : SS := fun k i => nI ((((N >>> (384 * k)) % 2 ^ 384) >>> (32 * i)) % 2 ^ 32)
def plB (N : Nat) : Bool := Nat.blt N (2 ^ 896)
theorem shr_0 {a n : Nat} (h : a < 2 ^ n) : a >>> n = 0 := by
  rw [Nat.shiftRight_eq_div_pow]
  exact Nat.div_eq_of_lt h
theorem pl_Zo {N : Nat} (h : plB N = true) : Zo (pl N) := by
  have h : N < 2 ^ 896 := Nat.lt_of_lt_of_le (Nat.lt_succ_self N) (Nat.le_of_ble_eq_true h)
  intro k i hki
  unfold pl
  rcases hki with hk | hi
  · rw [shr_0 (Nat.lt_of_lt_of_le h (Nat.pow_le_pow_right (by decide) (by omega))), Nat.zero_mod, Nat.zero_shiftRight]
  · rw [shr_0 (Nat.lt_of_lt_of_le (Nat.mod_lt _ (Nat.pow_pos (by decide))) (Nat.pow_le_pow_right (by decide) (by omega)))]
theorem sh_to {P : PP} {m σ : SS} (S : Sh P m σ) (N : Nat) (m1 : SS) (h0 : plB N = true) (h1 : eqP P (pl N) = true) (h2 : agb m m1 = true) : Sh (pl N) m1 σ := by
  have e := eqP_t S.2.1 (pl_Zo h0) h1
  rw [← e]
  exact ⟨S.1, S.2.1, S.2.2.1, by rw [← mix_cg σ (agb_t h2)]; exact S.2.2.2⟩
/-! Calls of money. -/
def chk (o : Option ((Int32 ⊕ String) × SS)) (v : Int32) (m1 : SS) : Bool := match o with
  | some (.inl w, m2) => eqI w v && agb m2 m1
  | _ => false
theorem sh_op {f : SS → Option ((Int32 ⊕ String) × SS)} (hf : ∀ σ m, f (mix σ m) = mx2 σ (f m)) {P : PP} {m σ : SS} (S : Sh P m σ) {v : Int32} {m1 : SS} (h : chk (f m) v m1 = true) : ∃ σ1, f σ = some (.inl v, σ1) ∧ Sh P m1 σ1 := by
  have e1 := hf σ m
  rw [S.2.2.2] at e1
  unfold chk at h
  split at h
  · next w m2 e =>
    rw [Bool.and_eq_true] at h
    refine ⟨mix σ m1, ?_, S.1, S.2.1, PC_mix S.2.2.1, mix_mix _ _ _⟩
    rw [e1, e, mx2_s, eqI_t h.1, mix_cg σ (agb_t h.2)]
  · cases h
abbrev CS3 : List (String × Int32) := [("java/lang/IndexOutOfBoundsException", -71), ("java/lang/IllegalArgumentException", -72), ("java/lang/IllegalStateException", -73)]
/-- the call is refused with the number k -/
def chkE (o : Option ((Int32 ⊕ String) × SS)) (k : Int32) (m1 : SS) : Bool := match o with
  | some (.inr E, m2) => (match hcl CS3 E with | some k1 => eqI k1 k | none => false) && agb m2 m1
  | _ => false
theorem sh_opE {f : SS → Option ((Int32 ⊕ String) × SS)} (hf : ∀ σ m, f (mix σ m) = mx2 σ (f m)) {P : PP} {m σ : SS} (S : Sh P m σ) {k : Int32} {m1 : SS} (h : chkE (f m) k m1 = true) (g : Int32 → SS → Option (Int32 × SS)) : ∃ σ1, bdc CS3 (f σ) g = some (k, σ1) ∧ Sh P m1 σ1 := by
  have e1 := hf σ m
  rw [S.2.2.2] at e1
  unfold chkE at h
  split at h
  · next E m2 e =>
    rw [Bool.and_eq_true] at h
    obtain ⟨h1, h2⟩ := h
    split at h1
    · next k1 hk =>
      refine ⟨mix σ m1, ?_, S.1, S.2.1, PC_mix S.2.2.1, mix_mix _ _ _⟩
      rw [e1, e, mx2_s, mix_cg σ (agb_t h2)]
      show (hcl CS3 E).map _ = _
      rw [hk, eqI_t h1]
      rfl
    · cases h1
  · cases h
theorem sh_hold {P : PP} {m σ : SS} (S : Sh P m σ) (x1 : Int32) {v : Int32} {m1 : SS} (h : (match X4_hold m x1 with | some (w, m2) => eqI w v && agb m2 m1 | none => false) = true) : ∃ σ1, X4_hold σ x1 = some (v, σ1) ∧ Sh P m1 σ1 := by
  have e1 := cm_hold x1 σ m
  rw [S.2.2.2] at e1
  split at h
  · next w m2 e =>
    rw [Bool.and_eq_true] at h
    refine ⟨mix σ m1, ?_, S.1, S.2.1, PC_mix S.2.2.1, mix_mix _ _ _⟩
    rw [e1, e, mx2_s, eqI_t h.1, mix_cg σ (agb_t h.2)]
  · cases h
theorem sh_fee {P : PP} {m σ : SS} (S : Sh P m σ) {v : Int32} (h : eqI (m 3 1) v = true) : X4_fee σ = v := (sh_at S (by decide)).trans (eqI_t h)
theorem sh_costs {P : PP} {m σ : SS} (S : Sh P m σ) {v : Int32} (h : eqI (m 3 2) v = true) : X4_costs σ = v := (sh_at S (by decide)).trans (eqI_t h)
theorem sh_open {P : PP} {m σ : SS} (S : Sh P m σ) {v : Int32} (h : eqI (m 3 3) v = true) : X4_open σ = v := (sh_at S (by decide)).trans (eqI_t h)
theorem sh_house {P : PP} {m σ : SS} (S : Sh P m σ) {v : Int32} (h : eqI (m 4 9) v = true) : X4_house σ = v := (sh_at S (by decide)).trans (eqI_t h)
theorem sh_today {P : PP} {m σ : SS} (S : Sh P m σ) {v : Int32} (h : eqI (nI (P 6 3)) v = true) : X4_today σ = v := S.2.2.1.1.1.2.2.2.1.trans (eqI_t h)
theorem sh_shot {P : PP} {m σ : SS} (S : Sh P m σ) {v : Int32} (h : eqI (nI (P 6 1)) v = true) : X4_shot σ = v := S.2.2.1.1.1.2.1.trans (eqI_t h)
/-! Calls of the plan. -/
theorem sh_fr {P : PP} {m σ σ1 : SS} (S : Sh P m σ) (C1 : PC P σ1) (h : ∀ k i, k ≠ 10 → k ≠ 11 → k ≠ 12 → k ≠ 13 → k ≠ 1 → σ1 k i = σ k i) : Sh P m σ1 := by
  refine sh_mk S.1 S.2.1 C1 (fun k i hd => ?_)
  have := dm_cM hd
  rw [h k i (by omega) (by omega) (by omega) (by omega) (by omega), sh_at S hd]
theorem sh_make {P : PP} {m σ : SS} (S : Sh P m σ) : ∃ σ1, X2_makePlan σ = some σ1 ∧ Sh P m σ1 ∧ KeepC P (bst P) σ1 := by
  obtain ⟨σ1, h1, h2, h3, h4⟩ := planC_n S.1 S.2.2.1
  exact ⟨σ1, h1, sh_fr S h2 h4, h3⟩
theorem sh_days {P : PP} {m σ : SS} (S : Sh P m σ) {b : Od} (hb : bst P = some b) : ∃ σ1, X4_days σ = some (nI (dys P b), σ1) ∧ Sh P m σ1 := by
  obtain ⟨σ1, h1, h2, h3⟩ := sh_make S
  refine ⟨σ1, ?_, h2⟩
  unfold X4_days
  rw [h1, Option.bind_some, h3.1, hb]
  rfl
theorem sh_all {P : PP} {m σ : SS} (S : Sh P m σ) {b : Od} (hb : bst P = some b) (h6 : rem P [] ≤ 6) : ∃ σ1, X4_daysByAll σ = some (.inl (nI (dys P b)), σ1) ∧ Sh P m σ1 := by
  obtain ⟨hW, hZ, C, hm⟩ := id S
  obtain ⟨σ1, h1, h2, h3⟩ := fewest_n hW C.1
  unfold X4_daysByAll
  rw [open_n hW C.1.1, if_pos (show nI (rem P []) ≤ 6 from nI_le h6 (by decide)), h1, hb]
  refine ⟨σ1, rfl, sh_fr S ⟨h3, ?_⟩ (fun k i a b _ _ _ => h2 k i a b)⟩
  unfold PlC
  rw [h2 1 7 (by decide) (by decide)]
  rcases C.2 with e | ⟨e, K⟩
  · exact Or.inl e
  · exact Or.inr ⟨e, KeepC_eq (h2 1 5 (by decide) (by decide)) (fun i => h2 12 i (by decide) (by decide)) (fun i => h2 13 i (by decide) (by decide)) K⟩
theorem sh_allE {P : PP} {m σ : SS} (S : Sh P m σ) (h6 : 6 < rem P []) : X4_daysByAll σ = some (.inr "java/lang/IllegalStateException", σ) := by
  have h8 := rem_8 S.1 []
  unfold X4_daysByAll
  rw [open_n S.1 S.2.2.1.1.1, if_neg (show ¬ nI (rem P []) ≤ 6 from nI_ge h6 (by omega))]
theorem OK_rev {σ : SS} : ∀ {b : Od} {i : Nat}, OK σ b → i < b.length → σ 12 i = nI (b.reverse.getD i (0, 0)).1
  | [], i, _, h => absurd h (Nat.not_lt_zero _)
  | x :: t, i, h, hi => by
    rw [List.reverse_cons, List.getD_eq_getElem?_getD]
    by_cases e : i = t.length
    · subst e
      rw [List.getElem?_append_right (by simp), h.1]
      simp
    · rw [List.length_cons] at hi
      rw [List.getElem?_append_left (by simp; omega), OK_rev (b := t) h.2 (by omega), List.getD_eq_getElem?_getD]
theorem win_ok {i n : Nat} (h : i < n) (hn : n < 2 ^ 31) : ¬ X4_isWithin (nI i) 0 (nI n - 1) = 0 := by
  rw [win_iff, il1, nI_sub' (by omega)]
  rintro (e | e)
  · exact nI_pos (by omega) e
  · exact nI_nlt (show i ≤ n - 1 by omega) (by omega) e
theorem sh_planned {P : PP} {m σ : SS} (S : Sh P m σ) {b : Od} (hb : bst P = some b) {i : Nat} (hi : i < rem P []) : ∃ σ1, X4_planned σ (nI i) = some (.inl (nI (b.reverse.getD i (0, 0)).1), σ1) ∧ Sh P m σ1 := by
  obtain ⟨σ1, h1, h2, h3⟩ := sh_make S
  have h8 := rem_8 S.1 []
  obtain ⟨b', hb', -, -, hl, -⟩ := bst_some S.1
  rw [hb] at hb'
  obtain rfl : b = b' := Option.some.inj hb'
  refine ⟨σ1, ?_, h2⟩
  unfold X4_planned
  rw [open_n S.1 S.2.2.1.1.1, if_neg (win_ok hi (by omega)), h1, Option.bind_some, fat_n σ1 12 (by omega) (by decide), OK_rev (h3.2 b hb).1 (by omega)]
theorem sh_begins {P : PP} {m σ : SS} (S : Sh P m σ) {b : Od} (hb : bst P = some b) {i : Nat} (hi : i < P 6 0) : ∃ σ1, X4_begins σ (nI i) = some (.inl (nI (bgn P b i)), σ1) ∧ Sh P m σ1 := by
  obtain ⟨σ1, h1, h2, h3⟩ := sh_make S
  have hn := S.1.1
  obtain ⟨b', hb', -, -, -, hl⟩ := bst_some S.1
  rw [hb] at hb'
  obtain rfl : b = b' := Option.some.inj hb'
  refine ⟨σ1, ?_, h2⟩
  unfold X4_begins
  rw [S.2.2.1.1.1.1, if_neg (win_ok hi (by omega)), h1, Option.bind_some, fat_n σ1 13 (by omega) (by decide), (h3.2 b hb).2 i (hl i hi)]
theorem gp {c : Prop} [Decidable c] {α : Type} {a b r : α} (hc : c) (h : a = r) : (if c then a else b) = r := by rw [if_pos hc]; exact h
theorem gn {c : Prop} [Decidable c] {α : Type} {a b r : α} (hc : ¬ c) (h : b = r) : (if c then a else b) = r := by rw [if_neg hc]; exact h
theorem gx {γ : Type} {o : Option ((Int32 ⊕ String) × SS)} {v : Int32} {σ : SS} {f : Int32 → SS → Option γ} {c : Option γ} (h : o = some (.inl v, σ)) (k : f v σ = c) : bdx o f = c := by rw [h]; exact k
theorem g2 {γ : Type} {o : Option (Int32 × SS)} {v : Int32} {σ : SS} {f : Int32 → SS → Option γ} {c : Option γ} (h : o = some (v, σ)) (k : f v σ = c) : bd2 o f = c := by rw [h]; exact k
/-- what plan asks -/
def ckB (P : PP) (b : Od) (i : Nat) (a : Int32) : Bool := decide (a < 0) || (decide (i < P 6 0) && eqI (nI (bgn P b i)) a)
def ckPlan (P : PP) (b : Od) (d a0 a1 a2 : Int32) : Bool := decide (rem P [] ≤ 6) && eqI (nI (dys P b)) d && ckB P b 0 a0 && ckB P b 1 a1 && ckB P b 2 a2
theorem sh_plan {P : PP} {m σ : SS} (S : Sh P m σ) {b : Od} (hb : bst P = some b) {d a0 a1 a2 : Int32} (h : ckPlan P b d a0 a1 a2 = true) : ∃ σ1, L_plan σ d a0 a1 a2 = some (1, σ1) ∧ Sh P m σ1 := by
  unfold ckPlan at h
  simp only [Bool.and_eq_true, decide_eq_true_eq] at h
  obtain ⟨⟨⟨⟨h6, hd⟩, h0⟩, h1⟩, h2⟩ := h
  obtain ⟨σ1, e1, S1⟩ := sh_days S hb
  obtain ⟨σ2, e2, S2⟩ := sh_all S1 hb h6
  have hB : ∀ {i : Nat} {a : Int32} {σ : SS}, Sh P m σ → ckB P b i a = true → a < 0 ∨ (¬ a < 0 ∧ ∃ σ1, X4_begins σ (nI i) = some (.inl a, σ1) ∧ Sh P m σ1) := by
    intro i a σ S h
    by_cases ha : a < 0
    · exact Or.inl ha
    · refine Or.inr ⟨ha, ?_⟩
      unfold ckB at h
      rw [decide_eq_false ha, Bool.false_or, Bool.and_eq_true, decide_eq_true_eq] at h
      rw [← eqI_t h.2]
      exact sh_begins S hb h.1
  have k42 : ∀ σ, Sh P m σ → ∃ σ1, L_plan_b42 σ a2 = some (1, σ1) ∧ Sh P m σ1 := by
    intro σ S
    unfold L_plan_b42 L_plan_b57
    rcases hB S h2 with e | ⟨e, σ1, e1, S1⟩
    · exact ⟨σ, gp e rfl, S⟩
    · exact ⟨σ1, gn e (gx e1 (gp rfl rfl)), S1⟩
  have k29 : ∀ σ, Sh P m σ → ∃ σ1, L_plan_b29 σ a1 a2 = some (1, σ1) ∧ Sh P m σ1 := by
    intro σ S
    unfold L_plan_b29
    rcases hB S h1 with e | ⟨e, σ1, e1, S1⟩
    · obtain ⟨σ2, e2, S2⟩ := k42 σ S
      exact ⟨σ2, gp e e2, S2⟩
    · obtain ⟨σ2, e2, S2⟩ := k42 σ1 S1
      exact ⟨σ2, gn e (gx e1 (gp rfl e2)), S2⟩
  unfold L_plan
  rcases hB S2 h0 with e | ⟨e, σ3, e3, S3⟩
  · obtain ⟨σ4, e4, S4⟩ := k29 σ2 S2
    exact ⟨σ4, g2 e1 (gp (eqI_t hd) (gx e2 (gp (eqI_t hd) (gp e e4)))), S4⟩
  · obtain ⟨σ4, e4, S4⟩ := k29 σ3 S3
    exact ⟨σ4, g2 e1 (gp (eqI_t hd) (gx e2 (gp (eqI_t hd) (gn e (gx e3 (gp rfl e4)))))), S4⟩
