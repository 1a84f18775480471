/-! What the law's walk wants of the two systems: one relation, kept by every call. -/
def Agr (Es : List String) (r : Int32 ⊕ String) (b th : Int32) : Prop := match r with
  | .inl v => th = 0 ∧ v = b
  | .inr E => ∃ k, hcode Es 1 E = some k ∧ th = k ∧ k ≠ 0
theorem agr_int {Es : List String} {r : Int32 ⊕ String} {b th : Int32} (h : Agr Es r b th) (f : Nat → Int64) : ∃ k f1, hres Es false f r = some (k, f1) ∧ th = k ∧ (k = 0 → f1 (Int32.toNatClampNeg 0) = b.toInt64) := by
  cases r with
  | inl v =>
    obtain ⟨h1, rfl⟩ := h
    exact ⟨0, _, rfl, h1, fun _ => by simp [vp_updL]⟩
  | inr E =>
    obtain ⟨k, h1, h2, h3⟩ := h
    exact ⟨k, f, by simp [hres, h1], h2, fun h => absurd h h3⟩
theorem agr_bool {Es : List String} {r : Int32 ⊕ String} {b th : Int32} (h : Agr Es r b th) (f : Nat → Int64) : ∃ k f1, hres Es true f r = some (k, f1) ∧ th = k ∧ (k = 0 → f1 (Int32.toNatClampNeg 0) = if b = 0 then Int64.ofNat ((0 : Fin 2) : Nat) else Int64.ofNat ((1 : Fin 2) : Nat)) := by
  cases r with
  | inl v =>
    obtain ⟨h1, rfl⟩ := h
    exact ⟨0, _, rfl, h1, fun _ => by simp [vp_updL]⟩
  | inr E =>
    obtain ⟨k, h1, h2, h3⟩ := h
    exact ⟨k, f, by simp [hres, h1], h2, fun h => absurd h h3⟩
def sC0 : SS := wr (wr (fun _ _ => 0) 0 4 100) 0 5 50
def sR0 : SS := wr (wr (fun _ _ => 0) 0 11 100) 0 12 50
/-- the plans that are held are the plan -/
def PlC (P : PP) (σ : SS) : Prop := σ 1 7 = 0 ∨ (σ 1 7 = 1 ∧ KeepC P (bst P) σ)
def PlR (P : PP) (τ : SS) : Prop := τ 0 18 = 0 → τ 0 16 = nI (rem P []) ∧ KeepR P (bst P) τ
def PC (P : PP) (σ : SS) : Prop := SC P [] σ ∧ PlC P σ
def PR (P : PP) (τ : SS) : Prop := BR P τ ∧ PlR P τ
/-- money: lines, loans, parts, gains -/
def LN (j : Nat) (σ τ : SS) : Prop := ∀ i, i < 4 → ∃ n, n ≤ 100000 * j ∧ σ 14 i = nI n ∧ τ 11 i = nI n
def LO (σ τ : SS) : Prop := ∃ L, L ≤ 10 ∧ σ 4 7 = nI L ∧ τ 0 25 = nI L ∧ ∀ i, i < L → (∃ p, p < 6 ∧ σ 15 i = nI p ∧ τ 12 i = nI p) ∧ σ 16 i = τ 13 i
def PA (σ τ : SS) : Prop := ∃ M, M ≤ 12 ∧ σ 4 8 = nI M ∧ τ 0 28 = nI M ∧ ∀ i, i < M → (σ 17 i = τ 14 i ∧ (σ 17 i = -1 ∨ ∃ k, k < i ∧ σ 17 i = nI k)) ∧ (∃ p, p < 6 ∧ σ 18 i = nI p ∧ τ 15 i = nI p) ∧ σ 19 i = τ 16 i
def GA (σ τ : SS) : Prop := (∀ i, i < 6 → σ 21 i = τ 18 i) ∧ σ 4 9 = τ 0 34
def SE (σ τ : SS) : Prop := (∃ r, r ≤ 1000 ∧ σ 0 4 = nI r ∧ τ 0 11 = nI r) ∧ (∃ c, c ≤ 1000 ∧ σ 0 5 = nI c ∧ τ 0 12 = nI c) ∧ (σ 0 6 = τ 0 13 ∧ (σ 0 6 = 0 ∨ σ 0 6 = 1)) ∧ σ 2 7 = τ 0 9
def FE (σ τ : SS) : Prop := σ 3 1 = τ 0 22 ∧ σ 3 2 = τ 0 23 ∧ σ 3 3 = τ 0 24
def RM (j : Nat) (σ τ : SS) : Prop := SE σ τ ∧ LN j σ τ ∧ FE σ τ ∧ LO σ τ ∧ PA σ τ ∧ GA σ τ
def Rel (j : Nat) (σ τ : SS) : Prop := ∃ P, Wf P ∧ PC P σ ∧ PR P τ ∧ RM j σ τ
theorem wr_o (σ : SS) {k0 i0 k i : Nat} (x : Int32) (h : ¬ (k = k0 ∧ i = i0)) : wr σ k0 i0 x k i = σ k i := by
  rw [wr_app]
  by_cases e : k = k0
  · subst e
    rw [if_pos rfl, if_neg (fun e2 => h ⟨rfl, e2⟩)]
  · rw [if_neg e]
/-- the cells that the plans and the money speak of -/
def cP (k i : Nat) : Prop := k = 1 ∨ (5 ≤ k ∧ k ≤ 13) ∨ (k = 2 ∧ i ≠ 7)
def rP (k i : Nat) : Prop := (1 ≤ k ∧ k ≤ 10) ∨ (k = 0 ∧ (i ≤ 8 ∨ i = 10 ∨ (16 ≤ i ∧ i ≤ 18)))
def cM (k i : Nat) : Prop := k = 0 ∨ k = 3 ∨ k = 4 ∨ 14 ≤ k ∨ (k = 2 ∧ i = 7)
def rM (k i : Nat) : Prop := 11 ≤ k ∨ (k = 0 ∧ (i = 9 ∨ (11 ≤ i ∧ i ≤ 13) ∨ (22 ≤ i ∧ i ≤ 34)))
theorem PC_eq {P : PP} {σ σ1 : SS} (h : ∀ k i, cP k i → σ1 k i = σ k i) (C : PC P σ) : PC P σ1 := by
  obtain ⟨S, L⟩ := C
  have h' : ∀ k i, (k = 1 ∨ (5 ≤ k ∧ k ≤ 13) ∨ (k = 2 ∧ i ≠ 7)) → σ1 k i = σ k i := h
  refine ⟨⟨⟨by rw [h' 2 5 (by omega)]; exact S.1.1, by rw [h' 2 6 (by omega)]; exact S.1.2.1, by rw [h' 2 8 (by omega)]; exact S.1.2.2.1, by rw [h' 1 6 (by omega)]; exact S.1.2.2.2.1, fun i hi => ?_⟩, trivial, fun i hi => ?_⟩, ?_⟩
  · rw [h' 5 i (by omega), h' 6 i (by omega), h' 7 i (by omega), h' 8 i (by omega), h' 9 i (by omega)]
    exact S.1.2.2.2.2 i hi
  · rw [h' 11 i (by omega)]
    exact S.2.2 i hi
  · unfold PlC
    rw [h' 1 7 (by omega)]
    rcases L with L | ⟨L, K⟩
    · exact Or.inl L
    · exact Or.inr ⟨L, KeepC_eq (h' 1 5 (by omega)) (fun i => h' 12 i (by omega)) (fun i => h' 13 i (by omega)) K⟩
theorem PR_eq {P : PP} {τ τ1 : SS} (h : ∀ k i, rP k i → τ1 k i = τ k i) (C : PR P τ) : PR P τ1 := by
  have h' : ∀ k i, ((1 ≤ k ∧ k ≤ 10) ∨ (k = 0 ∧ (i ≤ 8 ∨ i = 10 ∨ (16 ≤ i ∧ i ≤ 18)))) → τ1 k i = τ k i := h
  obtain ⟨B, L⟩ := C
  refine ⟨⟨by rw [h' 0 0 (by omega)]; exact B.1, by rw [h' 0 6 (by omega)]; exact B.2.1, by rw [h' 0 8 (by omega)]; exact B.2.2.1, by rw [h' 0 10 (by omega)]; exact B.2.2.2.1, fun i hi => ?_, fun i hi => ?_⟩, fun h18 => ?_⟩
  · rw [h' 1 i (by omega), h' 2 i (by omega), h' 3 i (by omega), h' 4 i (by omega), h' 5 i (by omega)]
    exact B.2.2.2.2.1 i hi
  · rw [h' 6 i (by omega)]
    exact B.2.2.2.2.2 i hi
  · rw [h' 0 18 (by omega)] at h18
    obtain ⟨h16, K⟩ := L h18
    exact ⟨by rw [h' 0 16 (by omega)]; exact h16, KeepR_eq (h' 0 17 (by omega)) (fun i => h' 7 i (by omega)) (fun i => h' 8 i (by omega)) K⟩
theorem RM_eq {j : Nat} {σ σ1 τ τ1 : SS} (hc : ∀ k i, cM k i → σ1 k i = σ k i) (hr : ∀ k i, rM k i → τ1 k i = τ k i) (M : RM j σ τ) : RM j σ1 τ1 := by
  have c : ∀ k i, (k = 0 ∨ k = 3 ∨ k = 4 ∨ 14 ≤ k ∨ (k = 2 ∧ i = 7)) → σ1 k i = σ k i := hc
  have r : ∀ k i, (11 ≤ k ∨ (k = 0 ∧ (i = 9 ∨ (11 ≤ i ∧ i ≤ 13) ∨ (22 ≤ i ∧ i ≤ 34)))) → τ1 k i = τ k i := hr
  obtain ⟨⟨m1, m2, m3, m4⟩, m5, m6, m7, m8, m9⟩ := M
  refine ⟨⟨?_, ?_, ?_, ?_⟩, fun i hi => ?_, ?_, ?_, ?_, fun i hi => ?_, ?_⟩
  · rw [c 0 4 (by omega), r 0 11 (by omega)]; exact m1
  · rw [c 0 5 (by omega), r 0 12 (by omega)]; exact m2
  · rw [c 0 6 (by omega), r 0 13 (by omega)]; exact m3
  · rw [c 2 7 (by omega), r 0 9 (by omega)]; exact m4
  · rw [c 14 i (by omega), r 11 i (by omega)]; exact m5 i hi
  · unfold FE
    rw [c 3 1 (by omega), r 0 22 (by omega), c 3 2 (by omega), r 0 23 (by omega), c 3 3 (by omega), r 0 24 (by omega)]; exact m6
  · obtain ⟨L, h1, h2, h3, h4⟩ := m7
    refine ⟨L, h1, by rw [c 4 7 (by omega)]; exact h2, by rw [r 0 25 (by omega)]; exact h3, fun i hi => ?_⟩
    rw [c 15 i (by omega), c 16 i (by omega), r 12 i (by omega), r 13 i (by omega)]
    exact h4 i hi
  · obtain ⟨L, h1, h2, h3, h4⟩ := m8
    refine ⟨L, h1, by rw [c 4 8 (by omega)]; exact h2, by rw [r 0 28 (by omega)]; exact h3, fun i hi => ?_⟩
    rw [c 17 i (by omega), c 18 i (by omega), c 19 i (by omega), r 14 i (by omega), r 15 i (by omega), r 16 i (by omega)]
    exact h4 i hi
  · rw [c 21 i (by omega), r 18 i (by omega)]; exact m9.1 i hi
  · rw [c 4 9 (by omega), r 0 34 (by omega)]; exact m9.2
theorem rel_up {j : Nat} {σ τ : SS} (R : Rel j σ τ) : Rel (j + 1) σ τ := by
  obtain ⟨P, h1, h2, h3, m1, m2, m3⟩ := R
  refine ⟨P, h1, h2, h3, m1, fun i hi => ?_, m3⟩
  obtain ⟨n, a, b⟩ := m2 i hi
  exact ⟨n, by omega, b⟩
theorem RM_up {j : Nat} {σ τ : SS} (M : RM j σ τ) : RM (j + 1) σ τ := by
  obtain ⟨m1, m2, m3⟩ := M
  refine ⟨m1, fun i hi => ?_, m3⟩
  obtain ⟨n, a, b⟩ := m2 i hi
  exact ⟨n, by omega, b⟩
def P0 : PP := fun _ _ => 0
theorem bst0 : bst P0 = some [] := rfl
theorem rel0 : Rel 0 sC0 sR0 := by
  refine ⟨P0, ⟨by decide, fun i hi => absurd hi (by show ¬ i < 0; omega), by decide, by decide, by decide, fun i hi => absurd hi (by show ¬ i < 0; omega)⟩, ⟨⟨⟨?_, ?_, ?_, ?_, fun i hi => absurd hi (by show ¬ i < 0; omega)⟩, trivial, fun i hi => ?_⟩, Or.inl ?_⟩, ⟨⟨?_, ?_, ?_, ?_, fun i hi => absurd hi (by show ¬ i < 0; omega), fun i hi => ?_⟩, fun _ => ⟨?_, ?_, ?_⟩⟩, ⟨⟨100, by decide, ?_, ?_⟩, ⟨50, by decide, ?_, ?_⟩, ⟨?_, Or.inl ?_⟩, ?_⟩, fun i hi => ⟨0, by decide, ?_, ?_⟩, ⟨?_, ?_, ?_⟩, ⟨0, by decide, ?_, ?_, fun i hi => absurd hi (by omega)⟩, ⟨0, by decide, ?_, ?_, fun i hi => absurd hi (by omega)⟩, fun i hi => ?_, ?_⟩
  any_goals (first | rfl | (simp [sC0, sR0, wr_app]; done))
  · intro b hb
    rw [bst0] at hb
    obtain rfl := Option.some.inj hb
    trivial
/-- what sets but the last answer's code -/
theorem thr {j : Nat} {σ τ : SS} (R : Rel j σ τ) (x : Int32) : Rel (j + 1) σ (wr τ 0 35 x) := by
  obtain ⟨P, h1, h2, h3, m⟩ := rel_up R
  refine ⟨P, h1, h2, PR_eq (fun k i h => wr_o _ _ ?_) h3, RM_eq (fun _ _ _ => rfl) (fun k i h => wr_o _ _ ?_) m⟩
  · unfold rP at h; omega
  · unfold rM at h; omega
theorem agr_ok {Es : List String} {v th : Int32} (h : th = 0) : Agr Es (.inl v) v th := ⟨h, rfl⟩
theorem agr_er {Es : List String} {E : String} {b th k : Int32} (h : hcode Es 1 E = some k) (h1 : th = k) (h2 : k ≠ 0) : Agr Es (.inr E) b th := ⟨k, h, h1, h2⟩
theorem thr_0 (τ : SS) (x : Int32) : X5_thrown (wr τ 0 35 x) = x := wr_at _ _ _ _
theorem st_today {j : Nat} (hj : j < 512) {σ τ : SS} (R : Rel j σ τ) : ∃ τ1, X5_today τ = some (X4_today σ, τ1) ∧ Rel (j + 1) σ τ1 := by
  refine ⟨wr τ 0 35 0, ?_, thr R 0⟩
  obtain ⟨P, hW, C, C2, M⟩ := R
  unfold X5_today X4_today
  rw [lt_eq, wr_o _ _ (by omega), C.1.1.2.2.2.1, C2.1.2.2.2.1]
theorem st_shot {j : Nat} (hj : j < 512) {σ τ : SS} (R : Rel j σ τ) : ∃ τ1, X5_shot τ = some (X4_shot σ, τ1) ∧ Rel (j + 1) σ τ1 := by
  refine ⟨wr τ 0 35 0, ?_, thr R 0⟩
  obtain ⟨P, hW, C, C2, M⟩ := R
  unfold X5_shot X4_shot
  rw [lt_eq, wr_o _ _ (by omega), C.1.1.2.1, C2.1.2.1]
theorem st_fee {j : Nat} (hj : j < 512) {σ τ : SS} (R : Rel j σ τ) : ∃ τ1, X5_fee τ = some (X4_fee σ, τ1) ∧ Rel (j + 1) σ τ1 := by
  refine ⟨wr τ 0 35 0, ?_, thr R 0⟩
  obtain ⟨P, hW, C, C2, M⟩ := R
  unfold X5_fee X4_fee
  rw [lt_eq, wr_o _ _ (by omega), M.2.2.1.1]
theorem st_costs {j : Nat} (hj : j < 512) {σ τ : SS} (R : Rel j σ τ) : ∃ τ1, X5_costs τ = some (X4_costs σ, τ1) ∧ Rel (j + 1) σ τ1 := by
  refine ⟨wr τ 0 35 0, ?_, thr R 0⟩
  obtain ⟨P, hW, C, C2, M⟩ := R
  unfold X5_costs X4_costs
  rw [lt_eq, wr_o _ _ (by omega), M.2.2.1.2.1]
theorem st_open {j : Nat} (hj : j < 512) {σ τ : SS} (R : Rel j σ τ) : ∃ τ1, X5_open τ = some (X4_open σ, τ1) ∧ Rel (j + 1) σ τ1 := by
  refine ⟨wr τ 0 35 0, ?_, thr R 0⟩
  obtain ⟨P, hW, C, C2, M⟩ := R
  unfold X5_open X4_open
  rw [lt_eq, wr_o _ _ (by omega), M.2.2.1.2.2]
theorem st_house {j : Nat} (hj : j < 512) {σ τ : SS} (R : Rel j σ τ) : ∃ τ1, X5_house τ = some (X4_house σ, τ1) ∧ Rel (j + 1) σ τ1 := by
  refine ⟨wr τ 0 35 0, ?_, thr R 0⟩
  obtain ⟨P, hW, C, C2, M⟩ := R
  unfold X5_house X4_house
  rw [lt_eq, wr_o _ _ (by omega), M.2.2.2.2.2.2]
