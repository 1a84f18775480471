/-! What the law's walk wants of the two systems: one relation, kept by every call. -/
def Agr (Es : List String) (r : Int32 ⊕ String) (b th : Int32) : Prop := match r with
  | .inl v => th = 0 ∧ v = b
  | .inr E => ∃ k, hcode Es 1 E = some k ∧ th = k ∧ k ≠ 0
theorem agr_int {Es : List String} {r : Int32 ⊕ String} {b th : Int32} (h : Agr Es r b th) (f : Nat → Int64) : ∃ k f1, hres Es false f r = some (k, f1) ∧ th = k ∧ (k = 0 → f1 (Int32.toNatClampNeg 0) = b.toInt64) := by
  cases r with
  | inl v =>
    obtain ⟨h1, rfl⟩ := h
    exact ⟨0, _, rfl, h1, fun _ => by simp [vp_updL]⟩
  | inr E =>
    obtain ⟨k, h1, h2, h3⟩ := h
    exact ⟨k, f, by simp [hres, h1], h2, fun h => absurd h h3⟩
theorem agr_bool {Es : List String} {r : Int32 ⊕ String} {b th : Int32} (h : Agr Es r b th) (f : Nat → Int64) : ∃ k f1, hres Es true f r = some (k, f1) ∧ th = k ∧ (k = 0 → f1 (Int32.toNatClampNeg 0) = if b = 0 then Int64.ofNat ((0 : Fin 2) : Nat) else Int64.ofNat ((1 : Fin 2) : Nat)) := by
  cases r with
  | inl v =>
    obtain ⟨h1, rfl⟩ := h
    exact ⟨0, _, rfl, h1, fun _ => by simp [vp_updL]⟩
  | inr E =>
    obtain ⟨k, h1, h2, h3⟩ := h
    exact ⟨k, f, by simp [hres, h1], h2, fun h => absurd h h3⟩
def sC0 : SS := wr (wr (fun _ _ => 0) 0 4 100) 0 5 50
def sR0 : SS := wr (wr (fun _ _ => 0) 0 11 100) 0 12 50
def Rel (_ : Nat) (_ _ : SS) : Prop := True
theorem rel0 : Rel 0 sC0 sR0 := trivial
theorem rel_up {j : Nat} {σ τ : SS} (R : Rel j σ τ) : Rel (j + 1) σ τ := trivial
theorem st_addScene {j : Nat} (hj : j < 512) {σ τ : SS} (R : Rel j σ τ) (x1 : Int32) (x2 : Int32) (x3 : Int32) (x4 : Int32) (x5 : Int32) : ∃ r σ1 b τ1, X4_addScene σ x1 x2 x3 x4 x5 = some (r, σ1) ∧ X5_addScene τ x1 x2 x3 x4 x5 = some (b, τ1) ∧ Rel (j + 1) σ1 τ1 ∧ Agr ["java/lang/IllegalArgumentException", "java/lang/IllegalStateException"] r b (X5_thrown τ1) := sorry
theorem st_setOut {j : Nat} (hj : j < 512) {σ τ : SS} (R : Rel j σ τ) (x1 : Int32) (x2 : Int32) (hx2 : x2 = 0 ∨ x2 = 1) : ∃ r σ1 b τ1, X4_setOut σ x1 x2 = some (r, σ1) ∧ X5_setOut τ x1 x2 = some (b, τ1) ∧ Rel (j + 1) σ1 τ1 ∧ Agr ["java/lang/IndexOutOfBoundsException"] r b (X5_thrown τ1) := sorry
theorem st_setChild {j : Nat} (hj : j < 512) {σ τ : SS} (R : Rel j σ τ) (x1 : Int32) (x2 : Int32) (hx2 : x2 = 0 ∨ x2 = 1) : ∃ r σ1 b τ1, X4_setChild σ x1 x2 = some (r, σ1) ∧ X5_setChild τ x1 x2 = some (b, τ1) ∧ Rel (j + 1) σ1 τ1 ∧ Agr ["java/lang/IndexOutOfBoundsException"] r b (X5_thrown τ1) := sorry
theorem st_setRates {j : Nat} (hj : j < 512) {σ τ : SS} (R : Rel j σ τ) (x1 : Int32) (x2 : Int32) : ∃ r σ1 b τ1, X4_setRates σ x1 x2 = some (r, σ1) ∧ X5_setRates τ x1 x2 = some (b, τ1) ∧ Rel (j + 1) σ1 τ1 ∧ Agr ["java/lang/IllegalArgumentException"] r b (X5_thrown τ1) := sorry
theorem st_shoot {j : Nat} (hj : j < 512) {σ τ : SS} (R : Rel j σ τ) (x1 : Int32) (hx1 : x1 = 0 ∨ x1 = 1) : ∃ r σ1 b τ1, X4_shoot σ x1 = some (r, σ1) ∧ X5_shoot τ x1 = some (b, τ1) ∧ Rel (j + 1) σ1 τ1 ∧ Agr ["java/lang/IllegalStateException"] r b (X5_thrown τ1) := sorry
theorem st_approve {j : Nat} (hj : j < 512) {σ τ : SS} (R : Rel j σ τ) (x1 : Int32) (x2 : Int32) : ∃ r σ1 b τ1, X4_approve σ x1 x2 = some (r, σ1) ∧ X5_approve τ x1 x2 = some (b, τ1) ∧ Rel (j + 1) σ1 τ1 ∧ Agr ["java/lang/IndexOutOfBoundsException", "java/lang/IllegalArgumentException"] r b (X5_thrown τ1) := sorry
theorem st_grant {j : Nat} (hj : j < 512) {σ τ : SS} (R : Rel j σ τ) (x1 : Int32) : ∃ r σ1 b τ1, X4_grant σ x1 = some (r, σ1) ∧ X5_grant τ x1 = some (b, τ1) ∧ Rel (j + 1) σ1 τ1 ∧ Agr ["java/lang/IllegalArgumentException"] r b (X5_thrown τ1) := sorry
theorem st_bill {j : Nat} (hj : j < 512) {σ τ : SS} (R : Rel j σ τ) (x1 : Int32) (x2 : Int32) : ∃ r σ1 b τ1, X4_bill σ x1 x2 = some (r, σ1) ∧ X5_bill τ x1 x2 = some (b, τ1) ∧ Rel (j + 1) σ1 τ1 ∧ Agr ["java/lang/IndexOutOfBoundsException", "java/lang/IllegalArgumentException", "java/lang/IllegalStateException"] r b (X5_thrown τ1) := sorry
theorem st_loan {j : Nat} (hj : j < 512) {σ τ : SS} (R : Rel j σ τ) (x1 : Int32) (x2 : Int32) : ∃ r σ1 b τ1, X4_loan σ x1 x2 = some (r, σ1) ∧ X5_loan τ x1 x2 = some (b, τ1) ∧ Rel (j + 1) σ1 τ1 ∧ Agr ["java/lang/IndexOutOfBoundsException", "java/lang/IllegalArgumentException", "java/lang/IllegalStateException"] r b (X5_thrown τ1) := sorry
theorem st_part {j : Nat} (hj : j < 512) {σ τ : SS} (R : Rel j σ τ) (x1 : Int32) (x2 : Int32) (x3 : Int32) : ∃ r σ1 b τ1, X4_part σ x1 x2 x3 = some (r, σ1) ∧ X5_part τ x1 x2 x3 = some (b, τ1) ∧ Rel (j + 1) σ1 τ1 ∧ Agr ["java/lang/IndexOutOfBoundsException", "java/lang/IllegalArgumentException", "java/lang/IllegalStateException"] r b (X5_thrown τ1) := sorry
theorem st_income {j : Nat} (hj : j < 512) {σ τ : SS} (R : Rel j σ τ) (x1 : Int32) : ∃ r σ1 b τ1, X4_income σ x1 = some (r, σ1) ∧ X5_income τ x1 = some (b, τ1) ∧ Rel (j + 1) σ1 τ1 ∧ Agr ["java/lang/IllegalArgumentException"] r b (X5_thrown τ1) := sorry
theorem st_daysByAll {j : Nat} (hj : j < 512) {σ τ : SS} (R : Rel j σ τ) : ∃ r σ1 b τ1, X4_daysByAll σ = some (r, σ1) ∧ X5_daysByAll τ = some (b, τ1) ∧ Rel (j + 1) σ1 τ1 ∧ Agr ["java/lang/IllegalStateException"] r b (X5_thrown τ1) := sorry
theorem st_planned {j : Nat} (hj : j < 512) {σ τ : SS} (R : Rel j σ τ) (x1 : Int32) : ∃ r σ1 b τ1, X4_planned σ x1 = some (r, σ1) ∧ X5_planned τ x1 = some (b, τ1) ∧ Rel (j + 1) σ1 τ1 ∧ Agr ["java/lang/IndexOutOfBoundsException"] r b (X5_thrown τ1) := sorry
theorem st_begins {j : Nat} (hj : j < 512) {σ τ : SS} (R : Rel j σ τ) (x1 : Int32) : ∃ r σ1 b τ1, X4_begins σ x1 = some (r, σ1) ∧ X5_begins τ x1 = some (b, τ1) ∧ Rel (j + 1) σ1 τ1 ∧ Agr ["java/lang/IndexOutOfBoundsException"] r b (X5_thrown τ1) := sorry
theorem st_left {j : Nat} (hj : j < 512) {σ τ : SS} (R : Rel j σ τ) (x1 : Int32) : ∃ r σ1 b τ1, X4_left σ x1 = some (r, σ1) ∧ X5_left τ x1 = some (b, τ1) ∧ Rel (j + 1) σ1 τ1 ∧ Agr ["java/lang/IndexOutOfBoundsException"] r b (X5_thrown τ1) := sorry
theorem st_openOf {j : Nat} (hj : j < 512) {σ τ : SS} (R : Rel j σ τ) (x1 : Int32) : ∃ r σ1 b τ1, X4_openOf σ x1 = some (r, σ1) ∧ X5_openOf τ x1 = some (b, τ1) ∧ Rel (j + 1) σ1 τ1 ∧ Agr ["java/lang/IndexOutOfBoundsException"] r b (X5_thrown τ1) := sorry
theorem st_got {j : Nat} (hj : j < 512) {σ τ : SS} (R : Rel j σ τ) (x1 : Int32) : ∃ r σ1 b τ1, X4_got σ x1 = some (r, σ1) ∧ X5_got τ x1 = some (b, τ1) ∧ Rel (j + 1) σ1 τ1 ∧ Agr ["java/lang/IndexOutOfBoundsException"] r b (X5_thrown τ1) := sorry
theorem st_hold {j : Nat} (hj : j < 512) {σ τ : SS} (R : Rel j σ τ) (x1 : Int32) (hx1 : x1 = 0 ∨ x1 = 1) : ∃ r σ1 τ1, X4_hold σ x1 = some (r, σ1) ∧ X5_hold τ x1 = some (r, τ1) ∧ Rel (j + 1) σ1 τ1 := sorry
theorem st_today {j : Nat} (hj : j < 512) {σ τ : SS} (R : Rel j σ τ) : ∃ τ1, X5_today τ = some (X4_today σ, τ1) ∧ Rel (j + 1) σ τ1 := sorry
theorem st_shot {j : Nat} (hj : j < 512) {σ τ : SS} (R : Rel j σ τ) : ∃ τ1, X5_shot τ = some (X4_shot σ, τ1) ∧ Rel (j + 1) σ τ1 := sorry
theorem st_days {j : Nat} (hj : j < 512) {σ τ : SS} (R : Rel j σ τ) : ∃ r σ1 τ1, X4_days σ = some (r, σ1) ∧ X5_days τ = some (r, τ1) ∧ Rel (j + 1) σ1 τ1 := sorry
theorem st_fee {j : Nat} (hj : j < 512) {σ τ : SS} (R : Rel j σ τ) : ∃ τ1, X5_fee τ = some (X4_fee σ, τ1) ∧ Rel (j + 1) σ τ1 := sorry
theorem st_costs {j : Nat} (hj : j < 512) {σ τ : SS} (R : Rel j σ τ) : ∃ τ1, X5_costs τ = some (X4_costs σ, τ1) ∧ Rel (j + 1) σ τ1 := sorry
theorem st_open {j : Nat} (hj : j < 512) {σ τ : SS} (R : Rel j σ τ) : ∃ τ1, X5_open τ = some (X4_open σ, τ1) ∧ Rel (j + 1) σ τ1 := sorry
theorem st_house {j : Nat} (hj : j < 512) {σ τ : SS} (R : Rel j σ τ) : ∃ τ1, X5_house τ = some (X4_house σ, τ1) ∧ Rel (j + 1) σ τ1 := sorry
