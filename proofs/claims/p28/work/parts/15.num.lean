/-! Numbers: small naturals as Int32, rows, sets as masks. -/
theorem il0 : (0 : Int32) = nI 0 := rfl
theorem il1 : (1 : Int32) = nI 1 := rfl
theorem il2 : (2 : Int32) = nI 2 := rfl
theorem il3 : (3 : Int32) = nI 3 := rfl
theorem il4 : (4 : Int32) = nI 4 := rfl
theorem il5 : (5 : Int32) = nI 5 := rfl
theorem il6 : (6 : Int32) = nI 6 := rfl
theorem il8 : (8 : Int32) = nI 8 := rfl
theorem il9 : (9 : Int32) = nI 9 := rfl
theorem il10 : (10 : Int32) = nI 10 := rfl
theorem il11 : (11 : Int32) = nI 11 := rfl
theorem il12 : (12 : Int32) = nI 12 := rfl
theorem il16 : (16 : Int32) = nI 16 := rfl
theorem il18 : (18 : Int32) = nI 18 := rfl
theorem il24 : (24 : Int32) = nI 24 := rfl
theorem il63 : (63 : Int32) = nI 63 := rfl
theorem il1000 : (1000 : Int32) = nI 1000 := rfl
theorem il1000000 : (1000000 : Int32) = nI 1000000 := rfl
theorem nI_inj {a b : Nat} (ha : a < 2 ^ 31) (hb : b < 2 ^ 31) (h : nI a = nI b) : a = b := (nI_eq ha hb).mp h
theorem nI_mul (a b : Nat) : nI a * nI b = nI (a * b) := pk_mul a b
theorem nI_div {a d : Nat} (ha : a < 2 ^ 31) (h0 : 0 < d) (hd : d < 2 ^ 31) : nI a / nI d = nI (a / d) := pk_div ha h0 hd
theorem wr_app (σ : SS) (k i : Nat) (x : Int32) (k1 i1 : Nat) : wr σ k i x k1 i1 = if k1 = k then (if i1 = i then x else σ k i1) else σ k1 i1 := by
  unfold wr sst
  by_cases h : k1 = k
  · rw [if_pos h, if_pos h]; rfl
  · rw [if_neg h, if_neg h]
theorem wr_at (σ : SS) (k i : Nat) (x : Int32) : wr σ k i x k i = x := by rw [wr_app, if_pos rfl, if_pos rfl]
theorem wr_ne (σ : SS) (k i : Nat) (x : Int32) {k1 : Nat} (i1 : Nat) (h : k1 ≠ k) : wr σ k i x k1 i1 = σ k1 i1 := by rw [wr_app, if_neg h]
theorem wr_ni (σ : SS) (k : Nat) {i i1 : Nat} (x : Int32) (h : i1 ≠ i) : wr σ k i x k i1 = σ k i1 := by rw [wr_app, if_pos rfl, if_neg h]
theorem clamp_n {n : Nat} (h : n < 2 ^ 31) : (nI n).toNatClampNeg = n := nI_clamp h
theorem fat_n (σ : SS) (k : Nat) {n i : Nat} (h : i < n) (hn : n < 2 ^ 31) : fat σ k n (nI i) = σ k i := by
  unfold fat
  rw [if_neg (nI_pos (by omega)), if_neg (by rw [show Int32.ofNat n = nI n from rfl]; exact nI_ge h hn), clamp_n (by omega)]
theorem fput_n (σ : SS) (k : Nat) {n i : Nat} (x : Int32) (h : i < n) (hn : n < 2 ^ 31) : fput σ k n (nI i) x = wr σ k i x := by
  unfold fput
  rw [if_neg (nI_pos (by omega)), if_neg (by rw [show Int32.ofNat n = nI n from rfl]; exact nI_ge h hn), clamp_n (by omega)]
theorem fadd_n (σ : SS) (k : Nat) {n i : Nat} (x : Int32) (h : i < n) (hn : n < 2 ^ 31) : fadd σ k n (nI i) x = wr σ k i (σ k i + x) := by
  unfold fadd
  rw [fat_n σ k h hn, fput_n σ k _ h hn]
/-- a guard of a row's place holds -/
theorem gd_n {n i : Nat} (h : i < n) (hn : n < 2 ^ 31) : ¬ (nI i < 0 ∨ n ≤ (nI i).toNatClampNeg) := by
  rw [clamp_n (by omega)]
  rintro (h1 | h1)
  · exact nI_pos (by omega) h1
  · omega
theorem isIn_all : ∀ s, s < 256 → ∀ i, i < 8 → X4_isIn (nI s) (nI i) = if s.testBit i then 1 else 0 := by decide +kernel
theorem isIn_n {s i : Nat} (hs : s < 256) (hi : i < 8) : X4_isIn (nI s) (nI i) = if s.testBit i then 1 else 0 := isIn_all s hs i hi
theorem with_all : ∀ s, s < 256 → ∀ i, i < 8 → X4_with (nI s) (nI i) 1 = nI (s ||| 2 ^ i) := by decide +kernel
theorem with_n {s i : Nat} (hs : s < 256) (hi : i < 8) : X4_with (nI s) (nI i) 1 = nI (s ||| 2 ^ i) := with_all s hs i hi
theorem bit_all : ∀ s, s < 256 → ∀ i, i < 8 → (nI s >>> (nI i &&& 31)) &&& 1 = if s.testBit i then 1 else 0 := by decide +kernel
theorem bit_n {s i : Nat} (hs : s < 256) (hi : i < 8) : (nI s >>> (nI i &&& 31)) &&& 1 = if s.testBit i then 1 else 0 := bit_all s hs i hi
theorem shl_all : ∀ i, i < 9 → (1 : Int32) <<< (nI i &&& 31) = nI (2 ^ i) := by decide +kernel
theorem shl_n {i : Nat} (hi : i < 9) : (1 : Int32) <<< (nI i &&& 31) = nI (2 ^ i) := shl_all i hi
theorem nI_or (a b : Nat) : nI a ||| nI b = nI (a ||| b) := by
  apply Int32.toBitVec_inj.1
  show BitVec.ofNat 32 a ||| BitVec.ofNat 32 b = BitVec.ofNat 32 (a ||| b)
  apply BitVec.eq_of_getLsbD_eq
  intro i hi
  simp [hi]
theorem nI_and (a b : Nat) : nI a &&& nI b = nI (a &&& b) := by
  apply Int32.toBitVec_inj.1
  show BitVec.ofNat 32 a &&& BitVec.ofNat 32 b = BitVec.ofNat 32 (a &&& b)
  apply BitVec.eq_of_getLsbD_eq
  intro i hi
  simp [hi]
theorem tb_hi {b i : Nat} (hb : b < 256) (hi : ¬ i < 8) : b.testBit i = false := Nat.testBit_lt_two_pow (Nat.lt_of_lt_of_le hb (show 2 ^ 8 ≤ 2 ^ i from Nat.pow_le_pow_right (by decide) (by omega)))
theorem tb_255 (i : Nat) : Nat.testBit 255 i = decide (i < 8) := by
  rw [show (255 : Nat) = 2 ^ 8 - 1 from rfl, Nat.testBit_two_pow_sub_one]
/-- a without b -/
def wo (a b : Nat) : Nat := a &&& (255 ^^^ b)
theorem wo_tb {a b i : Nat} (ha : a < 256) (hb : b < 256) : (wo a b).testBit i = (a.testBit i && !b.testBit i) := by
  unfold wo
  rw [Nat.testBit_and, Nat.testBit_xor, tb_255]
  by_cases hi : i < 8
  · simp [hi]
  · rw [tb_hi ha hi]; simp
theorem wo_n {a b : Nat} (ha : a < 256) (hb : b < 256) : nI a &&& (nI b ^^^ (-1 : Int32)) = nI (wo a b) := by
  apply Int32.toBitVec_inj.1
  show BitVec.ofNat 32 a &&& (BitVec.ofNat 32 b ^^^ BitVec.allOnes 32) = BitVec.ofNat 32 (wo a b)
  apply BitVec.eq_of_getLsbD_eq
  intro i hi
  rw [BitVec.getLsbD_and, BitVec.getLsbD_xor, BitVec.getLsbD_ofNat, BitVec.getLsbD_ofNat, BitVec.getLsbD_ofNat, BitVec.getLsbD_allOnes, wo_tb ha hb]
  simp [hi]
theorem tb_ext {a b : Nat} (ha : a < 256) (hb : b < 256) (h : ∀ i, i < 8 → a.testBit i = b.testBit i) : a = b := by
  apply Nat.eq_of_testBit_eq
  intro i
  by_cases hi : i < 8
  · exact h i hi
  · rw [tb_hi ha hi, tb_hi hb hi]
theorem wo_lt {a b : Nat} (ha : a < 256) : wo a b < 256 := Nat.lt_of_le_of_lt Nat.and_le_left ha
theorem wo_0 {a b : Nat} (ha : a < 256) (hb : b < 256) : wo a b = 0 ↔ ∀ i, i < 8 → a.testBit i = true → b.testBit i = true := by
  constructor
  · intro h i _ h1
    have h2 := wo_tb (i := i) ha hb
    rw [h, Nat.zero_testBit, h1] at h2
    cases hb2 : b.testBit i
    · rw [hb2] at h2; simp at h2
    · rfl
  · intro h
    refine tb_ext (wo_lt ha) (by decide) (fun i hi => ?_)
    rw [wo_tb ha hb, Nat.zero_testBit]
    cases ha2 : a.testBit i
    · rfl
    · rw [h i hi ha2]; rfl
theorem or_lt {a b : Nat} (ha : a < 256) (hb : b < 256) : a ||| b < 256 := Nat.or_lt_two_pow (n := 8) ha hb
theorem p2_lt {i : Nat} (hi : i < 8) : 2 ^ i < 256 := Nat.lt_of_lt_of_le (Nat.pow_lt_pow_right (by decide) hi) (by decide)
theorem or_tb (m i j : Nat) : (m ||| 2 ^ i).testBit j = (m.testBit j || decide (i = j)) := by
  rw [Nat.testBit_or, Nat.testBit_two_pow]
theorem nI_if (c : Prop) [Decidable c] (a b : Nat) : (if c then nI a else nI b) = nI (if c then a else b) := by
  by_cases h : c
  · rw [if_pos h, if_pos h]
  · rw [if_neg h, if_neg h]
theorem imax_n {a b : Nat} (ha : a < 2 ^ 31) (hb : b < 2 ^ 31) : imax (nI a) (nI b) = nI (max a b) := by
  unfold imax
  by_cases h : a < b
  · rw [if_pos (nI_lt h hb), Nat.max_eq_right (by omega)]
  · rw [if_neg (nI_nlt (by omega) ha), Nat.max_eq_left (by omega)]
theorem imin_n {a b : Nat} (ha : a < 2 ^ 31) (hb : b < 2 ^ 31) : imin (nI a) (nI b) = nI (min a b) := by
  unfold imin
  by_cases h : b < a
  · rw [if_pos (nI_lt h ha), Nat.min_eq_right (by omega)]
  · rw [if_neg (nI_nlt (by omega) hb), Nat.min_eq_left (by omega)]
theorem nI_sub' {a b : Nat} (h : b ≤ a) : nI a - nI b = nI (a - b) := pk_sub h
/-- a sum, a maximum over the numbers below n -/
def sm : Nat → (Nat → Nat) → Nat
  | 0, _ => 0
  | n + 1, f => sm n f + f n
def mx : Nat → (Nat → Nat) → Nat
  | 0, _ => 0
  | n + 1, f => max (mx n f) (f n)
theorem sm_congr {n : Nat} {f g : Nat → Nat} (h : ∀ i, i < n → f i = g i) : sm n f = sm n g := by
  induction n with
  | zero => rfl
  | succ n ih => rw [sm, sm, ih (fun i hi => h i (by omega)), h n (by omega)]
theorem mx_congr {n : Nat} {f g : Nat → Nat} (h : ∀ i, i < n → f i = g i) : mx n f = mx n g := by
  induction n with
  | zero => rfl
  | succ n ih => rw [mx, mx, ih (fun i hi => h i (by omega)), h n (by omega)]
theorem sm_le {n : Nat} {f : Nat → Nat} {c : Nat} (h : ∀ i, i < n → f i ≤ c) : sm n f ≤ n * c := by
  induction n with
  | zero => simp [sm]
  | succ n ih =>
    have h1 := ih (fun i hi => h i (by omega))
    have h2 := h n (by omega)
    rw [sm, Nat.succ_mul]
    omega
theorem mx_le {n : Nat} {f : Nat → Nat} {c : Nat} (h : ∀ i, i < n → f i ≤ c) : mx n f ≤ c := by
  induction n with
  | zero => exact Nat.zero_le _
  | succ n ih => exact Nat.max_le.mpr ⟨ih (fun i hi => h i (by omega)), h n (by omega)⟩
theorem sm_0 {n : Nat} {f : Nat → Nat} (h : ∀ i, i < n → f i = 0) : sm n f = 0 := by
  induction n with
  | zero => rfl
  | succ n ih => rw [sm, ih (fun i hi => h i (by omega)), h n (by omega)]
/-- one place changed -/
theorem sm_one {n s : Nat} {f g : Nat → Nat} (hs : s < n) (h : ∀ i, i < n → i ≠ s → f i = g i) (h0 : g s = 0) : sm n f = sm n g + f s := by
  induction n with
  | zero => omega
  | succ n ih =>
    rw [sm, sm]
    by_cases he : s = n
    · subst he
      rw [sm_congr (g := g) (fun i hi => h i (by omega) (by omega)), h0, Nat.add_zero]
    · rw [ih (by omega) (fun i hi hne => h i (by omega) hne), h n (by omega) (by omega)]
      omega
theorem mx_one {n s : Nat} {f g : Nat → Nat} (hs : s < n) (h : ∀ i, i < n → i ≠ s → f i = g i) (h0 : g s = 0) : mx n f = max (mx n g) (f s) := by
  induction n with
  | zero => omega
  | succ n ih =>
    rw [mx, mx]
    by_cases he : s = n
    · subst he
      rw [mx_congr (g := g) (fun i hi => h i (by omega) (by omega)), h0]
      omega
    · rw [ih (by omega) (fun i hi hne => h i (by omega) hne), h n (by omega) (by omega)]
      omega
theorem sm_add (n : Nat) (f g : Nat → Nat) : sm n (fun i => f i + g i) = sm n f + sm n g := by
  induction n with
  | zero => rfl
  | succ n ih => rw [sm, sm, sm, ih]; omega
theorem sm_pos {n : Nat} {f : Nat → Nat} (h : sm n f ≠ 0) : ∃ i, i < n ∧ f i ≠ 0 := by
  induction n with
  | zero => exact absurd rfl h
  | succ n ih =>
    rw [sm] at h
    by_cases h1 : sm n f = 0
    · exact ⟨n, by omega, by omega⟩
    · obtain ⟨i, hi, hf⟩ := ih h1
      exact ⟨i, by omega, hf⟩
theorem sm_mono {n : Nat} {f g : Nat → Nat} (h : ∀ i, i < n → f i ≤ g i) : sm n f ≤ sm n g := by
  induction n with
  | zero => exact Nat.le_refl _
  | succ n ih =>
    have h1 := ih (fun i hi => h i (by omega))
    have h2 := h n (by omega)
    rw [sm, sm]; omega
