/-! The reference's planner computes the specification: its pieces. -/
theorem gd_c {n i : Nat} (h : i < n) (hn : n < 2 ^ 31) : ¬ (nI i < 0 ∨ n ≤ i) := by
  rintro (h1 | h1)
  · exact nI_pos (by omega) h1
  · omega
theorem lowbit_all : ∀ s, s < 256 → ∀ i, i < 8 → (nI s &&& ((1 : Int32) <<< (nI i &&& 31)) = 0 ↔ s.testBit i = false) := by decide +kernel
theorem sub_le_n {v w a : Nat} (hv : v < 2 ^ 20) (hw : w < 2 ^ 20) (ha : a < 2 ^ 20) : (nI v - nI w ≤ nI a ↔ v - w ≤ a) := by
  rw [Int32.le_iff_toInt_le, Int32.toInt_sub, nI_toInt (by omega), nI_toInt (by omega), nI_toInt (by omega), Int.bmod_eq_of_le (by omega) (by omega)]
  omega
theorem one_bit (t : Bool) : ((if t = true then (1 : Int32) else 0) = 1) ↔ t = true := by cases t <;> simp
def BR (P : PP) (τ : SS) : Prop := τ 0 0 = nI (P 6 0) ∧ τ 0 6 = nI (P 6 1) ∧ τ 0 8 = nI (P 6 2) ∧ τ 0 10 = nI (P 6 3) ∧
  (∀ i, i < P 6 0 → τ 1 i = nI (P 0 i) ∧ τ 2 i = nI (P 1 i) ∧ τ 3 i = nI (P 2 i) ∧ τ 4 i = nI (P 3 i) ∧ τ 5 i = nI (P 4 i)) ∧ ∀ i, (P 6 1).testBit i = true → τ 6 i = nI (P 5 i)
def OR (τ : SS) : Od → Prop
  | [] => True
  | x :: t => (τ 9 t.length = nI x.1 ∧ τ 10 t.length = nI x.2) ∧ OR τ t
def SR (P : PP) (o : Od) (τ : SS) : Prop := BR P τ ∧ OR τ o
/-- the first j scenes of an order -/
def sfx : Od → Nat → Od
  | [], _ => []
  | x :: t, j => if t.length < j then x :: t else sfx t j
theorem sfx_len : ∀ (o : Od), sfx o o.length = o
  | [] => rfl
  | x :: t => if_pos (Nat.lt_succ_self _)
theorem sfx_0 : ∀ (o : Od), sfx o 0 = []
  | [] => rfl
  | x :: t => by rw [sfx, if_neg (by omega)]; exact sfx_0 t
theorem sfx_succ {P : PP} {τ : SS} : ∀ {o : Od} {j : Nat}, OR τ o → Vd P o → j < o.length → ∃ x, sfx o (j + 1) = x :: sfx o j ∧ τ 9 j = nI x.1 ∧ τ 10 j = nI x.2 ∧ Vd P (x :: sfx o j)
  | [], j, _, _, h => absurd h (by simp)
  | x :: t, j, ho, hv, h => by
    rw [List.length_cons] at h
    by_cases hj : j = t.length
    · subst hj
      refine ⟨x, ?_, ho.1.1, ho.1.2, ?_⟩
      · rw [sfx, if_pos (by omega), sfx, if_neg (by omega), sfx_len]
      · rw [sfx, if_neg (by omega), sfx_len]; exact hv
    · obtain ⟨y, h1, h2⟩ := sfx_succ (o := t) (j := j) ho.2 hv.1 (by omega)
      refine ⟨y, ?_, ?_⟩
      · rw [sfx, if_neg (by omega), sfx, if_neg (by omega)]; exact h1
      · rw [sfx, if_neg (by omega)]; exact h2
section
variable {P : PP} {τ : SS} {o : Od}
theorem may_n (hW : Wf P) (hv : Vd P o) (S : SR P o τ) {c : Nat} (hc : c < P 6 0) (hl : o.length < 8) (h9 : τ 9 o.length = nI c) : ∃ r, X5_may τ (nI o.length) = some r ∧ (r = 0 ↔ ¬ canF P o c = true) := by
  have hn := hW.1
  have hm := msk_256 hW hv
  have ha := (hW.2.1 c hc).2.2.2.2.2
  have ha8 : P 4 c < 256 := Nat.lt_of_lt_of_le ha (pw_le (by omega))
  have hlc : (nI o.length).toNatClampNeg = o.length := clamp_n (by omega)
  have hcc : (nI c).toNatClampNeg = c := clamp_n (by omega)
  have g9 := gd_c (n := 9) (i := o.length) (by omega) (by decide)
  have g8 := gd_c (n := 8) (i := c) (by omega) (by decide)
  have key : ∀ k fuel j, j + k = o.length → k < fuel → ∃ r, X5_may_l15 fuel τ (nI o.length) (nI c) (nI (msk P (sfx o j))) (nI j) = some r ∧ (r = 0 ↔ ¬ canF P o c = true) := by
    intro k
    induction k with
    | zero =>
      intro fuel j hj hf
      obtain ⟨f, rfl⟩ : ∃ f, fuel = f + 1 := ⟨fuel - 1, by omega⟩
      obtain rfl : j = o.length := by omega
      rw [X5_may_l15, if_pos (nI_le (by omega) (by omega)), sfx_len, bit_n hm (by omega)]
      simp only [hcc, g8, not_false_eq_true, if_true]
      rw [(S.1.2.2.2.2.1 c hc).2.2.2.2, wo_n ha8 hm]
      unfold canF
      cases (msk P o).testBit c
      · by_cases h : wo (P 4 c) (msk P o) = 0
        · rw [h]
          exact ⟨1, by simp; decide, by simp⟩
        · have h2 : nI (wo (P 4 c) (msk P o)) ≠ 0 := nI_ne (b := 0) (by have := wo_lt (b := msk P o) ha8; omega) (by decide) h
          exact ⟨0, by simp [h2], by simp [h]⟩
      · exact ⟨0, by simp, by simp⟩
    | succ k ih =>
      intro fuel j hj hf
      obtain ⟨f, rfl⟩ : ∃ f, fuel = f + 1 := ⟨fuel - 1, by omega⟩
      obtain ⟨x, h1, h2, h3, h4⟩ := sfx_succ (j := j) S.2 hv (by omega)
      have hx := h4.2.1
      have h := ih f (j + 1) (by omega) (by omega)
      rw [h1, msk] at h
      rw [X5_may_l15, if_neg (nI_ge (by omega) (by omega)), clamp_n (by omega), if_pos (gd_c (by omega) (by decide)), h2, shl_n (by omega), nI_or, nI_1]
      exact h
  unfold X5_may
  simp only [hlc, g9, not_false_eq_true, if_true]
  rw [h9, S.1.2.1]
  have h := key o.length fuel_X5_may_15 0 (by omega) (by show _ < 64; omega)
  rw [sfx_0] at h
  exact h
theorem kid_put {s b p d : Nat} (hs : s < P 6 0) (hc : canF P o s = true) : kid P ((s, b) :: o) p d = kid P o p d + (if b / 24 = d then wK P p s else 0) := by
  by_cases hd : b / 24 = d
  · rw [if_pos hd, kid_new hs hc hd]
  · rw [if_neg hd, Nat.add_zero]
    have h0 := (canF_t hc).1
    refine sm_congr (fun i _ => ?_)
    by_cases hi : i = s
    · subst hi
      rw [bgn_eq (x := (i, b)), if_neg (fun h => hd h.2.1), if_neg (fun h => by rw [h0] at h; cases h.1)]
    · rw [bgn_ne (x := (s, b)) hi]
      have h2 : (msk P ((s, b) :: o)).testBit i = (msk P o).testBit i := by
        rw [msk, or_tb]
        have : ¬ s = i := fun h => hi h.symm
        simp [this]
      rw [h2]
theorem kid_nil (hW : Wf P) {p d : Nat} (hd : P 6 3 ≤ d) : kid P [] p d = 0 := sm_0 (fun i hi => if_neg (fun h => by
  have h1 := hW.2.2.2.2.2 i hi h.1
  have h2 : P 5 i / 24 = d := h.2.1
  omega))
theorem bgn_x {x : Nat × Nat} {t : Od} (hW : Wf P) (hv : Vd P (x :: t)) : x.2 + P 0 x.1 ≤ 24 * 1010 := by
  have hxl := bgn_lt hW hv (msk_cons.mpr (Or.inr rfl) : (msk P (x :: t)).testBit x.1 = true)
  rw [bgn_eq] at hxl
  exact hxl
theorem plays_n (hW : Wf P) (hv : Vd P o) (S : SR P o τ) {p d : Nat} (hp : p < 6) (hd : P 6 3 ≤ d) (hd2 : d ≤ 1010) : X5_plays τ (nI p) (nI d) (nI o.length) = some (nI (kid P o p d)) := by
  have hn := hW.1
  have hl8 := len_8 hW hv
  have key : ∀ k fuel j, j + k = o.length → k < fuel → X5_plays_l6 fuel τ (nI p) (nI d) (nI o.length) (nI (kid P (sfx o j) p d)) (nI j) = some (nI (kid P o p d)) := by
    intro k
    induction k with
    | zero =>
      intro fuel j hj hf
      obtain ⟨f, rfl⟩ : ∃ f, fuel = f + 1 := ⟨fuel - 1, by omega⟩
      obtain rfl : j = o.length := by omega
      rw [X5_plays_l6, if_pos (nI_le (by omega) (by omega)), sfx_len]
    | succ k ih =>
      intro fuel j hj hf
      obtain ⟨f, rfl⟩ : ∃ f, fuel = f + 1 := ⟨fuel - 1, by omega⟩
      obtain ⟨x, h1, h2, h3, h4⟩ := sfx_succ (j := j) S.2 hv (by omega)
      have hx := h4.2.1
      have hwx := hW.2.1 x.1 hx
      have hx5 := S.1.2.2.2.2.1 x.1 hx
      have hb := bgn_x hW h4
      have h := ih f (j + 1) (by omega) (by omega)
      rw [h1, show x :: sfx o j = (x.1, x.2) :: sfx o j from rfl, kid_put hx h4.2.2.1] at h
      have hjc : (nI j).toNatClampNeg = j := clamp_n (by omega)
      have hxc : (nI x.1).toNatClampNeg = x.1 := clamp_n (by omega)
      have g9 := gd_c (n := 9) (i := j) (by omega) (by decide)
      have g8 := gd_c (n := 8) (i := x.1) (by omega) (by decide)
      rw [X5_plays_l6, if_neg (nI_ge (by omega) (by omega))]
      simp only [hjc, g9, not_false_eq_true, if_true, h2, h3, hxc, g8, hx5.2.2.1, hx5.1, X5_plays_b63, X5_plays_b64, nI_1]
      rw [il24, nI_div (by omega) (by decide) (by decide)]
      unfold wK at h
      by_cases he : x.2 / 24 = d
      · rw [if_pos (by rw [he]), bit_n (by omega) (by omega)]
        rw [if_pos he] at h
        cases hb2 : (P 2 x.1).testBit p
        · rw [hb2] at h
          simp only [Bool.false_eq_true, if_false, Nat.add_zero] at h
          rw [if_neg (by decide), show nI (kid P (sfx o j) p d) + 0 = nI (kid P (sfx o j) p d) from nI_add _ 0]
          exact h
        · rw [hb2] at h
          simp only [if_true] at h
          rw [if_pos (by decide), nI_add]
          exact h
      · rw [if_neg (nI_ne (by omega) (by omega) he), show nI (kid P (sfx o j) p d) + 0 = nI (kid P (sfx o j) p d) from nI_add _ 0]
        rw [if_neg he, Nat.add_zero] at h
        exact h
  have h := key o.length fuel_X5_plays_6 0 (by omega) (by show _ < 64; omega)
  rw [sfx_0, kid_nil hW hd] at h
  exact h
theorem long_n (hW : Wf P) (hv : Vd P o) (S : SR P o τ) {s d : Nat} (hs : s < P 6 0) (hd : P 6 3 ≤ d) (hd2 : d ≤ 1010) : ∃ r, X5_isTooLong τ (nI s) (nI d) (nI o.length) = some r ∧ (r = 0 ↔ fitC P o s d) := by
  have hn := hW.1
  have hs5 := S.1.2.2.2.2.1 s hs
  have hws := hW.2.1 s hs
  have hch := hW.2.2.2.1
  have hcl : P 6 2 &&& P 2 s < 256 := Nat.lt_of_le_of_lt Nat.and_le_left (by omega)
  have hsc : (nI s).toNatClampNeg = s := clamp_n (by omega)
  have g8 := gd_c (n := 8) (i := s) (by omega) (by decide)
  have key : ∀ k fuel c x, c + k = 6 → k < fuel → (x = 0 ∨ x = 1) → (x = 0 ↔ ∀ p, p < c → (P 6 2 &&& P 2 s).testBit p = true → kid P o p d + P 0 s ≤ 6) → ∃ r, X5_isTooLong_l6 fuel τ (nI s) (nI d) (nI o.length) x (nI c) = some r ∧ (r = 0 ↔ fitC P o s d) := by
    intro k
    induction k with
    | zero =>
      intro fuel c x hc hf hx hall
      obtain ⟨f, rfl⟩ : ∃ f, fuel = f + 1 := ⟨fuel - 1, by omega⟩
      obtain rfl : c = 6 := by omega
      rw [X5_isTooLong_l6, il6, if_pos (nI_le (by omega) (by omega)), if_pos (by rcases hx with rfl | rfl <;> decide)]
      exact ⟨x, rfl, hall⟩
    | succ k ih =>
      intro fuel c x hc hf hx hall
      obtain ⟨f, rfl⟩ : ∃ f, fuel = f + 1 := ⟨fuel - 1, by omega⟩
      have hlow := lowbit_all (P 6 2 &&& P 2 s) hcl c (by omega)
      rw [X5_isTooLong_l6, il6, if_neg (nI_ge (by omega) (by omega))]
      simp only [hsc, g8, not_false_eq_true, if_true, hs5.2.2.1, S.1.2.2.1, nI_and, X5_isTooLong_b37, X5_isTooLong_b70, X5_isTooLong_b71, nI_1]
      cases hb : (P 6 2 &&& P 2 s).testBit c
      · rw [if_pos (hlow.mpr hb)]
        refine ih f (c + 1) (x ||| 0) (by omega) (by omega) (by rcases hx with rfl | rfl <;> decide) ?_
        have hx0 : x ||| 0 = x := by rcases hx with rfl | rfl <;> decide
        rw [hx0, hall]
        constructor
        · intro h p hp hpb
          by_cases hpc : p = c
          · subst hpc; rw [hb] at hpb; cases hpb
          · exact h p (by omega) hpb
        · intro h p hp hpb
          exact h p (by omega) hpb
      · have hk := kid_le (o := o) hW c d
        rw [if_neg (fun e => by have := hlow.mp e; rw [hb] at this; cases this), if_neg (by decide), plays_n hW hv S (by omega) hd hd2, Option.bind_some, hs5.1, nI_add, il6]
        by_cases hle : kid P o c d + P 0 s ≤ 6
        · rw [if_pos (nI_le hle (by omega))]
          refine ih f (c + 1) (x ||| 0) (by omega) (by omega) (by rcases hx with rfl | rfl <;> decide) ?_
          have hx0 : x ||| 0 = x := by rcases hx with rfl | rfl <;> decide
          rw [hx0, hall]
          constructor
          · intro h p hp hpb
            by_cases hpc : p = c
            · subst hpc; exact hle
            · exact h p (by omega) hpb
          · intro h p hp hpb
            exact h p (by omega) hpb
        · rw [if_neg (nI_ge (by omega) (by omega))]
          refine ih f (c + 1) (x ||| 1) (by omega) (by omega) (by rcases hx with rfl | rfl <;> decide) ?_
          have hx0 : x ||| 1 = 1 := by rcases hx with rfl | rfl <;> decide
          rw [hx0]
          exact ⟨fun h => absurd h (by decide), fun h => absurd (h c (by omega) hb) hle⟩
  exact key 6 fuel_X5_isTooLong_6 0 0 rfl (by show _ < 64; omega) (Or.inl rfl) ⟨fun _ p hp => by omega, fun _ => rfl⟩
/-- one scene's rest -/
def rst (P : PP) (s d i b : Nat) (q : Prop) [Decidable q] : Nat := if q ∧ P 2 i &&& P 2 s ≠ 0 then b + P 0 i + 11 - 24 * d else 0
theorem rst_n (hW : Wf P) (B : BR P τ) (k : SS → Int32 → Int32 → Int32 → Int32 → Int32 → Option Int32) {s d i b a : Nat} (x3 x5 x7 : Int32) (q : Prop) [Decidable q] (hq : x7 = 0 ↔ ¬ q) (hs : s < P 6 0) (hi : i < P 6 0) (hd : d ≤ 1010) (hb : b ≤ 24 * 1010) (ha : a < 2 ^ 19) : X5_rested_b132 k τ (nI s) (nI d) x3 (nI a) x5 (nI i) x7 (nI b) = k τ (nI s) (nI d) x3 (nI (max a (rst P s d i b q))) (x5 + 1) := by
  have hn := hW.1
  have hs5 := B.2.2.2.2.1 s hs
  have hi5 := B.2.2.2.2.1 i hi
  have hws := hW.2.1 s hs
  have hwi := hW.2.1 i hi
  have hsc : (nI s).toNatClampNeg = s := clamp_n (by omega)
  have hic : (nI i).toNatClampNeg = i := clamp_n (by omega)
  have gs := gd_c (n := 8) (i := s) (by omega) (by decide)
  have gi := gd_c (n := 8) (i := i) (by omega) (by decide)
  have hpl : P 2 i &&& P 2 s < 256 := Nat.lt_of_le_of_lt Nat.and_le_left (by omega)
  unfold X5_rested_b132
  simp only [hsc, hic, gs, gi, not_false_eq_true, if_true, hs5.2.2.1, hi5.2.2.1, hi5.1, nI_and, nI_add, X5_rested_b184, X5_rested_b186]
  unfold rst
  by_cases h7 : x7 = 0
  · rw [if_pos h7, if_neg (fun h => hq.mp h7 h.1), Nat.max_zero]
  · have hqq : q := Classical.not_not.mp (fun e => h7 (hq.mpr e))
    rw [if_neg h7]
    by_cases hcm : P 2 i &&& P 2 s = 0
    · rw [if_pos (by rw [hcm]; rfl), if_neg (fun h => h.2 hcm), Nat.max_zero]
    · have hne : ¬ nI (P 2 i &&& P 2 s) = 0 := nI_ne (b := 0) (by omega) (by decide) hcm
      rw [if_neg hne, if_pos (show q ∧ P 2 i &&& P 2 s ≠ 0 from ⟨hqq, hcm⟩), il11, nI_add, il24, nI_mul]
      by_cases hle : b + P 0 i + 11 - 24 * d ≤ a
      · rw [if_pos ((sub_le_n (by omega) (by omega) (by omega)).mpr hle), Nat.max_eq_left hle]
      · rw [if_neg (fun e => hle ((sub_le_n (by omega) (by omega) (by omega)).mp e)), nI_sub' (by omega), Nat.max_eq_right (by omega)]
theorem rst_z (k : SS → Int32 → Int32 → Int32 → Int32 → Int32 → Option Int32) {i : Nat} (hi : i < 8) (x1 x2 x3 x4 x5 y0 : Int32) : X5_rested_b132 k τ x1 x2 x3 x4 x5 (nI i) 0 y0 = k τ x1 x2 x3 x4 (x5 + 1) := by
  have hic : (nI i).toNatClampNeg = i := clamp_n (by omega)
  have gi := gd_c (n := 8) (i := i) (by omega) (by decide)
  unfold X5_rested_b132
  simp only [hic, gi, not_false_eq_true, if_true, X5_rested_b184, X5_rested_b186]
theorem grx_put {s1 b s d : Nat} (hs1 : s1 < P 6 0) (hc : canF P o s1 = true) : mx (P 6 0) (gr P ((s1, b) :: o) s d) - 24 * d = max (mx (P 6 0) (gr P o s d) - 24 * d) (rst P s d s1 b (b / 24 < d)) := by
  have h0 := (canF_t hc).1
  rw [mx_one (s := s1) (f := gr P ((s1, b) :: o) s d) (g := gr P o s d) hs1 (fun i _ hi => by
    unfold gr
    rw [bgn_ne (x := (s1, b)) hi]
    have h2 : (msk P ((s1, b) :: o)).testBit i = (msk P o).testBit i := by
      rw [msk, or_tb]
      have : ¬ s1 = i := fun h => hi h.symm
      simp [this]
    rw [h2]) (if_neg (fun h => by rw [h0] at h; cases h.1))]
  have hg : gr P ((s1, b) :: o) s d s1 - 24 * d = rst P s d s1 b (b / 24 < d) := by
    unfold gr rst
    rw [bgn_eq (x := (s1, b))]
    have h1 : (msk P ((s1, b) :: o)).testBit s1 = true := msk_cons.mpr (Or.inr rfl)
    by_cases h : b / 24 < d ∧ P 2 s1 &&& P 2 s ≠ 0
    · rw [if_pos ⟨h1, h.2, h.1⟩, if_pos h]
    · rw [if_neg (fun e => h ⟨e.2.2, e.2.1⟩), if_neg h, Nat.zero_sub]
  omega
theorem rested_n (hW : Wf P) (hv : Vd P o) (S : SR P o τ) {s d : Nat} (hs : s < P 6 0) (hd : P 6 3 ≤ d) (hd2 : d ≤ 1010) : X5_rested τ (nI s) (nI d) (nI o.length) = some (nI (mx (P 6 0) (gr P o s d) - 24 * d)) := by
  have hn := hW.1
  have hl8 := len_8 hW hv
  have hdone := wf_done hW
  have key2 : ∀ k fuel j, j + k = o.length → k < fuel → X5_rested_l6 fuel τ (nI s) (nI d) (nI o.length) (nI (mx (P 6 0) (gr P (sfx o j) s d) - 24 * d)) (nI (P 6 0 + j)) = some (nI (mx (P 6 0) (gr P o s d) - 24 * d)) := by
    intro k
    induction k with
    | zero =>
      intro fuel j hj hf
      obtain ⟨f, rfl⟩ : ∃ f, fuel = f + 1 := ⟨fuel - 1, by omega⟩
      obtain rfl : j = o.length := by omega
      rw [X5_rested_l6, S.1.1, nI_add, if_pos (nI_le (by omega) (by omega)), sfx_len]
    | succ k ih =>
      intro fuel j hj hf
      obtain ⟨f, rfl⟩ : ∃ f, fuel = f + 1 := ⟨fuel - 1, by omega⟩
      obtain ⟨x, h1, h2, h3, h4⟩ := sfx_succ (j := j) S.2 hv (by omega)
      have hx := h4.2.1
      have hb := bgn_x hW h4
      have h := ih f (j + 1) (by omega) (by omega)
      rw [h1, show x :: sfx o j = (x.1, x.2) :: sfx o j from rfl, grx_put hx h4.2.2.1] at h
      have hjc : (nI j).toNatClampNeg = j := clamp_n (by omega)
      have g9 := gd_c (n := 9) (i := j) (by omega) (by decide)
      have hge : nI (P 6 0) ≤ nI (P 6 0 + j) := nI_le (by omega) (by omega)
      have hsub : nI (P 6 0 + j) - nI (P 6 0) = nI j := by rw [nI_sub' (by omega), Nat.add_sub_cancel_left]
      have hm : mx (P 6 0) (gr P (sfx o j) s d) ≤ 24 * d + 11 := mx_le (fun i _ => gr_le (Gd_of hW h4.1) i)
      rw [X5_rested_l6, S.1.1, nI_add, if_neg (nI_ge (by omega) (by omega)), if_pos hge, hsub, hjc, if_pos g9]
      unfold X5_rested_b43 X5_rested_b99
      simp only [S.1.1, if_pos hge, hsub, hjc]
      rw [if_pos g9, h2, h3, il24, nI_div (by omega) (by decide) (by decide)]
      by_cases hlt : x.2 / 24 < d
      · rw [if_neg (nI_ge hlt (by omega)), if_pos g9, rst_n hW S.1 _ _ _ _ (x.2 / 24 < d) ⟨fun h => absurd h (by decide), fun h => absurd hlt h⟩ hs hx hd2 (by omega) (by omega), nI_1, Nat.add_assoc]
        exact h
      · rw [if_pos (nI_le (by omega) (by omega)), if_pos g9, rst_n hW S.1 _ _ _ _ (x.2 / 24 < d) ⟨fun _ => hlt, fun _ => rfl⟩ hs hx hd2 (by omega) (by omega), nI_1, Nat.add_assoc]
        exact h
  have hgn : ∀ c, c < P 6 0 → gr P [] s d c - 24 * d = rst P s d c (P 5 c) ((P 6 1).testBit c = true) := by
    intro c hc
    unfold gr rst
    by_cases h : (P 6 1).testBit c = true ∧ P 2 c &&& P 2 s ≠ 0
    · have h5 : P 5 c / 24 < d := by have := (hW.2.2.2.2.2 c hc h.1).1; omega
      rw [if_pos h, if_pos ⟨h.1, h.2, h5⟩]
      rfl
    · rw [if_neg h, if_neg (fun e => h ⟨e.1, e.2.1⟩), Nat.zero_sub]
  have key1 : ∀ k fuel c, c + k = P 6 0 → k + 20 < fuel → X5_rested_l6 fuel τ (nI s) (nI d) (nI o.length) (nI (mx c (gr P [] s d) - 24 * d)) (nI c) = some (nI (mx (P 6 0) (gr P o s d) - 24 * d)) := by
    intro k
    induction k with
    | zero =>
      intro fuel c hc hf
      obtain rfl : c = P 6 0 := by omega
      have h := key2 o.length fuel 0 (by omega) (by omega)
      rw [sfx_0] at h
      exact h
    | succ k ih =>
      intro fuel c hc hf
      obtain ⟨f, rfl⟩ : ∃ f, fuel = f + 1 := ⟨fuel - 1, by omega⟩
      have h := ih f (c + 1) (by omega) (by omega)
      have hm : mx c (gr P [] s d) ≤ 24 * d + 11 := mx_le (fun i _ => gr_le (Gd_of hW (o := []) trivial) i)
      have hcc : (nI c).toNatClampNeg = c := clamp_n (by omega)
      have g8 := gd_c (n := 8) (i := c) (by omega) (by decide)
      have hng : ¬ nI (P 6 0) ≤ nI c := nI_ge (by omega) (by omega)
      have hmx : mx (c + 1) (gr P [] s d) - 24 * d = max (mx c (gr P [] s d) - 24 * d) (rst P s d c (P 5 c) ((P 6 1).testBit c = true)) := by
        rw [mx, ← hgn c (by omega)]
        omega
      rw [hmx] at h
      rw [X5_rested_l6, S.1.1, nI_add, if_neg (nI_ge (by omega) (by omega)), if_neg hng]
      unfold X5_rested_b43 X5_rested_b99
      simp only [S.1.1, if_neg hng, hcc]
      rw [S.1.2.1, bit_n hdone (by omega)]
      cases hb : (P 6 1).testBit c
      · rw [if_neg (by decide), if_pos g8, rst_z _ (by omega), nI_1]
        have hz : rst P s d c (P 5 c) ((P 6 1).testBit c = true) = 0 := if_neg (fun e => by rw [hb] at e; cases e.1)
        rw [hz, Nat.max_zero] at h
        exact h
      · have hw5 := hW.2.2.2.2.2 c (by omega) hb
        have hd4 := hW.2.2.2.2.1
        rw [if_pos (by decide), if_pos g8, S.1.2.2.2.2.2 c hb, rst_n hW S.1 _ _ _ _ ((P 6 1).testBit c = true) ⟨fun h => absurd h (by decide), fun h => absurd hb h⟩ hs (by omega) hd2 (by omega) (by omega), nI_1]
        exact h
  have h := key1 (P 6 0) fuel_X5_rested_6 0 (by omega) (by show _ < 64; omega)
  rw [mx, Nat.zero_sub] at h
  exact h
end
