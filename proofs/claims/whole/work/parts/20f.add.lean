/-! Calls that change the problem: children, scenes. -/
theorem with_c : ∀ s, s < 64 → ∀ i, i < 6 → X4_with (nI s) (nI i) 0 = nI (wo s (2 ^ i)) ∧ X4_with (nI s) (nI i) 1 = nI (s ||| 2 ^ i) ∧ wo s (2 ^ i) < 64 ∧ s ||| 2 ^ i < 64 ∧ (s.testBit i = true → s ||| 2 ^ i = s) ∧ (s.testBit i = false → wo s (2 ^ i) = s) := by decide +kernel
def chP (P : PP) (c : Nat) : PP := fun k i => if k = 6 then (if i = 2 then c else P 6 i) else P k i
theorem chP_o (P : PP) (c : Nat) {k : Nat} (i : Nat) (h : k ≠ 6) : chP P c k i = P k i := if_neg h
theorem chP_Wf {P : PP} {c : Nat} (hW : Wf P) (hc : c ≤ 63) : Wf (chP P c) := by
  refine ⟨hW.1, fun i hi => ?_, hW.2.2.1, hc, hW.2.2.2.2.1, fun i hi hb => ?_⟩
  · rw [chP_o P c i (by decide), chP_o P c i (by decide), chP_o P c i (by decide), chP_o P c i (by decide), chP_o P c i (by decide)]
    exact hW.2.1 i hi
  · rw [chP_o P c i (by decide), chP_o P c i (by decide), chP_o P c i (by decide)]
    exact hW.2.2.2.2.2 i hi hb
theorem chP_PC {P : PP} {c : Nat} {σ : SS} (C : PC P σ) : PC (chP P c) (wr (wr σ 1 7 0) 2 8 (nI c)) := by
  obtain ⟨S, -⟩ := C
  have f : ∀ k i, (k = 2 → i ≠ 8) → (k = 1 → i ≠ 7) → wr (wr σ 1 7 0) 2 8 (nI c) k i = σ k i := fun k i a b => by rw [wr_o _ _ (by omega), wr_o _ _ (by omega)]
  refine ⟨⟨⟨by rw [f 2 5 (by omega) (by omega)]; exact S.1.1, by rw [f 2 6 (by omega) (by omega)]; exact S.1.2.1, wr_at _ _ _ _, by rw [f 1 6 (by omega) (by omega)]; exact S.1.2.2.2.1, fun i hi => ?_⟩, trivial, fun i hi => ?_⟩, Or.inl (by rw [wr_o _ _ (by omega), wr_at])⟩
  · rw [f 5 i (by omega) (by omega), f 6 i (by omega) (by omega), f 7 i (by omega) (by omega), f 8 i (by omega) (by omega), f 9 i (by omega) (by omega), chP_o P c i (by decide), chP_o P c i (by decide), chP_o P c i (by decide), chP_o P c i (by decide), chP_o P c i (by decide)]
    exact S.1.2.2.2.2 i hi
  · rw [f 11 i (by omega) (by omega)]
    exact S.2.2 i hi
theorem chP_PR {P : PP} {c : Nat} {τ : SS} (x : Int32) (C : PR P τ) : PR (chP P c) (wr (wr (wr τ 0 35 x) 0 8 (nI c)) 0 18 1) := by
  obtain ⟨B, -⟩ := C
  have f : ∀ k i, (k = 0 → i ≠ 8 ∧ i ≠ 18 ∧ i ≠ 35) → wr (wr (wr τ 0 35 x) 0 8 (nI c)) 0 18 1 k i = τ k i := fun k i a => by rw [wr_o _ _ (by omega), wr_o _ _ (by omega), wr_o _ _ (by omega)]
  refine ⟨⟨by rw [f 0 0 (by omega)]; exact B.1, by rw [f 0 6 (by omega)]; exact B.2.1, by rw [wr_o _ _ (by omega), wr_at]; rfl, by rw [f 0 10 (by omega)]; exact B.2.2.2.1, fun i hi => ?_, fun i hi => ?_⟩, fun h => ?_⟩
  · rw [f 1 i (by omega), f 2 i (by omega), f 3 i (by omega), f 4 i (by omega), f 5 i (by omega), chP_o P c i (by decide), chP_o P c i (by decide), chP_o P c i (by decide), chP_o P c i (by decide), chP_o P c i (by decide)]
    exact B.2.2.2.2.1 i hi
  · rw [f 6 i (by omega)]
    exact B.2.2.2.2.2 i hi
  · rw [wr_at] at h
    exact absurd h (by decide)
theorem chP_id (P : PP) : chP P (P 6 2) = P := by
  funext k i
  unfold chP
  by_cases e : k = 6
  · subst e
    rw [if_pos rfl]
    by_cases e2 : i = 2
    · rw [if_pos e2, e2]
    · rw [if_neg e2]
  · rw [if_neg e]
theorem st_setChild {j : Nat} (hj : j < 512) {σ τ : SS} (R : Rel j σ τ) (x1 : Int32) (x2 : Int32) (hx2 : x2 = 0 ∨ x2 = 1) : ∃ r σ1 b τ1, X4_setChild σ x1 x2 = some (r, σ1) ∧ X5_setChild τ x1 x2 = some (b, τ1) ∧ Rel (j + 1) σ1 τ1 ∧ Agr ["java/lang/IndexOutOfBoundsException"] r b (X5_thrown τ1) := by
  unfold X4_setChild X5_setChild X5_isPerson X5_setChild_b13
  rw [isIn_w]
  by_cases h : X4_isWithin x1 0 5 = 0
  · rw [if_pos h, if_pos h, lt_eq, wr_at, if_neg (by decide)]
    exact ⟨_, _, _, _, rfl, rfl, thr R 1, agr_er rfl (thr_0 _ _) (by decide)⟩
  · rw [if_neg h, if_neg h, lt_eq, wr_at, if_pos (show (0 : Int32) ≤ 0 by decide)]
    obtain ⟨P, hW, C, C2, M0⟩ := R
    have M := RM_up M0
    obtain ⟨i, hi, rfl⟩ := inn (n := 5) (by decide) h
    have hch := hW.2.2.2.1
    have hσ : σ 2 8 = nI (P 6 2) := C.1.1.2.2.1
    have hτ : wr τ 0 35 0 0 8 = nI (P 6 2) := by rw [wr_o _ _ (by omega)]; exact C2.1.2.2.1
    obtain ⟨w1, w2, w3, w4, w5, w6⟩ := with_c (P 6 2) (by omega) i (by omega)
    have hnew : ∃ c, c ≤ 63 ∧ X4_with (nI (P 6 2)) (nI i) x2 = nI c ∧ (X4_isIn (nI (P 6 2)) (nI i) = x2 → c = P 6 2) := by
      rw [isIn_n (by omega) (by omega)]
      rcases hx2 with rfl | rfl
      · refine ⟨_, by omega, w1, fun e => w6 ?_⟩
        cases hb : (P 6 2).testBit i
        · rfl
        · rw [hb, if_pos rfl] at e
          exact absurd e (by decide)
      · refine ⟨_, by omega, w2, fun e => w5 ?_⟩
        cases hb : (P 6 2).testBit i
        · rw [hb, if_neg (by decide)] at e
          exact absurd e (by decide)
        · rfl
    obtain ⟨c, hc, hw, hid⟩ := hnew
    have hb : ∀ y, (y = 0 ∨ y = 1) → X5_setChild_b42 (wr τ 0 35 0) (nI i) x2 y = some (y, wr (wr (wr τ 0 35 0) 0 8 (nI c)) 0 18 1) := by
      intro y hy
      unfold X5_setChild_b42 X5_setChild_b69
      rw [hτ, ← hw]
      unfold X4_with
      by_cases h2 : x2 = 0
      · rw [if_pos h2, if_pos h2, lt_eq, lt_eq, if_pos (by rcases hy with rfl | rfl <;> decide)]
      · rw [if_neg h2, if_neg h2, lt_eq, lt_eq, if_pos (by rcases hy with rfl | rfl <;> decide)]
    have hv : (if ((wr τ 0 35 0 0 8 >>> (nI i &&& 31)) &&& 1) = 1 then X5_setChild_b42 (wr τ 0 35 0) (nI i) x2 1 else X5_setChild_b42 (wr τ 0 35 0) (nI i) x2 0) = some (X4_isIn (σ 2 8) (nI i), wr (wr (wr τ 0 35 0) 0 8 (nI c)) 0 18 1) := by
      rw [hb 1 (Or.inr rfl), hb 0 (Or.inl rfl), hσ, hτ, bit_n (by omega) (by omega), isIn_n (by omega) (by omega)]
      cases (P 6 2).testBit i
      · rw [if_neg (by decide)]; rfl
      · rw [if_pos (by decide)]; rfl
    rw [hv]
    have hthr : X5_thrown (wr (wr (wr τ 0 35 0) 0 8 (nI c)) 0 18 1) = 0 := by
      show wr (wr (wr τ 0 35 0) 0 8 (nI c)) 0 18 1 0 35 = 0
      rw [wr_o _ _ (by omega), wr_o _ _ (by omega), wr_at]
    have hrm : ∀ k i, rM k i → wr (wr (wr τ 0 35 0) 0 8 (nI c)) 0 18 1 k i = τ k i := fun k i h => by
      unfold rM at h
      rw [wr_o _ _ (by omega), wr_o _ _ (by omega), wr_o _ _ (by omega)]
    by_cases he : X4_isIn (σ 2 8) (nI i) = x2
    · rw [if_pos he]
      refine ⟨_, _, _, _, rfl, rfl, ⟨P, hW, C, ?_, RM_eq (fun _ _ _ => rfl) hrm M⟩, agr_ok hthr⟩
      have h := chP_PR (c := c) 0 C2
      rw [hid (by rw [← hσ]; exact he), chP_id] at h
      rw [hid (by rw [← hσ]; exact he)]
      exact h
    · rw [if_neg he]
      unfold X2_forget
      rw [lt_eq, Option.bind_some, lt_eq, wr_o σ _ (by omega), hσ, hw]
      refine ⟨_, _, _, _, rfl, rfl, ⟨chP P c, chP_Wf hW hc, chP_PC C, chP_PR 0 C2, RM_eq (fun k i h => ?_) hrm M⟩, agr_ok hthr⟩
      unfold cM at h
      rw [wr_o _ _ (by omega), wr_o _ _ (by omega)]
theorem ahead_n {n : Nat} (hn : n ≤ 8) (x : Int32) : (x &&& (nI (2 ^ n - 1) ^^^ (-1 : Int32))) = 0 ↔ ¬ X4_isWithin x 0 (nI (2 ^ n - 1)) = 0 := by
  have hp := pw_le hn
  have hp0 := pw_pos n
  constructor
  · intro h
    have h' : x.toBitVec &&& (BitVec.ofNat 32 (2 ^ n - 1) ^^^ BitVec.allOnes 32) = 0#32 := congrArg Int32.toBitVec h
    have hx : x &&& nI (2 ^ n - 1) = x := by
      apply Int32.toBitVec_inj.1
      show x.toBitVec &&& BitVec.ofNat 32 (2 ^ n - 1) = x.toBitVec
      apply BitVec.eq_of_getLsbD_eq
      intro i hi
      have hi' := congrArg (fun y => BitVec.getLsbD y i) h'
      simp only [BitVec.getLsbD_and, BitVec.getLsbD_xor, BitVec.getLsbD_allOnes, BitVec.getLsbD_zero, hi, decide_true, Bool.xor_true] at hi'
      rw [BitVec.getLsbD_and]
      cases hb : x.toBitVec.getLsbD i
      · rfl
      · rw [hb] at hi'
        simpa using hi'
    have hm : (nI (2 ^ n - 1)).toBitVec.toNat = 2 ^ n - 1 := by
      show (BitVec.ofNat 32 (2 ^ n - 1)).toNat = 2 ^ n - 1
      rw [BitVec.toNat_ofNat]
      exact Nat.mod_eq_of_lt (by omega)
    have hj := pk_and x n hm
    rw [hx] at hj
    have hlt : x.toBitVec.toNat % 2 ^ n < 2 ^ n := Nat.mod_lt _ hp0
    generalize x.toBitVec.toNat % 2 ^ n = v at hj hlt
    rw [win_iff, hj]
    rintro (e | e)
    · exact nI_pos (by omega) e
    · exact nI_nlt (by omega) (by omega) e
  · intro h
    obtain ⟨v, hv, rfl⟩ := inn (by omega) h
    rw [wo_n (by omega) (by omega)]
    have h0 : wo v (2 ^ n - 1) = 0 := by
      rw [wo_0 (by omega) (by omega)]
      intro i _ hi
      rw [Nat.testBit_two_pow_sub_one]
      rcases Nat.lt_or_ge i n with q | q
      · exact decide_eq_true q
      · rw [Nat.testBit_lt_two_pow (Nat.lt_of_lt_of_le (show v < 2 ^ n by omega) (Nat.pow_le_pow_right (by decide) q))] at hi
        cases hi
    rw [h0]
    rfl
/-- a problem with one more scene -/
def adP (P : PP) (h p q l a : Nat) : PP := fun k i => if k = 6 then (if i = 0 then P 6 0 + 1 else P 6 i) else if i = P 6 0 then (if k = 0 then h else if k = 1 then p else if k = 2 then q else if k = 3 then l else if k = 4 then a else P k i) else P k i
theorem adP_o {P : PP} {h p q l a : Nat} {k i : Nat} (hk : k ≠ 6) (hi : i ≠ P 6 0) : adP P h p q l a k i = P k i := by
  unfold adP
  rw [if_neg hk, if_neg hi]
theorem adP_5 {P : PP} {h p q l a : Nat} (i : Nat) : adP P h p q l a 5 i = P 5 i := by
  unfold adP
  rw [if_neg (by decide)]
  by_cases e : i = P 6 0
  · rw [if_pos e]; rfl
  · rw [if_neg e]
theorem adP_n {P : PP} {h p q l a : Nat} : adP P h p q l a 0 (P 6 0) = h ∧ adP P h p q l a 1 (P 6 0) = p ∧ adP P h p q l a 2 (P 6 0) = q ∧ adP P h p q l a 3 (P 6 0) = l ∧ adP P h p q l a 4 (P 6 0) = a := by
  unfold adP
  simp
theorem adP_Wf {P : PP} {h p q l a : Nat} (hW : Wf P) (h8 : P 6 0 < 8) (h1 : 1 ≤ h) (h2 : h ≤ 6) (h3 : p ≤ 3) (h4 : q ≤ 63) (h5 : l ≤ 2) (h6 : a < 2 ^ P 6 0) : Wf (adP P h p q l a) := by
  have hb : ∀ i, (P 6 1).testBit i = true → i ≠ P 6 0 := by
    rintro i hi rfl
    rw [Nat.testBit_lt_two_pow hW.2.2.1] at hi
    cases hi
  refine ⟨by show P 6 0 + 1 ≤ 8; omega, fun i hi => ?_, Nat.lt_trans hW.2.2.1 (Nat.pow_lt_pow_right (by decide) (Nat.lt_succ_self _)), hW.2.2.2.1, hW.2.2.2.2.1, fun i hi hbt => ?_⟩
  · have hi : i < P 6 0 + 1 := hi
    by_cases e : i = P 6 0
    · subst e
      obtain ⟨a0, a1, a2, a3, a4⟩ := adP_n (P := P) (h := h) (p := p) (q := q) (l := l) (a := a)
      rw [a0, a1, a2, a3, a4]
      exact ⟨h1, h2, h3, h4, h5, h6⟩
    · rw [adP_o (by decide) e, adP_o (by decide) e, adP_o (by decide) e, adP_o (by decide) e, adP_o (by decide) e]
      exact hW.2.1 i (by omega)
  · have hbt : (P 6 1).testBit i = true := hbt
    have hi : i < P 6 0 + 1 := hi
    have e := hb i hbt
    rw [adP_5, adP_o (by decide) e, adP_o (by decide) e]
    exact hW.2.2.2.2.2 i (by omega) hbt
theorem st_addScene {j : Nat} (hj : j < 512) {σ τ : SS} (R : Rel j σ τ) (x1 : Int32) (x2 : Int32) (x3 : Int32) (x4 : Int32) (x5 : Int32) : ∃ r σ1 b τ1, X4_addScene σ x1 x2 x3 x4 x5 = some (r, σ1) ∧ X5_addScene τ x1 x2 x3 x4 x5 = some (b, τ1) ∧ Rel (j + 1) σ1 τ1 ∧ Agr ["java/lang/IllegalArgumentException", "java/lang/IllegalStateException"] r b (X5_thrown τ1) := by
  have R1 := thr R 1
  have R2 := thr R 2
  obtain ⟨P, hW, C, C2, M0⟩ := R
  have hn := hW.1
  have hpw := pw_le hn
  have hp0 := pw_pos (P 6 0)
  have he : ∀ y, ¬ y ≤ 0 → X5_addScene_b85 τ x1 x2 x3 x4 x5 y = some (0, wr τ 0 35 y) := by
    intro y hy
    unfold X5_addScene_b85
    rw [lt_eq, wr_at, if_neg hy]
  have he0 : X5_addScene_b58 τ x1 x2 x3 x4 x5 = some (0, wr τ 0 35 1) := by
    unfold X5_addScene_b58 X5_addScene_b59
    rw [if_pos rfl]
    exact he 1 (by decide)
  unfold X4_addScene X5_addScene X4_addScene_b54 X5_isIn4
  rw [he0]
  rw [isIn_w, isIn_w, isIn_w, isIn_w, isIn_w]
  rw [C2.1.1, shl_n (by omega), every_n hW C.1.1, C.1.1.1, show nI (2 ^ P 6 0) - 1 = nI (2 ^ P 6 0 - 1) by rw [il1, nI_sub' (by omega)]]
  by_cases h1 : X4_isWithin x1 1 6 = 0
  · rw [if_pos h1, if_pos h1]
    exact ⟨_, _, _, _, rfl, rfl, R1, agr_er rfl (thr_0 _ _) (by decide)⟩
  rw [if_neg h1, if_neg h1]
  by_cases h2 : X4_isWithin x2 0 3 = 0
  · rw [if_pos h2, if_pos h2]
    exact ⟨_, _, _, _, rfl, rfl, R1, agr_er rfl (thr_0 _ _) (by decide)⟩
  rw [if_neg h2, if_neg h2]
  by_cases h3 : X4_isWithin x3 0 63 = 0
  · rw [if_pos h3, if_pos h3]
    exact ⟨_, _, _, _, rfl, rfl, R1, agr_er rfl (thr_0 _ _) (by decide)⟩
  rw [if_neg h3, if_neg h3]
  by_cases h4 : X4_isWithin x4 0 2 = 0
  · rw [if_pos h4, if_pos h4]
    exact ⟨_, _, _, _, rfl, rfl, R1, agr_er rfl (thr_0 _ _) (by decide)⟩
  rw [if_neg h4, if_neg h4]
  by_cases h5 : X4_isWithin x5 0 (nI (2 ^ P 6 0 - 1)) = 0
  · rw [if_pos h5, if_neg (fun e => (ahead_n hn x5).mp e h5)]
    exact ⟨_, _, _, _, rfl, rfl, R1, agr_er rfl (thr_0 _ _) (by decide)⟩
  rw [if_neg h5, if_pos ((ahead_n hn x5).mpr h5)]
  unfold X5_addScene_b59
  rw [if_neg (show ¬ (1 : Int32) = 0 by decide), C2.1.1]
  by_cases h8 : P 6 0 = 8
  · rw [if_neg (by rw [h8]; decide), if_pos (by rw [h8]; rfl), he 2 (by decide)]
    exact ⟨_, _, _, _, rfl, rfl, R2, agr_er rfl (thr_0 _ _) (by decide)⟩
  have hne : ¬ nI (P 6 0) = 8 := nI_ne (b := 8) (by omega) (by decide) h8
  have hlt : nI (P 6 0) < 8 := nI_lt (b := 8) (by omega) (by decide)
  rw [if_pos hlt, if_neg hne]
  obtain ⟨v1, v1a, v1b, rfl⟩ := inn1 (n := 6) (by decide) h1
  obtain ⟨v2, v2b, rfl⟩ := inn (n := 3) (by decide) h2
  obtain ⟨v3, v3b, rfl⟩ := inn (n := 63) (by decide) h3
  obtain ⟨v4, v4b, rfl⟩ := inn (n := 2) (by decide) h4
  obtain ⟨v5, v5b, rfl⟩ := inn (by omega) h5
  have hn8 : P 6 0 < 8 := by omega
  have hnn : ∃ n, n = P 6 0 := ⟨_, rfl⟩
  obtain ⟨n, hnP⟩ := hnn
  have hc : (nI (P 6 0)).toNatClampNeg = P 6 0 := clamp_n (by omega)
  have g := gd_c (n := 8) (i := P 6 0) hn8 (by decide)
  have c5 : σ 2 5 = nI (P 6 0) := C.1.1.1
  have r0 : τ 0 0 = nI (P 6 0) := C2.1.1
  have hx : X3_append (wr σ 1 7 0) (nI v1) (nI v2) (nI v3) (nI v4) (nI v5) = some (nI (P 6 0), wr (wr (wr (wr (wr (wr (wr σ 1 7 0) 5 (P 6 0) (nI v1)) 6 (P 6 0) (nI v2)) 7 (P 6 0) (nI v3)) 8 (P 6 0) (nI v4)) 9 (P 6 0) (nI v5)) 2 5 (nI (P 6 0 + 1))) := by
    unfold X3_append
    rw [wr_o σ _ (by omega), c5, fput_n _ 5 _ hn8 (by decide), lt_eq, wr_o _ _ (by omega), wr_o σ _ (by omega), c5, fput_n _ 6 _ hn8 (by decide), lt_eq, wr_o _ _ (by omega), wr_o _ _ (by omega), wr_o σ _ (by omega), c5, fput_n _ 7 _ hn8 (by decide), lt_eq, wr_o _ _ (by omega), wr_o _ _ (by omega), wr_o _ _ (by omega), wr_o σ _ (by omega), c5, fput_n _ 8 _ hn8 (by decide), lt_eq, wr_o _ _ (by omega), wr_o _ _ (by omega), wr_o _ _ (by omega), wr_o _ _ (by omega), wr_o σ _ (by omega), c5, fput_n _ 9 _ hn8 (by decide), lt_eq, wr_o _ _ (by omega), wr_o _ _ (by omega), wr_o _ _ (by omega), wr_o _ _ (by omega), wr_o _ _ (by omega), wr_o σ _ (by omega), c5, nI_1, lt_eq, wr_at, il1, nI_sub' (by omega), Nat.add_sub_cancel]
  have hy : X5_addScene_b85 τ (nI v1) (nI v2) (nI v3) (nI v4) (nI v5) 0 = some (nI (P 6 0), wr (wr (wr (wr (wr (wr (wr (wr τ 0 35 0) 1 (P 6 0) (nI v1)) 2 (P 6 0) (nI v2)) 3 (P 6 0) (nI v3)) 4 (P 6 0) (nI v4)) 5 (P 6 0) (nI v5)) 0 0 (nI (P 6 0 + 1))) 0 18 1) := by
    unfold X5_addScene_b85
    rw [lt_eq, wr_at, if_pos (show (0 : Int32) ≤ 0 by decide), wr_o τ _ (by omega), r0, hc, if_pos g, lt_eq, wr_o _ _ (by omega), wr_o τ _ (by omega), r0, hc, if_pos g, lt_eq, wr_o _ _ (by omega), wr_o _ _ (by omega), wr_o τ _ (by omega), r0, hc, if_pos g, lt_eq, wr_o _ _ (by omega), wr_o _ _ (by omega), wr_o _ _ (by omega), wr_o τ _ (by omega), r0, hc, if_pos g, lt_eq, wr_o _ _ (by omega), wr_o _ _ (by omega), wr_o _ _ (by omega), wr_o _ _ (by omega), wr_o τ _ (by omega), r0, hc, if_pos g, lt_eq, wr_o _ _ (by omega), wr_o _ _ (by omega), wr_o _ _ (by omega), wr_o _ _ (by omega), wr_o _ _ (by omega), wr_o τ _ (by omega), r0, nI_1, lt_eq, lt_eq, wr_o _ _ (by omega), wr_at, il1, nI_sub' (by omega), Nat.add_sub_cancel]
  unfold X2_forget
  rw [lt_eq, Option.bind_some, hx, hy]
  simp only [bd2]
  have hb : ∀ i, (P 6 1).testBit i = true → i ≠ P 6 0 := by
    rintro i hi rfl
    rw [Nat.testBit_lt_two_pow hW.2.2.1] at hi
    cases hi
  have hP0 : adP P v1 v2 v3 v4 v5 6 0 = P 6 0 + 1 := rfl
  refine ⟨_, _, _, _, rfl, rfl, ⟨adP P v1 v2 v3 v4 v5, adP_Wf hW hn8 v1a v1b v2b v3b v4b (by omega), ⟨⟨⟨?_, ?_, ?_, ?_, fun i hi => ?_⟩, trivial, fun i hi => ?_⟩, Or.inl ?_⟩, ⟨⟨?_, ?_, ?_, ?_, fun i hi => ?_, fun i hi => ?_⟩, fun h => ?_⟩, RM_eq (fun k i h => ?_) (fun k i h => ?_) (RM_up M0)⟩, agr_ok ?_⟩
  · rw [wr_at]; rfl
  · rw [wr_o _ _ (by omega), wr_o _ _ (by omega), wr_o _ _ (by omega), wr_o _ _ (by omega), wr_o _ _ (by omega), wr_o _ _ (by omega), wr_o _ _ (by omega)]; exact C.1.1.2.1
  · rw [wr_o _ _ (by omega), wr_o _ _ (by omega), wr_o _ _ (by omega), wr_o _ _ (by omega), wr_o _ _ (by omega), wr_o _ _ (by omega), wr_o _ _ (by omega)]; exact C.1.1.2.2.1
  · rw [wr_o _ _ (by omega), wr_o _ _ (by omega), wr_o _ _ (by omega), wr_o _ _ (by omega), wr_o _ _ (by omega), wr_o _ _ (by omega), wr_o _ _ (by omega)]; exact C.1.1.2.2.2.1
  · rw [hP0] at hi
    by_cases e : i = P 6 0
    · subst e
      obtain ⟨a0, a1, a2, a3, a4⟩ := adP_n (P := P) (h := v1) (p := v2) (q := v3) (l := v4) (a := v5)
      rw [a0, a1, a2, a3, a4]
      simp [wr_app]
    · have h := C.1.1.2.2.2.2 i (by omega)
      rw [adP_o (by decide) e, adP_o (by decide) e, adP_o (by decide) e, adP_o (by decide) e, adP_o (by decide) e]
      simpa [wr_app, e] using h
  · have hi : (P 6 1).testBit i = true := hi
    rw [wr_o _ _ (by omega), wr_o _ _ (by omega), wr_o _ _ (by omega), wr_o _ _ (by omega), wr_o _ _ (by omega), wr_o _ _ (by omega), wr_o _ _ (by omega)]
    rw [C.1.2.2 i hi]
    show nI (P 5 i) = nI (adP P v1 v2 v3 v4 v5 5 i)
    rw [adP_5]
  · simp [wr_app]
  · simp [wr_app, hP0]
  · rw [wr_o _ _ (by omega), wr_o _ _ (by omega), wr_o _ _ (by omega), wr_o _ _ (by omega), wr_o _ _ (by omega), wr_o _ _ (by omega), wr_o _ _ (by omega), wr_o _ _ (by omega)]; exact C2.1.2.1
  · rw [wr_o _ _ (by omega), wr_o _ _ (by omega), wr_o _ _ (by omega), wr_o _ _ (by omega), wr_o _ _ (by omega), wr_o _ _ (by omega), wr_o _ _ (by omega), wr_o _ _ (by omega)]; exact C2.1.2.2.1
  · rw [wr_o _ _ (by omega), wr_o _ _ (by omega), wr_o _ _ (by omega), wr_o _ _ (by omega), wr_o _ _ (by omega), wr_o _ _ (by omega), wr_o _ _ (by omega), wr_o _ _ (by omega)]; exact C2.1.2.2.2.1
  · rw [hP0] at hi
    by_cases e : i = P 6 0
    · subst e
      obtain ⟨a0, a1, a2, a3, a4⟩ := adP_n (P := P) (h := v1) (p := v2) (q := v3) (l := v4) (a := v5)
      rw [a0, a1, a2, a3, a4]
      simp [wr_app]
    · have h := C2.1.2.2.2.2.1 i (by omega)
      rw [adP_o (by decide) e, adP_o (by decide) e, adP_o (by decide) e, adP_o (by decide) e, adP_o (by decide) e]
      simpa [wr_app, e] using h
  · have hi : (P 6 1).testBit i = true := hi
    rw [wr_o _ _ (by omega), wr_o _ _ (by omega), wr_o _ _ (by omega), wr_o _ _ (by omega), wr_o _ _ (by omega), wr_o _ _ (by omega), wr_o _ _ (by omega), wr_o _ _ (by omega), adP_5]
    exact C2.1.2.2.2.2.2 i hi
  · rw [wr_at] at h
    exact absurd h (by decide)
  · unfold cM at h
    rw [wr_o _ _ (by omega), wr_o _ _ (by omega), wr_o _ _ (by omega), wr_o _ _ (by omega), wr_o _ _ (by omega), wr_o _ _ (by omega), wr_o _ _ (by omega)]
  · unfold rM at h
    rw [wr_o _ _ (by omega), wr_o _ _ (by omega), wr_o _ _ (by omega), wr_o _ _ (by omega), wr_o _ _ (by omega), wr_o _ _ (by omega), wr_o _ _ (by omega), wr_o _ _ (by omega)]
  · show wr (wr (wr (wr (wr (wr (wr (wr τ 0 35 0) 1 (P 6 0) (nI v1)) 2 (P 6 0) (nI v2)) 3 (P 6 0) (nI v3)) 4 (P 6 0) (nI v4)) 5 (P 6 0) (nI v5)) 0 0 (nI (P 6 0 + 1))) 0 18 1 0 35 = 0
    simp [wr_app]
