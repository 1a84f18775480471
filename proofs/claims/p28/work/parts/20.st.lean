/-! The class alone: a state that shows a problem; what it plans and shoots (rows of the whole claim, without its reference). -/
/-- the plans that are held are the plan -/
def PlC (P : PP) (σ : SS) : Prop := σ 1 7 = 0 ∨ (σ 1 7 = 1 ∧ KeepC P (bst P) σ)
def PC (P : PP) (σ : SS) : Prop := SC P [] σ ∧ PlC P σ
theorem wr_o (σ : SS) {k0 i0 k i : Nat} (x : Int32) (h : ¬ (k = k0 ∧ i = i0)) : wr σ k0 i0 x k i = σ k i := by
  rw [wr_app]
  by_cases e : k = k0
  · subst e
    rw [if_pos rfl, if_neg (fun e2 => h ⟨rfl, e2⟩)]
  · rw [if_neg e]
/-- the cells that the plans and the money speak of -/
def cP (k i : Nat) : Prop := k = 1 ∨ (5 ≤ k ∧ k ≤ 13) ∨ (k = 2 ∧ i ≠ 7)
def cM (k i : Nat) : Prop := k = 0 ∨ k = 3 ∨ k = 4 ∨ 14 ≤ k ∨ (k = 2 ∧ i = 7)
theorem PC_eq {P : PP} {σ σ1 : SS} (h : ∀ k i, cP k i → σ1 k i = σ k i) (C : PC P σ) : PC P σ1 := by
  obtain ⟨S, L⟩ := C
  have h' : ∀ k i, (k = 1 ∨ (5 ≤ k ∧ k ≤ 13) ∨ (k = 2 ∧ i ≠ 7)) → σ1 k i = σ k i := h
  refine ⟨⟨⟨by rw [h' 2 5 (by omega)]; exact S.1.1, by rw [h' 2 6 (by omega)]; exact S.1.2.1, by rw [h' 2 8 (by omega)]; exact S.1.2.2.1, by rw [h' 1 6 (by omega)]; exact S.1.2.2.2.1, fun i hi => ?_⟩, trivial, fun i hi => ?_⟩, ?_⟩
  · rw [h' 5 i (by omega), h' 6 i (by omega), h' 7 i (by omega), h' 8 i (by omega), h' 9 i (by omega)]
    exact S.1.2.2.2.2 i hi
  · rw [h' 11 i (by omega)]
    exact S.2.2 i hi
  · unfold PlC
    rw [h' 1 7 (by omega)]
    rcases L with L | ⟨L, K⟩
    · exact Or.inl L
    · exact Or.inr ⟨L, KeepC_eq (h' 1 5 (by omega)) (fun i => h' 12 i (by omega)) (fun i => h' 13 i (by omega)) K⟩
theorem win_iff (x a b : Int32) : X4_isWithin x a b = 0 ↔ (x < a ∨ b < x) := by
  unfold X4_isWithin
  by_cases h : x < a
  · simp [h]
  · by_cases h2 : b < x
    · simp [h, h2]
    · simp [h, h2]
theorem inn {x : Int32} {n : Nat} (hn : n < 2 ^ 31) (h : ¬ X4_isWithin x 0 (nI n) = 0) : ∃ i, i ≤ n ∧ x = nI i := by
  rw [win_iff] at h
  obtain ⟨i, hi, rfl⟩ := nI_of (fun e => h (Or.inl e))
  refine ⟨i, ?_, rfl⟩
  rcases Nat.lt_or_ge n i with q | q
  · exact absurd (Or.inr (nI_lt q hi)) h
  · exact q
theorem inn1 {x : Int32} {n : Nat} (hn : n < 2 ^ 31) (h : ¬ X4_isWithin x 1 (nI n) = 0) : ∃ i, 1 ≤ i ∧ i ≤ n ∧ x = nI i := by
  rw [win_iff] at h
  have h0 : ¬ x < 0 := fun e => h (Or.inl (by
    rw [Int32.lt_iff_toInt_lt] at e ⊢
    exact Int.lt_trans e (by decide)))
  obtain ⟨i, hi, rfl⟩ := nI_of h0
  refine ⟨i, ?_, ?_, rfl⟩
  · rcases Nat.lt_or_ge i 1 with q | q
    · exact absurd (Or.inl (nI_lt (b := 1) q (by decide))) h
    · exact q
  · rcases Nat.lt_or_ge n i with q | q
    · exact absurd (Or.inr (nI_lt q hi)) h
    · exact q
theorem and1 (y : Int32) : y &&& 1 = 0 ∨ y &&& 1 = 1 := by
  obtain ⟨j, hj, h⟩ := pk_andE y (m := 1) 1 (by decide)
  rw [h]
  rcases (by omega : j = 0 ∨ j = 1) with rfl | rfl
  · exact Or.inl rfl
  · exact Or.inr rfl
theorem bc_all : ∀ s, s < 256 → J6_bitCount (nI s) = nI (sm 8 (fun i => if s.testBit i = true then 1 else 0)) := by decide +kernel
theorem sm_ext {n : Nat} {f : Nat → Nat} (h : ∀ i, n ≤ i → f i = 0) : ∀ k, sm (n + k) f = sm n f
  | 0 => rfl
  | k + 1 => by rw [← Nat.add_assoc, sm, sm_ext h k, h (n + k) (by omega), Nat.add_zero]
theorem sm_bits {m n : Nat} (hn : n ≤ 8) (hm : m < 2 ^ n) : sm 8 (fun i => if m.testBit i = true then 1 else 0) = sm n (fun i => if m.testBit i = true then 1 else 0) := by
  have h := sm_ext (n := n) (f := fun i => if m.testBit i = true then 1 else 0) (fun i hi => by
    have hb : m.testBit i = false := Nat.testBit_lt_two_pow (Nat.lt_of_lt_of_le hm (Nat.pow_le_pow_right (by decide) hi))
    simp only [hb, Bool.false_eq_true, if_false]) (8 - n)
  rw [← h, show n + (8 - n) = 8 by omega]
theorem sm_cpl (c : Nat → Prop) [DecidablePred c] : ∀ n, sm n (fun i => if c i then 0 else 1) + sm n (fun i => if c i then 1 else 0) = n
  | 0 => rfl
  | n + 1 => by
    have h := sm_cpl c n
    simp only [sm]
    by_cases e : c n
    · simp only [e, if_true]; omega
    · simp only [e, if_false]; omega
theorem open_n {P : PP} {σ : SS} (hW : Wf P) (B : BC P σ) : X3_countOpen σ = nI (rem P []) := by
  have hn := hW.1
  have hd := wf_done hW
  have h := sm_cpl (fun i => (P 6 1).testBit i = true) (P 6 0)
  have hr : rem P [] = sm (P 6 0) (fun i => if (P 6 1).testBit i = true then 0 else 1) := rfl
  unfold X3_countOpen
  rw [B.1, B.2.1, bc_all _ hd, sm_bits hn hW.2.2.1, nI_sub' (by omega)]
  congr 1
  omega
theorem srch_Cmp {P : PP} : ∀ {r : Nat} {o : Od} {a : Option Od} {b : Od}, srch P r o a = some b → a = some b ∨ Cmp P r o b
  | 0, o, a, b, h => by
    cases a with
    | none => exact Or.inr (Option.some.inj h).symm
    | some c =>
      change (if dys P o < dys P c then some o else some c) = some b at h
      split at h
      · exact Or.inr (Option.some.inj h).symm
      · exact Or.inl h
  | r + 1, o, a, b, h => by
    have key : ∀ (k c : Nat) (a : Option Od), c + k ≤ P 6 0 → fdl (fun s a => if canF P o s = true then srch P r ((s, plc P o s) :: o) a else a) k c a = some b → a = some b ∨ Cmp P (r + 1) o b := by
      intro k
      induction k with
      | zero => intro c a _ h; exact Or.inl h
      | succ k ih =>
        intro c a hc h
        rw [fdl] at h
        rcases ih (c + 1) _ (by omega) h with h1 | h1
        · by_cases hcf : canF P o c = true
          · rw [if_pos hcf] at h1
            rcases srch_Cmp h1 with h2 | h2
            · exact Or.inl h2
            · exact Or.inr ⟨c, by omega, hcf, h2⟩
          · rw [if_neg hcf] at h1
            exact Or.inl h1
        · exact Or.inr h1
    rw [srch] at h
    exact key (P 6 0) 0 a (by omega) h
theorem bst_some {P : PP} (hW : Wf P) : ∃ b, bst P = some b ∧ Vd P b ∧ rem P b = 0 ∧ b.length = rem P [] ∧ ∀ s, s < P 6 0 → (msk P b).testBit s = true := by
  obtain ⟨b, hb⟩ := srch_some hW
  have hc : Cmp P (rem P []) [] b := by
    rcases srch_Cmp hb with h | h
    · cases h
    · exact h
  have hv : Vd P b := Cmp_Vd (o := []) trivial hc
  have h1 := Cmp_rem hc
  have h2 := rem_len hv
  refine ⟨b, hb, hv, by omega, by omega, fun s hs => ?_⟩
  rw [(rem_0 hW hv).mp (by omega), Nat.testBit_two_pow_sub_one]
  exact decide_eq_true hs
theorem planC_n {P : PP} {σ : SS} (hW : Wf P) (C : PC P σ) : ∃ σ1, X2_makePlan σ = some σ1 ∧ PC P σ1 ∧ KeepC P (bst P) σ1 ∧ ∀ k i, k ≠ 10 → k ≠ 11 → k ≠ 12 → k ≠ 13 → k ≠ 1 → σ1 k i = σ k i := by
  obtain ⟨σ1, h1, h2, h3, h4, h5⟩ := plan_n hW C.1 C.2
  exact ⟨σ1, h1, ⟨h3, Or.inr ⟨h4, h5⟩⟩, h5, fun k i a b c d e => h2 k i a b c d (fun e2 => absurd e2 e)⟩
theorem ask_in {x : Int32} {n : Nat} (hn : n < 2 ^ 31) (h : ¬ X4_isWithin x 0 (nI n - 1) = 0) : ∃ i, i < n ∧ x = nI i := by
  have h0 : n ≠ 0 := by
    rintro rfl
    rw [win_iff, Int32.lt_iff_toInt_lt, Int32.lt_iff_toInt_lt, show (nI 0 - 1).toInt = -1 by decide, show (0 : Int32).toInt = 0 by decide] at h
    omega
  rw [il1, nI_sub' (by omega)] at h
  obtain ⟨i, hi, rfl⟩ := inn (n := n - 1) (by omega) h
  exact ⟨i, by omega, rfl⟩
theorem with_c : ∀ s, s < 64 → ∀ i, i < 6 → X4_with (nI s) (nI i) 0 = nI (wo s (2 ^ i)) ∧ X4_with (nI s) (nI i) 1 = nI (s ||| 2 ^ i) ∧ wo s (2 ^ i) < 64 ∧ s ||| 2 ^ i < 64 ∧ (s.testBit i = true → s ||| 2 ^ i = s) ∧ (s.testBit i = false → wo s (2 ^ i) = s) := by decide +kernel
def chP (P : PP) (c : Nat) : PP := fun k i => if k = 6 then (if i = 2 then c else P 6 i) else P k i
theorem chP_o (P : PP) (c : Nat) {k : Nat} (i : Nat) (h : k ≠ 6) : chP P c k i = P k i := if_neg h
theorem chP_Wf {P : PP} {c : Nat} (hW : Wf P) (hc : c ≤ 63) : Wf (chP P c) := by
  refine ⟨hW.1, fun i hi => ?_, hW.2.2.1, hc, hW.2.2.2.2.1, fun i hi hb => ?_⟩
  · rw [chP_o P c i (by decide), chP_o P c i (by decide), chP_o P c i (by decide), chP_o P c i (by decide), chP_o P c i (by decide)]
    exact hW.2.1 i hi
  · rw [chP_o P c i (by decide), chP_o P c i (by decide), chP_o P c i (by decide)]
    exact hW.2.2.2.2.2 i hi hb
theorem chP_PC {P : PP} {c : Nat} {σ : SS} (C : PC P σ) : PC (chP P c) (wr (wr σ 1 7 0) 2 8 (nI c)) := by
  obtain ⟨S, -⟩ := C
  have f : ∀ k i, (k = 2 → i ≠ 8) → (k = 1 → i ≠ 7) → wr (wr σ 1 7 0) 2 8 (nI c) k i = σ k i := fun k i a b => by rw [wr_o _ _ (by omega), wr_o _ _ (by omega)]
  refine ⟨⟨⟨by rw [f 2 5 (by omega) (by omega)]; exact S.1.1, by rw [f 2 6 (by omega) (by omega)]; exact S.1.2.1, wr_at _ _ _ _, by rw [f 1 6 (by omega) (by omega)]; exact S.1.2.2.2.1, fun i hi => ?_⟩, trivial, fun i hi => ?_⟩, Or.inl (by rw [wr_o _ _ (by omega), wr_at])⟩
  · rw [f 5 i (by omega) (by omega), f 6 i (by omega) (by omega), f 7 i (by omega) (by omega), f 8 i (by omega) (by omega), f 9 i (by omega) (by omega), chP_o P c i (by decide), chP_o P c i (by decide), chP_o P c i (by decide), chP_o P c i (by decide), chP_o P c i (by decide)]
    exact S.1.2.2.2.2 i hi
  · rw [f 11 i (by omega) (by omega)]
    exact S.2.2 i hi
theorem chP_id (P : PP) : chP P (P 6 2) = P := by
  funext k i
  unfold chP
  by_cases e : k = 6
  · subst e
    rw [if_pos rfl]
    by_cases e2 : i = 2
    · rw [if_pos e2, e2]
    · rw [if_neg e2]
  · rw [if_neg e]
theorem ahead_n {n : Nat} (hn : n ≤ 8) (x : Int32) : (x &&& (nI (2 ^ n - 1) ^^^ (-1 : Int32))) = 0 ↔ ¬ X4_isWithin x 0 (nI (2 ^ n - 1)) = 0 := by
  have hp := pw_le hn
  have hp0 := pw_pos n
  constructor
  · intro h
    have h' : x.toBitVec &&& (BitVec.ofNat 32 (2 ^ n - 1) ^^^ BitVec.allOnes 32) = 0#32 := congrArg Int32.toBitVec h
    have hx : x &&& nI (2 ^ n - 1) = x := by
      apply Int32.toBitVec_inj.1
      show x.toBitVec &&& BitVec.ofNat 32 (2 ^ n - 1) = x.toBitVec
      apply BitVec.eq_of_getLsbD_eq
      intro i hi
      have hi' := congrArg (fun y => BitVec.getLsbD y i) h'
      simp only [BitVec.getLsbD_and, BitVec.getLsbD_xor, BitVec.getLsbD_allOnes, BitVec.getLsbD_zero, hi, decide_true, Bool.xor_true] at hi'
      rw [BitVec.getLsbD_and]
      cases hb : x.toBitVec.getLsbD i
      · rfl
      · rw [hb] at hi'
        simpa using hi'
    have hm : (nI (2 ^ n - 1)).toBitVec.toNat = 2 ^ n - 1 := by
      show (BitVec.ofNat 32 (2 ^ n - 1)).toNat = 2 ^ n - 1
      rw [BitVec.toNat_ofNat]
      exact Nat.mod_eq_of_lt (by omega)
    have hj := pk_and x n hm
    rw [hx] at hj
    have hlt : x.toBitVec.toNat % 2 ^ n < 2 ^ n := Nat.mod_lt _ hp0
    generalize x.toBitVec.toNat % 2 ^ n = v at hj hlt
    rw [win_iff, hj]
    rintro (e | e)
    · exact nI_pos (by omega) e
    · exact nI_nlt (by omega) (by omega) e
  · intro h
    obtain ⟨v, hv, rfl⟩ := inn (by omega) h
    rw [wo_n (by omega) (by omega)]
    have h0 : wo v (2 ^ n - 1) = 0 := by
      rw [wo_0 (by omega) (by omega)]
      intro i _ hi
      rw [Nat.testBit_two_pow_sub_one]
      rcases Nat.lt_or_ge i n with q | q
      · exact decide_eq_true q
      · rw [Nat.testBit_lt_two_pow (Nat.lt_of_lt_of_le (show v < 2 ^ n by omega) (Nat.pow_le_pow_right (by decide) q))] at hi
        cases hi
    rw [h0]
    rfl
/-- a problem with one more scene -/
def adP (P : PP) (h p q l a : Nat) : PP := fun k i => if k = 6 then (if i = 0 then P 6 0 + 1 else P 6 i) else if i = P 6 0 then (if k = 0 then h else if k = 1 then p else if k = 2 then q else if k = 3 then l else if k = 4 then a else P k i) else P k i
theorem adP_o {P : PP} {h p q l a : Nat} {k i : Nat} (hk : k ≠ 6) (hi : i ≠ P 6 0) : adP P h p q l a k i = P k i := by
  unfold adP
  rw [if_neg hk, if_neg hi]
theorem adP_5 {P : PP} {h p q l a : Nat} (i : Nat) : adP P h p q l a 5 i = P 5 i := by
  unfold adP
  rw [if_neg (by decide)]
  by_cases e : i = P 6 0
  · rw [if_pos e]; rfl
  · rw [if_neg e]
theorem adP_n {P : PP} {h p q l a : Nat} : adP P h p q l a 0 (P 6 0) = h ∧ adP P h p q l a 1 (P 6 0) = p ∧ adP P h p q l a 2 (P 6 0) = q ∧ adP P h p q l a 3 (P 6 0) = l ∧ adP P h p q l a 4 (P 6 0) = a := by
  unfold adP
  simp
theorem adP_Wf {P : PP} {h p q l a : Nat} (hW : Wf P) (h8 : P 6 0 < 8) (h1 : 1 ≤ h) (h2 : h ≤ 6) (h3 : p ≤ 3) (h4 : q ≤ 63) (h5 : l ≤ 2) (h6 : a < 2 ^ P 6 0) : Wf (adP P h p q l a) := by
  have hb : ∀ i, (P 6 1).testBit i = true → i ≠ P 6 0 := by
    rintro i hi rfl
    rw [Nat.testBit_lt_two_pow hW.2.2.1] at hi
    cases hi
  refine ⟨by show P 6 0 + 1 ≤ 8; omega, fun i hi => ?_, Nat.lt_trans hW.2.2.1 (Nat.pow_lt_pow_right (by decide) (Nat.lt_succ_self _)), hW.2.2.2.1, hW.2.2.2.2.1, fun i hi hbt => ?_⟩
  · have hi : i < P 6 0 + 1 := hi
    by_cases e : i = P 6 0
    · subst e
      obtain ⟨a0, a1, a2, a3, a4⟩ := adP_n (P := P) (h := h) (p := p) (q := q) (l := l) (a := a)
      rw [a0, a1, a2, a3, a4]
      exact ⟨h1, h2, h3, h4, h5, h6⟩
    · rw [adP_o (by decide) e, adP_o (by decide) e, adP_o (by decide) e, adP_o (by decide) e, adP_o (by decide) e]
      exact hW.2.1 i (by omega)
  · have hbt : (P 6 1).testBit i = true := hbt
    have hi : i < P 6 0 + 1 := hi
    have e := hb i hbt
    rw [adP_5, adP_o (by decide) e, adP_o (by decide) e]
    exact hW.2.2.2.2.2 i (by omega) hbt
/-- the first j scenes of an order -/
def sfx : Od → Nat → Od
  | [], _ => []
  | x :: t, j => if t.length < j then x :: t else sfx t j
theorem sfx_len : ∀ (o : Od), sfx o o.length = o
  | [] => rfl
  | x :: t => if_pos (Nat.lt_succ_self _)
theorem sfx_0 : ∀ (o : Od), sfx o 0 = []
  | [] => rfl
  | x :: t => by rw [sfx, if_neg (by omega)]; exact sfx_0 t
section
variable {P : PP}
theorem bgn_x {x : Nat × Nat} {t : Od} (hW : Wf P) (hv : Vd P (x :: t)) : x.2 + P 0 x.1 ≤ 24 * 1010 := by
  have hxl := bgn_lt hW hv (msk_cons.mpr (Or.inr rfl) : (msk P (x :: t)).testBit x.1 = true)
  rw [bgn_eq] at hxl
  exact hxl
end
def AQ (Q : Nat → Nat × Nat → Prop) : Od → Prop
  | [] => True
  | x :: t => Q t.length x ∧ AQ Q t
theorem sfxQ {P : PP} {Q : Nat → Nat × Nat → Prop} : ∀ {o : Od} {j : Nat}, AQ Q o → Vd P o → j < o.length → ∃ x, sfx o (j + 1) = x :: sfx o j ∧ Q j x ∧ Vd P (x :: sfx o j)
  | [], j, _, _, h => absurd h (by simp)
  | x :: t, j, ho, hv, h => by
    rw [List.length_cons] at h
    by_cases hj : j = t.length
    · subst hj
      refine ⟨x, ?_, ho.1, ?_⟩
      · rw [sfx, if_pos (by omega), sfx, if_neg (by omega), sfx_len]
      · rw [sfx, if_neg (by omega), sfx_len]; exact hv
    · obtain ⟨y, h1, h2⟩ := sfxQ (o := t) (j := j) ho.2 hv.1 (by omega)
      refine ⟨y, ?_, ?_⟩
      · rw [sfx, if_neg (by omega), sfx, if_neg (by omega)]; exact h1
      · rw [sfx, if_neg (by omega)]; exact h2
theorem AQ_and {Q R : Nat → Nat × Nat → Prop} : ∀ {o : Od}, AQ Q o → AQ R o → AQ (fun i x => Q i x ∧ R i x) o
  | [], _, _ => trivial
  | _ :: _, h1, h2 => ⟨⟨h1.1, h2.1⟩, AQ_and h1.2 h2.2⟩
theorem OK_AQ {σ : SS} : ∀ {o : Od}, OK σ o → AQ (fun i x => σ 12 i = nI x.1) o
  | [], _ => trivial
  | _ :: _, h => ⟨h.1, OK_AQ h.2⟩
theorem own_AQ {P : PP} {B : Od} : ∀ {o : Od}, Vd P o → (∀ i, (msk P o).testBit i = true → bgn P B i = bgn P o i) → AQ (fun _ x => bgn P B x.1 = x.2) o
  | [], _, _ => trivial
  | x :: t, hv, h => by
    refine ⟨?_, own_AQ hv.1 (fun i hi => ?_)⟩
    · show bgn P B x.1 = x.2
      rw [h x.1 (msk_cons.mpr (Or.inr rfl)), bgn_eq]
    · have hne : i ≠ x.1 := by
        rintro rfl
        rw [(canF_t hv.2.2.1).1] at hi
        cases hi
      rw [h i (msk_cons.mpr (Or.inl hi)), bgn_ne hne]
/-- the scenes of the plan that are shot today -/
def tdy (P : PP) (w : Nat → Bool) : Od → Nat
  | [] => 0
  | x :: t => if x.2 / 24 = P 6 3 ∧ w x.1 = false ∧ wo (P 4 x.1) (P 6 1 ||| tdy P w t) = 0 then tdy P w t ||| 2 ^ x.1 else tdy P w t
theorem done_in {P : PP} {i : Nat} (h : (P 6 1).testBit i = true) : ∀ (o : Od), (msk P o).testBit i = true
  | [] => h
  | _ :: t => msk_cons.mpr (Or.inl (done_in h t))
section
variable {P : PP} {w : Nat → Bool}
theorem tdy_in : ∀ {o : Od}, Vd P o → ∀ i, (tdy P w o).testBit i = true → (msk P o).testBit i = true ∧ (P 6 1).testBit i = false ∧ bgn P o i / 24 = P 6 3
  | [], _, i, h => by
    rw [tdy, Nat.zero_testBit] at h
    cases h
  | x :: t, hv, i, h => by
    have hx := (canF_t hv.2.2.1).1
    have old : (tdy P w t).testBit i = true → (msk P (x :: t)).testBit i = true ∧ (P 6 1).testBit i = false ∧ bgn P (x :: t) i / 24 = P 6 3 := by
      intro h
      obtain ⟨h1, h2, h3⟩ := tdy_in hv.1 i h
      have hne : i ≠ x.1 := by
        rintro rfl
        rw [hx] at h1
        cases h1
      exact ⟨msk_cons.mpr (Or.inl h1), h2, by rw [bgn_ne hne]; exact h3⟩
    rw [tdy] at h
    split at h
    · next hc =>
      rw [or_tb, Bool.or_eq_true, decide_eq_true_eq] at h
      rcases h with h | h
      · exact old h
      · subst h
        refine ⟨msk_cons.mpr (Or.inr rfl), ?_, by rw [bgn_eq]; exact hc.1⟩
        cases hb : (P 6 1).testBit x.1
        · rfl
        · rw [done_in hb t] at hx
          cases hx
    · exact old h
theorem tdy_lt (hW : Wf P) : ∀ {o : Od}, Vd P o → tdy P w o < 2 ^ P 6 0
  | [], _ => pw_pos _
  | x :: t, hv => by
    rw [tdy]
    split
    · exact Nat.or_lt_two_pow (tdy_lt hW hv.1) (Nat.pow_lt_pow_right (by decide) hv.2.1)
    · exact tdy_lt hW hv.1
theorem tdy_256 (hW : Wf P) {o : Od} (hv : Vd P o) : tdy P w o < 256 := Nat.lt_of_lt_of_le (tdy_lt hW hv) (pw_le hW.1)
theorem tdy_ah (hW : Wf P) : ∀ {o : Od}, Vd P o → ∀ i, (tdy P w o).testBit i = true → ∀ j, (P 4 i).testBit j = true → (P 6 1 ||| tdy P w o).testBit j = true
  | [], _, i, h => by
    rw [tdy, Nat.zero_testBit] at h
    cases h
  | x :: t, hv, i, h => by
    intro j hj
    have mono : (P 6 1 ||| tdy P w t).testBit j = true → (P 6 1 ||| tdy P w (x :: t)).testBit j = true := by
      rw [Nat.testBit_or, Nat.testBit_or, Bool.or_eq_true, Bool.or_eq_true]
      rintro (e | e)
      · exact Or.inl e
      · refine Or.inr ?_
        rw [tdy]
        split
        · rw [or_tb, e]; rfl
        · exact e
    have h0 := h
    rw [tdy] at h
    split at h
    · next hc =>
      rw [or_tb, Bool.or_eq_true, decide_eq_true_eq] at h
      rcases h with h | h
      · exact mono (tdy_ah hW hv.1 i h j hj)
      · subst h
        have hx8 : x.1 < 8 := by have := hW.1; have := hv.2.1; omega
        have ha := (hW.2.1 x.1 hv.2.1).2.2.2.2.2
        have ha8 : P 4 x.1 < 256 := Nat.lt_of_lt_of_le ha (pw_le (by omega))
        have hj8 : j < 8 := by
          rcases Nat.lt_or_ge j 8 with q | q
          · exact q
          · rw [tb_hi ha8 (by omega)] at hj
            cases hj
        exact mono ((wo_0 ha8 (or_lt (wf_done hW) (tdy_256 hW hv.1))).mp hc.2.2 j hj8 hj)
    · exact mono (tdy_ah hW hv.1 i h j hj)
/-- the hours of a set -/
def hrs (P : PP) (T : Nat) : Nat := sm (P 6 0) (fun i => if T.testBit i = true then P 0 i else 0)
theorem hrs_put {T s : Nat} (hs : s < P 6 0) (h : T.testBit s = false) : hrs P (T ||| 2 ^ s) = hrs P T + P 0 s := by
  unfold hrs
  rw [sm_one (s := s) (f := fun i => if (T ||| 2 ^ s).testBit i = true then P 0 i else 0) (g := fun i => if T.testBit i = true then P 0 i else 0) hs (fun i _ hi => by
    have : (T ||| 2 ^ s).testBit i = T.testBit i := by
      rw [or_tb]
      have : ¬ s = i := fun e => hi e.symm
      simp [this]
    simp only [this]) (by simp only [h, Bool.false_eq_true, if_false])]
  have : (T ||| 2 ^ s).testBit s = true := by rw [or_tb]; simp
  simp only [this, if_true]
theorem hrs_le (hW : Wf P) (T : Nat) : hrs P T ≤ 48 := by
  have h : hrs P T ≤ P 6 0 * 6 := sm_le (fun i hi => by
    have := (hW.2.1 i hi).2.1
    split <;> omega)
  have := hW.1
  omega
theorem shootC {σ : SS} {b : Od} (hW : Wf P) (hv : Vd P b) (hlen : b.length = rem P []) (B : BC P σ) (K : OK σ b) (K2 : ∀ i, (msk P b).testBit i = true → σ 13 i = nI (bgn P b i)) (y : Int32) (hw : ∀ s, w s = (decide (y ≠ 0) && decide (X4_isIn (σ 2 7) (nI (P 1 s)) ≠ 0))) : X2_shootable σ y = some (nI (tdy P w b)) := by
  have hn := hW.1
  have hl8 := len_8 hW hv
  have hd4 := hW.2.2.2.2.1
  have hdone := wf_done hW
  have hQ := AQ_and (OK_AQ K) (own_AQ (B := b) hv (fun _ _ => rfl))
  have hin : ∀ j x, j < b.length → sfx b (j + 1) = x :: sfx b j → (msk P b).testBit x.1 = true := by
    have mono : ∀ k j, j + k = b.length → ∀ i, (msk P (sfx b j)).testBit i = true → (msk P b).testBit i = true := by
      intro k
      induction k with
      | zero =>
        intro j hj i hi
        rw [show j = b.length by omega, sfx_len] at hi
        exact hi
      | succ k ih =>
        intro j hj i hi
        obtain ⟨x, h1, -, -⟩ := sfxQ (j := j) hQ hv (by omega)
        exact ih (j + 1) (by omega) i (by rw [h1]; exact msk_cons.mpr (Or.inl hi))
    intro j x hj h
    exact mono (b.length - (j + 1)) (j + 1) (by omega) x.1 (by rw [h]; exact msk_cons.mpr (Or.inr rfl))
  have key : ∀ k fuel j, j + k = b.length → k < fuel → X2_shootable_l4 fuel σ y (nI (tdy P w (sfx b j))) (nI j) = some (nI (tdy P w b)) := by
    intro k
    induction k with
    | zero =>
      intro fuel j hj hf
      obtain ⟨f, rfl⟩ : ∃ f, fuel = f + 1 := ⟨fuel - 1, by omega⟩
      rw [X2_shootable_l4, open_n hW B, if_pos (nI_le (by omega) (by omega)), show j = b.length by omega, sfx_len]
    | succ k ih =>
      intro fuel j hj hf
      obtain ⟨f, rfl⟩ : ∃ f, fuel = f + 1 := ⟨fuel - 1, by omega⟩
      obtain ⟨x, h1, ⟨h2, h3⟩, h4⟩ := sfxQ (j := j) hQ hv (by omega)
      have hx := h4.2.1
      have hxb := hin j x (by omega) h1
      have hbx := bgn_x hW h4
      have hx5 := B.2.2.2.2 x.1 hx
      have ha := (hW.2.1 x.1 hx).2.2.2.2.2
      have ha8 : P 4 x.1 < 256 := Nat.lt_of_lt_of_le ha (pw_le (by omega))
      have hT := tdy_256 (w := w) hW h4.1
      have hor := or_lt hdone hT
      have h := ih f (j + 1) (by omega) (by omega)
      rw [h1, tdy] at h
      rw [X2_shootable_l4, open_n hW B, if_neg (nI_ge (by omega) (by omega)), fat_n σ 12 (by omega) (by decide), h2, fat_n σ 13 (by omega) (by decide), K2 x.1 hxb, h3, dayOf_n (by omega), B.2.2.2.1]
      unfold X2_shootable_b60 X2_shootable_b89 X3_isFree
      rw [fat_n σ 9 (by omega) (by decide), hx5.2.2.2.2, B.2.1, nI_or, wo_n ha8 hor, with_n hT (by omega), nI_1]
      by_cases hday : x.2 / 24 = P 6 3
      · rw [if_pos (by rw [hday])]
        unfold X3_isOutdoors
        rw [fat_n σ 6 (by omega) (by decide), hx5.2.1]
        by_cases hah : wo (P 4 x.1) (P 6 1 ||| tdy P w (sfx b j)) = 0
        · have hah' : nI (wo (P 4 x.1) (P 6 1 ||| tdy P w (sfx b j))) = 0 := by rw [hah]; rfl
          rw [if_pos hah', if_neg (show ¬ (1 : Int32) = 0 by decide)]
          by_cases hy : y = 0
          · have hwx : w x.1 = false := by rw [hw, hy]; rfl
            rw [if_pos ⟨hday, hwx, hah⟩] at h
            rw [if_pos hy]
            exact h
          · rw [if_neg hy]
            by_cases ho : X4_isIn (σ 2 7) (nI (P 1 x.1)) = 0
            · have hwx : w x.1 = false := by rw [hw, ho]; simp
              rw [if_pos ⟨hday, hwx, hah⟩] at h
              rw [if_pos ho]
              exact h
            · have hwx : w x.1 = true := by rw [hw]; simp [hy, ho]
              rw [if_neg (fun e => by rw [hwx] at e; cases e.2.1)] at h
              rw [if_neg ho]
              exact h
        · have hah' : ¬ nI (wo (P 4 x.1) (P 6 1 ||| tdy P w (sfx b j))) = 0 := nI_ne (b := 0) (by have := wo_lt (b := P 6 1 ||| tdy P w (sfx b j)) ha8; omega) (by decide) hah
          rw [if_neg (fun e => hah e.2.2)] at h
          rw [if_neg hah', if_pos rfl]
          by_cases hy : y = 0
          · rw [if_pos hy]
            exact h
          · rw [if_neg hy]
            by_cases ho : X4_isIn (σ 2 7) (nI (P 1 x.1)) = 0
            · rw [if_pos ho]
              exact h
            · rw [if_neg ho]
              exact h
      · rw [if_neg (fun e => hday e.1)] at h
        rw [if_neg (nI_ne (by omega) (by omega) hday)]
        exact h
  have h := key b.length fuel_X2_shootable_4 0 (by omega) (by show _ < 64; omega)
  rw [sfx_0] at h
  exact h
end
theorem endDay_n {n T : Nat} (hn : n ≤ 8) (hT : T < 256) : ∀ k fuel c σ, c + k = n → k < fuel → σ 2 5 = nI n → ∃ σ1, X2_endDay_l2 fuel σ (nI T) (nI c) = some (wr (wr (wr σ1 2 6 (σ 2 6 ||| nI T)) 1 6 (σ 1 6 + 1)) 1 7 0) ∧ (∀ k i, k ≠ 11 → σ1 k i = σ k i) ∧ (∀ i, c ≤ i → i < n → T.testBit i = true → σ1 11 i = σ 13 i) ∧ ∀ i, (i < c ∨ T.testBit i = false) → σ1 11 i = σ 11 i := by
  intro k
  induction k with
  | zero =>
    intro fuel c σ hc hf h5
    obtain ⟨f, rfl⟩ : ∃ f, fuel = f + 1 := ⟨fuel - 1, by omega⟩
    refine ⟨σ, ?_, fun _ _ _ => rfl, fun i h1 h2 => by omega, fun _ _ => rfl⟩
    rw [X2_endDay_l2, h5, if_pos (nI_le (by omega) (by omega)), lt_eq, lt_eq, wr_o σ _ (by omega)]
    unfold X2_forget
    rw [lt_eq, Option.bind_some]
  | succ k ih =>
    intro fuel c σ hc hf h5
    obtain ⟨f, rfl⟩ : ∃ f, fuel = f + 1 := ⟨fuel - 1, by omega⟩
    rw [X2_endDay_l2, h5, if_neg (nI_ge (by omega) (by omega)), isIn_n hT (by omega)]
    unfold X2_endDay_b37
    cases hb : T.testBit c
    · obtain ⟨σ1, h1, h2, h3, h4⟩ := ih f (c + 1) σ (by omega) (by omega) h5
      rw [if_pos (by decide), nI_1]
      refine ⟨σ1, h1, h2, fun i a b d => h3 i (by
        rcases Nat.lt_or_ge c i with q | q
        · exact q
        · obtain rfl : i = c := by omega
          rw [hb] at d
          cases d) b d, fun i a => h4 i (a.imp (by omega) id)⟩
    · rw [if_neg (by decide), fat_n σ 13 (by omega) (by decide), fput_n σ 11 _ (by omega) (by decide), lt_eq, nI_1]
      obtain ⟨σ1, h1, h2, h3, h4⟩ := ih f (c + 1) (wr σ 11 c (σ 13 c)) (by omega) (by omega) (by rw [wr_o _ _ (by omega)]; exact h5)
      rw [wr_o σ _ (by omega), wr_o σ _ (by omega)] at h1
      refine ⟨σ1, h1, fun k i a => by rw [h2 k i a, wr_o _ _ (by omega)], fun i a b d => ?_, fun i a => ?_⟩
      · by_cases e : i = c
        · subst e
          rw [h4 i (Or.inl (by omega)), wr_at]
        · rw [h3 i (by omega) b d, wr_o _ _ (by omega)]
      · have hne : i ≠ c := by
          rintro rfl
          rcases a with a | a
          · omega
          · rw [hb] at a; cases a
        rw [h4 i (a.imp (by omega) id), wr_o _ _ (by omega)]
def shP (P : PP) (T : Nat) (b : Od) : PP := fun k i => if k = 6 then (if i = 1 then P 6 1 ||| T else if i = 3 then P 6 3 + 1 else P 6 i) else if k = 5 then (if T.testBit i = true then bgn P b i else P 5 i) else P k i
theorem shP_o {P : PP} {T : Nat} {b : Od} {k i : Nat} (h : k ≠ 6) (h5 : k ≠ 5) : shP P T b k i = P k i := by
  unfold shP
  rw [if_neg h, if_neg h5]
theorem shP_5 {P : PP} {T : Nat} {b : Od} (i : Nat) : shP P T b 5 i = if T.testBit i = true then bgn P b i else P 5 i := rfl
theorem shP_Wf {P : PP} {w : Nat → Bool} {b : Od} (hW : Wf P) (hv : Vd P b) (hd : P 6 3 ≠ 1000) : Wf (shP P (tdy P w b) b) := by
  have hd4 := hW.2.2.2.2.1
  refine ⟨hW.1, fun i hi => ?_, Nat.or_lt_two_pow hW.2.2.1 (tdy_lt hW hv), hW.2.2.2.1, by show P 6 3 + 1 ≤ 1000; omega, fun i hi hb => ?_⟩
  · rw [shP_o (by decide) (by decide), shP_o (by decide) (by decide), shP_o (by decide) (by decide), shP_o (by decide) (by decide), shP_o (by decide) (by decide)]
    exact hW.2.1 i hi
  · have hb : (P 6 1 ||| tdy P w b).testBit i = true := hb
    have hi : i < P 6 0 := hi
    rw [shP_5, shP_o (k := 0) (by decide) (by decide), shP_o (k := 4) (by decide) (by decide)]
    show _ / 24 < P 6 3 + 1 ∧ _ ∧ ∀ j, _ → (P 6 1 ||| tdy P w b).testBit j = true
    cases hT : (tdy P w b).testBit i
    · rw [if_neg (by decide)]
      rw [Nat.testBit_or, hT, Bool.or_false] at hb
      have h := hW.2.2.2.2.2 i hi hb
      refine ⟨by omega, h.2.1, fun j hj => ?_⟩
      rw [Nat.testBit_or, h.2.2 j hj]
      rfl
    · rw [if_pos rfl]
      have h := tdy_in hv i hT
      have hG := (Gd_of hW hv).2 i h.1
      exact ⟨by omega, hG.2, fun j hj => tdy_ah hW hv i hT j hj⟩
