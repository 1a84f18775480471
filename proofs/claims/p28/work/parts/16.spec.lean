/-! The plan, in mathematics. A problem P: rows 0 hours, 1 places, 2 players, 3 lights, 4 what must be ahead, 5 when a shot scene began; row 6: 0 how many scenes, 1 the shot ones, 2 the children, 3 today. An order: its scenes with the hours in which they begin, the last one first. -/
abbrev PP : Type := Nat → Nat → Nat
abbrev Od : Type := List (Nat × Nat)
/-- the scenes that were shot and those of the order, as a set -/
def msk (P : PP) : Od → Nat
  | [] => P 6 1
  | x :: t => msk P t ||| 2 ^ x.1
def bgn (P : PP) : Od → Nat → Nat
  | [], i => P 5 i
  | x :: t, i => if i = x.1 then x.2 else bgn P t i
def day0 (P : PP) : Od → Nat
  | [] => P 6 3
  | x :: _ => x.2 / 24
def hr0 (P : PP) (s day : Nat) : Od → Nat
  | [] => 0
  | x :: _ => if x.2 / 24 = day then x.2 + P 0 x.1 + (if P 1 x.1 = P 1 s then 0 else 1) else 0
def dwn (P : PP) (s day : Nat) : Nat := 24 * day + (if P 3 s = 2 then 18 else 8)
/-- what the rest behind scene i asks of scene s on a day -/
def gr (P : PP) (o : Od) (s day i : Nat) : Nat := if (msk P o).testBit i = true ∧ P 2 i &&& P 2 s ≠ 0 ∧ bgn P o i / 24 < day then bgn P o i + P 0 i + 11 else 0
def cnd (P : PP) (o : Od) (s day : Nat) : Nat := max (max (hr0 P s day o) (dwn P s day)) (mx (P 6 0) (gr P o s day))
def cls (P : PP) (s day : Nat) : Nat := 24 * day + (if P 3 s = 1 then 18 else 24)
/-- the hours of a player on a day -/
def kid (P : PP) (o : Od) (p day : Nat) : Nat := sm (P 6 0) (fun i => if (msk P o).testBit i = true ∧ bgn P o i / 24 = day ∧ (P 2 i).testBit p = true then P 0 i else 0)
def fitC (P : PP) (o : Od) (s day : Nat) : Prop := ∀ p, p < 6 → (P 6 2 &&& P 2 s).testBit p = true → kid P o p day + P 0 s ≤ 6
def okd (P : PP) (o : Od) (s day : Nat) : Prop := cnd P o s day + P 0 s ≤ cls P s day ∧ fitC P o s day
theorem okd_dec (P : PP) (o : Od) (s day : Nat) : okd P o s day ∨ ¬ okd P o s day := Classical.em _
noncomputable def plc (P : PP) (o : Od) (s : Nat) : Nat := by
  classical
  exact if okd P o s (day0 P o) then cnd P o s (day0 P o) else cnd P o s (day0 P o + 1)
theorem plc_t {P : PP} {o : Od} {s : Nat} (h : okd P o s (day0 P o)) : plc P o s = cnd P o s (day0 P o) := by unfold plc; rw [if_pos h]
theorem plc_f {P : PP} {o : Od} {s : Nat} (h : ¬ okd P o s (day0 P o)) : plc P o s = cnd P o s (day0 P o + 1) := by unfold plc; rw [if_neg h]
def canF (P : PP) (o : Od) (s : Nat) : Bool := !(msk P o).testBit s && decide (wo (P 4 s) (msk P o) = 0)
def dys (P : PP) : Od → Nat
  | [] => 0
  | x :: _ => x.2 / 24 - P 6 3 + 1
def bet (P : PP) (a : Option Od) (o : Od) : Option Od := match a with
  | none => some o
  | some b => if dys P o < dys P b then some o else some b
/-- from c on, k times -/
def fdl {α : Type} (g : Nat → α → α) : Nat → Nat → α → α
  | 0, _, a => a
  | k + 1, c, a => fdl g k (c + 1) (g c a)
/-- trying all orders by rising rows of numbers; the first of the best stays -/
noncomputable def srch (P : PP) : Nat → Od → Option Od → Option Od
  | 0, o, a => bet P a o
  | r + 1, o, a => fdl (fun s a => if canF P o s = true then srch P r ((s, plc P o s) :: o) a else a) (P 6 0) 0 a
noncomputable def fewe (P : PP) : Nat → Od → Nat
  | 0, o => dys P o
  | r + 1, o => fdl (fun s a => if canF P o s = true then min a (fewe P r ((s, plc P o s) :: o)) else a) (P 6 0) 0 9
/-- o1 completes o by r scenes -/
def Cmp (P : PP) : Nat → Od → Od → Prop
  | 0, o, o1 => o1 = o
  | r + 1, o, o1 => ∃ s, s < P 6 0 ∧ canF P o s = true ∧ Cmp P r ((s, plc P o s) :: o) o1
/-- how many scenes are open yet -/
def rem (P : PP) (o : Od) : Nat := sm (P 6 0) (fun i => if (msk P o).testBit i = true then 0 else 1)
/-- what is asked of a problem -/
def Wf (P : PP) : Prop :=
  P 6 0 ≤ 8 ∧ (∀ i, i < P 6 0 → 1 ≤ P 0 i ∧ P 0 i ≤ 6 ∧ P 1 i ≤ 3 ∧ P 2 i ≤ 63 ∧ P 3 i ≤ 2 ∧ P 4 i < 2 ^ i) ∧ P 6 1 < 2 ^ P 6 0 ∧ P 6 2 ≤ 63 ∧ P 6 3 ≤ 1000 ∧
  (∀ i, i < P 6 0 → (P 6 1).testBit i = true → P 5 i / 24 < P 6 3 ∧ P 5 i % 24 + P 0 i ≤ 24 ∧ ∀ j, (P 4 i).testBit j = true → (P 6 1).testBit j = true)
/-- an order that was built by the rules -/
def Vd (P : PP) : Od → Prop
  | [] => True
  | x :: t => Vd P t ∧ x.1 < P 6 0 ∧ canF P t x.1 = true ∧ x.2 = plc P t x.1
theorem wf_done {P : PP} (h : Wf P) : P 6 1 < 256 := Nat.lt_of_lt_of_le h.2.2.1 (show 2 ^ P 6 0 ≤ 2 ^ 8 from Nat.pow_le_pow_right (by decide) h.1)
theorem msk_lt {P : PP} (h : Wf P) : ∀ {o : Od}, Vd P o → msk P o < 2 ^ P 6 0
  | [], _ => h.2.2.1
  | x :: t, hv => Nat.or_lt_two_pow (msk_lt h hv.1) (Nat.pow_lt_pow_right (by decide) hv.2.1)
theorem msk_256 {P : PP} (h : Wf P) {o : Od} (hv : Vd P o) : msk P o < 256 := Nat.lt_of_lt_of_le (msk_lt h hv) (show 2 ^ P 6 0 ≤ 2 ^ 8 from Nat.pow_le_pow_right (by decide) h.1)
theorem msk_n {P : PP} (h : Wf P) {o : Od} (hv : Vd P o) {i : Nat} (hi : (msk P o).testBit i = true) : i < P 6 0 := by
  rcases Nat.lt_or_ge i (P 6 0) with q | q
  · exact q
  · rw [Nat.testBit_lt_two_pow (Nat.lt_of_lt_of_le (msk_lt h hv) (Nat.pow_le_pow_right (by decide) q))] at hi
    cases hi
theorem msk_in {P : PP} {o : Od} {i : Nat} (hi : (msk P o).testBit i = true) : (P 6 1).testBit i = true ∨ ∃ b, (i, b) ∈ o := by
  induction o with
  | nil => exact Or.inl hi
  | cons x t ih =>
    rw [msk, or_tb, Bool.or_eq_true, decide_eq_true_eq] at hi
    rcases hi with hi | hi
    · rcases ih hi with h | ⟨b, h⟩
      · exact Or.inl h
      · exact Or.inr ⟨b, List.mem_cons_of_mem _ h⟩
    · subst hi
      exact Or.inr ⟨x.2, List.mem_cons_self⟩
theorem canF_t {P : PP} {o : Od} {s : Nat} (h : canF P o s = true) : (msk P o).testBit s = false ∧ wo (P 4 s) (msk P o) = 0 := by
  unfold canF at h
  rw [Bool.and_eq_true, Bool.not_eq_true', decide_eq_true_eq] at h
  exact h
/-- the shot scenes come with their own hours, those of the order with theirs -/
theorem msk_cons {P : PP} {x : Nat × Nat} {t : Od} {i : Nat} : (msk P (x :: t)).testBit i = true ↔ (msk P t).testBit i = true ∨ i = x.1 := by
  rw [msk, or_tb, Bool.or_eq_true, decide_eq_true_eq]
  constructor
  · rintro (h | h)
    · exact Or.inl h
    · exact Or.inr h.symm
  · rintro (h | h)
    · exact Or.inl h
    · exact Or.inr h.symm
/-- all that is said of hours of an order that was built by the rules -/
def Gd (P : PP) (o : Od) : Prop := P 6 3 ≤ day0 P o ∧ ∀ i, (msk P o).testBit i = true → bgn P o i / 24 ≤ day0 P o ∧ bgn P o i % 24 + P 0 i ≤ 24
theorem end_le {P : PP} {o : Od} {i d : Nat} (h : bgn P o i % 24 + P 0 i ≤ 24) (hd : bgn P o i / 24 < d) : bgn P o i + P 0 i ≤ 24 * d := by omega
theorem gr_le {P : PP} {o : Od} {s d : Nat} (hG : Gd P o) (i : Nat) : gr P o s d i ≤ 24 * d + 11 := by
  unfold gr
  by_cases h : (msk P o).testBit i = true ∧ P 2 i &&& P 2 s ≠ 0 ∧ bgn P o i / 24 < d
  · rw [if_pos h]
    have h1 := hG.2 i h.1
    have h2 := end_le h1.2 h.2.2
    omega
  · rw [if_neg h]; omega
/-- a day without scenes has room -/
theorem free_day {P : PP} (hW : Wf P) {o : Od} {s d : Nat} (hs : s < P 6 0) (hG : Gd P o) (h0 : hr0 P s d o = 0) (hno : ∀ i, i < P 6 0 → (msk P o).testBit i = true → bgn P o i / 24 ≠ d) : okd P o s d := by
  have hh := hW.2.1 s hs
  have hm : mx (P 6 0) (gr P o s d) ≤ 24 * d + 11 := mx_le (fun i _ => gr_le hG i)
  refine ⟨?_, fun p hp _ => ?_⟩
  · unfold cnd cls dwn
    rw [h0]
    by_cases h2 : P 3 s = 2
    · rw [if_pos h2, if_neg (by omega)]; omega
    · rw [if_neg h2]
      split <;> omega
  · unfold kid
    rw [sm_0 (fun i hi => if_neg (fun h => hno i hi h.1 h.2.1))]
    omega
theorem cnd_day {P : PP} {o : Od} {s d : Nat} (hW : Wf P) (hs : s < P 6 0) (h : okd P o s d) : cnd P o s d / 24 = d ∧ cnd P o s d % 24 + P 0 s ≤ 24 := by
  have hh := hW.2.1 s hs
  have h1 := h.1
  have h2 : dwn P s d ≤ cnd P o s d := Nat.le_trans (Nat.le_max_right _ _) (Nat.le_max_left _ _)
  have h3 : 24 * d ≤ dwn P s d := Nat.le_add_right _ _
  have h4 : cls P s d ≤ 24 * d + 24 := by unfold cls; split <;> omega
  constructor <;> omega
/-- where a scene is put -/
theorem plc_spec {P : PP} (hW : Wf P) {o : Od} {s : Nat} (hs : s < P 6 0) (hG : Gd P o) (hd : ∀ x t, o = x :: t → (msk P o).testBit x.1 = true ∧ bgn P o x.1 = x.2) :
    ∃ d, okd P o s d ∧ plc P o s = cnd P o s d ∧ (d = day0 P o ∨ (d = day0 P o + 1 ∧ hr0 P s d o = 0)) ∧ (o = [] → d = P 6 3) := by
  by_cases h : okd P o s (day0 P o)
  · exact ⟨_, h, plc_t h, Or.inl rfl, fun e => by rw [e]; rfl⟩
  · have h0 : hr0 P s (day0 P o + 1) o = 0 := by
      cases o with
      | nil => rfl
      | cons x t => rw [hr0, if_neg]; show ¬ x.2 / 24 = x.2 / 24 + 1; omega
    refine ⟨_, free_day hW hs hG h0 (fun i _ hi => ?_), plc_f h, Or.inr ⟨rfl, h0⟩, fun e => ?_⟩
    · have := (hG.2 i hi).1; omega
    · exfalso
      subst e
      refine h (free_day hW hs hG rfl (fun i hi hi2 => ?_))
      have := (hW.2.2.2.2.2 i hi hi2).1
      show P 5 i / 24 ≠ P 6 3
      omega
theorem bgn_ne {P : PP} {x : Nat × Nat} {t : Od} {i : Nat} (h : i ≠ x.1) : bgn P (x :: t) i = bgn P t i := by rw [bgn, if_neg h]
theorem bgn_eq {P : PP} {x : Nat × Nat} {t : Od} : bgn P (x :: t) x.1 = x.2 := by rw [bgn, if_pos rfl]
theorem hd_of {P : PP} {o : Od} : ∀ x t, o = x :: t → (msk P o).testBit x.1 = true ∧ bgn P o x.1 = x.2 := by
  rintro x t rfl
  exact ⟨msk_cons.mpr (Or.inr rfl), bgn_eq⟩
theorem Gd_of {P : PP} (hW : Wf P) : ∀ {o : Od}, Vd P o → Gd P o
  | [], _ => ⟨Nat.le_refl _, fun i hi => by
      have hn : i < P 6 0 := by
        rcases Nat.lt_or_ge i (P 6 0) with q | q
        · exact q
        · have hi : (P 6 1).testBit i = true := hi
          rw [Nat.testBit_lt_two_pow (Nat.lt_of_lt_of_le hW.2.2.1 (Nat.pow_le_pow_right (by decide) q))] at hi
          cases hi
      have h := hW.2.2.2.2.2 i hn hi
      exact ⟨by show P 5 i / 24 ≤ P 6 3; omega, h.2.1⟩⟩
  | x :: t, hv => by
    obtain ⟨hvt, hx, hc, he⟩ := hv
    have hG := Gd_of hW hvt
    obtain ⟨d, h1, h2, h3, -⟩ := plc_spec hW hx hG hd_of
    obtain ⟨h4, h5⟩ := cnd_day hW hx h1
    rw [← h2, ← he] at h4 h5
    have hdd : day0 P t ≤ d := by rcases h3 with h3 | h3 <;> omega
    refine ⟨by show P 6 3 ≤ x.2 / 24; have := hG.1; omega, fun i hi => ?_⟩
    by_cases hix : i = x.1
    · subst hix
      rw [bgn_eq]
      exact ⟨Nat.le_refl _, h5⟩
    · rw [bgn_ne hix]
      rcases msk_cons.mp hi with h | h
      · have h6 := hG.2 i h
        refine ⟨?_, h6.2⟩
        show _ ≤ x.2 / 24
        omega
      · exact absurd h hix
/-- the step of a scene that is put -/
theorem step {P : PP} (hW : Wf P) {o : Od} (hv : Vd P o) {s : Nat} (hs : s < P 6 0) : ∃ d, okd P o s d ∧ plc P o s = cnd P o s d ∧ (d = day0 P o ∨ (d = day0 P o + 1 ∧ hr0 P s d o = 0)) ∧ (o = [] → d = P 6 3) ∧ plc P o s / 24 = d ∧ plc P o s % 24 + P 0 s ≤ 24 := by
  obtain ⟨d, h1, h2, h3, h4⟩ := plc_spec hW hs (Gd_of hW hv) hd_of
  obtain ⟨h5, h6⟩ := cnd_day hW hs h1
  exact ⟨d, h1, h2, h3, h4, by rw [h2]; exact h5, by rw [h2]; exact h6⟩
theorem days_len {P : PP} (hW : Wf P) : ∀ {o : Od}, Vd P o → day0 P o + 1 ≤ P 6 3 + o.length + (if o = [] then 1 else 0)
  | [], _ => by simp [day0]
  | x :: t, hv => by
    obtain ⟨hvt, hx, hc, he⟩ := hv
    have ih := days_len hW hvt
    obtain ⟨d, h1, h2, h3, h4, h5, h6⟩ := step hW hvt hx
    rw [← he] at h5
    show x.2 / 24 + 1 ≤ P 6 3 + (t.length + 1) + 0
    cases t with
    | nil => have := h4 rfl; simp only [List.length_nil]; omega
    | cons y t =>
      rw [if_neg (by simp)] at ih
      rcases h3 with h3 | h3 <;> omega
theorem rem_cons {P : PP} {x : Nat × Nat} {t : Od} (hx : x.1 < P 6 0) (hc : canF P t x.1 = true) : rem P t = rem P (x :: t) + 1 := by
  have h0 := (canF_t hc).1
  unfold rem
  have h := sm_one (n := P 6 0) (s := x.1) (f := fun i => if (msk P t).testBit i = true then 0 else 1) (g := fun i => if (msk P (x :: t)).testBit i = true then 0 else 1) hx (fun i _ hi => by
    by_cases hb : (msk P t).testBit i = true
    · simp only [if_pos hb, if_pos (msk_cons.mpr (Or.inl hb))]
    · have : ¬ (msk P (x :: t)).testBit i = true := fun h => (msk_cons.mp h).elim hb hi
      simp only [if_neg hb, if_neg this]) (if_pos (msk_cons.mpr (Or.inr rfl)))
  rw [h]
  simp only [h0, Bool.false_eq_true, if_false]
theorem rem_len {P : PP} : ∀ {o : Od}, Vd P o → rem P o + o.length = rem P []
  | [], _ => rfl
  | x :: t, hv => by
    have h := rem_len hv.1
    have h2 := rem_cons hv.2.1 hv.2.2.1
    simp only [List.length_cons]
    omega
theorem rem_8 {P : PP} (hW : Wf P) (o : Od) : rem P o ≤ 8 := by
  have h : rem P o ≤ P 6 0 * 1 := sm_le (fun i _ => by split <;> omega)
  have := hW.1
  omega
theorem len_8 {P : PP} (hW : Wf P) {o : Od} (hv : Vd P o) : o.length ≤ 8 := by
  have := rem_len hv
  have := rem_8 hW []
  omega
theorem dys_8 {P : PP} (hW : Wf P) {o : Od} (hv : Vd P o) : dys P o ≤ 8 := by
  cases o with
  | nil => exact Nat.zero_le _
  | cons x t =>
    have h := days_len hW hv
    have h2 := len_8 hW hv
    rw [if_neg (by simp)] at h
    show x.2 / 24 - P 6 3 + 1 ≤ 8
    change x.2 / 24 + 1 ≤ _ at h
    omega
theorem Cmp_Vd {P : PP} : ∀ {r : Nat} {o o1 : Od}, Vd P o → Cmp P r o o1 → Vd P o1
  | 0, o, o1, hv, h => by rw [show o1 = o from h]; exact hv
  | r + 1, o, o1, hv, ⟨s, hs, hc, h⟩ => Cmp_Vd (o := (s, plc P o s) :: o) ⟨hv, hs, hc, rfl⟩ h
/-- as long as a scene is open, one may follow -/
theorem may_follow {P : PP} (hW : Wf P) {o : Od} (hv : Vd P o) (h : rem P o ≠ 0) : ∃ s, s < P 6 0 ∧ canF P o s = true := by
  have hex : ∃ s, s < P 6 0 ∧ (msk P o).testBit s = false := by
    obtain ⟨i, hi, hf⟩ := sm_pos h
    refine ⟨i, hi, ?_⟩
    cases hb : (msk P o).testBit i
    · rfl
    · rw [if_pos hb] at hf
      exact absurd rfl hf
  have least : ∀ k, (∃ s, s < k ∧ s < P 6 0 ∧ (msk P o).testBit s = false) → ∃ s, s < P 6 0 ∧ (msk P o).testBit s = false ∧ ∀ j, j < s → (msk P o).testBit j = true := by
    intro k
    induction k with
    | zero => rintro ⟨s, h, -⟩; omega
    | succ k ih =>
      rintro ⟨s, h1, h2, h3⟩
      by_cases hk : ∃ s, s < k ∧ s < P 6 0 ∧ (msk P o).testBit s = false
      · exact ih hk
      · refine ⟨s, h2, h3, fun j hj => ?_⟩
        cases hb : (msk P o).testBit j
        · exact absurd ⟨j, by omega, by omega, hb⟩ hk
        · rfl
  obtain ⟨s0, h1, h2⟩ := hex
  obtain ⟨s, hs, hb, hl⟩ := least (s0 + 1) ⟨s0, by omega, h1, h2⟩
  refine ⟨s, hs, ?_⟩
  have ha := (hW.2.1 s hs).2.2.2.2.2
  have ha8 : P 4 s < 256 := Nat.lt_of_lt_of_le ha (show 2 ^ s ≤ 2 ^ 8 from Nat.pow_le_pow_right (by decide) (by have := hW.1; omega))
  unfold canF
  rw [hb, Bool.not_false, Bool.true_and, decide_eq_true_eq, wo_0 ha8 (msk_256 hW hv)]
  intro i _ hi
  refine hl i ?_
  rcases Nat.lt_or_ge i s with q | q
  · exact q
  · rw [Nat.testBit_lt_two_pow (Nat.lt_of_lt_of_le ha (Nat.pow_le_pow_right (by decide) q))] at hi
    cases hi
theorem Cmp_ex {P : PP} (hW : Wf P) : ∀ {r : Nat} {o : Od}, Vd P o → rem P o = r → ∃ o1, Cmp P r o o1
  | 0, o, _, _ => ⟨o, rfl⟩
  | r + 1, o, hv, hr => by
    obtain ⟨s, hs, hc⟩ := may_follow hW hv (by omega)
    have h := rem_cons (x := (s, plc P o s)) hs hc
    obtain ⟨o1, h1⟩ := Cmp_ex hW (r := r) (o := (s, plc P o s) :: o) ⟨hv, hs, hc, rfl⟩ (by omega)
    exact ⟨o1, s, hs, hc, h1⟩
/-- days only grow -/
theorem Cmp_days {P : PP} (hW : Wf P) : ∀ {r : Nat} {o o1 : Od}, Vd P o → Cmp P r o o1 → dys P o ≤ dys P o1
  | 0, o, o1, hv, h => by rw [show o1 = o from h]; exact Nat.le_refl _
  | r + 1, o, o1, hv, ⟨s, hs, hc, h⟩ => by
    have hv2 : Vd P ((s, plc P o s) :: o) := ⟨hv, hs, hc, rfl⟩
    refine Nat.le_trans ?_ (Cmp_days hW hv2 h)
    obtain ⟨d, h1, h2, h3, h4, h5, h6⟩ := step hW hv hs
    cases o with
    | nil => exact Nat.zero_le _
    | cons x t =>
      show x.2 / 24 - P 6 3 + 1 ≤ plc P (x :: t) s / 24 - P 6 3 + 1
      have h7 : day0 P (x :: t) = x.2 / 24 := rfl
      rcases h3 with h3 | h3 <;> omega
def dac (P : PP) : Option Od → Nat
  | none => 9
  | some o => dys P o
theorem fdl_id {α : Type} {g : Nat → α → α} {a : α} : ∀ {k c : Nat}, (∀ s, c ≤ s → s < c + k → g s a = a) → fdl g k c a = a
  | 0, _, _ => rfl
  | k + 1, c, h => by
    rw [fdl, h c (Nat.le_refl _) (by omega)]
    exact fdl_id (fun s h1 h2 => h s (by omega) (by omega))
/-- nothing is found where all have as many days -/
theorem srch_id {P : PP} (hW : Wf P) : ∀ {r : Nat} {o : Od} {a : Option Od}, Vd P o → (∀ o1, Cmp P r o o1 → dac P a ≤ dys P o1) → srch P r o a = a
  | 0, o, a, hv, h => by
    have h1 := h o rfl
    have h2 := dys_8 hW hv
    cases a with
    | none => exact absurd h1 (by show ¬ 9 ≤ _; omega)
    | some b =>
      show (if dys P o < dys P b then some o else some b) = some b
      rw [if_neg (by have : dac P (some b) = dys P b := rfl; omega)]
  | r + 1, o, a, hv, h => by
    rw [srch]
    refine fdl_id (fun s _ hs => ?_)
    by_cases hc : canF P o s = true
    · rw [if_pos hc]
      exact srch_id hW ⟨hv, by omega, hc, rfl⟩ (fun o1 h1 => h o1 ⟨s, by omega, hc, h1⟩)
    · rw [if_neg hc]
theorem fdl_min {g : Nat → Nat → Nat} (hg : ∀ s x y, g s (min x y) = min x (g s y)) : ∀ (k c x y : Nat), fdl g k c (min x y) = min x (fdl g k c y)
  | 0, _, _, _ => rfl
  | k + 1, c, x, y => by rw [fdl, fdl, hg]; exact fdl_min hg k (c + 1) x (g c y)
/-- the days of what is found are the fewest -/
theorem srch_fewe {P : PP} (hW : Wf P) : ∀ {r : Nat} {o : Od} {a : Option Od}, Vd P o → dac P a ≤ 9 → dac P (srch P r o a) = min (dac P a) (fewe P r o)
  | 0, o, a, hv, hA => by
    have h2 := dys_8 hW hv
    cases a with
    | none => show dys P o = min 9 (dys P o); omega
    | some b =>
      show dac P (if dys P o < dys P b then some o else some b) = min (dys P b) (dys P o)
      split
      · show dys P o = _; omega
      · show dys P b = _; omega
  | r + 1, o, a, hv, hA => by
    have hg : ∀ s x y, (fun s a => if canF P o s = true then min a (fewe P r ((s, plc P o s) :: o)) else a) s (min x y) = min x ((fun s a => if canF P o s = true then min a (fewe P r ((s, plc P o s) :: o)) else a) s y) := by
      intro s x y
      dsimp only
      by_cases h : canF P o s = true
      · rw [if_pos h, if_pos h]; omega
      · rw [if_neg h, if_neg h]
    have key : ∀ (k c : Nat) (a : Option Od), c + k ≤ P 6 0 → dac P a ≤ 9 → dac P (fdl (fun s a => if canF P o s = true then srch P r ((s, plc P o s) :: o) a else a) k c a) = min (dac P a) (fdl (fun s a => if canF P o s = true then min a (fewe P r ((s, plc P o s) :: o)) else a) k c 9) := by
      intro k
      induction k with
      | zero => intro c a _ hA; show dac P a = min (dac P a) 9; omega
      | succ k ih =>
        intro c a hc hA
        rw [fdl, fdl]
        by_cases h : canF P o c = true
        · rw [if_pos h, if_pos h]
          have h1 := srch_fewe hW (r := r) (o := (c, plc P o c) :: o) (a := a) ⟨hv, by omega, h, rfl⟩ hA
          rw [ih (c + 1) _ (by omega) (by omega), h1, Nat.min_comm 9, fdl_min hg, Nat.min_assoc]
        · rw [if_neg h, if_neg h]
          exact ih (c + 1) a (by omega) hA
    rw [srch, fewe]
    exact key (P 6 0) 0 a (by omega) hA
theorem fewe_8 {P : PP} (hW : Wf P) {r : Nat} {o : Od} (hv : Vd P o) (hr : rem P o = r) : fewe P r o ≤ 8 := by
  obtain ⟨o1, h1⟩ := Cmp_ex hW hv hr
  have key : ∀ {r : Nat} {o : Od}, Vd P o → Cmp P r o o1 → fewe P r o ≤ dys P o1 := by
    intro r
    induction r with
    | zero => intro o _ h; rw [show o1 = o from h]; exact Nat.le_refl _
    | succ r ih =>
      rintro o hv ⟨s, hs, hc, h⟩
      have h2 := ih (o := (s, plc P o s) :: o) ⟨hv, hs, hc, rfl⟩ h
      have hg : ∀ s x y, (fun s a => if canF P o s = true then min a (fewe P r ((s, plc P o s) :: o)) else a) s (min x y) = min x ((fun s a => if canF P o s = true then min a (fewe P r ((s, plc P o s) :: o)) else a) s y) := by
        intro s x y
        dsimp only
        by_cases h : canF P o s = true
        · rw [if_pos h, if_pos h]; omega
        · rw [if_neg h, if_neg h]
      have lo : ∀ (k c x : Nat), fdl (fun s a => if canF P o s = true then min a (fewe P r ((s, plc P o s) :: o)) else a) k c x ≤ x := by
        intro k
        induction k with
        | zero => intro c x; exact Nat.le_refl _
        | succ k ih2 =>
          intro c x
          rw [fdl]
          refine Nat.le_trans (ih2 (c + 1) _) ?_
          split <;> omega
      have low : ∀ (k c x : Nat), c ≤ s → s < c + k → fdl (fun s a => if canF P o s = true then min a (fewe P r ((s, plc P o s) :: o)) else a) k c x ≤ fewe P r ((s, plc P o s) :: o) := by
        intro k
        induction k with
        | zero => intro c x h1 h2; omega
        | succ k ih2 =>
          intro c x h1 h2
          rw [fdl]
          by_cases hcs : c = s
          · subst hcs
            rw [if_pos hc]
            exact Nat.le_trans (lo k (c + 1) _) (Nat.min_le_right _ _)
          · exact ih2 (c + 1) _ (by omega) (by omega)
      rw [fewe]
      exact Nat.le_trans (low (P 6 0) 0 9 (Nat.zero_le _) (by omega)) h2
  exact Nat.le_trans (key hv h1) (dys_8 hW (Cmp_Vd hv h1))
/-- a plan is found -/
theorem srch_some {P : PP} (hW : Wf P) : ∃ o, srch P (rem P []) [] none = some o := by
  have h1 := srch_fewe hW (r := rem P []) (o := []) (a := none) trivial (Nat.le_refl _)
  have h2 := fewe_8 hW (r := rem P []) (o := []) trivial rfl
  cases h : srch P (rem P []) [] none with
  | some o => exact ⟨o, rfl⟩
  | none =>
    rw [h] at h1
    have h3 : dac P none = 9 := rfl
    omega
