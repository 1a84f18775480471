/-! The plan, to be counted: the search with the class's leaving out, in numbers. -/
def fitb (P : PP) (o : Od) (s day : Nat) : Nat → Bool
  | 0 => true
  | p + 1 => fitb P o s day p && (!(P 6 2 &&& P 2 s).testBit p || Nat.ble (kid P o p day + P 0 s) 6)
theorem fitb_t {P : PP} {o : Od} {s day : Nat} : ∀ {n : Nat}, fitb P o s day n = true ↔ ∀ p, p < n → (P 6 2 &&& P 2 s).testBit p = true → kid P o p day + P 0 s ≤ 6
  | 0 => ⟨fun _ p hp => absurd hp (Nat.not_lt_zero _), fun _ => rfl⟩
  | n + 1 => by
    rw [fitb, Bool.and_eq_true, fitb_t (n := n), Bool.or_eq_true]
    constructor
    · rintro ⟨h1, h2⟩ p hp hb
      by_cases e : p = n
      · subst e
        rcases h2 with h2 | h2
        · rw [hb] at h2; cases h2
        · exact Nat.le_of_ble_eq_true h2
      · exact h1 p (by omega) hb
    · intro h
      refine ⟨fun p hp => h p (by omega), ?_⟩
      cases hb : (P 6 2 &&& P 2 s).testBit n
      · exact Or.inl rfl
      · exact Or.inr (Nat.ble_eq_true_of_le (h n (by omega) hb))
def okb (P : PP) (o : Od) (s day : Nat) : Bool := Nat.ble (cnd P o s day + P 0 s) (cls P s day) && fitb P o s day 6
theorem okb_t {P : PP} {o : Od} {s day : Nat} : okb P o s day = true ↔ okd P o s day := by
  unfold okb okd fitC
  rw [Bool.and_eq_true, fitb_t]
  exact ⟨fun h => ⟨Nat.le_of_ble_eq_true h.1, h.2⟩, fun h => ⟨Nat.ble_eq_true_of_le h.1, h.2⟩⟩
def plcb (P : PP) (o : Od) (s : Nat) : Nat := match okb P o s (day0 P o) with
  | true => cnd P o s (day0 P o)
  | false => cnd P o s (day0 P o + 1)
theorem plcb_eq (P : PP) (o : Od) (s : Nat) : plcb P o s = plc P o s := by
  unfold plcb
  cases h : okb P o s (day0 P o)
  · rw [plc_f (fun e => by rw [okb_t.mpr e] at h; cases h)]
  · rw [plc_t (okb_t.mp h)]
def kidb (P : PP) (o : Od) (sp : Nat) : Nat → Bool
  | 0 => true
  | p + 1 => kidb P o sp p && (!(P 6 2).testBit p || Nat.ble (rw_ P (wK P p) o + kid P o p (day0 P o)) (6 * (sp + 1)))
theorem kidb_t {P : PP} {o : Od} {sp : Nat} : ∀ {n : Nat}, (∀ p, p < n → (P 6 2).testBit p = true → rw_ P (wK P p) o + kid P o p (day0 P o) ≤ 6 * (sp + 1)) → kidb P o sp n = true
  | 0, _ => rfl
  | n + 1, h => by
    rw [kidb, Bool.and_eq_true, Bool.or_eq_true]
    refine ⟨kidb_t (fun p hp => h p (by omega)), ?_⟩
    cases hb : (P 6 2).testBit n
    · exact Or.inl rfl
    · exact Or.inr (Nat.ble_eq_true_of_le (h n (by omega) hb))
def roomc (P : PP) (o : Od) (bD : Nat) : Bool := Nat.blt (dys P o) bD && (Nat.ble (rw_ P (P 0) o) (24 - le_ P o + (bD - 1 - dys P o) * 16) && (Nat.ble (rw_ P (wL P 1) o) ((18 - le_ P o) + (bD - 1 - dys P o) * 10) && (Nat.ble (rw_ P (wL P 2) o) (24 - max 18 (le_ P o) + (bD - 1 - dys P o) * 6) && kidb P o (bD - 1 - dys P o) 6)))
theorem roomc_t {P : PP} {o : Od} {bD : Nat} (h : room P o bD) : roomc P o bD = true := by
  obtain ⟨h1, h2, h3, h4, h5⟩ := h
  unfold roomc
  rw [Bool.and_eq_true, Bool.and_eq_true, Bool.and_eq_true, Bool.and_eq_true]
  exact ⟨Nat.ble_eq_true_of_le h1, Nat.ble_eq_true_of_le h2, Nat.ble_eq_true_of_le h3, Nat.ble_eq_true_of_le h4, kidb_t h5⟩
/-- a number is counted before it is used -/
def frc {α : Type} (n : Nat) (f : Nat → α) : α := match n with
  | 0 => f 0
  | k + 1 => f (k + 1)
theorem frc_e {α : Type} (n : Nat) (f : Nat → α) : frc n f = f n := by cases n <;> rfl
def srb (P : PP) : Nat → Od → Option Od → Option Od
  | 0, o, a => bet P a o
  | r + 1, o, a => fdl (fun s a => match canF P o s with
    | true => frc (plcb P o s) (fun b => match roomc P ((s, b) :: o) (dac P a) with
      | true => srb P r ((s, b) :: o) a
      | false => a)
    | false => a) (P 6 0) 0 a
theorem srb_eq {P : PP} (hW : Wf P) : ∀ (r : Nat) {o : Od} {a : Option Od}, Vd P o → rem P o = r → dac P a ≤ 9 → srb P r o a = srch P r o a
  | 0, _, _, _, _, _ => rfl
  | r + 1, o, a, hv, hr, hA => by
    have key : ∀ (k c : Nat) (a : Option Od), c + k ≤ P 6 0 → dac P a ≤ 9 → fdl (fun s a => match canF P o s with
        | true => frc (plcb P o s) (fun b => match roomc P ((s, b) :: o) (dac P a) with
          | true => srb P r ((s, b) :: o) a
          | false => a)
        | false => a) k c a = fdl (fun s a => if canF P o s = true then srch P r ((s, plc P o s) :: o) a else a) k c a := by
      intro k
      induction k with
      | zero => intro c a _ _; rfl
      | succ k ih =>
        intro c a hc hA
        rw [fdl, fdl]
        cases hcf : canF P o c
        · rw [if_neg (by decide)]
          exact ih (c + 1) a (by omega) hA
        · rw [if_pos rfl]
          have hv1 : Vd P ((c, plc P o c) :: o) := ⟨hv, by omega, hcf, rfl⟩
          have hr1 : rem P ((c, plc P o c) :: o) = r := by
            have := rem_cons (x := (c, plc P o c)) (show c < P 6 0 by omega) hcf
            omega
          have hA1 : dac P (srch P r ((c, plc P o c) :: o) a) ≤ 9 := by
            rw [srch_fewe hW hv1 hA]; omega
          have e : frc (plcb P o c) (fun b => match roomc P ((c, b) :: o) (dac P a) with
              | true => srb P r ((c, b) :: o) a
              | false => a) = srch P r ((c, plc P o c) :: o) a := by
            rw [frc_e, plcb_eq]
            cases hq : roomc P ((c, plc P o c) :: o) (dac P a)
            · exact (srch_id hW hv1 (fun o1 h1 => prune hW hv1 (by simp) (fun e => by rw [roomc_t e] at hq; cases hq) (by rw [hr1]; exact h1))).symm
            · exact srb_eq hW r hv1 hr1 hA
          show fdl _ k (c + 1) (frc (plcb P o c) _) = _
          rw [e]
          exact ih (c + 1) _ (by omega) hA1
    rw [srb, srch]
    exact key (P 6 0) 0 a (by omega) hA
def bstc (P : PP) : Option Od := frc (rem P []) (fun r => srb P r [] none)
theorem bstc_eq {P : PP} (hW : Wf P) : bstc P = bst P := by
  unfold bstc bst
  rw [frc_e]
  exact srb_eq hW _ trivial rfl (Nat.le_refl _)
/-- an order, compared -/
def odB : Od → Od → Bool
  | [], [] => true
  | x :: t, y :: u => Nat.beq x.1 y.1 && (Nat.beq x.2 y.2 && odB t u)
  | _, _ => false
theorem odB_t : ∀ {a b : Od}, odB a b = true → a = b
  | [], [], _ => rfl
  | x :: t, y :: u, h => by
    rw [odB, Bool.and_eq_true, Bool.and_eq_true] at h
    rw [odB_t h.2.2, Prod.ext (Nat.eq_of_beq_eq_true h.1) (Nat.eq_of_beq_eq_true h.2.1)]
  | [], _ :: _, h => by cases h
  | _ :: _, [], h => by cases h
def bsB (P : PP) (b : Od) : Bool := match bstc P with
  | some o => odB o b
  | none => false
theorem bs_of {P : PP} {m σ : SS} (S : Sh P m σ) {b : Od} (h : bsB P b = true) : bst P = some b := by
  rw [← bstc_eq S.1]
  unfold bsB at h
  split at h
  · next o e => rw [e, odB_t h]
  · cases h
def tst1 : Nat := 0x0
