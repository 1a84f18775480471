/-! Calls on states that are told by numbers; the law's act and scene. -/
theorem sh_opL {f : SS → Option ((Int32 ⊕ String) × SS)} (hf : ∀ σ m, f (mix σ m) = mx2 σ (f m)) {P : PP} {m σ : SS} (S : Sh P m σ) (v : Int32) (M : Nat) (h : chk (f m) v (lit M) = true) : ∃ σ1, f σ = some (.inl v, σ1) ∧ Sh P (lit M) σ1 := sh_op hf S h
theorem sh_holdL {P : PP} {m σ : SS} (S : Sh P m σ) (x1 v : Int32) (M : Nat) (h : (match X4_hold m x1 with | some (w, m2) => eqI w v && agb m2 (lit M) | none => false) = true) : ∃ σ1, X4_hold σ x1 = some (v, σ1) ∧ Sh P (lit M) σ1 := sh_hold S x1 h
theorem blt_t {a b : Nat} (h : Nat.blt a b = true) : a < b := Nat.le_of_ble_eq_true h
def ckAdd (P : PP) (v1 v2 v3 v4 v5 n : Nat) : Bool := Nat.beq (P 6 0) n && (Nat.ble 1 v1 && (Nat.ble v1 6 && (Nat.ble v2 3 && (Nat.ble v3 63 && (Nat.ble v4 2 && Nat.blt v5 (2 ^ n))))))
theorem sh_addL {P : PP} {m σ : SS} (S : Sh P m σ) (v1 v2 v3 v4 v5 n N : Nat) (h : (ckAdd P v1 v2 v3 v4 v5 n && (Nat.blt n 8 && (plB N && eqP (adP P v1 v2 v3 v4 v5) (pl N)))) = true) : ∃ σ1, X4_addScene σ (nI v1) (nI v2) (nI v3) (nI v4) (nI v5) = some (.inl (nI n), σ1) ∧ Sh (pl N) m σ1 := by
  unfold ckAdd at h
  simp only [Bool.and_eq_true] at h
  obtain ⟨⟨h0, h1, h2, h3, h4, h5, h6⟩, h7, h8, h9⟩ := h
  have e := Nat.eq_of_beq_eq_true h0
  obtain ⟨σ1, e1, S1⟩ := sh_add S v1 v2 v3 v4 v5 (by rw [e]; exact blt_t h7) (Nat.le_of_ble_eq_true h1) (Nat.le_of_ble_eq_true h2) (Nat.le_of_ble_eq_true h3) (Nat.le_of_ble_eq_true h4) (Nat.le_of_ble_eq_true h5) (by rw [e]; exact blt_t h6)
  rw [e] at e1
  have e2 := eqP_t S1.2.1 (pl_Zo h8) h9
  rw [e2] at S1
  exact ⟨σ1, e1, S1⟩
def ckCh (P : PP) (i : Nat) (x2 v : Int32) (c N : Nat) : Bool := Nat.blt i 6 && (Nat.ble c 63 && (eqI (X4_isIn (nI (P 6 2)) (nI i)) v && (eqI (X4_with (nI (P 6 2)) (nI i) x2) (nI c) && (!eqI v x2 && (plB N && eqP (chP P c) (pl N))))))
theorem sh_setChildL {P : PP} {m σ : SS} (S : Sh P m σ) (i : Nat) (x2 v : Int32) (c N : Nat) (h : ckCh P i x2 v c N = true) : ∃ σ1, X4_setChild σ (nI i) x2 = some (.inl v, σ1) ∧ Sh (pl N) m σ1 := by
  unfold ckCh at h
  simp only [Bool.and_eq_true] at h
  obtain ⟨h1, h2, h3, h4, h5, h6, h7⟩ := h
  obtain ⟨σ1, e1, S1⟩ := sh_setChild S i (blt_t h1) x2 c (Nat.le_of_ble_eq_true h2) (eqI_t h3) (eqI_t h4) (fun e => by
    rw [e] at h5
    have : eqI x2 x2 = true := Nat.beq_refl _
    rw [this] at h5
    cases h5)
  have e2 := eqP_t S1.2.1 (pl_Zo h6) h7
  rw [e2] at S1
  exact ⟨σ1, e1, S1⟩
theorem sh_daysL {P : PP} {m σ : SS} (S : Sh P m σ) {b : Od} (hb : bsB P b = true) (v : Int32) (h : eqI (nI (dys P b)) v = true) : ∃ σ1, X4_days σ = some (v, σ1) ∧ Sh P m σ1 := by
  rw [← eqI_t h]
  exact sh_days S (bs_of S hb)
theorem sh_plannedL {P : PP} {m σ : SS} (S : Sh P m σ) {b : Od} (hb : bsB P b = true) (i : Nat) (v : Int32) (h : (Nat.blt i (rem P []) && eqI (nI (b.reverse.getD i (0, 0)).1) v) = true) : ∃ σ1, X4_planned σ (nI i) = some (.inl v, σ1) ∧ Sh P m σ1 := by
  rw [Bool.and_eq_true] at h
  rw [← eqI_t h.2]
  exact sh_planned S (bs_of S hb) (blt_t h.1)
theorem sh_beginsL {P : PP} {m σ : SS} (S : Sh P m σ) {b : Od} (hb : bsB P b = true) (i : Nat) (v : Int32) (h : (Nat.blt i (P 6 0) && eqI (nI (bgn P b i)) v) = true) : ∃ σ1, X4_begins σ (nI i) = some (.inl v, σ1) ∧ Sh P m σ1 := by
  rw [Bool.and_eq_true] at h
  rw [← eqI_t h.2]
  exact sh_begins S (bs_of S hb) (blt_t h.1)
theorem sh_planL {P : PP} {m σ : SS} (S : Sh P m σ) {b : Od} (hb : bsB P b = true) (d a0 a1 a2 : Int32) (h : ckPlan P b d a0 a1 a2 = true) : ∃ σ1, L_plan σ d a0 a1 a2 = some (1, σ1) ∧ Sh P m σ1 := sh_plan S (bs_of S hb) h
def ckDay (P : PP) (m : SS) (b : Od) (x1 : Int32) (T : Nat) : Bool := Nat.beq (tdy P (wv P m x1) b) T && canPay m (nI (hrs P T) * m 0 4) (cov m)
theorem sh_shootL {P : PP} {m σ : SS} (S : Sh P m σ) {b : Od} (hb : bsB P b = true) (x1 v : Int32) (T N M : Nat) (h : (ckDay P m b x1 T && (!Nat.beq (P 6 3) 1000 && (eqI (J6_bitCount (nI T)) v && (plB N && (eqP (shP P T b) (pl N) && agb (pay1 (pay1 m 0 (nI (hrs P T) * m 0 4)) 1 (cov m)) (lit M)))))) = true) : ∃ σ1, X4_shoot σ x1 = some (.inl v, σ1) ∧ Sh (pl N) (lit M) σ1 := by
  unfold ckDay at h
  simp only [Bool.and_eq_true] at h
  obtain ⟨⟨h1, h2⟩, h3, h4, h5, h6, h7⟩ := h
  obtain ⟨σ1, e1, S1⟩ := sh_shoot S (bs_of S hb) x1 (Nat.eq_of_beq_eq_true h1) h2 (fun e => by
    rw [e] at h3
    cases h3)
  rw [eqI_t h4] at e1
  exact ⟨σ1, e1, sh_to S1 N (lit M) h5 h6 h7⟩
/-! act, call by call -/
theorem act_3 (σ : SS) (a b c : Int32) : L_act σ 3 a b c = bdc CS3 (X4_shoot σ (if a = 1 then 1 else 0)) (fun r σ => some (r, σ)) := by
  unfold L_act L_act_b91
  rw [if_neg (by decide), if_neg (by decide), if_neg (by decide), if_pos rfl]
  by_cases h : a = 1
  · rw [if_pos h, if_pos h]
  · rw [if_neg h, if_neg h]
theorem act_6 (σ : SS) (a b c : Int32) : L_act σ 6 a b c = bdc CS3 (X4_bill σ a b) (fun r σ => some (r, σ)) := by
  unfold L_act
  rw [if_neg (by decide), if_neg (by decide), if_neg (by decide), if_neg (by decide), if_neg (by decide), if_neg (by decide), if_pos rfl]
theorem act_7 (σ : SS) (a b c : Int32) : L_act σ 7 a b c = bdc CS3 (X4_loan σ a b) (fun r σ => some (r, σ)) := by
  unfold L_act
  rw [if_neg (by decide), if_neg (by decide), if_neg (by decide), if_neg (by decide), if_neg (by decide), if_neg (by decide), if_neg (by decide), if_pos rfl]
theorem act_8 (σ : SS) (a b c : Int32) : L_act σ 8 a b c = bdc CS3 (X4_part σ a b c) (fun r σ => some (r, σ)) := by
  unfold L_act
  rw [if_neg (by decide), if_neg (by decide), if_neg (by decide), if_neg (by decide), if_neg (by decide), if_neg (by decide), if_neg (by decide), if_neg (by decide), if_pos rfl]
theorem act_10 (σ : SS) (a b c : Int32) : L_act σ 10 a b c = bdc CS3 (X4_daysByAll σ) (fun r σ => some (r, σ)) := by
  unfold L_act
  rw [if_neg (by decide), if_neg (by decide), if_neg (by decide), if_neg (by decide), if_neg (by decide), if_neg (by decide), if_neg (by decide), if_neg (by decide), if_neg (by decide), if_neg (by decide), if_pos rfl]
theorem act_11 (σ : SS) (a b c : Int32) : L_act σ 11 a b c = bdc CS3 (X4_planned σ a) (fun r σ => some (r, σ)) := by
  unfold L_act
  rw [if_neg (by decide), if_neg (by decide), if_neg (by decide), if_neg (by decide), if_neg (by decide), if_neg (by decide), if_neg (by decide), if_neg (by decide), if_neg (by decide), if_neg (by decide), if_neg (by decide), if_pos rfl]
theorem bdc_v {cs : List (String × Int32)} {o : Option ((Int32 ⊕ String) × SS)} {v : Int32} {σ1 : SS} (h : o = some (.inl v, σ1)) : bdc cs o (fun r σ => some (r, σ)) = some (v, σ1) := by rw [h]; rfl
theorem bdc_E {cs : List (String × Int32)} {o : Option ((Int32 ⊕ String) × SS)} {E : String} {σ1 : SS} (h : o = some (.inr E, σ1)) {f : Int32 → SS → Option (Int32 × SS)} {k : Int32} (hk : hcl cs E = some k) : bdc cs o f = some (k, σ1) := by
  rw [h]
  show (hcl cs E).map _ = _
  rw [hk]
  rfl
/-- a day that cannot be paid -/
theorem sh_act3E {P : PP} {m σ : SS} (S : Sh P m σ) {b : Od} (hb : bsB P b = true) (x1 : Int32) (T : Nat) (h : (Nat.beq (tdy P (wv P m (if x1 = 1 then 1 else 0)) b) T && !canPay m (nI (hrs P T) * m 0 4) (cov m)) = true) : ∃ σ1, L_act σ 3 x1 0 0 = some (-73, σ1) ∧ Sh P m σ1 := by
  rw [Bool.and_eq_true] at h
  obtain ⟨σ1, e1, S1⟩ := sh_shootE S (bs_of S hb) (if x1 = 1 then 1 else 0) (Nat.eq_of_beq_eq_true h.1) (Or.inl (by
    cases hc : canPay m (nI (hrs P T) * m 0 4) (cov m)
    · rfl
    · rw [hc] at h; cases h.2))
  exact ⟨σ1, (act_3 σ x1 0 0).trans (bdc_E e1 rfl), S1⟩
theorem sh_act10E {P : PP} {m σ : SS} (S : Sh P m σ) (h : Nat.blt 6 (rem P []) = true) : ∃ σ1, L_act σ 10 0 0 0 = some (-73, σ1) ∧ Sh P m σ1 := ⟨σ, (act_10 σ 0 0 0).trans (bdc_E (sh_allE S (blt_t h)) rfl), S⟩
theorem win_no {x : Int32} {n : Nat} (hn : n ≤ 8) (h : x < 0 ∨ nI n ≤ x) : X4_isWithin x 0 (nI n - 1) = 0 := by
  rw [win_iff]
  rcases h with h | h
  · exact Or.inl h
  · refine Or.inr ?_
    rw [Int32.lt_iff_toInt_lt, Int32.toInt_sub, nI_toInt (by omega), show (1 : Int32).toInt = 1 by decide, Int.bmod_eq_of_le (by omega) (by omega)]
    rw [Int32.le_iff_toInt_le, nI_toInt (by omega)] at h
    omega
theorem sh_plannedE {P : PP} {m σ : SS} (S : Sh P m σ) {x : Int32} (h : x < 0 ∨ nI (rem P []) ≤ x) : X4_planned σ x = some (.inr "java/lang/IndexOutOfBoundsException", σ) := by
  unfold X4_planned
  rw [open_n S.1 S.2.2.1.1.1, if_pos (win_no (rem_8 S.1 []) h)]
theorem sh_act11E {P : PP} {m σ : SS} (S : Sh P m σ) (x : Int32) (h : (decide (x < 0) || decide (nI (rem P []) ≤ x)) = true) : ∃ σ1, L_act σ 11 x 0 0 = some (-71, σ1) ∧ Sh P m σ1 := by
  rw [Bool.or_eq_true, decide_eq_true_eq, decide_eq_true_eq] at h
  exact ⟨σ, (act_11 σ x 0 0).trans (bdc_E (sh_plannedE S h) rfl), S⟩
theorem sh_act6E {P : PP} {m σ : SS} (S : Sh P m σ) (a b k : Int32) (M : Nat) (h : chkE (X4_bill m a b) k (lit M) = true) : ∃ σ1, L_act σ 6 a b 0 = some (k, σ1) ∧ Sh P (lit M) σ1 := by
  rw [act_6]
  exact sh_opE (f := fun m => X4_bill m a b) (cm_bill a b) S h _
theorem sh_act7E {P : PP} {m σ : SS} (S : Sh P m σ) (a b k : Int32) (M : Nat) (h : chkE (X4_loan m a b) k (lit M) = true) : ∃ σ1, L_act σ 7 a b 0 = some (k, σ1) ∧ Sh P (lit M) σ1 := by
  rw [act_7]
  exact sh_opE (f := fun m => X4_loan m a b) (cm_loan a b) S h _
theorem sh_act8E {P : PP} {m σ : SS} (S : Sh P m σ) (a b c k : Int32) (M : Nat) (h : chkE (X4_part m a b c) k (lit M) = true) : ∃ σ1, L_act σ 8 a b c = some (k, σ1) ∧ Sh P (lit M) σ1 := by
  rw [act_8]
  exact sh_opE (f := fun m => X4_part m a b c) (cm_part a b c) S h _
theorem sh_act7L {P : PP} {m σ : SS} (S : Sh P m σ) (a b v : Int32) (M : Nat) (h : chk (X4_loan m a b) v (lit M) = true) : ∃ σ1, L_act σ 7 a b 0 = some (v, σ1) ∧ Sh P (lit M) σ1 := by
  obtain ⟨σ1, e, S1⟩ := sh_op (f := fun m => X4_loan m a b) (cm_loan a b) S h
  exact ⟨σ1, (act_7 σ a b 0).trans (bdc_v e), S1⟩
theorem sh_act8L {P : PP} {m σ : SS} (S : Sh P m σ) (a b c v : Int32) (M : Nat) (h : chk (X4_part m a b c) v (lit M) = true) : ∃ σ1, L_act σ 8 a b c = some (v, σ1) ∧ Sh P (lit M) σ1 := by
  obtain ⟨σ1, e, S1⟩ := sh_op (f := fun m => X4_part m a b c) (cm_part a b c) S h
  exact ⟨σ1, (act_8 σ a b c).trans (bdc_v e), S1⟩
theorem sh_sceneL {P : PP} {m σ : SS} (S : Sh P m σ) (v1 v2 v3 v4 v5 n N : Nat) (h : (ckAdd P v1 v2 v3 v4 v5 n && (Nat.blt n 8 && (plB N && eqP (adP P v1 v2 v3 v4 v5) (pl N)))) = true) : ∃ σ1, L_scene σ (nI v1) (nI v2) (nI v3) (nI v4) (nI v5) = some (nI n, σ1) ∧ Sh (pl N) m σ1 := by
  obtain ⟨σ1, e, S1⟩ := sh_addL S v1 v2 v3 v4 v5 n N h
  exact ⟨σ1, bdc_v e, S1⟩
theorem sh_scene8 {P : PP} {m σ : SS} (S : Sh P m σ) (v1 v2 v3 v4 v5 : Nat) (h : ckAdd P v1 v2 v3 v4 v5 8 = true) : ∃ σ1, L_scene σ (nI v1) (nI v2) (nI v3) (nI v4) (nI v5) = some (-73, σ1) ∧ Sh P m σ1 := by
  unfold ckAdd at h
  simp only [Bool.and_eq_true] at h
  obtain ⟨h0, h1, h2, h3, h4, h5, h6⟩ := h
  have e := Nat.eq_of_beq_eq_true h0
  exact ⟨σ, bdc_E (sh_add8 S v1 v2 v3 v4 v5 e (Nat.le_of_ble_eq_true h1) (Nat.le_of_ble_eq_true h2) (Nat.le_of_ble_eq_true h3) (Nat.le_of_ble_eq_true h4) (Nat.le_of_ble_eq_true h5) (by rw [e]; exact blt_t h6)) rfl, S⟩
