/-! The class's planner: whether there is room; all orders. -/
theorem neg_tab : ∀ b, b < 10 → ∀ d, d < 10 → (nI b - 1 - nI d < 0 ↔ b ≤ d) := by decide +kernel
theorem i18_tab : ∀ e, e < 25 → imax 0 (nI 18 - nI e) = nI (18 - e) := by decide +kernel
theorem i18_max : ∀ e, e < 25 → imax 18 (nI e) = nI (max 18 e) := by decide +kernel
theorem pw_le {n : Nat} (h : n ≤ 8) : 2 ^ n ≤ 256 := show 2 ^ n ≤ 2 ^ 8 from Nat.pow_le_pow_right (by decide) h
theorem pw_pos (n : Nat) : 0 < 2 ^ n := Nat.pow_pos (by decide)
section
variable {P : PP} {σ : SS} {o : Od}
theorem every_n (hW : Wf P) (B : BC P σ) : X3_everyScene σ = nI (2 ^ P 6 0 - 1) := by
  have hn := hW.1
  have := pw_pos (P 6 0)
  unfold X3_everyScene
  rw [B.1, shl_n (by omega), il1, nI_sub' (by omega)]
/-- the open scenes as a set -/
def opn (P : PP) (o : Od) : Nat := wo (2 ^ P 6 0 - 1) (msk P o)
theorem opn_tb (hW : Wf P) (hv : Vd P o) (i : Nat) : (opn P o).testBit i = (decide (i < P 6 0) && !(msk P o).testBit i) := by
  have := pw_le hW.1
  have := pw_pos (P 6 0)
  unfold opn
  rw [wo_tb (by omega) (msk_256 hW hv), Nat.testBit_two_pow_sub_one]
theorem opn_lt (hW : Wf P) : opn P o < 256 := by
  have := pw_le hW.1
  have := pw_pos (P 6 0)
  exact wo_lt (by omega)
theorem opn_n (hW : Wf P) (hv : Vd P o) (B : BC P σ) : (X3_everyScene σ) &&& ((nI (msk P o)) ^^^ (-1 : Int32)) = nI (opn P o) := by
  have := pw_le hW.1
  have := pw_pos (P 6 0)
  rw [every_n hW B, wo_n (by omega) (msk_256 hW hv)]
  rfl
theorem opn_if (hW : Wf P) (hv : Vd P o) {i : Nat} (hi : i < P 6 0) (w : Nat) : (if (opn P o).testBit i = true then w else 0) = if (msk P o).testBit i = true then 0 else w := by
  rw [opn_tb hW hv]
  cases (msk P o).testBit i <;> simp [hi]
theorem opn_h (hW : Wf P) (hv : Vd P o) (w : Nat → Nat) : sm (P 6 0) (fun i => if (opn P o).testBit i = true then w i else 0) = rw_ P w o := sm_congr (fun i hi => opn_if hW hv hi (w i))
theorem opn_h2 (hW : Wf P) (hv : Vd P o) (w : Nat → Nat) (c : Nat → Prop) [DecidablePred c] : sm (P 6 0) (fun i => if (opn P o).testBit i = true ∧ c i then w i else 0) = rw_ P (fun i => if c i then w i else 0) o := by
  rw [← opn_h hW hv]
  refine sm_congr (fun i hi => ?_)
  cases (opn P o).testBit i <;> simp
theorem rw_le (hW : Wf P) {w : Nat → Nat} (h : ∀ i, i < P 6 0 → w i ≤ 6) : rw_ P w o ≤ 48 := by
  have h : rw_ P w o ≤ P 6 0 * 6 := sm_le (fun i hi => by
    have := h i hi
    split <;> omega)
  have := hW.1
  omega
theorem room_n (hW : Wf P) {x : Nat × Nat} (hv : Vd P (x :: o)) (S : SC P (x :: o) σ) {sp : Nat} (hsp : sp ≤ 9) : ∃ r, X2_hasRoom σ (nI (opn P (x :: o))) (nI x.1) (nI sp) = some r ∧ (r = 0 ↔ ¬ (rw_ P (P 0) (x :: o) ≤ 24 - le_ P (x :: o) + sp * 16 ∧ rw_ P (wL P 1) (x :: o) ≤ (18 - le_ P (x :: o)) + sp * 10 ∧ rw_ P (wL P 2) (x :: o) ≤ 24 - max 18 (le_ P (x :: o)) + sp * 6)) := by
  have hn := hW.1
  have hx := hv.2.1
  have hwx := hW.2.1 x.1 hx
  have hG := (Gd_of hW hv).2 x.1 (msk_cons.mpr (Or.inr rfl))
  rw [bgn_eq] at hG
  have hxl := bgn_lt hW hv (msk_cons.mpr (Or.inr rfl) : (msk P (x :: o)).testBit x.1 = true)
  rw [bgn_eq] at hxl
  have hle : le_ P (x :: o) = x.2 % 24 + P 0 x.1 := rfl
  have hl24 : le_ P (x :: o) ≤ 24 := hG.2
  have hlb : X2_endOf σ (nI x.1) - (24 : Int32) * X2_dayOf (fat σ 11 8 (nI x.1)) = nI (le_ P (x :: o)) := by
    unfold X2_endOf
    rw [begC hW hv S, fat_n σ 5 (by omega) (by decide), (S.1.2.2.2.2 x.1 hx).1, nI_add, dayOf_n (by omega), il24, nI_mul, nI_sub' (by omega)]
    congr 1
    omega
  have r0 : rw_ P (P 0) (x :: o) ≤ 48 := rw_le hW (fun i hi => (hW.2.1 i hi).2.1)
  have rL : ∀ l, rw_ P (wL P l) (x :: o) ≤ 48 := fun l => rw_le hW (fun i hi => by
    have := (hW.2.1 i hi).2.1
    unfold wL
    split <;> omega)
  have hwl : ∀ l, rw_ P (fun i => if P 3 i = l then P 0 i else 0) (x :: o) = rw_ P (wL P l) (x :: o) := fun _ => rfl
  have r1 := rL 1
  have r2 := rL 2
  unfold X2_hasRoom
  rw [hlb, hoursOf_n hW S.1 (opn_lt hW), opn_h hW hv, Option.bind_some, il24, nI_sub' hl24, il16, nI_mul, nI_add]
  by_cases h1 : rw_ P (P 0) (x :: o) ≤ 24 - le_ P (x :: o) + sp * 16
  · rw [if_neg (nI_nlt h1 (by omega)), show (1 : Int32) = nI 1 from rfl, hoursIn_n hW S.1 (opn_lt hW) (by decide), opn_h2 hW hv, hwl, Option.bind_some, show (18 : Int32) - nI (le_ P (x :: o)) = nI 18 - nI (le_ P (x :: o)) from rfl, i18_tab _ (by omega), il10, nI_mul, nI_add]
    by_cases h2 : rw_ P (wL P 1) (x :: o) ≤ (18 - le_ P (x :: o)) + sp * 10
    · rw [if_neg (nI_nlt h2 (by omega)), show (2 : Int32) = nI 2 from rfl, hoursIn_n hW S.1 (opn_lt hW) (by decide), opn_h2 hW hv, hwl, Option.bind_some, i18_max _ (by omega), nI_sub' (by omega), il6, nI_mul, nI_add]
      by_cases h3 : rw_ P (wL P 2) (x :: o) ≤ 24 - max 18 (le_ P (x :: o)) + sp * 6
      · rw [if_neg (nI_nlt h3 (by omega))]
        exact ⟨_, rfl, ⟨fun h => absurd h (by decide), fun h => absurd ⟨h1, h2, h3⟩ h⟩⟩
      · rw [if_pos (nI_lt (by omega) (by omega))]
        exact ⟨_, rfl, ⟨fun _ h => h3 h.2.2, fun _ => rfl⟩⟩
    · rw [if_pos (nI_lt (by omega) (by omega))]
      exact ⟨_, rfl, ⟨fun _ h => h2 h.2.1, fun _ => rfl⟩⟩
  · rw [if_pos (nI_lt (by omega) (by omega))]
    exact ⟨_, rfl, ⟨fun _ h => h1 h.1, fun _ => rfl⟩⟩
theorem roomK_n (hW : Wf P) {x : Nat × Nat} (hv : Vd P (x :: o)) (S : SC P (x :: o) σ) {sp : Nat} (hsp : sp ≤ 9) : ∃ r, X2_hasRoomForChildren σ (nI (opn P (x :: o))) (nI (msk P (x :: o))) (nI x.1) (nI sp) = some r ∧ (r = 0 ↔ ¬ ∀ p, p < 6 → (P 6 2).testBit p = true → rw_ P (wK P p) (x :: o) + kid P (x :: o) p (day0 P (x :: o)) ≤ 6 * (sp + 1)) := by
  have hn := hW.1
  have hd := day_lt hW hv
  have hch := hW.2.2.2.1
  have hxl := bgn_lt hW hv (msk_cons.mpr (Or.inr rfl) : (msk P (x :: o)).testBit x.1 = true)
  rw [bgn_eq] at hxl
  have rK : ∀ p, rw_ P (wK P p) (x :: o) ≤ 48 := fun p => rw_le hW (fun i hi => by
    have := (hW.2.1 i hi).2.1
    unfold wK
    split <;> omega)
  have key : ∀ k fuel c, c + k = 6 → k < fuel → (∀ p, p < c → (P 6 2).testBit p = true → rw_ P (wK P p) (x :: o) + kid P (x :: o) p (day0 P (x :: o)) ≤ 6 * (sp + 1)) → ∃ r, X2_hasRoomForChildren_l16 fuel σ (nI (opn P (x :: o))) (nI (msk P (x :: o))) (nI sp) (nI (day0 P (x :: o))) (nI c) = some r ∧ (r = 0 ↔ ¬ ∀ p, p < 6 → (P 6 2).testBit p = true → rw_ P (wK P p) (x :: o) + kid P (x :: o) p (day0 P (x :: o)) ≤ 6 * (sp + 1)) := by
    intro k
    induction k with
    | zero =>
      intro fuel c hc hf hall
      obtain ⟨f, rfl⟩ : ∃ f, fuel = f + 1 := ⟨fuel - 1, by omega⟩
      rw [X2_hasRoomForChildren_l16, il6, if_pos (nI_le (by omega) (by omega))]
      exact ⟨1, rfl, ⟨fun h => absurd h (by decide), fun h => absurd (fun p hp => hall p (by omega)) h⟩⟩
    | succ k ih =>
      intro fuel c hc hf hall
      obtain ⟨f, rfl⟩ : ∃ f, fuel = f + 1 := ⟨fuel - 1, by omega⟩
      rw [X2_hasRoomForChildren_l16, il6, if_neg (nI_ge (by omega) (by omega)), S.1.2.2.1, isIn_n (by omega) (by omega)]
      cases hb : (P 6 2).testBit c
      · simp only [Bool.false_eq_true, if_false, if_true, X2_hasRoomForChildren_b71, nI_1]
        refine ih f (c + 1) (by omega) (by omega) (fun p hp hpb => ?_)
        by_cases hpc : p = c
        · subst hpc; rw [hb] at hpb; cases hpb
        · exact hall p (by omega) hpb
      · obtain ⟨r, h1, h2⟩ := kidC_n hW hv S (day := day0 P (x :: o)) (p := c) (by omega) (by omega)
        have hk := kid_6 hW (p := c) (by omega) hb hv
        have hrk := rK c
        simp only [if_true, X2_hasRoomForChildren_b71, nI_1]
        rw [if_neg (by decide), hoursFor_n hW S.1 (opn_lt hW) (by omega), opn_h2 hW hv, Option.bind_some, h1, Option.bind_some, h2, Option.bind_some, nI_mul, nI_sub' (by omega)]
        have hw : rw_ P (fun i => if (P 2 i).testBit c = true then P 0 i else 0) (x :: o) = rw_ P (wK P c) (x :: o) := rfl
        rw [hw]
        by_cases hle : rw_ P (wK P c) (x :: o) + kid P (x :: o) c (day0 P (x :: o)) ≤ 6 * (sp + 1)
        · rw [if_pos (nI_le (by omega) (by omega))]
          refine ih f (c + 1) (by omega) (by omega) (fun p hp hpb => ?_)
          by_cases hpc : p = c
          · subst hpc; exact hle
          · exact hall p (by omega) hpb
        · rw [if_neg (nI_ge (by omega) (by omega))]
          exact ⟨0, rfl, ⟨fun _ h => hle (h c (by omega) hb), fun _ => rfl⟩⟩
  unfold X2_hasRoomForChildren
  rw [begC hW hv S, dayOf_n (by omega)]
  exact key 6 fuel_X2_hasRoomForChildren_16 0 rfl (by show _ < 64; omega) (fun p hp => by omega)
theorem better_n (hW : Wf P) {x : Nat × Nat} (hv : Vd P (x :: o)) (S : SC P (x :: o) σ) {bD : Nat} (hb : bD ≤ 9) (h5 : σ 1 5 = nI bD) : ∃ r, X2_canBeBetter σ (nI (x :: o).length) (nI (msk P (x :: o))) = some r ∧ (r = 0 ↔ ¬ room P (x :: o) bD) := by
  have hl := len_8 hW hv
  have hd8 := dys_8 hW hv
  unfold X2_canBeBetter
  rw [h5, daysUp_n hW hv S]
  by_cases h1 : dys P (x :: o) < bD
  · rw [if_neg (fun h => absurd ((neg_tab bD (by omega) _ (by omega)).mp h) (by omega)), opn_n hW hv S.1, lastC S (by simp at hl; omega)]
    have hsub : nI bD - 1 - nI (dys P (x :: o)) = nI (bD - 1 - dys P (x :: o)) := by
      rw [il1, nI_sub' (by omega), nI_sub' (by omega)]
    rw [hsub]
    obtain ⟨r, hr1, hr2⟩ := room_n hW hv S (sp := bD - 1 - dys P (x :: o)) (by omega)
    obtain ⟨q, hq1, hq2⟩ := roomK_n hW hv S (sp := bD - 1 - dys P (x :: o)) (by omega)
    rw [hr1, Option.bind_some]
    by_cases hr : r = 0
    · rw [if_pos hr]
      exact ⟨0, rfl, ⟨fun _ h => hr2.mp hr ⟨h.2.1, h.2.2.1, h.2.2.2.1⟩, fun _ => rfl⟩⟩
    · rw [if_neg hr, hq1, Option.bind_some]
      by_cases hq : q = 0
      · rw [if_pos hq]
        exact ⟨0, rfl, ⟨fun _ h => hq2.mp hq h.2.2.2.2, fun _ => rfl⟩⟩
      · rw [if_neg hq]
        refine ⟨1, rfl, ⟨fun h => absurd h (by decide), fun h => ?_⟩⟩
        exfalso
        have a1 := Classical.not_not.mp (fun e => hr (hr2.mpr e))
        have a2 := Classical.not_not.mp (fun e => hq (hq2.mpr e))
        exact h ⟨h1, a1.1, a1.2.1, a1.2.2, a2⟩
  · rw [if_pos ((neg_tab bD (by omega) _ (by omega)).mpr (by omega))]
    exact ⟨0, rfl, ⟨fun _ h => h1 h.1, fun _ => rfl⟩⟩
theorem follow_n (hW : Wf P) (hv : Vd P o) (B : BC P σ) {s : Nat} (hs : s < P 6 0) : X3_canFollow σ (nI s) (nI (msk P o)) = 0 ↔ ¬ canF P o s = true := by
  have hn := hW.1
  have hm := msk_256 hW hv
  have ha := (hW.2.1 s hs).2.2.2.2.2
  have ha8 : P 4 s < 256 := Nat.lt_of_lt_of_le ha (pw_le (by omega))
  unfold X3_canFollow X3_isFree canF
  rw [isIn_n hm (by omega), fat_n σ 9 (by omega) (by decide), (B.2.2.2.2 s hs).2.2.2.2, wo_n ha8 hm]
  cases (msk P o).testBit s
  · by_cases h : wo (P 4 s) (msk P o) = 0
    · rw [h]; simp; decide
    · have h2 : nI (wo (P 4 s) (msk P o)) ≠ 0 := nI_ne (b := 0) (by have := wo_lt (b := msk P o) ha8; omega) (by decide) h
      simp [h, h2]
  · simp
theorem rem_0 (hW : Wf P) (hv : Vd P o) : rem P o = 0 ↔ msk P o = 2 ^ P 6 0 - 1 := by
  have hp := pw_le hW.1
  have hp0 := pw_pos (P 6 0)
  have hn := hW.1
  constructor
  · intro h
    refine tb_ext (msk_256 hW hv) (by omega) (fun i hi => ?_)
    rw [Nat.testBit_two_pow_sub_one]
    by_cases hin : i < P 6 0
    · rw [decide_eq_true hin]
      cases hb : (msk P o).testBit i
      · exfalso
        have h1 : sm (P 6 0) (fun j => if j = i then 1 else 0) ≤ rem P o := sm_mono (fun j _ => by
          by_cases hj : j = i
          · subst hj; rw [if_pos rfl, if_neg (by rw [hb]; decide)]; exact Nat.le_refl _
          · rw [if_neg hj]; exact Nat.zero_le _)
        have h2 := sm_one (n := P 6 0) (s := i) (f := fun j => if j = i then 1 else 0) (g := fun _ => 0) hin (fun j _ hj => if_neg hj) rfl
        simp only [if_true] at h2
        omega
      · rfl
    · rw [decide_eq_false hin]
      exact Nat.testBit_lt_two_pow (Nat.lt_of_lt_of_le (msk_lt hW hv) (Nat.pow_le_pow_right (by decide) (by omega)))
  · intro h
    refine sm_0 (fun i hi => ?_)
    rw [h, Nat.testBit_two_pow_sub_one, if_pos (decide_eq_true hi)]
theorem len_lt (hW : Wf P) (hv : Vd P o) (h : rem P o ≠ 0) : o.length < 8 := by
  have h1 := rem_len hv
  have h2 := rem_8 hW []
  omega
theorem try_n (hW : Wf P) : ∀ (r : Nat) {o : Od} {a : Option Od} {σ : SS} (fuel : Nat), Vd P o → rem P o = r → SC P o σ → KeepC P a σ → dac P a ≤ 9 → dys P o < dac P a → r < fuel → ∃ σ1, X2_tryOrders fuel σ (nI o.length) (nI (msk P o)) = some σ1 ∧ FrP σ σ1 ∧ SC P o σ1 ∧ KeepC P (srch P r o a) σ1 := by
  have hn := hW.1
  have hpw := pw_le hW.1
  intro r
  induction r with
  | zero =>
    intro o a σ fuel hv hr S K hA hlt hf
    obtain ⟨f, rfl⟩ : ∃ f, fuel = f + 1 := ⟨fuel - 1, by omega⟩
    obtain ⟨σ1, h1, h2, h3, h4⟩ := keep_n hW hv S K.1 hA hlt
    rw [X2_tryOrders, every_n hW S.1, if_pos (by rw [(rem_0 hW hv).mp hr])]
    unfold X2_tryOrders_b17
    rw [h1, Option.bind_some]
    refine ⟨σ1, rfl, h2, h3, ?_⟩
    have he : srch P 0 o a = some o := by
      cases a with
      | none => rfl
      | some b => exact if_pos hlt
    rw [he]
    exact h4
  | succ r ih =>
    intro o a σ fuel hv hr S K hA hlt hf
    obtain ⟨f, rfl⟩ : ∃ f, fuel = f + 1 := ⟨fuel - 1, by omega⟩
    have hm := msk_256 hW hv
    have hl := len_lt hW hv (by omega)
    have key : ∀ k fu c τ b, c + k = P 6 0 → k < fu → SC P o τ → KeepC P b τ → dac P b ≤ 9 → ∃ σ1, X2_tryOrders_l25 (X2_tryOrders f) fu τ (nI o.length) (nI (msk P o)) (nI c) = some σ1 ∧ FrP τ σ1 ∧ SC P o σ1 ∧ KeepC P (fdl (fun s a => if canF P o s = true then srch P r ((s, plc P o s) :: o) a else a) k c b) σ1 := by
      intro k
      induction k with
      | zero =>
        intro fu c τ b hc hf2 S K hA
        obtain ⟨g, rfl⟩ : ∃ g, fu = g + 1 := ⟨fu - 1, by omega⟩
        rw [X2_tryOrders_l25, S.n, if_pos (nI_le (by omega) (by omega))]
        exact ⟨τ, rfl, FrP.refl, S, K⟩
      | succ k ih2 =>
        intro fu c τ b hc hf2 S K hA
        obtain ⟨g, rfl⟩ : ∃ g, fu = g + 1 := ⟨fu - 1, by omega⟩
        rw [X2_tryOrders_l25, S.n, if_neg (nI_ge (by omega) (by omega)), fdl]
        unfold X2_tryOrders_b84
        have hs : c < P 6 0 := by omega
        by_cases hcf : canF P o c = true
        · have hv1 : Vd P ((c, plc P o c) :: o) := ⟨hv, hs, hcf, rfl⟩
          have S1 := SC_put (b := plc P o c) S hcf
          have F1 := FrP_put (σ := τ) o.length c (nI c) (nI (plc P o c))
          have K1 : KeepC P b (wr (wr τ 10 o.length (nI c)) 11 c (nI (plc P o c))) := KeepC_eq (by simp [wr_app]) (fun i => by simp [wr_app]) (fun i => by simp [wr_app]) K
          have hr1 : rem P ((c, plc P o c) :: o) = r := by
            have := rem_cons (x := (c, plc P o c)) hs hcf
            omega
          obtain ⟨q, hq1, hq2⟩ := better_n hW hv1 S1 hA K1.1
          rw [if_neg (fun e => (follow_n hW hv S.1 hs).mp e hcf), place_n hW hv S hs hl, Option.bind_some, nI_1, with_n hm (by omega), show X2_canBeBetter (wr (wr τ 10 o.length (nI c)) 11 c (nI (plc P o c))) (nI (o.length + 1)) (nI (msk P o ||| 2 ^ c)) = some q from hq1, Option.bind_some, if_pos hcf, nI_1]
          by_cases hq : q = 0
          · rw [if_pos hq]
            have hid : srch P r ((c, plc P o c) :: o) b = b := srch_id hW hv1 (fun o1 h1 => prune hW hv1 (by simp) (hq2.mp hq) (by rw [hr1]; exact h1))
            obtain ⟨σ1, h1, h2, h3, h4⟩ := ih2 g (c + 1) _ b (by omega) (by omega) (SC_tail hcf S1) K1 hA
            rw [hid]
            exact ⟨σ1, h1, F1.trans h2, h3, h4⟩
          · have hroom := Classical.not_not.mp (fun e => hq (hq2.mpr e))
            obtain ⟨σ8, h1, h2, h3, h4⟩ := ih f hv1 hr1 S1 K1 hA hroom.1 (by omega)
            have hA8 : dac P (srch P r ((c, plc P o c) :: o) b) ≤ 9 := by
              rw [srch_fewe hW hv1 hA]; omega
            obtain ⟨σ1, g1, g2, g3, g4⟩ := ih2 g (c + 1) σ8 _ (by omega) (by omega) (SC_tail hcf h3) h4 hA8
            rw [if_neg hq, show X2_tryOrders f (wr (wr τ 10 o.length (nI c)) 11 c (nI (plc P o c))) (nI (o.length + 1)) (nI (msk P o ||| 2 ^ c)) = some σ8 from h1, Option.bind_some]
            exact ⟨σ1, g1, F1.trans (h2.trans g2), g3, g4⟩
        · rw [if_pos ((follow_n hW hv S.1 hs).mpr hcf), if_neg hcf, nI_1]
          exact ih2 g (c + 1) τ b (by omega) (by omega) S K hA
    rw [X2_tryOrders, every_n hW S.1, if_neg (nI_ne (by omega) (by omega) (fun e => by have := (rem_0 hW hv).mpr e; omega)), il8, if_pos (nI_lt hl (by decide))]
    exact key (P 6 0) fuel_X2_tryOrders_25 0 σ a (by omega) (by show _ < 64; omega) S K hA
theorem SC_fr {σ1 : SS} (h : ∀ k i, k ≠ 12 → k ≠ 13 → (k = 1 → i = 6) → σ1 k i = σ k i) (S : SC P o σ) : SC P o σ1 := by
  refine ⟨⟨by rw [h 2 5 (by decide) (by decide) (by omega)]; exact S.1.1, by rw [h 2 6 (by decide) (by decide) (by omega)]; exact S.1.2.1, by rw [h 2 8 (by decide) (by decide) (by omega)]; exact S.1.2.2.1, by rw [h 1 6 (by decide) (by decide) (by omega)]; exact S.1.2.2.2.1, fun i hi => ?_⟩, OC_eq (fun i _ => h 10 i (by decide) (by decide) (by omega)) S.2.1, fun i hi => ?_⟩
  · rw [h 5 i (by decide) (by decide) (by omega), h 6 i (by decide) (by decide) (by omega), h 7 i (by decide) (by decide) (by omega), h 8 i (by decide) (by decide) (by omega), h 9 i (by decide) (by decide) (by omega)]
    exact S.1.2.2.2.2 i hi
  · rw [h 11 i (by decide) (by decide) (by omega)]
    exact S.2.2 i hi
/-- the best order of all -/
noncomputable def bst (P : PP) : Option Od := srch P (rem P []) [] none
def FrQ (σ σ1 : SS) : Prop := ∀ k i, k ≠ 10 → k ≠ 11 → k ≠ 12 → k ≠ 13 → (k = 1 → i = 6) → σ1 k i = σ k i
theorem plan_n (hW : Wf P) (S : SC P [] σ) (h7 : σ 1 7 = 0 ∨ (σ 1 7 = 1 ∧ KeepC P (bst P) σ)) : ∃ σ1, X2_makePlan σ = some σ1 ∧ FrQ σ σ1 ∧ SC P [] σ1 ∧ σ1 1 7 = 1 ∧ KeepC P (bst P) σ1 := by
  unfold X2_makePlan
  rcases h7 with h7 | ⟨h7, K⟩
  · have S2 : SC P [] (wr σ 1 5 (nI 9)) := SC_fr (fun k i _ _ h => by
      rw [wr_app]
      by_cases e : k = 1
      · subst e; rw [if_pos rfl, if_neg (by have := h rfl; omega)]
      · rw [if_neg e]) S
    have K2 : KeepC P none (wr σ 1 5 (nI 9)) := ⟨wr_at _ _ _ _, fun b hb => by cases hb⟩
    obtain ⟨σ3, h1, h2, h3, h4⟩ := try_n hW (rem P []) (o := []) 16 trivial rfl S2 K2 (Nat.le_refl _) (by show 0 < 9; omega) (by have := rem_8 hW []; omega)
    have h1' : X2_tryOrders 16 (wr σ 1 5 (9 : Int32)) (0 : Int32) ((wr σ 1 5 (9 : Int32)) 2 6) = some σ3 := by
      rw [show ((wr σ 1 5 (9 : Int32)) 2 6) = nI (P 6 1) from S2.1.2.1]
      exact h1
    rw [if_pos h7, lt_eq, h1', Option.bind_some, lt_eq]
    refine ⟨_, rfl, fun k i a b c d e => ?_, SC_fr (fun k i _ _ h => ?_) h3, wr_at _ _ _ _, KeepC_eq (wr_ni _ _ _ (by decide)) (fun i => wr_ne _ _ _ _ _ (by decide)) (fun i => wr_ne _ _ _ _ _ (by decide)) h4⟩
    · have hh := h2 k i a b c d (by omega)
      by_cases e1 : k = 1
      · subst e1
        rw [wr_ni _ _ _ (by have := e rfl; omega), hh, wr_ni _ _ _ (by have := e rfl; omega)]
      · rw [wr_ne _ _ _ _ _ e1, hh, wr_ne _ _ _ _ _ e1]
    · by_cases e1 : k = 1
      · subst e1
        exact wr_ni _ _ _ (by have := h rfl; omega)
      · exact wr_ne _ _ _ _ _ e1
  · rw [if_neg (by rw [h7]; decide)]
    exact ⟨σ, rfl, fun _ _ _ _ _ _ _ => rfl, S, h7, K⟩
/-- trying all -/
theorem few_n (hW : Wf P) : ∀ (r : Nat) {o : Od} {σ : SS} (fuel : Nat), Vd P o → rem P o = r → SC P o σ → r < fuel → ∃ σ1, X2_fewestOfAll fuel σ (nI o.length) (nI (msk P o)) = some (nI (fewe P r o), σ1) ∧ (∀ k i, k ≠ 10 → k ≠ 11 → σ1 k i = σ k i) ∧ SC P o σ1 := by
  have hn := hW.1
  have hpw := pw_le hW.1
  intro r
  induction r with
  | zero =>
    intro o σ fuel hv hr S hf
    obtain ⟨f, rfl⟩ : ∃ f, fuel = f + 1 := ⟨fuel - 1, by omega⟩
    rw [X2_fewestOfAll, every_n hW S.1, if_pos (by rw [(rem_0 hW hv).mp hr])]
    unfold X2_fewestOfAll_b17
    rw [daysUp_n hW hv S]
    exact ⟨σ, rfl, fun _ _ _ _ => rfl, S⟩
  | succ r ih =>
    intro o σ fuel hv hr S hf
    obtain ⟨f, rfl⟩ : ∃ f, fuel = f + 1 := ⟨fuel - 1, by omega⟩
    have hm := msk_256 hW hv
    have hl := len_lt hW hv (by omega)
    have key : ∀ k fu c τ b, c + k = P 6 0 → k < fu → SC P o τ → b ≤ 9 → ∃ σ1, X2_fewestOfAll_l29 (X2_fewestOfAll f) fu τ (nI o.length) (nI (msk P o)) (nI b) (nI c) = some (nI (fdl (fun s a => if canF P o s = true then min a (fewe P r ((s, plc P o s) :: o)) else a) k c b), σ1) ∧ (∀ k i, k ≠ 10 → k ≠ 11 → σ1 k i = τ k i) ∧ SC P o σ1 := by
      intro k
      induction k with
      | zero =>
        intro fu c τ b hc hf2 S hb
        obtain ⟨g, rfl⟩ : ∃ g, fu = g + 1 := ⟨fu - 1, by omega⟩
        rw [X2_fewestOfAll_l29, S.n, if_pos (nI_le (by omega) (by omega))]
        exact ⟨τ, rfl, fun _ _ _ _ => rfl, S⟩
      | succ k ih2 =>
        intro fu c τ b hc hf2 S hb
        obtain ⟨g, rfl⟩ : ∃ g, fu = g + 1 := ⟨fu - 1, by omega⟩
        rw [X2_fewestOfAll_l29, S.n, if_neg (nI_ge (by omega) (by omega)), fdl]
        unfold X2_fewestOfAll_b81
        have hs : c < P 6 0 := by omega
        by_cases hcf : canF P o c = true
        · have hv1 : Vd P ((c, plc P o c) :: o) := ⟨hv, hs, hcf, rfl⟩
          have S1 := SC_put (b := plc P o c) S hcf
          have hr1 : rem P ((c, plc P o c) :: o) = r := by
            have := rem_cons (x := (c, plc P o c)) hs hcf
            omega
          have h8 := fewe_8 hW hv1 hr1
          obtain ⟨σ8, h1, h2, h3⟩ := ih f hv1 hr1 S1 (by omega)
          obtain ⟨σ1, g1, g2, g3⟩ := ih2 g (c + 1) σ8 (min b (fewe P r ((c, plc P o c) :: o))) (by omega) (by omega) (SC_tail hcf h3) (by omega)
          rw [if_neg (fun e => (follow_n hW hv S.1 hs).mp e hcf), place_n hW hv S hs hl, Option.bind_some, nI_1, with_n hm (by omega), show X2_fewestOfAll f (wr (wr τ 10 o.length (nI c)) 11 c (nI (plc P o c))) (nI (o.length + 1)) (nI (msk P o ||| 2 ^ c)) = some (nI (fewe P r ((c, plc P o c) :: o)), σ8) from h1, if_pos hcf]
          simp only [bd2]
          rw [imin_n (by omega) (by omega), nI_1]
          exact ⟨σ1, g1, fun k i a b => by rw [g2 k i a b, h2 k i a b, wr_ne _ _ _ _ _ b, wr_ne _ _ _ _ _ a], g3⟩
        · rw [if_pos ((follow_n hW hv S.1 hs).mpr hcf), if_neg hcf, nI_1]
          exact ih2 g (c + 1) τ b (by omega) (by omega) S hb
    rw [X2_fewestOfAll, every_n hW S.1, if_neg (nI_ne (by omega) (by omega) (fun e => by have := (rem_0 hW hv).mpr e; omega)), il8, if_pos (nI_lt hl (by decide))]
    exact key (P 6 0) fuel_X2_fewestOfAll_29 0 σ 9 (by omega) (by show _ < 64; omega) S (Nat.le_refl _)
theorem fewest_n (hW : Wf P) (S : SC P [] σ) : ∃ σ1, X2_fewestDays σ = some (nI (dac P (bst P)), σ1) ∧ (∀ k i, k ≠ 10 → k ≠ 11 → σ1 k i = σ k i) ∧ SC P [] σ1 := by
  obtain ⟨σ1, h1, h2, h3⟩ := few_n hW (rem P []) (o := []) 16 trivial rfl S (by have := rem_8 hW []; omega)
  have h8 := fewe_8 hW (r := rem P []) (o := []) trivial rfl
  have hd : dac P (bst P) = fewe P (rem P []) [] := by
    unfold bst
    rw [srch_fewe hW (r := rem P []) (o := []) (a := none) trivial (Nat.le_refl _)]
    show min 9 _ = _
    omega
  refine ⟨σ1, ?_, h2, h3⟩
  unfold X2_fewestDays
  rw [S.1.2.1, show X2_fewestOfAll 16 σ (0 : Int32) (nI (P 6 1)) = some (nI (fewe P (rem P []) []), σ1) from h1, hd]
  rfl
end
