/-! What may be left out: orders that need as many days by the hours of their scenes alone. -/
def rw_ (P : PP) (w : Nat → Nat) (o : Od) : Nat := sm (P 6 0) (fun i => if (msk P o).testBit i = true then 0 else w i)
theorem rw_cons {P : PP} (w : Nat → Nat) {x : Nat × Nat} {t : Od} (hx : x.1 < P 6 0) (hc : canF P t x.1 = true) : rw_ P w t = rw_ P w (x :: t) + w x.1 := by
  have h0 := (canF_t hc).1
  unfold rw_
  have h := sm_one (n := P 6 0) (s := x.1) (f := fun i => if (msk P t).testBit i = true then 0 else w i) (g := fun i => if (msk P (x :: t)).testBit i = true then 0 else w i) hx (fun i _ hi => by
    by_cases hb : (msk P t).testBit i = true
    · simp only [if_pos hb, if_pos (msk_cons.mpr (Or.inl hb))]
    · have : ¬ (msk P (x :: t)).testBit i = true := fun h => (msk_cons.mp h).elim hb hi
      simp only [if_neg hb, if_neg this]) (if_pos (msk_cons.mpr (Or.inr rfl)))
  rw [h]
  simp only [h0, Bool.false_eq_true, if_false]
theorem rw_0 {P : PP} (w : Nat → Nat) {o : Od} (h : rem P o = 0) : rw_ P w o = 0 := by
  refine sm_0 (fun i hi => ?_)
  by_cases hb : (msk P o).testBit i = true
  · rw [if_pos hb]
  · exfalso
    have h1 : sm (P 6 0) (fun j => if j = i then 1 else 0) ≤ rem P o := sm_mono (fun j _ => by
      by_cases hj : j = i
      · subst hj; rw [if_pos rfl, if_neg hb]; exact Nat.le_refl _
      · rw [if_neg hj]; exact Nat.zero_le _)
    have h2 := sm_one (n := P 6 0) (s := i) (f := fun j => if j = i then 1 else 0) (g := fun _ => 0) hi (fun j _ hj => if_neg hj) rfl
    simp only [if_true] at h2
    omega
theorem Cmp_rem {P : PP} : ∀ {r : Nat} {o o1 : Od}, Cmp P r o o1 → rem P o = rem P o1 + r
  | 0, o, o1, h => by rw [show o1 = o from h]; rfl
  | r + 1, o, o1, ⟨s, hs, hc, h⟩ => by
    have h1 := Cmp_rem h
    have h2 := rem_cons (x := (s, plc P o s)) hs hc
    omega
/-- the end of the last scene, in hours of its day -/
def le_ (P : PP) : Od → Nat
  | [] => 0
  | x :: _ => x.2 % 24 + P 0 x.1
theorem grow {P : PP} (hW : Wf P) {F : Od → Nat} {w : Nat → Nat} (hF : ∀ {o : Od} {s : Nat}, Vd P o → o ≠ [] → s < P 6 0 → canF P o s = true → F o + w s ≤ F ((s, plc P o s) :: o)) : ∀ {r : Nat} {o o1 : Od}, Vd P o → o ≠ [] → Cmp P r o o1 → F o + rw_ P w o ≤ F o1 + rw_ P w o1
  | 0, o, o1, _, _, h => by rw [show o1 = o from h]; exact Nat.le_refl _
  | r + 1, o, o1, hv, hne, ⟨s, hs, hc, h⟩ => by
    have h1 := grow hW hF (r := r) (o := (s, plc P o s) :: o) (o1 := o1) ⟨hv, hs, hc, rfl⟩ (by simp) h
    have h2 := rw_cons w (x := (s, plc P o s)) hs hc
    have h3 := hF hv hne hs hc
    dsimp only at h2
    omega
/-- a step in numbers -/
theorem stepN {P : PP} (hW : Wf P) {o : Od} {s : Nat} (hv : Vd P o) (hne : o ≠ []) (hs : s < P 6 0) : ∃ d d1 e e1 : Nat, day0 P o = d ∧ le_ P o = e ∧ day0 P ((s, plc P o s) :: o) = d1 ∧ le_ P ((s, plc P o s) :: o) = e1 ∧ okd P o s d1 ∧
    ((d1 = d ∧ e + P 0 s ≤ e1) ∨ d1 = d + 1) ∧ 8 + P 0 s ≤ e1 ∧ e ≤ 24 ∧ e1 ≤ 24 ∧ (P 3 s = 1 → e1 ≤ 18) ∧ (P 3 s = 2 → 18 + P 0 s ≤ e1) := by
  obtain ⟨d1, h1, h2, h3, -, h5, h6⟩ := step hW hv hs
  cases o with
  | nil => exact absurd rfl hne
  | cons x t =>
    have hx := (Gd_of hW hv).2 x.1 (msk_cons.mpr (Or.inr rfl))
    rw [bgn_eq] at hx
    have hdw : dwn P s d1 ≤ plc P (x :: t) s := by rw [h2]; exact Nat.le_trans (Nat.le_max_right _ _) (Nat.le_max_left _ _)
    have hhr : hr0 P s d1 (x :: t) ≤ plc P (x :: t) s := by rw [h2]; exact Nat.le_trans (Nat.le_max_left _ _) (Nat.le_max_left _ _)
    have hcl : plc P (x :: t) s + P 0 s ≤ cls P s d1 := by rw [h2]; exact h1.1
    refine ⟨x.2 / 24, d1, x.2 % 24 + P 0 x.1, plc P (x :: t) s % 24 + P 0 s, rfl, rfl, h5, rfl, h1, ?_, ?_, hx.2, h6, ?_, ?_⟩
    · rcases h3 with h3 | h3
      · refine Or.inl ⟨h3, ?_⟩
        have h3 : d1 = x.2 / 24 := h3
        rw [hr0, if_pos h3.symm] at hhr
        have : x.2 + P 0 x.1 ≤ plc P (x :: t) s := by omega
        omega
      · exact Or.inr h3.1
    · unfold dwn at hdw
      have : 24 * d1 + 8 ≤ plc P (x :: t) s := by
        refine Nat.le_trans ?_ hdw
        split <;> omega
      omega
    · intro hl
      unfold cls at hcl
      rw [if_pos hl] at hcl
      omega
    · intro hl
      unfold dwn at hdw
      rw [if_pos hl] at hdw
      omega
def fT (P : PP) (o : Od) : Nat := 16 * day0 P o + le_ P o
def fD (P : PP) (o : Od) : Nat := 10 * day0 P o + min (max (le_ P o) 8) 18
def fN (P : PP) (o : Od) : Nat := 6 * day0 P o + max (le_ P o) 18
def fK (P : PP) (p : Nat) (o : Od) : Nat := 6 * day0 P o + kid P o p (day0 P o)
def wL (P : PP) (l i : Nat) : Nat := if P 3 i = l then P 0 i else 0
def wK (P : PP) (p i : Nat) : Nat := if (P 2 i).testBit p = true then P 0 i else 0
theorem grT {P : PP} (hW : Wf P) {o : Od} {s : Nat} (hv : Vd P o) (hne : o ≠ []) (hs : s < P 6 0) (_ : canF P o s = true) : fT P o + P 0 s ≤ fT P ((s, plc P o s) :: o) := by
  obtain ⟨d, d1, e, e1, h1, h2, h3, h4, -, h5, h6, h7, h8, -, -⟩ := stepN hW hv hne hs
  unfold fT
  rw [h1, h2, h3, h4]
  omega
theorem grD {P : PP} (hW : Wf P) {o : Od} {s : Nat} (hv : Vd P o) (hne : o ≠ []) (hs : s < P 6 0) (_ : canF P o s = true) : fD P o + wL P 1 s ≤ fD P ((s, plc P o s) :: o) := by
  obtain ⟨d, d1, e, e1, h1, h2, h3, h4, -, h5, h6, h7, h8, h9, -⟩ := stepN hW hv hne hs
  unfold fD wL
  rw [h1, h2, h3, h4]
  by_cases hl : P 3 s = 1
  · have := h9 hl
    rw [if_pos hl]; omega
  · rw [if_neg hl]; omega
theorem grN {P : PP} (hW : Wf P) {o : Od} {s : Nat} (hv : Vd P o) (hne : o ≠ []) (hs : s < P 6 0) (_ : canF P o s = true) : fN P o + wL P 2 s ≤ fN P ((s, plc P o s) :: o) := by
  obtain ⟨d, d1, e, e1, h1, h2, h3, h4, -, h5, h6, h7, h8, -, h9⟩ := stepN hW hv hne hs
  unfold fN wL
  rw [h1, h2, h3, h4]
  by_cases hl : P 3 s = 2
  · have := h9 hl
    rw [if_pos hl]; omega
  · rw [if_neg hl]; omega
theorem kid_new {P : PP} {o : Od} {s b p d : Nat} (hs : s < P 6 0) (hc : canF P o s = true) (hd : b / 24 = d) : kid P ((s, b) :: o) p d = kid P o p d + wK P p s := by
  have h0 := (canF_t hc).1
  have k1 : ∀ i, i < P 6 0 → i ≠ s → (if (msk P ((s, b) :: o)).testBit i = true ∧ bgn P ((s, b) :: o) i / 24 = d ∧ (P 2 i).testBit p = true then P 0 i else 0) = if (msk P o).testBit i = true ∧ bgn P o i / 24 = d ∧ (P 2 i).testBit p = true then P 0 i else 0 := by
    intro i _ hi
    rw [bgn_ne (x := (s, b)) hi]
    have h2 : (msk P ((s, b) :: o)).testBit i = (msk P o).testBit i := by
      rw [msk, or_tb]
      have : ¬ s = i := fun h => hi h.symm
      simp [this]
    rw [h2]
  have k2 : (if (msk P o).testBit s = true ∧ bgn P o s / 24 = d ∧ (P 2 s).testBit p = true then P 0 s else 0) = 0 := by
    rw [h0]; simp
  unfold kid
  rw [sm_one hs k1 k2]
  congr 1
  unfold wK
  have h1 : (msk P ((s, b) :: o)).testBit s = true := msk_cons.mpr (Or.inr rfl)
  have h2 : bgn P ((s, b) :: o) s = b := bgn_eq (x := (s, b))
  rw [h2]
  simp only [h1, hd, true_and]
theorem kid_free {P : PP} (hW : Wf P) {o : Od} (hv : Vd P o) {p d : Nat} (h : day0 P o < d) : kid P o p d = 0 := by
  refine sm_0 (fun i _ => if_neg (fun hh => ?_))
  have := ((Gd_of hW hv).2 i hh.1).1
  omega
theorem child_of {P : PP} {p s : Nat} (hp : (P 6 2).testBit p = true) (hs : (P 2 s).testBit p = true) : (P 6 2 &&& P 2 s).testBit p = true := by rw [Nat.testBit_and, hp, hs]; rfl
theorem kid_6 {P : PP} (hW : Wf P) {p : Nat} (hp : p < 6) (hc : (P 6 2).testBit p = true) : ∀ {o : Od}, Vd P o → kid P o p (day0 P o) ≤ 6
  | [], _ => by
    have : kid P [] p (day0 P []) = 0 := sm_0 (fun i hi => if_neg (fun h => by
      have h1 := hW.2.2.2.2.2 i hi h.1
      have h2 : P 5 i / 24 = P 6 3 := h.2.1
      omega))
    omega
  | x :: t, hv => by
    obtain ⟨hvt, hx, hcf, he⟩ := hv
    obtain ⟨d, h1, h2, h3, -, h5, h6⟩ := step hW hvt hx
    rw [← he] at h5
    have hk := kid_new (b := x.2) (p := p) hx hcf h5
    have hd : day0 P (x :: t) = d := h5
    rw [hd]
    have hxx : ((x.1, x.2) : Nat × Nat) :: t = x :: t := rfl
    rw [hxx] at hk
    rw [hk]
    unfold wK
    by_cases hb : (P 2 x.1).testBit p = true
    · rw [if_pos hb]
      exact h1.2 p hp (child_of hc hb)
    · rw [if_neg hb]
      rcases h3 with h3 | h3
      · rw [h3]; exact kid_6 hW hp hc hvt
      · rw [kid_free hW hvt (by omega)]; omega
theorem grK {P : PP} (hW : Wf P) {p : Nat} (hp : p < 6) (hc : (P 6 2).testBit p = true) {o : Od} {s : Nat} (hv : Vd P o) (hne : o ≠ []) (hs : s < P 6 0) (hcf : canF P o s = true) : fK P p o + wK P p s ≤ fK P p ((s, plc P o s) :: o) := by
  obtain ⟨d, d1, e, e1, h1, h2, h3, h4, h10, h5, h6, h7, h8, -, -⟩ := stepN hW hv hne hs
  have hk := kid_new (b := plc P o s) (p := p) hs hcf h3
  have h6' := kid_6 hW hp hc hv
  unfold fK
  rw [h1] at h6' ⊢
  rw [h3, hk]
  rcases h5 with h5 | h5
  · rw [h5.1]; omega
  · have h0 : kid P o p d1 = 0 := kid_free hW hv (by rw [h1]; omega)
    rw [h0]; omega
/-- whether scenes can have their hours in the days that are spare -/
def room (P : PP) (o : Od) (bD : Nat) : Prop := dys P o < bD ∧
  rw_ P (P 0) o ≤ 24 - le_ P o + (bD - 1 - dys P o) * 16 ∧ rw_ P (wL P 1) o ≤ (18 - le_ P o) + (bD - 1 - dys P o) * 10 ∧ rw_ P (wL P 2) o ≤ 24 - max 18 (le_ P o) + (bD - 1 - dys P o) * 6 ∧
  ∀ p, p < 6 → (P 6 2).testBit p = true → rw_ P (wK P p) o + kid P o p (day0 P o) ≤ 6 * (bD - 1 - dys P o + 1)
theorem prune {P : PP} (hW : Wf P) {o : Od} {bD : Nat} (hv : Vd P o) (hne : o ≠ []) (hr : ¬ room P o bD) {o1 : Od} (h : Cmp P (rem P o) o o1) : bD ≤ dys P o1 := by
  rcases Nat.lt_or_ge (dys P o1) bD with hlt | hge
  · exfalso
    apply hr
    have hd := Cmp_days hW hv h
    have hv1 := Cmp_Vd hv h
    have hr1 : rem P o1 = 0 := by have := Cmp_rem h; omega
    have hT := grow hW (F := fT P) (w := P 0) (fun a b c d => grT hW a b c d) hv hne h
    have hD := grow hW (F := fD P) (w := wL P 1) (fun a b c d => grD hW a b c d) hv hne h
    have hN := grow hW (F := fN P) (w := wL P 2) (fun a b c d => grN hW a b c d) hv hne h
    rw [rw_0 _ hr1] at hT hD hN
    have hne1 : o1 ≠ [] := by
      intro e
      have h1 := rem_len hv1
      have h2 := rem_len hv
      have h3 := Cmp_rem h
      rw [e] at h1
      cases o with
      | nil => exact hne rfl
      | cons x t => simp only [List.length_cons, List.length_nil] at h1 h2; rw [e] at h3; omega
    have he : le_ P o ≤ 24 ∧ P 6 3 ≤ day0 P o := by
      cases o with
      | nil => exact absurd rfl hne
      | cons x t =>
        have hx := (Gd_of hW hv).2 x.1 (msk_cons.mpr (Or.inr rfl))
        rw [bgn_eq] at hx
        exact ⟨hx.2, (Gd_of hW hv).1⟩
    have he1 : le_ P o1 ≤ 24 ∧ P 6 3 ≤ day0 P o1 := by
      cases o1 with
      | nil => exact absurd rfl hne1
      | cons x t =>
        have hx := (Gd_of hW hv1).2 x.1 (msk_cons.mpr (Or.inr rfl))
        rw [bgn_eq] at hx
        exact ⟨hx.2, (Gd_of hW hv1).1⟩
    have hdy : dys P o = day0 P o - P 6 3 + 1 := by
      cases o with
      | nil => exact absurd rfl hne
      | cons x t => rfl
    have hdy1 : dys P o1 = day0 P o1 - P 6 3 + 1 := by
      cases o1 with
      | nil => exact absurd rfl hne1
      | cons x t => rfl
    unfold fT at hT
    unfold fD at hD
    unfold fN at hN
    refine ⟨by omega, by omega, by omega, by omega, fun p hp hc => ?_⟩
    have hK := grow hW (F := fK P p) (w := wK P p) (fun a b c d => grK hW hp hc a b c d) hv hne h
    rw [rw_0 _ hr1] at hK
    have h6 := kid_6 hW hp hc hv1
    unfold fK at hK
    omega
  · exact hge
