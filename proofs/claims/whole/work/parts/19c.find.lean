/-! The reference's planner: where a scene begins; all orders. -/
section
variable {P : PP} {τ : SS} {o : Od}
theorem SR.last {x : Nat × Nat} {t : Od} (S : SR P (x :: t) τ) : τ 9 t.length = nI x.1 ∧ τ 10 t.length = nI x.2 := S.2.1
theorem b145_n (hW : Wf P) (hv : Vd P o) (S : SR P o τ) (k : SS → Int32 → Int32 → Int32 → Int32 → Option Int32) {s d h : Nat} (hs : s < P 6 0) (hd : P 6 3 ≤ d) (hd2 : d ≤ 1010) (hh : h < 2 ^ 20) (hh2 : max (hr0 P s d o) (dwn P s d) = 24 * d + h) :
    (okd P o s d → X5_begin_b145 k τ (nI o.length) (nI s) (nI d) (nI h) = k τ (nI o.length) (nI s) (nI (d + 1)) (nI (cnd P o s d))) ∧
    (¬ okd P o s d → X5_begin_b145 k τ (nI o.length) (nI s) (nI d) (nI h) = k τ (nI o.length) (nI s) (nI (d + 1)) (-1)) := by
  have hn := hW.1
  have hs5 := S.1.2.2.2.2.1 s hs
  have hws := hW.2.1 s hs
  have hsc : (nI s).toNatClampNeg = s := clamp_n (by omega)
  have g8 := gd_c (n := 8) (i := s) (by omega) (by decide)
  have hm : mx (P 6 0) (gr P o s d) ≤ 24 * d + 11 := mx_le (fun i _ => gr_le (Gd_of hW hv) i)
  have hc : cnd P o s d = 24 * d + max h (mx (P 6 0) (gr P o s d) - 24 * d) := by
    unfold cnd
    rw [hh2]
    omega
  obtain ⟨r, hr1, hr2⟩ := long_n hW hv S hs hd hd2
  have h168 : X5_begin_b145 k τ (nI o.length) (nI s) (nI d) (nI h) = X5_begin_b168 k τ (nI o.length) (nI s) (nI d) (nI (max h (mx (P 6 0) (gr P o s d) - 24 * d))) := by
    unfold X5_begin_b145
    rw [rested_n hW hv S hs hd hd2, Option.bind_some]
    by_cases hle : mx (P 6 0) (gr P o s d) - 24 * d ≤ h
    · rw [if_pos (nI_le hle (by omega)), Nat.max_eq_left hle]
    · rw [if_neg (nI_ge (by omega) (by omega)), Nat.max_eq_right (by omega)]
  rw [h168, hc]
  have hH : max h (mx (P 6 0) (gr P o s d) - 24 * d) < 2 ^ 20 := by omega
  have key : ∀ y, y ≤ 24 → cls P s d = 24 * d + y →
      (okd P o s d → X5_begin_b196 k τ (nI o.length) (nI s) (nI d) (nI (max h (mx (P 6 0) (gr P o s d) - 24 * d))) (nI (max h (mx (P 6 0) (gr P o s d) - 24 * d)) + nI (P 0 s)) (nI y) = k τ (nI o.length) (nI s) (nI (d + 1)) (nI (24 * d + max h (mx (P 6 0) (gr P o s d) - 24 * d)))) ∧
      (¬ okd P o s d → X5_begin_b196 k τ (nI o.length) (nI s) (nI d) (nI (max h (mx (P 6 0) (gr P o s d) - 24 * d))) (nI (max h (mx (P 6 0) (gr P o s d) - 24 * d)) + nI (P 0 s)) (nI y) = k τ (nI o.length) (nI s) (nI (d + 1)) (-1)) := by
    intro y hy hcl
    unfold X5_begin_b196 X5_begin_b204 X5_begin_b231 X5_begin_b232 okd
    rw [nI_add, nI_1, hr1, Option.bind_some, il24, nI_mul, nI_add, hc, hcl]
    generalize hg : max h (mx (P 6 0) (gr P o s d) - 24 * d) = H at hH ⊢
    by_cases h1 : y < H + P 0 s
    · rw [if_pos (nI_lt h1 (by omega)), if_pos rfl]
      exact ⟨fun h => absurd h.1 (by omega), fun _ => rfl⟩
    · rw [if_neg (nI_nlt (by omega) (by omega)), if_neg (by decide)]
      by_cases h2 : r = 0
      · rw [if_pos h2]
        exact ⟨fun _ => rfl, fun h => absurd ⟨by omega, hr2.mp h2⟩ h⟩
      · rw [if_neg h2]
        exact ⟨fun h => absurd (hr2.mpr h.2) h2, fun _ => rfl⟩
  unfold X5_begin_b168
  simp only [hsc, g8, not_false_eq_true, if_true, hs5.1, hs5.2.2.2.1]
  by_cases h1 : P 3 s = 1
  · rw [if_pos (show nI (P 3 s) = 1 by rw [h1]; rfl)]
    exact key 18 (by decide) (by unfold cls; rw [if_pos h1])
  · have hne : ¬ nI (P 3 s) = 1 := nI_ne (b := 1) (by omega) (by decide) h1
    rw [if_neg hne]
    exact key 24 (by decide) (by unfold cls; rw [if_neg h1])
theorem turn_n (hW : Wf P) (hv : Vd P o) (S : SR P o τ) (f : Nat) {s d : Nat} (hs : s < P 6 0) (hd : P 6 3 ≤ d) (hd2 : d ≤ 1010) :
    (okd P o s d → X5_begin_l33 (f + 1) τ (nI o.length) (nI s) (nI d) (-1) = X5_begin_l33 f τ (nI o.length) (nI s) (nI (d + 1)) (nI (cnd P o s d))) ∧
    (¬ okd P o s d → X5_begin_l33 (f + 1) τ (nI o.length) (nI s) (nI d) (-1) = X5_begin_l33 f τ (nI o.length) (nI s) (nI (d + 1)) (-1)) := by
  have hn := hW.1
  have hl8 := len_8 hW hv
  have hs5 := S.1.2.2.2.2.1 s hs
  have hws := hW.2.1 s hs
  have hsc : (nI s).toNatClampNeg = s := clamp_n (by omega)
  have g8 := gd_c (n := 8) (i := s) (by omega) (by decide)
  have key : ∀ h, h ≤ 18 → dwn P s d = 24 * d + h →
      (okd P o s d → X5_begin_b55 (X5_begin_l33 f) τ (nI o.length) (nI s) (nI d) (nI h) = X5_begin_l33 f τ (nI o.length) (nI s) (nI (d + 1)) (nI (cnd P o s d))) ∧
      (¬ okd P o s d → X5_begin_b55 (X5_begin_l33 f) τ (nI o.length) (nI s) (nI d) (nI h) = X5_begin_l33 f τ (nI o.length) (nI s) (nI (d + 1)) (-1)) := by
    intro h hh hdw
    unfold X5_begin_b55
    cases o with
    | nil =>
      rw [if_pos (show nI ([] : Od).length ≤ 0 by decide)]
      exact b145_n hW hv S _ hs hd hd2 (by omega) (by rw [hdw]; show max 0 _ = _; omega)
    | cons x t =>
      have hx := hv.2.1
      have hwx := hW.2.1 x.1 hx
      have hx5 := S.1.2.2.2.2.1 x.1 hx
      have hb := bgn_x hW hv
      have hsub : nI (x :: t).length - 1 = nI t.length := by rw [il1, nI_sub' (by simp), List.length_cons, Nat.add_sub_cancel]
      have hlt : t.length < 8 := by simp at hl8; omega
      have htc : (nI t.length).toNatClampNeg = t.length := clamp_n (by omega)
      have hxc : (nI x.1).toNatClampNeg = x.1 := clamp_n (by omega)
      have g9 := gd_c (n := 9) (i := t.length) (by omega) (by decide)
      have gx := gd_c (n := 8) (i := x.1) (by omega) (by decide)
      rw [if_neg (show ¬ nI (x :: t).length ≤ 0 by rw [il0]; exact nI_ge (by simp) (by simp; omega))]
      simp only [hsub, htc, g9, not_false_eq_true, if_true, S.last.1, S.last.2, hxc, gx, hsc, g8, hx5.2.1, hs5.2.1, hx5.1, X5_begin_b126, X5_begin_b143]
      rw [il24, nI_div (by omega) (by decide) (by decide)]
      by_cases he : x.2 / 24 = d
      · rw [if_pos (by rw [he]), nI_mul, nI_sub' (by omega), nI_add]
        have hb126 : ∀ mv, mv ≤ 1 → (if P 1 x.1 = P 1 s then 0 else 1) = mv →
            (okd P (x :: t) s d → (if nI (x.2 - x.2 / 24 * 24 + P 0 x.1) + nI mv ≤ nI h then X5_begin_b145 (X5_begin_l33 f) τ (nI (x :: t).length) (nI s) (nI d) (nI h) else X5_begin_b145 (X5_begin_l33 f) τ (nI (x :: t).length) (nI s) (nI d) (nI (x.2 - x.2 / 24 * 24 + P 0 x.1) + nI mv)) = X5_begin_l33 f τ (nI (x :: t).length) (nI s) (nI (d + 1)) (nI (cnd P (x :: t) s d))) ∧
            (¬ okd P (x :: t) s d → (if nI (x.2 - x.2 / 24 * 24 + P 0 x.1) + nI mv ≤ nI h then X5_begin_b145 (X5_begin_l33 f) τ (nI (x :: t).length) (nI s) (nI d) (nI h) else X5_begin_b145 (X5_begin_l33 f) τ (nI (x :: t).length) (nI s) (nI d) (nI (x.2 - x.2 / 24 * 24 + P 0 x.1) + nI mv)) = X5_begin_l33 f τ (nI (x :: t).length) (nI s) (nI (d + 1)) (-1)) := by
          intro mv hmv hme
          have hhr : hr0 P s d (x :: t) = x.2 + P 0 x.1 + mv := by rw [hr0, if_pos he, hme]
          rw [nI_add]
          by_cases hle : x.2 - x.2 / 24 * 24 + P 0 x.1 + mv ≤ h
          · rw [if_pos (nI_le hle (by omega))]
            exact b145_n hW hv S _ hs hd hd2 (by omega) (by rw [hdw, hhr]; omega)
          · rw [if_neg (nI_ge (by omega) (by omega))]
            exact b145_n hW hv S _ hs hd hd2 (by omega) (by rw [hdw, hhr]; omega)
        by_cases hp : P 1 x.1 = P 1 s
        · rw [if_pos (by rw [hp])]
          exact hb126 0 (by decide) (if_pos hp)
        · rw [if_neg (nI_ne (by omega) (by omega) hp)]
          exact hb126 1 (by decide) (if_neg hp)
      · rw [if_neg (nI_ne (by omega) (by omega) he)]
        exact b145_n hW hv S _ hs hd hd2 (by omega) (by rw [hdw, hr0, if_neg he]; omega)
  rw [X5_begin_l33, if_neg (by decide)]
  simp only [hsc, g8, not_false_eq_true, if_true, hs5.2.2.2.1]
  by_cases h1 : P 3 s = 2
  · rw [if_pos (show nI (P 3 s) = 2 by rw [h1]; rfl)]
    exact key 18 (by decide) (by unfold dwn; rw [if_pos h1])
  · have hne : ¬ nI (P 3 s) = 2 := nI_ne (b := 2) (by omega) (by decide) h1
    rw [if_neg hne]
    exact key 8 (by decide) (by unfold dwn; rw [if_neg h1])
theorem begin_n (hW : Wf P) (hv : Vd P o) (S : SR P o τ) {s : Nat} (hs : s < P 6 0) (hl : o.length < 8) (h9 : τ 9 o.length = nI s) : X5_begin τ (nI o.length) = some (nI (plc P o s)) := by
  have hn := hW.1
  have hd := day_lt hW hv
  have hG := (Gd_of hW hv).1
  have hlc : (nI o.length).toNatClampNeg = o.length := clamp_n (by omega)
  have g9 := gd_c (n := 9) (i := o.length) (by omega) (by decide)
  have hpl : plc P o s < 2 ^ 20 := by
    obtain ⟨d, h1, h2, h3, h4, h5, h6⟩ := step hW hv hs
    rcases h3 with h3 | h3 <;> omega
  have hend : ∀ f x3, X5_begin_l33 (f + 1) τ (nI o.length) (nI s) x3 (nI (plc P o s)) = some (nI (plc P o s)) := by
    intro f x3
    rw [X5_begin_l33, il0, if_pos (nI_le (Nat.zero_le _) (by omega))]
  have h29 : X5_begin_b29 τ (nI o.length) (nI s) (nI (day0 P o)) = some (nI (plc P o s)) := by
    unfold X5_begin_b29
    rw [show fuel_X5_begin_33 = 61 + 1 + 1 + 1 from rfl]
    have t1 := turn_n hW hv S (61 + 1 + 1) hs hG (by omega)
    have t2 := turn_n hW hv S (61 + 1) (d := day0 P o + 1) hs (by omega) (by omega)
    by_cases hok : okd P o s (day0 P o)
    · rw [t1.1 hok, ← plc_t hok]
      exact hend _ _
    · rw [t1.2 hok]
      obtain ⟨d, h1, h2, h3, h4, h5, h6⟩ := step hW hv hs
      rcases h3 with rfl | ⟨rfl, -⟩
      · exact absurd h1 hok
      · rw [t2.1 h1, ← h2]
        exact hend _ _
  unfold X5_begin
  simp only [hlc, g9, not_false_eq_true, if_true, h9]
  cases o with
  | nil =>
    rw [if_pos (show nI ([] : Od).length = 0 by decide), S.1.2.2.2.1]
    exact h29
  | cons x t =>
    have hb := bgn_x hW hv
    have hsub : nI (x :: t).length - 1 = nI t.length := by rw [il1, nI_sub' (by simp), List.length_cons, Nat.add_sub_cancel]
    have htl : t.length < 8 := by simp at hl; omega
    have htc : (nI t.length).toNatClampNeg = t.length := clamp_n (by omega)
    have g9' := gd_c (n := 9) (i := t.length) (by omega) (by decide)
    have hne : ¬ nI (x :: t).length = 0 := nI_ne (b := 0) (by omega) (by decide) (by simp)
    rw [if_neg hne]
    simp only [hsub, htc, g9', not_false_eq_true, if_true, S.last.2]
    rw [il24, nI_div (by omega) (by decide) (by decide)]
    exact h29
end
