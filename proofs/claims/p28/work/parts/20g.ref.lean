/-! What there is not is refused: the law's refuses. -/
theorem act_0 (σ : SS) (a b c : Int32) : L_act σ 0 a 1 c = bdc CS3 (X4_setOut σ a 1) (fun r σ => if r = 0 then some (0, σ) else some (1, σ)) := by
  unfold L_act L_act_b16
  rw [if_pos rfl, if_pos rfl]
theorem act_1 (σ : SS) (a b c : Int32) : L_act σ 1 a 1 c = bdc CS3 (X4_setChild σ a 1) (fun r σ => if r = 0 then some (0, σ) else some (1, σ)) := by
  unfold L_act L_act_b47
  rw [if_neg (by decide), if_pos rfl, if_pos rfl]
theorem act_2 (σ : SS) (a b c : Int32) : L_act σ 2 a b c = bdc CS3 (X4_setRates σ a b) (fun r σ => some (r, σ)) := by
  unfold L_act
  rw [if_neg (by decide), if_neg (by decide), if_pos rfl]
theorem act_4 (σ : SS) (a b c : Int32) : L_act σ 4 a b c = bdc CS3 (X4_approve σ a b) (fun r σ => some (r, σ)) := by
  unfold L_act
  rw [if_neg (by decide), if_neg (by decide), if_neg (by decide), if_neg (by decide), if_pos rfl]
theorem act_5 (σ : SS) (a b c : Int32) : L_act σ 5 a b c = bdc CS3 (X4_grant σ a) (fun r σ => some (r, σ)) := by
  unfold L_act
  rw [if_neg (by decide), if_neg (by decide), if_neg (by decide), if_neg (by decide), if_neg (by decide), if_pos rfl]
theorem act_9 (σ : SS) (a b c : Int32) : L_act σ 9 a b c = bdc CS3 (X4_income σ a) (fun r σ => some (r, σ)) := by
  unfold L_act
  rw [if_neg (by decide), if_neg (by decide), if_neg (by decide), if_neg (by decide), if_neg (by decide), if_neg (by decide), if_neg (by decide), if_neg (by decide), if_neg (by decide), if_pos rfl]
theorem act_12 (σ : SS) (a b c : Int32) : L_act σ 12 a b c = bdc CS3 (X4_begins σ a) (fun r σ => some (r, σ)) := by
  unfold L_act
  rw [if_neg (by decide), if_neg (by decide), if_neg (by decide), if_neg (by decide), if_neg (by decide), if_neg (by decide), if_neg (by decide), if_neg (by decide), if_neg (by decide), if_neg (by decide), if_neg (by decide), if_neg (by decide), if_pos rfl]
theorem act_13 (σ : SS) (a b c : Int32) : L_act σ 13 a b c = bdc CS3 (X4_left σ a) (fun r σ => some (r, σ)) := by
  unfold L_act
  rw [if_neg (by decide), if_neg (by decide), if_neg (by decide), if_neg (by decide), if_neg (by decide), if_neg (by decide), if_neg (by decide), if_neg (by decide), if_neg (by decide), if_neg (by decide), if_neg (by decide), if_neg (by decide), if_neg (by decide), if_pos rfl]
theorem act_14 (σ : SS) (a b c : Int32) : L_act σ 14 a b c = bdc CS3 (X4_openOf σ a) (fun r σ => some (r, σ)) := by
  unfold L_act
  rw [if_neg (by decide), if_neg (by decide), if_neg (by decide), if_neg (by decide), if_neg (by decide), if_neg (by decide), if_neg (by decide), if_neg (by decide), if_neg (by decide), if_neg (by decide), if_neg (by decide), if_neg (by decide), if_neg (by decide), if_neg (by decide), if_pos rfl]
theorem act_15 (σ : SS) (a b c : Int32) : L_act σ 15 a b c = bdc CS3 (X4_got σ a) (fun r σ => some (r, σ)) := by
  unfold L_act
  rw [if_neg (by decide), if_neg (by decide), if_neg (by decide), if_neg (by decide), if_neg (by decide), if_neg (by decide), if_neg (by decide), if_neg (by decide), if_neg (by decide), if_neg (by decide), if_neg (by decide), if_neg (by decide), if_neg (by decide), if_neg (by decide), if_neg (by decide)]
theorem max_le (x : Int32) : x ≤ 2147483647 := by
  rw [Int32.le_iff_toInt_le, show (2147483647 : Int32).toInt = 2147483647 by decide]
  have := Int32.toInt_lt x
  omega
theorem win_no1 {x : Int32} {n : Nat} (hn : n ≤ 12) (h : x < -1 ∨ nI n ≤ x) : X4_isWithin x (-1) (nI n - 1) = 0 := by
  rw [win_iff]
  rcases h with h | h
  · exact Or.inl h
  · refine Or.inr ?_
    rw [Int32.lt_iff_toInt_lt, Int32.toInt_sub, nI_toInt (by omega), show (1 : Int32).toInt = 1 by decide, Int.bmod_eq_of_le (by omega) (by omega)]
    rw [Int32.le_iff_toInt_le, nI_toInt (by omega)] at h
    omega
theorem win_no2 {x : Int32} {n : Nat} (hn : n ≤ 12) (h : x < 0 ∨ nI n ≤ x) : X4_isWithin x 0 (nI n - 1) = 0 := by
  rw [win_iff]
  rcases h with h | h
  · exact Or.inl h
  · refine Or.inr ?_
    rw [Int32.lt_iff_toInt_lt, Int32.toInt_sub, nI_toInt (by omega), show (1 : Int32).toInt = 1 by decide, Int.bmod_eq_of_le (by omega) (by omega)]
    rw [Int32.le_iff_toInt_le, nI_toInt (by omega)] at h
    omega
section
variable {P : PP} {m σ : SS} {a : Int32}

theorem rf_0 (h : X4_isWithin a 0 3 = 0) : L_act σ 0 a 1 0 = some (-71, σ) := (act_0 σ a 0 0).trans (bdc_E (by unfold X4_setOut; rw [if_pos h]) rfl)
theorem rf_1 (h : X4_isWithin a 0 5 = 0) : L_act σ 1 a 1 0 = some (-71, σ) := (act_1 σ a 0 0).trans (bdc_E (by unfold X4_setChild; rw [if_pos h]) rfl)
theorem rf_2 (h : X4_isWithin a 0 1000 = 0) : L_act σ 2 a 0 0 = some (-72, σ) := (act_2 σ a 0 0).trans (bdc_E (by unfold X4_setRates X4_setRates_b22; rw [if_pos h]) rfl)
theorem rf_2b (h : X4_isWithin a 0 1000 = 0) : L_act σ 2 0 a 0 = some (-72, σ) := (act_2 σ 0 a 0).trans (bdc_E (by unfold X4_setRates X4_setRates_b22; rw [if_neg (by decide), if_pos h]) rfl)
theorem rf_4 (h : X4_isWithin a 0 3 = 0) : L_act σ 4 a 0 0 = some (-71, σ) := (act_4 σ a 0 0).trans (bdc_E (by unfold X4_approve; rw [if_pos h]) rfl)
theorem rf_4b (h : X4_isWithin a 1 100000 = 0) : L_act σ 4 0 a 0 = some (-72, σ) := (act_4 σ 0 a 0).trans (bdc_E (by unfold X4_approve; rw [if_neg (by decide), if_pos h]) rfl)
theorem rf_5 (h : X4_isWithin a 1 100000 = 0) : L_act σ 5 a 0 0 = some (-72, σ) := (act_5 σ a 0 0).trans (bdc_E (by unfold X4_grant; rw [if_pos h]) rfl)
theorem rf_6 (h : X4_isWithin a 0 3 = 0) : L_act σ 6 a 0 0 = some (-71, σ) := (act_6 σ a 0 0).trans (bdc_E (by unfold X4_bill; rw [if_pos h]) rfl)
theorem rf_6b (h : X4_isWithin a 1 100000 = 0) : L_act σ 6 0 a 0 = some (-72, σ) := (act_6 σ 0 a 0).trans (bdc_E (by unfold X4_bill; rw [if_neg (by decide), if_pos h]) rfl)
theorem rf_7 (h : X4_isWithin a 0 5 = 0) : L_act σ 7 a 0 0 = some (-71, σ) := (act_7 σ a 0 0).trans (bdc_E (by unfold X4_loan; rw [if_pos h]) rfl)
theorem rf_7b (h : X4_isWithin a 1 100000 = 0) : L_act σ 7 0 a 0 = some (-72, σ) := (act_7 σ 0 a 0).trans (bdc_E (by unfold X4_loan; rw [if_neg (by decide), if_pos h]) rfl)
theorem rf_8 {p : Nat} (hp : p ≤ 12) (e : σ 4 8 = nI p) (h : a < -1 ∨ nI p ≤ a) : L_act σ 8 a 0 0 = some (-71, σ) := (act_8 σ a 0 0).trans (bdc_E (by unfold X4_part X4_part_b26; rw [e, if_pos (win_no1 hp h)]) rfl)
theorem win_m1 {p : Nat} (hp : p ≤ 12) : ¬ X4_isWithin (-1) (-1) (nI p - 1) = 0 := by
  rw [win_iff]
  rintro (h | h)
  · exact absurd h (by decide)
  · rw [Int32.lt_iff_toInt_lt, Int32.toInt_sub, nI_toInt (by omega), show (1 : Int32).toInt = 1 by decide, show (-1 : Int32).toInt = -1 by decide, Int.bmod_eq_of_le (by omega) (by omega)] at h
    omega
theorem rf_8b {p : Nat} (hp : p ≤ 12) (e : σ 4 8 = nI p) (h : X4_isWithin a 0 5 = 0) : L_act σ 8 (-1) a 0 = some (-71, σ) := (act_8 σ (-1) a 0).trans (bdc_E (by unfold X4_part X4_part_b26; rw [e, if_neg (win_m1 hp), if_pos h]) rfl)
theorem rf_8c {p : Nat} (hp : p ≤ 12) (e : σ 4 8 = nI p) (h : X4_isWithin a 1 100 = 0) : L_act σ 8 (-1) 0 a = some (-72, σ) := (act_8 σ (-1) 0 a).trans (bdc_E (by unfold X4_part; rw [e, if_neg (win_m1 hp), if_neg (by decide), if_pos h]) rfl)
theorem rf_9 (h : X4_isWithin a 1 1000000 = 0) : L_act σ 9 a 0 0 = some (-72, σ) := (act_9 σ a 0 0).trans (bdc_E (by unfold X4_income; rw [if_pos h]) rfl)
theorem rf_11 (S : Sh P m σ) (h : a < 0 ∨ nI (rem P []) ≤ a) : L_act σ 11 a 0 0 = some (-71, σ) := (act_11 σ a 0 0).trans (bdc_E (sh_plannedE S h) rfl)
theorem rf_12 (S : Sh P m σ) (h : a < 0 ∨ nI (P 6 0) ≤ a) : L_act σ 12 a 0 0 = some (-71, σ) := (act_12 σ a 0 0).trans (bdc_E (by unfold X4_begins; rw [S.2.2.1.1.1.1, if_pos (win_no S.1.1 h)]) rfl)
theorem rf_13 (h : X4_isWithin a 0 3 = 0) : L_act σ 13 a 0 0 = some (-71, σ) := (act_13 σ a 0 0).trans (bdc_E (by unfold X4_left; rw [if_pos h]) rfl)
theorem rf_14 {p : Nat} (hp : p ≤ 12) (e : σ 4 7 = nI p) (h : a < 0 ∨ nI p ≤ a) : L_act σ 14 a 0 0 = some (-71, σ) := (act_14 σ a 0 0).trans (bdc_E (by unfold X4_openOf; rw [e, if_pos (win_no2 hp h)]) rfl)
theorem rf_15 (h : X4_isWithin a 0 5 = 0) : L_act σ 15 a 0 0 = some (-71, σ) := (act_15 σ a 0 0).trans (bdc_E (by unfold X4_got; rw [if_pos h]) rfl)
theorem rf_s1 (h : X4_isWithin a 1 6 = 0) : L_scene σ a 0 0 0 0 = some (-72, σ) := bdc_E (cs := [("java/lang/IllegalArgumentException", -72), ("java/lang/IllegalStateException", -73)]) (by unfold X4_addScene X4_addScene_b54; rw [if_pos h]) rfl
theorem rf_s2 (h : X4_isWithin a 0 3 = 0) : L_scene σ 1 a 0 0 0 = some (-72, σ) := bdc_E (cs := [("java/lang/IllegalArgumentException", -72), ("java/lang/IllegalStateException", -73)]) (by unfold X4_addScene X4_addScene_b54; rw [if_neg (by decide), if_pos h]) rfl
theorem rf_s3 (h : X4_isWithin a 0 63 = 0) : L_scene σ 1 0 a 0 0 = some (-72, σ) := bdc_E (cs := [("java/lang/IllegalArgumentException", -72), ("java/lang/IllegalStateException", -73)]) (by unfold X4_addScene X4_addScene_b54; rw [if_neg (by decide), if_neg (by decide), if_pos h]) rfl
theorem rf_s4 (h : X4_isWithin a 0 2 = 0) : L_scene σ 1 0 0 a 0 = some (-72, σ) := bdc_E (cs := [("java/lang/IllegalArgumentException", -72), ("java/lang/IllegalStateException", -73)]) (by unfold X4_addScene X4_addScene_b54; rw [if_neg (by decide), if_neg (by decide), if_neg (by decide), if_pos h]) rfl
theorem rf_s5 (S : Sh P m σ) (h : X4_isWithin a 0 (nI (2 ^ P 6 0 - 1)) = 0) : L_scene σ 1 0 0 0 a = some (-72, σ) := bdc_E (cs := [("java/lang/IllegalArgumentException", -72), ("java/lang/IllegalStateException", -73)]) (by unfold X4_addScene X4_addScene_b54; rw [if_neg (by decide), if_neg (by decide), if_neg (by decide), if_neg (by decide), every_n S.1 S.2.2.1.1.1, if_neg (fun e => (ahead_n S.1.1 a).mp e h)]) rfl
end
