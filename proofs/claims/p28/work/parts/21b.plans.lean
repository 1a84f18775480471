theorem hs_plans_989 {s0 : SS} (S0 : Sh (pl kp37) (lit km58) s0) : L_plans_b989 s0 = some 1 := by
  unfold L_plans_b989
  obtain ⟨s103, e103, S103⟩ := sh_opL (f := fun m => X4_income m (1000000 : Int32)) (cm_income (1000000 : Int32)) S0 (1000000 : Int32) km59 (by decide +kernel)
  refine gx e103 ?_
  refine gp (by decide) ?_
  obtain ⟨s104, e104, S104⟩ := sh_opL (f := fun m => X4_got m (5 : Int32)) (cm_got (5 : Int32)) S103 (1100000 : Int32) km59 (by decide +kernel)
  refine gx e104 ?_
  refine gp (by decide) ?_
  obtain ⟨s105, e105, S105⟩ := sh_opL (f := fun m => X4_got m (0 : Int32)) (cm_got (0 : Int32)) S104 (200000 : Int32) km59 (by decide +kernel)
  refine gx e105 ?_
  refine gp (by decide) ?_
  refine gp (sh_house S105 (by decide +kernel)) ?_
  obtain ⟨s106, e106, S106⟩ := sh_refusesL S105 (8 : Int32) (8 : Int32) (10 : Int32) (12 : Int32) 10 12 (by decide +kernel)
  refine g2 e106 ?_
  refine gn (by decide) ?_
  rfl
theorem hs_plans_929_13 (n : Nat) {s0 : SS} (S0 : Sh (pl kp37) (lit km57) s0) : L_plans_l929 (n + 1) s0 13 = some 1 := by
  rw [L_plans_l929]
  refine gp (by decide) ?_
  obtain ⟨s102, e102, S102⟩ := sh_opL (f := fun m => X4_income m (1000000 : Int32)) (cm_income (1000000 : Int32)) S0 (0 : Int32) km58 (by decide +kernel)
  refine gx e102 ?_
  refine gp (by decide) ?_
  exact hs_plans_989 S102
theorem hs_plans_929_12 (n : Nat) {s0 : SS} (S0 : Sh (pl kp37) (lit km57) s0) : L_plans_l929 (n + 2) s0 12 = some 1 := by
  rw [L_plans_l929]
  refine gn (by decide) ?_
  rw [show ((12 : Int32) - (1 : Int32)) = (11 : Int32) from by decide]
  rw [show ((12 : Int32) - (12 : Int32) / (6 : Int32) * (6 : Int32)) = (0 : Int32) from by decide]
  obtain ⟨s101, e101, S101⟩ := sh_act8E S0 (11 : Int32) (0 : Int32) (100 : Int32) (-73 : Int32) km57 (by decide +kernel)
  refine g2 e101 ?_
  refine gp (by decide) ?_
  unfold L_plans_b968
  refine gp (by decide) ?_
  exact (hs_plans_929_13 n S101)
theorem hs_plans_929_11 (n : Nat) {s0 : SS} (S0 : Sh (pl kp37) (lit km56) s0) : L_plans_l929 (n + 3) s0 11 = some 1 := by
  rw [L_plans_l929]
  refine gn (by decide) ?_
  rw [show ((11 : Int32) - (1 : Int32)) = (10 : Int32) from by decide]
  rw [show ((11 : Int32) - (11 : Int32) / (6 : Int32) * (6 : Int32)) = (5 : Int32) from by decide]
  obtain ⟨s100, e100, S100⟩ := sh_act8L S0 (10 : Int32) (5 : Int32) (100 : Int32) (11 : Int32) km57 (by decide +kernel)
  refine g2 e100 ?_
  refine gn (by decide) ?_
  unfold L_plans_b968
  refine gp (by decide) ?_
  exact (hs_plans_929_12 n S100)
theorem hs_plans_929_10 (n : Nat) {s0 : SS} (S0 : Sh (pl kp37) (lit km55) s0) : L_plans_l929 (n + 4) s0 10 = some 1 := by
  rw [L_plans_l929]
  refine gn (by decide) ?_
  rw [show ((10 : Int32) - (1 : Int32)) = (9 : Int32) from by decide]
  rw [show ((10 : Int32) - (10 : Int32) / (6 : Int32) * (6 : Int32)) = (4 : Int32) from by decide]
  obtain ⟨s99, e99, S99⟩ := sh_act8L S0 (9 : Int32) (4 : Int32) (100 : Int32) (10 : Int32) km56 (by decide +kernel)
  refine g2 e99 ?_
  refine gn (by decide) ?_
  unfold L_plans_b968
  refine gp (by decide) ?_
  exact (hs_plans_929_11 n S99)
theorem hs_plans_929_9 (n : Nat) {s0 : SS} (S0 : Sh (pl kp37) (lit km54) s0) : L_plans_l929 (n + 5) s0 9 = some 1 := by
  rw [L_plans_l929]
  refine gn (by decide) ?_
  rw [show ((9 : Int32) - (1 : Int32)) = (8 : Int32) from by decide]
  rw [show ((9 : Int32) - (9 : Int32) / (6 : Int32) * (6 : Int32)) = (3 : Int32) from by decide]
  obtain ⟨s98, e98, S98⟩ := sh_act8L S0 (8 : Int32) (3 : Int32) (100 : Int32) (9 : Int32) km55 (by decide +kernel)
  refine g2 e98 ?_
  refine gn (by decide) ?_
  unfold L_plans_b968
  refine gp (by decide) ?_
  exact (hs_plans_929_10 n S98)
theorem hs_plans_929_8 (n : Nat) {s0 : SS} (S0 : Sh (pl kp37) (lit km53) s0) : L_plans_l929 (n + 6) s0 8 = some 1 := by
  rw [L_plans_l929]
  refine gn (by decide) ?_
  rw [show ((8 : Int32) - (1 : Int32)) = (7 : Int32) from by decide]
  rw [show ((8 : Int32) - (8 : Int32) / (6 : Int32) * (6 : Int32)) = (2 : Int32) from by decide]
  obtain ⟨s97, e97, S97⟩ := sh_act8L S0 (7 : Int32) (2 : Int32) (100 : Int32) (8 : Int32) km54 (by decide +kernel)
  refine g2 e97 ?_
  refine gn (by decide) ?_
  unfold L_plans_b968
  refine gp (by decide) ?_
  exact (hs_plans_929_9 n S97)
theorem hs_plans_929_7 (n : Nat) {s0 : SS} (S0 : Sh (pl kp37) (lit km52) s0) : L_plans_l929 (n + 7) s0 7 = some 1 := by
  rw [L_plans_l929]
  refine gn (by decide) ?_
  rw [show ((7 : Int32) - (1 : Int32)) = (6 : Int32) from by decide]
  rw [show ((7 : Int32) - (7 : Int32) / (6 : Int32) * (6 : Int32)) = (1 : Int32) from by decide]
  obtain ⟨s96, e96, S96⟩ := sh_act8L S0 (6 : Int32) (1 : Int32) (100 : Int32) (7 : Int32) km53 (by decide +kernel)
  refine g2 e96 ?_
  refine gn (by decide) ?_
  unfold L_plans_b968
  refine gp (by decide) ?_
  exact (hs_plans_929_8 n S96)
theorem hs_plans_929_6 (n : Nat) {s0 : SS} (S0 : Sh (pl kp37) (lit km51) s0) : L_plans_l929 (n + 8) s0 6 = some 1 := by
  rw [L_plans_l929]
  refine gn (by decide) ?_
  rw [show ((6 : Int32) - (1 : Int32)) = (5 : Int32) from by decide]
  rw [show ((6 : Int32) - (6 : Int32) / (6 : Int32) * (6 : Int32)) = (0 : Int32) from by decide]
  obtain ⟨s95, e95, S95⟩ := sh_act8L S0 (5 : Int32) (0 : Int32) (100 : Int32) (6 : Int32) km52 (by decide +kernel)
  refine g2 e95 ?_
  refine gn (by decide) ?_
  unfold L_plans_b968
  refine gp (by decide) ?_
  exact (hs_plans_929_7 n S95)
theorem hs_plans_929_5 (n : Nat) {s0 : SS} (S0 : Sh (pl kp37) (lit km50) s0) : L_plans_l929 (n + 9) s0 5 = some 1 := by
  rw [L_plans_l929]
  refine gn (by decide) ?_
  rw [show ((5 : Int32) - (1 : Int32)) = (4 : Int32) from by decide]
  rw [show ((5 : Int32) - (5 : Int32) / (6 : Int32) * (6 : Int32)) = (5 : Int32) from by decide]
  obtain ⟨s94, e94, S94⟩ := sh_act8L S0 (4 : Int32) (5 : Int32) (100 : Int32) (5 : Int32) km51 (by decide +kernel)
  refine g2 e94 ?_
  refine gn (by decide) ?_
  unfold L_plans_b968
  refine gp (by decide) ?_
  exact (hs_plans_929_6 n S94)
theorem hs_plans_929_4 (n : Nat) {s0 : SS} (S0 : Sh (pl kp37) (lit km49) s0) : L_plans_l929 (n + 10) s0 4 = some 1 := by
  rw [L_plans_l929]
  refine gn (by decide) ?_
  rw [show ((4 : Int32) - (1 : Int32)) = (3 : Int32) from by decide]
  rw [show ((4 : Int32) - (4 : Int32) / (6 : Int32) * (6 : Int32)) = (4 : Int32) from by decide]
  obtain ⟨s93, e93, S93⟩ := sh_act8L S0 (3 : Int32) (4 : Int32) (100 : Int32) (4 : Int32) km50 (by decide +kernel)
  refine g2 e93 ?_
  refine gn (by decide) ?_
  unfold L_plans_b968
  refine gp (by decide) ?_
  exact (hs_plans_929_5 n S93)
theorem hs_plans_929_3 (n : Nat) {s0 : SS} (S0 : Sh (pl kp37) (lit km48) s0) : L_plans_l929 (n + 11) s0 3 = some 1 := by
  rw [L_plans_l929]
  refine gn (by decide) ?_
  rw [show ((3 : Int32) - (1 : Int32)) = (2 : Int32) from by decide]
  rw [show ((3 : Int32) - (3 : Int32) / (6 : Int32) * (6 : Int32)) = (3 : Int32) from by decide]
  obtain ⟨s92, e92, S92⟩ := sh_act8L S0 (2 : Int32) (3 : Int32) (100 : Int32) (3 : Int32) km49 (by decide +kernel)
  refine g2 e92 ?_
  refine gn (by decide) ?_
  unfold L_plans_b968
  refine gp (by decide) ?_
  exact (hs_plans_929_4 n S92)
theorem hs_plans_929_2 (n : Nat) {s0 : SS} (S0 : Sh (pl kp37) (lit km47) s0) : L_plans_l929 (n + 12) s0 2 = some 1 := by
  rw [L_plans_l929]
  refine gn (by decide) ?_
  rw [show ((2 : Int32) - (1 : Int32)) = (1 : Int32) from by decide]
  rw [show ((2 : Int32) - (2 : Int32) / (6 : Int32) * (6 : Int32)) = (2 : Int32) from by decide]
  obtain ⟨s91, e91, S91⟩ := sh_act8L S0 (1 : Int32) (2 : Int32) (100 : Int32) (2 : Int32) km48 (by decide +kernel)
  refine g2 e91 ?_
  refine gn (by decide) ?_
  unfold L_plans_b968
  refine gp (by decide) ?_
  exact (hs_plans_929_3 n S91)
theorem hs_plans_929_1 (n : Nat) {s0 : SS} (S0 : Sh (pl kp37) (lit km46) s0) : L_plans_l929 (n + 13) s0 1 = some 1 := by
  rw [L_plans_l929]
  refine gn (by decide) ?_
  rw [show ((1 : Int32) - (1 : Int32)) = (0 : Int32) from by decide]
  rw [show ((1 : Int32) - (1 : Int32) / (6 : Int32) * (6 : Int32)) = (1 : Int32) from by decide]
  obtain ⟨s90, e90, S90⟩ := sh_act8L S0 (0 : Int32) (1 : Int32) (100 : Int32) (1 : Int32) km47 (by decide +kernel)
  refine g2 e90 ?_
  refine gn (by decide) ?_
  unfold L_plans_b968
  refine gp (by decide) ?_
  exact (hs_plans_929_2 n S90)
theorem hs_plans_929_0 (n : Nat) {s0 : SS} (S0 : Sh (pl kp37) (lit km45) s0) : L_plans_l929 (n + 14) s0 0 = some 1 := by
  rw [L_plans_l929]
  refine gn (by decide) ?_
  rw [show ((0 : Int32) - (1 : Int32)) = (-1 : Int32) from by decide]
  rw [show ((0 : Int32) - (0 : Int32) / (6 : Int32) * (6 : Int32)) = (0 : Int32) from by decide]
  obtain ⟨s89, e89, S89⟩ := sh_act8L S0 (-1 : Int32) (0 : Int32) (100 : Int32) (0 : Int32) km46 (by decide +kernel)
  refine g2 e89 ?_
  refine gn (by decide) ?_
  unfold L_plans_b968
  refine gp (by decide) ?_
  exact (hs_plans_929_1 n S89)
theorem hs_plans_879_11 (n : Nat) {s0 : SS} (S0 : Sh (pl kp37) (lit km45) s0) : L_plans_l879 (n + 1) s0 11 = some 1 := by
  rw [L_plans_l879]
  refine gp (by decide) ?_
  exact hs_plans_929_0 0 S0
theorem hs_plans_879_10 (n : Nat) {s0 : SS} (S0 : Sh (pl kp37) (lit km45) s0) : L_plans_l879 (n + 2) s0 10 = some 1 := by
  rw [L_plans_l879]
  refine gn (by decide) ?_
  rw [show ((10 : Int32) - (10 : Int32) / (6 : Int32) * (6 : Int32)) = (4 : Int32) from by decide]
  obtain ⟨s88, e88, S88⟩ := sh_act7E S0 (4 : Int32) (100000 : Int32) (-73 : Int32) km45 (by decide +kernel)
  refine g2 e88 ?_
  refine gp (by decide) ?_
  unfold L_plans_b915
  refine gp (by decide) ?_
  exact (hs_plans_879_11 n S88)
theorem hs_plans_879_9 (n : Nat) {s0 : SS} (S0 : Sh (pl kp37) (lit km44) s0) : L_plans_l879 (n + 3) s0 9 = some 1 := by
  rw [L_plans_l879]
  refine gn (by decide) ?_
  rw [show ((9 : Int32) - (9 : Int32) / (6 : Int32) * (6 : Int32)) = (3 : Int32) from by decide]
  obtain ⟨s87, e87, S87⟩ := sh_act7L S0 (3 : Int32) (100000 : Int32) (9 : Int32) km45 (by decide +kernel)
  refine g2 e87 ?_
  refine gn (by decide) ?_
  unfold L_plans_b915
  refine gp (by decide) ?_
  exact (hs_plans_879_10 n S87)
theorem hs_plans_879_8 (n : Nat) {s0 : SS} (S0 : Sh (pl kp37) (lit km43) s0) : L_plans_l879 (n + 4) s0 8 = some 1 := by
  rw [L_plans_l879]
  refine gn (by decide) ?_
  rw [show ((8 : Int32) - (8 : Int32) / (6 : Int32) * (6 : Int32)) = (2 : Int32) from by decide]
  obtain ⟨s86, e86, S86⟩ := sh_act7L S0 (2 : Int32) (100000 : Int32) (8 : Int32) km44 (by decide +kernel)
  refine g2 e86 ?_
  refine gn (by decide) ?_
  unfold L_plans_b915
  refine gp (by decide) ?_
  exact (hs_plans_879_9 n S86)
theorem hs_plans_879_7 (n : Nat) {s0 : SS} (S0 : Sh (pl kp37) (lit km42) s0) : L_plans_l879 (n + 5) s0 7 = some 1 := by
  rw [L_plans_l879]
  refine gn (by decide) ?_
  rw [show ((7 : Int32) - (7 : Int32) / (6 : Int32) * (6 : Int32)) = (1 : Int32) from by decide]
  obtain ⟨s85, e85, S85⟩ := sh_act7L S0 (1 : Int32) (100000 : Int32) (7 : Int32) km43 (by decide +kernel)
  refine g2 e85 ?_
  refine gn (by decide) ?_
  unfold L_plans_b915
  refine gp (by decide) ?_
  exact (hs_plans_879_8 n S85)
theorem hs_plans_879_6 (n : Nat) {s0 : SS} (S0 : Sh (pl kp37) (lit km41) s0) : L_plans_l879 (n + 6) s0 6 = some 1 := by
  rw [L_plans_l879]
  refine gn (by decide) ?_
  rw [show ((6 : Int32) - (6 : Int32) / (6 : Int32) * (6 : Int32)) = (0 : Int32) from by decide]
  obtain ⟨s84, e84, S84⟩ := sh_act7L S0 (0 : Int32) (100000 : Int32) (6 : Int32) km42 (by decide +kernel)
  refine g2 e84 ?_
  refine gn (by decide) ?_
  unfold L_plans_b915
  refine gp (by decide) ?_
  exact (hs_plans_879_7 n S84)
theorem hs_plans_879_5 (n : Nat) {s0 : SS} (S0 : Sh (pl kp37) (lit km40) s0) : L_plans_l879 (n + 7) s0 5 = some 1 := by
  rw [L_plans_l879]
  refine gn (by decide) ?_
  rw [show ((5 : Int32) - (5 : Int32) / (6 : Int32) * (6 : Int32)) = (5 : Int32) from by decide]
  obtain ⟨s83, e83, S83⟩ := sh_act7L S0 (5 : Int32) (100000 : Int32) (5 : Int32) km41 (by decide +kernel)
  refine g2 e83 ?_
  refine gn (by decide) ?_
  unfold L_plans_b915
  refine gp (by decide) ?_
  exact (hs_plans_879_6 n S83)
theorem hs_plans_879_4 (n : Nat) {s0 : SS} (S0 : Sh (pl kp37) (lit km39) s0) : L_plans_l879 (n + 8) s0 4 = some 1 := by
  rw [L_plans_l879]
  refine gn (by decide) ?_
  rw [show ((4 : Int32) - (4 : Int32) / (6 : Int32) * (6 : Int32)) = (4 : Int32) from by decide]
  obtain ⟨s82, e82, S82⟩ := sh_act7L S0 (4 : Int32) (100000 : Int32) (4 : Int32) km40 (by decide +kernel)
  refine g2 e82 ?_
  refine gn (by decide) ?_
  unfold L_plans_b915
  refine gp (by decide) ?_
  exact (hs_plans_879_5 n S82)
theorem hs_plans_879_3 (n : Nat) {s0 : SS} (S0 : Sh (pl kp37) (lit km38) s0) : L_plans_l879 (n + 9) s0 3 = some 1 := by
  rw [L_plans_l879]
  refine gn (by decide) ?_
  rw [show ((3 : Int32) - (3 : Int32) / (6 : Int32) * (6 : Int32)) = (3 : Int32) from by decide]
  obtain ⟨s81, e81, S81⟩ := sh_act7L S0 (3 : Int32) (100000 : Int32) (3 : Int32) km39 (by decide +kernel)
  refine g2 e81 ?_
  refine gn (by decide) ?_
  unfold L_plans_b915
  refine gp (by decide) ?_
  exact (hs_plans_879_4 n S81)
theorem hs_plans_879_2 (n : Nat) {s0 : SS} (S0 : Sh (pl kp37) (lit km37) s0) : L_plans_l879 (n + 10) s0 2 = some 1 := by
  rw [L_plans_l879]
  refine gn (by decide) ?_
  rw [show ((2 : Int32) - (2 : Int32) / (6 : Int32) * (6 : Int32)) = (2 : Int32) from by decide]
  obtain ⟨s80, e80, S80⟩ := sh_act7L S0 (2 : Int32) (100000 : Int32) (2 : Int32) km38 (by decide +kernel)
  refine g2 e80 ?_
  refine gn (by decide) ?_
  unfold L_plans_b915
  refine gp (by decide) ?_
  exact (hs_plans_879_3 n S80)
theorem hs_plans_879_1 (n : Nat) {s0 : SS} (S0 : Sh (pl kp37) (lit km36) s0) : L_plans_l879 (n + 11) s0 1 = some 1 := by
  rw [L_plans_l879]
  refine gn (by decide) ?_
  rw [show ((1 : Int32) - (1 : Int32) / (6 : Int32) * (6 : Int32)) = (1 : Int32) from by decide]
  obtain ⟨s79, e79, S79⟩ := sh_act7L S0 (1 : Int32) (100000 : Int32) (1 : Int32) km37 (by decide +kernel)
  refine g2 e79 ?_
  refine gn (by decide) ?_
  unfold L_plans_b915
  refine gp (by decide) ?_
  exact (hs_plans_879_2 n S79)
theorem hs_plans_879_0 (n : Nat) {s0 : SS} (S0 : Sh (pl kp37) (lit km0) s0) : L_plans_l879 (n + 12) s0 0 = some 1 := by
  rw [L_plans_l879]
  refine gn (by decide) ?_
  rw [show ((0 : Int32) - (0 : Int32) / (6 : Int32) * (6 : Int32)) = (0 : Int32) from by decide]
  obtain ⟨s78, e78, S78⟩ := sh_act7L S0 (0 : Int32) (100000 : Int32) (0 : Int32) km36 (by decide +kernel)
  refine g2 e78 ?_
  refine gn (by decide) ?_
  unfold L_plans_b915
  refine gp (by decide) ?_
  exact (hs_plans_879_1 n S78)
theorem hs_plans_816 {s0 : SS} (S0 : Sh (pl kp37) (lit km0) s0) : L_plans_b816 s0 = some 1 := by
  unfold L_plans_b816
  obtain ⟨s73, e73, S73⟩ := sh_plannedL S0 kb37 4 (1 : Int32) (by decide +kernel)
  refine gx e73 ?_
  refine gp (by decide) ?_
  obtain ⟨s74, e74, S74⟩ := sh_beginsL S73 kb37 0 (8 : Int32) (by decide +kernel)
  refine gx e74 ?_
  refine gp (by decide) ?_
  obtain ⟨s75, e75, S75⟩ := sh_beginsL S74 kb37 6 (20 : Int32) (by decide +kernel)
  refine gx e75 ?_
  refine gp (by decide) ?_
  obtain ⟨s76, e76, S76⟩ := sh_beginsL S75 kb37 1 (32 : Int32) (by decide +kernel)
  refine gx e76 ?_
  refine gp (by decide) ?_
  obtain ⟨s77, e77, S77⟩ := sh_refusesL S76 (8 : Int32) (8 : Int32) (0 : Int32) (0 : Int32) 0 0 (by decide +kernel)
  refine g2 e77 ?_
  refine gn (by decide) ?_
  exact hs_plans_879_0 0 S77
theorem hs_plans_722_9 (n : Nat) {s0 : SS} (S0 : Sh (pl kp37) (lit km0) s0) : L_plans_l722 (n + 1) s0 9 = some 1 := by
  rw [L_plans_l722]
  refine gp (by decide) ?_
  obtain ⟨s69, e69, S69⟩ := sh_daysL S0 kb37 (2 : Int32) (by decide +kernel)
  refine g2 e69 ?_
  refine gp (by decide) ?_
  obtain ⟨s70, e70, S70⟩ := sh_act10E S69 (by decide +kernel)
  refine g2 e70 ?_
  refine gp (by decide) ?_
  obtain ⟨s71, e71, S71⟩ := sh_plannedL S70 kb37 0 (0 : Int32) (by decide +kernel)
  refine gx e71 ?_
  refine gp (by decide) ?_
  obtain ⟨s72, e72, S72⟩ := sh_plannedL S71 kb37 1 (2 : Int32) (by decide +kernel)
  refine gx e72 ?_
  refine gp (by decide) ?_
  exact hs_plans_816 S72
theorem hs_plans_722_8 (n : Nat) {s0 : SS} (S0 : Sh (pl kp37) (lit km0) s0) : L_plans_l722 (n + 2) s0 8 = some 1 := by
  rw [L_plans_l722]
  refine gn (by decide) ?_
  rw [show ((8 : Int32) - (8 : Int32) / (2 : Int32) * (2 : Int32)) = (0 : Int32) from by decide]
  rw [show ((1 : Int32) <<< (((8 : Int32) - (8 : Int32) / (6 : Int32) * (6 : Int32)) &&& 31)) = (4 : Int32) from by decide]
  obtain ⟨s68, e68, S68⟩ := sh_scene8 S0 4 0 4 0 0 (by decide +kernel)
  refine g2 e68 ?_
  refine gp (by decide) ?_
  unfold L_plans_b762
  refine gp (by decide) ?_
  exact (hs_plans_722_9 n S68)
theorem hs_plans_722_7 (n : Nat) {s0 : SS} (S0 : Sh (pl kp36) (lit km0) s0) : L_plans_l722 (n + 3) s0 7 = some 1 := by
  rw [L_plans_l722]
  refine gn (by decide) ?_
  rw [show ((7 : Int32) - (7 : Int32) / (2 : Int32) * (2 : Int32)) = (1 : Int32) from by decide]
  rw [show ((1 : Int32) <<< (((7 : Int32) - (7 : Int32) / (6 : Int32) * (6 : Int32)) &&& 31)) = (2 : Int32) from by decide]
  obtain ⟨s67, e67, S67⟩ := sh_sceneL S0 4 1 2 0 0 7 kp37 (by decide +kernel)
  refine g2 e67 ?_
  refine gn (by decide) ?_
  unfold L_plans_b762
  refine gp (by decide) ?_
  exact (hs_plans_722_8 n S67)
theorem hs_plans_722_6 (n : Nat) {s0 : SS} (S0 : Sh (pl kp35) (lit km0) s0) : L_plans_l722 (n + 4) s0 6 = some 1 := by
  rw [L_plans_l722]
  refine gn (by decide) ?_
  rw [show ((6 : Int32) - (6 : Int32) / (2 : Int32) * (2 : Int32)) = (0 : Int32) from by decide]
  rw [show ((1 : Int32) <<< (((6 : Int32) - (6 : Int32) / (6 : Int32) * (6 : Int32)) &&& 31)) = (1 : Int32) from by decide]
  obtain ⟨s66, e66, S66⟩ := sh_sceneL S0 4 0 1 0 0 6 kp36 (by decide +kernel)
  refine g2 e66 ?_
  refine gn (by decide) ?_
  unfold L_plans_b762
  refine gp (by decide) ?_
  exact (hs_plans_722_7 n S66)
theorem hs_plans_722_5 (n : Nat) {s0 : SS} (S0 : Sh (pl kp34) (lit km0) s0) : L_plans_l722 (n + 5) s0 5 = some 1 := by
  rw [L_plans_l722]
  refine gn (by decide) ?_
  rw [show ((5 : Int32) - (5 : Int32) / (2 : Int32) * (2 : Int32)) = (1 : Int32) from by decide]
  rw [show ((1 : Int32) <<< (((5 : Int32) - (5 : Int32) / (6 : Int32) * (6 : Int32)) &&& 31)) = (32 : Int32) from by decide]
  obtain ⟨s65, e65, S65⟩ := sh_sceneL S0 4 1 32 0 0 5 kp35 (by decide +kernel)
  refine g2 e65 ?_
  refine gn (by decide) ?_
  unfold L_plans_b762
  refine gp (by decide) ?_
  exact (hs_plans_722_6 n S65)
theorem hs_plans_722_4 (n : Nat) {s0 : SS} (S0 : Sh (pl kp33) (lit km0) s0) : L_plans_l722 (n + 6) s0 4 = some 1 := by
  rw [L_plans_l722]
  refine gn (by decide) ?_
  rw [show ((4 : Int32) - (4 : Int32) / (2 : Int32) * (2 : Int32)) = (0 : Int32) from by decide]
  rw [show ((1 : Int32) <<< (((4 : Int32) - (4 : Int32) / (6 : Int32) * (6 : Int32)) &&& 31)) = (16 : Int32) from by decide]
  obtain ⟨s64, e64, S64⟩ := sh_sceneL S0 4 0 16 0 0 4 kp34 (by decide +kernel)
  refine g2 e64 ?_
  refine gn (by decide) ?_
  unfold L_plans_b762
  refine gp (by decide) ?_
  exact (hs_plans_722_5 n S64)
theorem hs_plans_722_3 (n : Nat) {s0 : SS} (S0 : Sh (pl kp32) (lit km0) s0) : L_plans_l722 (n + 7) s0 3 = some 1 := by
  rw [L_plans_l722]
  refine gn (by decide) ?_
  rw [show ((3 : Int32) - (3 : Int32) / (2 : Int32) * (2 : Int32)) = (1 : Int32) from by decide]
  rw [show ((1 : Int32) <<< (((3 : Int32) - (3 : Int32) / (6 : Int32) * (6 : Int32)) &&& 31)) = (8 : Int32) from by decide]
  obtain ⟨s63, e63, S63⟩ := sh_sceneL S0 4 1 8 0 0 3 kp33 (by decide +kernel)
  refine g2 e63 ?_
  refine gn (by decide) ?_
  unfold L_plans_b762
  refine gp (by decide) ?_
  exact (hs_plans_722_4 n S63)
theorem hs_plans_722_2 (n : Nat) {s0 : SS} (S0 : Sh (pl kp31) (lit km0) s0) : L_plans_l722 (n + 8) s0 2 = some 1 := by
  rw [L_plans_l722]
  refine gn (by decide) ?_
  rw [show ((2 : Int32) - (2 : Int32) / (2 : Int32) * (2 : Int32)) = (0 : Int32) from by decide]
  rw [show ((1 : Int32) <<< (((2 : Int32) - (2 : Int32) / (6 : Int32) * (6 : Int32)) &&& 31)) = (4 : Int32) from by decide]
  obtain ⟨s62, e62, S62⟩ := sh_sceneL S0 4 0 4 0 0 2 kp32 (by decide +kernel)
  refine g2 e62 ?_
  refine gn (by decide) ?_
  unfold L_plans_b762
  refine gp (by decide) ?_
  exact (hs_plans_722_3 n S62)
theorem hs_plans_722_1 (n : Nat) {s0 : SS} (S0 : Sh (pl kp1) (lit km0) s0) : L_plans_l722 (n + 9) s0 1 = some 1 := by
  rw [L_plans_l722]
  refine gn (by decide) ?_
  rw [show ((1 : Int32) - (1 : Int32) / (2 : Int32) * (2 : Int32)) = (1 : Int32) from by decide]
  rw [show ((1 : Int32) <<< (((1 : Int32) - (1 : Int32) / (6 : Int32) * (6 : Int32)) &&& 31)) = (2 : Int32) from by decide]
  obtain ⟨s61, e61, S61⟩ := sh_sceneL S0 4 1 2 0 0 1 kp31 (by decide +kernel)
  refine g2 e61 ?_
  refine gn (by decide) ?_
  unfold L_plans_b762
  refine gp (by decide) ?_
  exact (hs_plans_722_2 n S61)
theorem hs_plans_722_0 (n : Nat) {s0 : SS} (S0 : Sh (pl kp0) (lit km0) s0) : L_plans_l722 (n + 10) s0 0 = some 1 := by
  rw [L_plans_l722]
  refine gn (by decide) ?_
  rw [show ((0 : Int32) - (0 : Int32) / (2 : Int32) * (2 : Int32)) = (0 : Int32) from by decide]
  rw [show ((1 : Int32) <<< (((0 : Int32) - (0 : Int32) / (6 : Int32) * (6 : Int32)) &&& 31)) = (1 : Int32) from by decide]
  obtain ⟨s60, e60, S60⟩ := sh_sceneL S0 4 0 1 0 0 0 kp1 (by decide +kernel)
  refine g2 e60 ?_
  refine gn (by decide) ?_
  unfold L_plans_b762
  refine gp (by decide) ?_
  exact (hs_plans_722_1 n S60)
theorem hs_plans_681 {s0 : SS} (S0 : Sh (pl kp30) (lit km35) s0) : L_plans_b681 s0 = some 1 := by
  unfold L_plans_b681
  refine gp (sh_costs S0 (by decide +kernel)) ?_
  obtain ⟨s58, e58, S58⟩ := sh_opL (f := fun m => X4_left m (1 : Int32)) (cm_left (1 : Int32)) S0 (0 : Int32) km35 (by decide +kernel)
  refine gx e58 ?_
  refine gp (by decide) ?_
  refine gp (sh_fee S58 (by decide +kernel)) ?_
  have S59 : Sh (pl kp0) (lit km0) sC0 := sh_new
  exact hs_plans_722_0 0 S59
theorem hs_plans_614 {s0 : SS} (S0 : Sh (pl kp29) (lit km32) s0) : L_plans_b614 s0 = some 1 := by
  unfold L_plans_b614
  obtain ⟨s53, e53, S53⟩ := sh_planL S0 kb29 (1 : Int32) (32 : Int32) (35 : Int32) (13 : Int32) (by decide +kernel)
  refine g2 e53 ?_
  refine gn (by decide) ?_
  obtain ⟨s54, e54, S54⟩ := sh_holdL S53 (1 : Int32) (0 : Int32) km33 (by decide +kernel)
  refine g2 e54 ?_
  refine gp (by decide) ?_
  obtain ⟨s55, e55, S55⟩ := sh_act3E S54 kb29 (1 : Int32) 3 (by decide +kernel)
  refine g2 e55 ?_
  refine gp (by decide) ?_
  obtain ⟨s56, e56, S56⟩ := sh_opL (f := fun m => X4_approve m (1 : Int32) (1000 : Int32)) (cm_approve (1 : Int32) (1000 : Int32)) S55 (1000 : Int32) km34 (by decide +kernel)
  refine gx e56 ?_
  refine gp (by decide) ?_
  obtain ⟨s57, e57, S57⟩ := sh_shootL S56 kb29 (1 : Int32) (2 : Int32) 3 kp30 km35 (by decide +kernel)
  refine gx e57 ?_
  refine gp (by decide) ?_
  refine gp (sh_shot S57 (by decide +kernel)) ?_
  exact hs_plans_681 S57
theorem hs_plans_552 {s0 : SS} (S0 : Sh (pl kp27) (lit km31) s0) : L_plans_b552 s0 = some 1 := by
  unfold L_plans_b552
  obtain ⟨s49, e49, S49⟩ := sh_addL S0 2 0 0 0 0 2 kp28 (by decide +kernel)
  refine gx e49 ?_
  refine gp (by decide) ?_
  obtain ⟨s50, e50, S50⟩ := sh_planL S49 kb28 (1 : Int32) (8 : Int32) (11 : Int32) (13 : Int32) (by decide +kernel)
  refine g2 e50 ?_
  refine gn (by decide) ?_
  obtain ⟨s51, e51, S51⟩ := sh_shootL S50 kb28 (1 : Int32) (1 : Int32) 4 kp29 km32 (by decide +kernel)
  refine gx e51 ?_
  refine gp (by decide) ?_
  refine gp (sh_shot S51 (by decide +kernel)) ?_
  obtain ⟨s52, e52, S52⟩ := sh_beginsL S51 kb29 2 (13 : Int32) (by decide +kernel)
  refine gx e52 ?_
  refine gp (by decide) ?_
  refine gp (sh_costs S52 (by decide +kernel)) ?_
  exact hs_plans_614 S52
theorem hs_plans_476 {s0 : SS} (S0 : Sh (pl kp24) (lit km0) s0) : L_plans_b476 s0 = some 1 := by
  unfold L_plans_b476
  obtain ⟨s42, e42, S42⟩ := sh_daysL S0 kb24 (2 : Int32) (by decide +kernel)
  refine g2 e42 ?_
  refine gp (by decide) ?_
  have S43 : Sh (pl kp0) (lit km0) sC0 := sh_new
  obtain ⟨s44, e44, S44⟩ := sh_opL (f := fun m => X4_setOut m (3 : Int32) (1 : Int32)) (cm_setOut (3 : Int32) (1 : Int32)) S43 (0 : Int32) km29 (by decide +kernel)
  refine gx e44 ?_
  refine gp (by decide) ?_
  obtain ⟨s45, e45, S45⟩ := sh_opL (f := fun m => X4_setRates m (1 : Int32) (1000 : Int32)) (cm_setRates (1 : Int32) (1000 : Int32)) S44 (100 : Int32) km30 (by decide +kernel)
  refine gx e45 ?_
  refine gp (by decide) ?_
  obtain ⟨s46, e46, S46⟩ := sh_opL (f := fun m => X4_grant m (100 : Int32)) (cm_grant (100 : Int32)) S45 (100 : Int32) km31 (by decide +kernel)
  refine gx e46 ?_
  refine gp (by decide) ?_
  obtain ⟨s47, e47, S47⟩ := sh_addL S46 2 3 0 0 0 0 kp26 (by decide +kernel)
  refine gx e47 ?_
  refine gp (by decide) ?_
  obtain ⟨s48, e48, S48⟩ := sh_addL S47 2 0 0 0 1 1 kp27 (by decide +kernel)
  refine gx e48 ?_
  refine gp (by decide) ?_
  exact hs_plans_552 S48
theorem hs_plans_407 {s0 : SS} (S0 : Sh (pl kp23) (lit km0) s0) : L_plans_b407 s0 = some 1 := by
  unfold L_plans_b407
  obtain ⟨s36, e36, S36⟩ := sh_planL S0 kb23 (2 : Int32) (8 : Int32) (11 : Int32) (32 : Int32) (by decide +kernel)
  refine g2 e36 ?_
  refine gn (by decide) ?_
  obtain ⟨s37, e37, S37⟩ := sh_setChildL S36 4 (1 : Int32) (0 : Int32) 48 kp24 (by decide +kernel)
  refine gx e37 ?_
  refine gp (by decide) ?_
  obtain ⟨s38, e38, S38⟩ := sh_planL S37 kb24 (2 : Int32) (8 : Int32) (11 : Int32) (32 : Int32) (by decide +kernel)
  refine g2 e38 ?_
  refine gn (by decide) ?_
  obtain ⟨s39, e39, S39⟩ := sh_setChildL S38 5 (0 : Int32) (1 : Int32) 16 kp25 (by decide +kernel)
  refine gx e39 ?_
  refine gn (by decide) ?_
  obtain ⟨s40, e40, S40⟩ := sh_planL S39 kb25 (1 : Int32) (8 : Int32) (11 : Int32) (14 : Int32) (by decide +kernel)
  refine g2 e40 ?_
  refine gn (by decide) ?_
  obtain ⟨s41, e41, S41⟩ := sh_setChildL S40 5 (1 : Int32) (0 : Int32) 48 kp24 (by decide +kernel)
  refine gx e41 ?_
  refine gp (by decide) ?_
  exact hs_plans_476 S41
theorem hs_plans_318 {s0 : SS} (S0 : Sh (pl kp18) (lit km28) s0) : L_plans_b318 s0 = some 1 := by
  unfold L_plans_b318
  obtain ⟨s28, e28, S28⟩ := sh_shootL S0 kb18 (0 : Int32) (1 : Int32) 8 kp19 km28 (by decide +kernel)
  refine gx e28 ?_
  refine gp (by decide) ?_
  obtain ⟨s29, e29, S29⟩ := sh_daysL S28 kb19 (0 : Int32) (by decide +kernel)
  refine g2 e29 ?_
  refine gp (by decide) ?_
  have S30 : Sh (pl kp0) (lit km0) sC0 := sh_new
  obtain ⟨s31, e31, S31⟩ := sh_setChildL S30 5 (1 : Int32) (0 : Int32) 32 kp20 (by decide +kernel)
  refine gx e31 ?_
  refine gp (by decide) ?_
  obtain ⟨s32, e32, S32⟩ := sh_addL S31 3 2 32 0 0 0 kp21 (by decide +kernel)
  refine gx e32 ?_
  refine gp (by decide) ?_
  obtain ⟨s33, e33, S33⟩ := sh_addL S32 3 2 48 0 0 1 kp22 (by decide +kernel)
  refine gx e33 ?_
  refine gp (by decide) ?_
  obtain ⟨s34, e34, S34⟩ := sh_planL S33 kb22 (1 : Int32) (8 : Int32) (11 : Int32) (-1 : Int32) (by decide +kernel)
  refine g2 e34 ?_
  refine gn (by decide) ?_
  obtain ⟨s35, e35, S35⟩ := sh_addL S34 1 2 48 0 0 2 kp23 (by decide +kernel)
  refine gx e35 ?_
  refine gp (by decide) ?_
  exact hs_plans_407 S35
theorem hs_plans_263 {s0 : SS} (S0 : Sh (pl kp17) (lit km28) s0) : L_plans_b263 s0 = some 1 := by
  unfold L_plans_b263
  obtain ⟨s23, e23, S23⟩ := sh_beginsL S0 kb17 3 (56 : Int32) (by decide +kernel)
  refine gx e23 ?_
  refine gp (by decide) ?_
  obtain ⟨s24, e24, S24⟩ := sh_shootL S23 kb17 (0 : Int32) (2 : Int32) 6 kp18 km28 (by decide +kernel)
  refine gx e24 ?_
  refine gp (by decide) ?_
  refine gp (sh_today S24 (by decide +kernel)) ?_
  obtain ⟨s25, e25, S25⟩ := sh_daysL S24 kb18 (1 : Int32) (by decide +kernel)
  refine g2 e25 ?_
  refine gp (by decide) ?_
  obtain ⟨s26, e26, S26⟩ := sh_beginsL S25 kb18 3 (56 : Int32) (by decide +kernel)
  refine gx e26 ?_
  refine gp (by decide) ?_
  obtain ⟨s27, e27, S27⟩ := sh_beginsL S26 kb18 2 (39 : Int32) (by decide +kernel)
  refine gx e27 ?_
  refine gp (by decide) ?_
  exact hs_plans_318 S27
theorem hs_plans_200 {s0 : SS} (S0 : Sh (pl kp15) (lit km0) s0) : L_plans_b200 s0 = some 1 := by
  unfold L_plans_b200
  obtain ⟨s18, e18, S18⟩ := sh_opL (f := fun m => X4_setRates m (0 : Int32) (0 : Int32)) (cm_setRates (0 : Int32) (0 : Int32)) S0 (100 : Int32) km28 (by decide +kernel)
  refine gx e18 ?_
  refine gp (by decide) ?_
  obtain ⟨s19, e19, S19⟩ := sh_shootL S18 kb15 (1 : Int32) (1 : Int32) 1 kp16 km28 (by decide +kernel)
  refine gx e19 ?_
  refine gp (by decide) ?_
  refine gp (sh_shot S19 (by decide +kernel)) ?_
  obtain ⟨s20, e20, S20⟩ := sh_planL S19 kb16 (1 : Int32) (18 : Int32) (32 : Int32) (39 : Int32) (by decide +kernel)
  refine g2 e20 ?_
  refine gn (by decide) ?_
  obtain ⟨s21, e21, S21⟩ := sh_addL S20 3 1 0 1 4 3 kp17 (by decide +kernel)
  refine gx e21 ?_
  refine gp (by decide) ?_
  obtain ⟨s22, e22, S22⟩ := sh_daysL S21 kb17 (2 : Int32) (by decide +kernel)
  refine g2 e22 ?_
  refine gp (by decide) ?_
  exact hs_plans_263 S22
theorem hs_plans_69 {s0 : SS} (S0 : Sh (pl kp12) (lit km0) s0) : L_plans_b69 s0 = some 1 := by
  unfold L_plans_b69
  obtain ⟨s7, e7, S7⟩ := sh_addL S0 6 0 1 1 1 2 kp13 (by decide +kernel)
  refine gx e7 ?_
  refine gp (by decide) ?_
  obtain ⟨s8, e8, S8⟩ := sh_planL S7 kb13 (2 : Int32) (18 : Int32) (41 : Int32) (35 : Int32) (by decide +kernel)
  refine g2 e8 ?_
  refine gn (by decide) ?_
  obtain ⟨s9, e9, S9⟩ := sh_plannedL S8 kb13 0 (0 : Int32) (by decide +kernel)
  refine gx e9 ?_
  refine gp (by decide) ?_
  obtain ⟨s10, e10, S10⟩ := sh_plannedL S9 kb13 1 (2 : Int32) (by decide +kernel)
  refine gx e10 ?_
  refine gp (by decide) ?_
  obtain ⟨s11, e11, S11⟩ := sh_plannedL S10 kb13 2 (1 : Int32) (by decide +kernel)
  refine gx e11 ?_
  refine gp (by decide) ?_
  have S12 : Sh (pl kp0) (lit km0) sC0 := sh_new
  obtain ⟨s13, e13, S13⟩ := sh_addL S12 6 0 1 2 0 0 kp11 (by decide +kernel)
  refine gx e13 ?_
  refine gp (by decide) ?_
  obtain ⟨s14, e14, S14⟩ := sh_addL S13 6 0 2 0 1 1 kp14 (by decide +kernel)
  refine gx e14 ?_
  refine gp (by decide) ?_
  obtain ⟨s15, e15, S15⟩ := sh_planL S14 kb14 (2 : Int32) (18 : Int32) (32 : Int32) (-1 : Int32) (by decide +kernel)
  refine g2 e15 ?_
  refine gn (by decide) ?_
  obtain ⟨s16, e16, S16⟩ := sh_addL S15 1 1 3 1 2 2 kp15 (by decide +kernel)
  refine gx e16 ?_
  refine gp (by decide) ?_
  obtain ⟨s17, e17, S17⟩ := sh_planL S16 kb15 (2 : Int32) (18 : Int32) (32 : Int32) (39 : Int32) (by decide +kernel)
  refine g2 e17 ?_
  refine gn (by decide) ?_
  exact hs_plans_200 S17
theorem hs_plans : L_plans = some 1 := by
  unfold L_plans
  have S1 : Sh (pl kp0) (lit km0) sC0 := sh_new
  obtain ⟨s2, e2, S2⟩ := sh_addL S1 6 0 1 2 0 0 kp11 (by decide +kernel)
  refine gx e2 ?_
  refine gp (by decide) ?_
  obtain ⟨s3, e3, S3⟩ := sh_planL S2 kb11 (1 : Int32) (18 : Int32) (-1 : Int32) (-1 : Int32) (by decide +kernel)
  refine g2 e3 ?_
  refine gn (by decide) ?_
  obtain ⟨s4, e4, S4⟩ := sh_addL S3 6 0 1 0 0 1 kp12 (by decide +kernel)
  refine gx e4 ?_
  refine gp (by decide) ?_
  obtain ⟨s5, e5, S5⟩ := sh_planL S4 kb12 (1 : Int32) (18 : Int32) (8 : Int32) (-1 : Int32) (by decide +kernel)
  refine g2 e5 ?_
  refine gn (by decide) ?_
  obtain ⟨s6, e6, S6⟩ := sh_plannedL S5 kb12 0 (1 : Int32) (by decide +kernel)
  refine gx e6 ?_
  refine gp (by decide) ?_
  exact hs_plans_69 S6
