theorem hs_house_1131 {s0 : SS} (S0 : Sh (pl kp10) (lit km27) s0) : L_house_b1131 s0 = some 1 := by
  unfold L_house_b1131
  rfl
theorem hs_house_1070 {s0 : SS} (S0 : Sh (pl kp10) (lit km25) s0) : L_house_b1070 s0 = some 1 := by
  unfold L_house_b1070
  obtain ⟨s77, e77, S77⟩ := sh_opL (f := fun m => X4_loan m (0 : Int32) (1 : Int32)) (cm_loan (0 : Int32) (1 : Int32)) S0 (2 : Int32) km26 (by decide +kernel)
  refine gx e77 ?_
  refine gp (by decide) ?_
  obtain ⟨s78, e78, S78⟩ := sh_opL (f := fun m => X4_income m (52 : Int32)) (cm_income (52 : Int32)) S77 (1 : Int32) km27 (by decide +kernel)
  refine gx e78 ?_
  refine gp (by decide) ?_
  obtain ⟨s79, e79, S79⟩ := sh_opL (f := fun m => X4_got m (0 : Int32)) (cm_got (0 : Int32)) S78 (1 : Int32) km27 (by decide +kernel)
  refine gx e79 ?_
  refine gp (by decide) ?_
  refine gp (sh_house S79 (by decide +kernel)) ?_
  obtain ⟨s80, e80, S80⟩ := sh_opL (f := fun m => X4_got m (2 : Int32)) (cm_got (2 : Int32)) S79 (451 : Int32) km27 (by decide +kernel)
  refine gx e80 ?_
  refine gp (by decide) ?_
  obtain ⟨s81, e81, S81⟩ := sh_refusesL S80 (3 : Int32) (0 : Int32) (3 : Int32) (4 : Int32) 3 4 (by decide +kernel)
  refine g2 e81 ?_
  refine gn (by decide) ?_
  exact hs_house_1131 S81
theorem hs_house_1010 {s0 : SS} (S0 : Sh (pl kp10) (lit km23) s0) : L_house_b1010 s0 = some 1 := by
  unfold L_house_b1010
  obtain ⟨s74, e74, S74⟩ := sh_opL (f := fun m => X4_bill m (3 : Int32) (40 : Int32)) (cm_bill (3 : Int32) (40 : Int32)) S0 (10 : Int32) km24 (by decide +kernel)
  refine gx e74 ?_
  refine gp (by decide) ?_
  obtain ⟨s75, e75, S75⟩ := sh_opL (f := fun m => X4_left m (3 : Int32)) (cm_left (3 : Int32)) S74 (0 : Int32) km24 (by decide +kernel)
  refine gx e75 ?_
  refine gp (by decide) ?_
  refine gp (sh_fee S75 (by decide +kernel)) ?_
  obtain ⟨s76, e76, S76⟩ := sh_opL (f := fun m => X4_bill m (2 : Int32) (10 : Int32)) (cm_bill (2 : Int32) (10 : Int32)) S75 (10 : Int32) km25 (by decide +kernel)
  refine gx e76 ?_
  refine gp (by decide) ?_
  refine gp (sh_costs S76 (by decide +kernel)) ?_
  refine gp (sh_open S76 (by decide +kernel)) ?_
  exact hs_house_1070 S76
theorem hs_house_939 {s0 : SS} (S0 : Sh (pl kp10) (lit km21) s0) : L_house_b939 s0 = some 1 := by
  unfold L_house_b939
  refine gp (sh_house S0 (by decide +kernel)) ?_
  refine gp (sh_costs S0 (by decide +kernel)) ?_
  obtain ⟨s70, e70, S70⟩ := sh_refusesL S0 (3 : Int32) (0 : Int32) (2 : Int32) (4 : Int32) 2 4 (by decide +kernel)
  refine g2 e70 ?_
  refine gn (by decide) ?_
  obtain ⟨s71, e71, S71⟩ := sh_opL (f := fun m => X4_approve m (3 : Int32) (30 : Int32)) (cm_approve (3 : Int32) (30 : Int32)) S70 (30 : Int32) km22 (by decide +kernel)
  refine gx e71 ?_
  refine gp (by decide) ?_
  obtain ⟨s72, e72, S72⟩ := sh_opL (f := fun m => X4_grant m (20 : Int32)) (cm_grant (20 : Int32)) S71 (20 : Int32) km23 (by decide +kernel)
  refine gx e72 ?_
  refine gp (by decide) ?_
  obtain ⟨s73, e73, S73⟩ := sh_act6E S72 (3 : Int32) (51 : Int32) (-73 : Int32) km23 (by decide +kernel)
  refine g2 e73 ?_
  refine gp (by decide) ?_
  exact hs_house_1010 S73
theorem hs_house_878 {s0 : SS} (S0 : Sh (pl kp10) (lit km20) s0) : L_house_b878 s0 = some 1 := by
  unfold L_house_b878
  obtain ⟨s65, e65, S65⟩ := sh_opL (f := fun m => X4_got m (0 : Int32)) (cm_got (0 : Int32)) S0 (0 : Int32) km20 (by decide +kernel)
  refine gx e65 ?_
  refine gp (by decide) ?_
  refine gp (sh_house S65 (by decide +kernel)) ?_
  obtain ⟨s66, e66, S66⟩ := sh_opL (f := fun m => X4_income m (7 : Int32)) (cm_income (7 : Int32)) S65 (7 : Int32) km21 (by decide +kernel)
  refine gx e66 ?_
  refine gp (by decide) ?_
  obtain ⟨s67, e67, S67⟩ := sh_opL (f := fun m => X4_got m (3 : Int32)) (cm_got (3 : Int32)) S66 (403 : Int32) km21 (by decide +kernel)
  refine gx e67 ?_
  refine gp (by decide) ?_
  obtain ⟨s68, e68, S68⟩ := sh_opL (f := fun m => X4_got m (2 : Int32)) (cm_got (2 : Int32)) S67 (451 : Int32) km21 (by decide +kernel)
  refine gx e68 ?_
  refine gp (by decide) ?_
  obtain ⟨s69, e69, S69⟩ := sh_opL (f := fun m => X4_got m (4 : Int32)) (cm_got (4 : Int32)) S68 (50 : Int32) km21 (by decide +kernel)
  refine gx e69 ?_
  refine gp (by decide) ?_
  exact hs_house_939 S69
theorem hs_house_815 {s0 : SS} (S0 : Sh (pl kp10) (lit km19) s0) : L_house_b815 s0 = some 1 := by
  unfold L_house_b815
  obtain ⟨s59, e59, S59⟩ := sh_opL (f := fun m => X4_income m (1200 : Int32)) (cm_income (1200 : Int32)) S0 (1000 : Int32) km20 (by decide +kernel)
  refine gx e59 ?_
  refine gp (by decide) ?_
  obtain ⟨s60, e60, S60⟩ := sh_opL (f := fun m => X4_openOf m (1 : Int32)) (cm_openOf (1 : Int32)) S59 (0 : Int32) km20 (by decide +kernel)
  refine gx e60 ?_
  refine gp (by decide) ?_
  obtain ⟨s61, e61, S61⟩ := sh_opL (f := fun m => X4_got m (2 : Int32)) (cm_got (2 : Int32)) S60 (450 : Int32) km20 (by decide +kernel)
  refine gx e61 ?_
  refine gp (by decide) ?_
  obtain ⟨s62, e62, S62⟩ := sh_opL (f := fun m => X4_got m (3 : Int32)) (cm_got (3 : Int32)) S61 (400 : Int32) km20 (by decide +kernel)
  refine gx e62 ?_
  refine gp (by decide) ?_
  obtain ⟨s63, e63, S63⟩ := sh_opL (f := fun m => X4_got m (4 : Int32)) (cm_got (4 : Int32)) S62 (50 : Int32) km20 (by decide +kernel)
  refine gx e63 ?_
  refine gp (by decide) ?_
  obtain ⟨s64, e64, S64⟩ := sh_opL (f := fun m => X4_got m (5 : Int32)) (cm_got (5 : Int32)) S63 (50 : Int32) km20 (by decide +kernel)
  refine gx e64 ?_
  refine gp (by decide) ?_
  exact hs_house_878 S64
theorem hs_house_760 {s0 : SS} (S0 : Sh (pl kp10) (lit km18) s0) : L_house_b760 s0 = some 1 := by
  unfold L_house_b760
  obtain ⟨s54, e54, S54⟩ := sh_opL (f := fun m => X4_income m (1000 : Int32)) (cm_income (1000 : Int32)) S0 (0 : Int32) km19 (by decide +kernel)
  refine gx e54 ?_
  refine gp (by decide) ?_
  refine gp (sh_open S54 (by decide +kernel)) ?_
  obtain ⟨s55, e55, S55⟩ := sh_opL (f := fun m => X4_openOf m (0 : Int32)) (cm_openOf (0 : Int32)) S54 (0 : Int32) km19 (by decide +kernel)
  refine gx e55 ?_
  refine gp (by decide) ?_
  obtain ⟨s56, e56, S56⟩ := sh_opL (f := fun m => X4_openOf m (1 : Int32)) (cm_openOf (1 : Int32)) S55 (200 : Int32) km19 (by decide +kernel)
  refine gx e56 ?_
  refine gp (by decide) ?_
  obtain ⟨s57, e57, S57⟩ := sh_opL (f := fun m => X4_got m (1 : Int32)) (cm_got (1 : Int32)) S56 (300 : Int32) km19 (by decide +kernel)
  refine gx e57 ?_
  refine gp (by decide) ?_
  obtain ⟨s58, e58, S58⟩ := sh_opL (f := fun m => X4_got m (3 : Int32)) (cm_got (3 : Int32)) S57 (0 : Int32) km19 (by decide +kernel)
  refine gx e58 ?_
  refine gp (by decide) ?_
  exact hs_house_815 S58
theorem hs_house_687 {s0 : SS} (S0 : Sh (pl kp10) (lit km16) s0) : L_house_b687 s0 = some 1 := by
  unfold L_house_b687
  obtain ⟨s49, e49, S49⟩ := sh_act8E S0 (-1 : Int32) (3 : Int32) (51 : Int32) (-73 : Int32) km16 (by decide +kernel)
  refine g2 e49 ?_
  refine gp (by decide) ?_
  obtain ⟨s50, e50, S50⟩ := sh_opL (f := fun m => X4_part m (-1 : Int32) (2 : Int32) (25 : Int32)) (cm_part (-1 : Int32) (2 : Int32) (25 : Int32)) S49 (3 : Int32) km17 (by decide +kernel)
  refine gx e50 ?_
  refine gp (by decide) ?_
  obtain ⟨s51, e51, S51⟩ := sh_act8E S50 (0 : Int32) (3 : Int32) (81 : Int32) (-73 : Int32) km17 (by decide +kernel)
  refine g2 e51 ?_
  refine gp (by decide) ?_
  obtain ⟨s52, e52, S52⟩ := sh_opL (f := fun m => X4_income m (1000 : Int32)) (cm_income (1000 : Int32)) S51 (0 : Int32) km18 (by decide +kernel)
  refine gx e52 ?_
  refine gp (by decide) ?_
  refine gp (sh_open S52 (by decide +kernel)) ?_
  obtain ⟨s53, e53, S53⟩ := sh_opL (f := fun m => X4_openOf m (0 : Int32)) (cm_openOf (0 : Int32)) S52 (300 : Int32) km18 (by decide +kernel)
  refine gx e53 ?_
  refine gp (by decide) ?_
  exact hs_house_760 S53
theorem hs_house_616 {s0 : SS} (S0 : Sh (pl kp10) (lit km11) s0) : L_house_b616 s0 = some 1 := by
  unfold L_house_b616
  obtain ⟨s43, e43, S43⟩ := sh_refusesL S0 (3 : Int32) (0 : Int32) (0 : Int32) (0 : Int32) 0 0 (by decide +kernel)
  refine g2 e43 ?_
  refine gn (by decide) ?_
  obtain ⟨s44, e44, S44⟩ := sh_opL (f := fun m => X4_loan m (1 : Int32) (300 : Int32)) (cm_loan (1 : Int32) (300 : Int32)) S43 (0 : Int32) km12 (by decide +kernel)
  refine gx e44 ?_
  refine gp (by decide) ?_
  obtain ⟨s45, e45, S45⟩ := sh_opL (f := fun m => X4_loan m (2 : Int32) (200 : Int32)) (cm_loan (2 : Int32) (200 : Int32)) S44 (1 : Int32) km13 (by decide +kernel)
  refine gx e45 ?_
  refine gp (by decide) ?_
  obtain ⟨s46, e46, S46⟩ := sh_opL (f := fun m => X4_part m (-1 : Int32) (3 : Int32) (50 : Int32)) (cm_part (-1 : Int32) (3 : Int32) (50 : Int32)) S45 (0 : Int32) km14 (by decide +kernel)
  refine gx e46 ?_
  refine gp (by decide) ?_
  obtain ⟨s47, e47, S47⟩ := sh_opL (f := fun m => X4_part m (0 : Int32) (4 : Int32) (20 : Int32)) (cm_part (0 : Int32) (4 : Int32) (20 : Int32)) S46 (1 : Int32) km15 (by decide +kernel)
  refine gx e47 ?_
  refine gp (by decide) ?_
  obtain ⟨s48, e48, S48⟩ := sh_opL (f := fun m => X4_part m (1 : Int32) (5 : Int32) (50 : Int32)) (cm_part (1 : Int32) (5 : Int32) (50 : Int32)) S47 (2 : Int32) km16 (by decide +kernel)
  refine gx e48 ?_
  refine gp (by decide) ?_
  exact hs_house_687 S48
theorem hs_house_563 {s0 : SS} (S0 : Sh (pl kp8) (lit km9) s0) : L_house_b563 s0 = some 1 := by
  unfold L_house_b563
  obtain ⟨s39, e39, S39⟩ := sh_shootL S0 kb8 (1 : Int32) (0 : Int32) 0 kp9 km9 (by decide +kernel)
  refine gx e39 ?_
  refine gp (by decide) ?_
  refine gp (sh_today S39 (by decide +kernel)) ?_
  obtain ⟨s40, e40, S40⟩ := sh_opL (f := fun m => X4_setRates m (0 : Int32) (0 : Int32)) (cm_setRates (0 : Int32) (0 : Int32)) S39 (100 : Int32) km10 (by decide +kernel)
  refine gx e40 ?_
  refine gp (by decide) ?_
  obtain ⟨s41, e41, S41⟩ := sh_holdL S40 (1 : Int32) (0 : Int32) km11 (by decide +kernel)
  refine g2 e41 ?_
  refine gp (by decide) ?_
  obtain ⟨s42, e42, S42⟩ := sh_shootL S41 kb9 (1 : Int32) (0 : Int32) 0 kp10 km11 (by decide +kernel)
  refine gx e42 ?_
  refine gp (by decide) ?_
  refine gp (sh_costs S42 (by decide +kernel)) ?_
  exact hs_house_616 S42
theorem hs_house_509 {s0 : SS} (S0 : Sh (pl kp7) (lit km7) s0) : L_house_b509 s0 = some 1 := by
  unfold L_house_b509
  refine gp (sh_today S0 (by decide +kernel)) ?_
  obtain ⟨s36, e36, S36⟩ := sh_shootL S0 kb7 (0 : Int32) (0 : Int32) 0 kp8 km8 (by decide +kernel)
  refine gx e36 ?_
  refine gp (by decide) ?_
  refine gp (sh_fee S36 (by decide +kernel)) ?_
  refine gp (sh_costs S36 (by decide +kernel)) ?_
  obtain ⟨s37, e37, S37⟩ := sh_act3E S36 kb8 (0 : Int32) 0 (by decide +kernel)
  refine g2 e37 ?_
  refine gp (by decide) ?_
  obtain ⟨s38, e38, S38⟩ := sh_holdL S37 (0 : Int32) (1 : Int32) km9 (by decide +kernel)
  refine g2 e38 ?_
  refine gn (by decide) ?_
  exact hs_house_563 S38
theorem hs_house_451 {s0 : SS} (S0 : Sh (pl kp7) (lit km7) s0) : L_house_b451 s0 = some 1 := by
  unfold L_house_b451
  obtain ⟨s33, e33, S33⟩ := sh_opL (f := fun m => X4_left m (0 : Int32)) (cm_left (0 : Int32)) S0 (0 : Int32) km7 (by decide +kernel)
  refine gx e33 ?_
  refine gp (by decide) ?_
  obtain ⟨s34, e34, S34⟩ := sh_opL (f := fun m => X4_left m (1 : Int32)) (cm_left (1 : Int32)) S33 (0 : Int32) km7 (by decide +kernel)
  refine gx e34 ?_
  refine gp (by decide) ?_
  refine gp (sh_fee S34 (by decide +kernel)) ?_
  refine gp (sh_costs S34 (by decide +kernel)) ?_
  refine gp (sh_shot S34 (by decide +kernel)) ?_
  obtain ⟨s35, e35, S35⟩ := sh_planL S34 kb7 (0 : Int32) (8 : Int32) (12 : Int32) (56 : Int32) (by decide +kernel)
  refine g2 e35 ?_
  refine gn (by decide) ?_
  exact hs_house_509 S35
theorem hs_house_383 {s0 : SS} (S0 : Sh (pl kp6) (lit km4) s0) : L_house_b383 s0 = some 1 := by
  unfold L_house_b383
  refine gp (sh_costs S0 (by decide +kernel)) ?_
  obtain ⟨s28, e28, S28⟩ := sh_planL S0 kb6 (1 : Int32) (8 : Int32) (12 : Int32) (56 : Int32) (by decide +kernel)
  refine g2 e28 ?_
  refine gn (by decide) ?_
  obtain ⟨s29, e29, S29⟩ := sh_holdL S28 (1 : Int32) (0 : Int32) km5 (by decide +kernel)
  refine g2 e29 ?_
  refine gp (by decide) ?_
  obtain ⟨s30, e30, S30⟩ := sh_act3E S29 kb6 (1 : Int32) 4 (by decide +kernel)
  refine g2 e30 ?_
  refine gp (by decide) ?_
  obtain ⟨s31, e31, S31⟩ := sh_opL (f := fun m => X4_approve m (0 : Int32) (600 : Int32)) (cm_approve (0 : Int32) (600 : Int32)) S30 (600 : Int32) km6 (by decide +kernel)
  refine gx e31 ?_
  refine gp (by decide) ?_
  obtain ⟨s32, e32, S32⟩ := sh_shootL S31 kb6 (1 : Int32) (1 : Int32) 4 kp7 km7 (by decide +kernel)
  refine gx e32 ?_
  refine gp (by decide) ?_
  exact hs_house_451 S32
theorem hs_house_319 {s0 : SS} (S0 : Sh (pl kp5) (lit km3) s0) : L_house_b319 s0 = some 1 := by
  unfold L_house_b319
  obtain ⟨s23, e23, S23⟩ := sh_planL S0 kb5 (1 : Int32) (8 : Int32) (12 : Int32) (32 : Int32) (by decide +kernel)
  refine g2 e23 ?_
  refine gn (by decide) ?_
  obtain ⟨s24, e24, S24⟩ := sh_plannedL S23 kb5 0 (2 : Int32) (by decide +kernel)
  refine gx e24 ?_
  refine gp (by decide) ?_
  obtain ⟨s25, e25, S25⟩ := sh_act11E S24 (1 : Int32) (by decide +kernel)
  refine g2 e25 ?_
  refine gp (by decide) ?_
  obtain ⟨s26, e26, S26⟩ := sh_opL (f := fun m => X4_setOut m (1 : Int32) (1 : Int32)) (cm_setOut (1 : Int32) (1 : Int32)) S25 (0 : Int32) km4 (by decide +kernel)
  refine gx e26 ?_
  refine gp (by decide) ?_
  obtain ⟨s27, e27, S27⟩ := sh_shootL S26 kb5 (1 : Int32) (0 : Int32) 0 kp6 km4 (by decide +kernel)
  refine gx e27 ?_
  refine gp (by decide) ?_
  refine gp (sh_today S27 (by decide +kernel)) ?_
  exact hs_house_383 S27
theorem hs_house_266 {s0 : SS} (S0 : Sh (pl kp5) (lit km3) s0) : L_house_b266 s0 = some 1 := by
  unfold L_house_b266
  refine gp (sh_today S0 (by decide +kernel)) ?_
  refine gp (sh_shot S0 (by decide +kernel)) ?_
  obtain ⟨s22, e22, S22⟩ := sh_opL (f := fun m => X4_left m (0 : Int32)) (cm_left (0 : Int32)) S0 (0 : Int32) km3 (by decide +kernel)
  refine gx e22 ?_
  refine gp (by decide) ?_
  refine gp (sh_fee S22 (by decide +kernel)) ?_
  refine gp (sh_costs S22 (by decide +kernel)) ?_
  refine gp (sh_open S22 (by decide +kernel)) ?_
  exact hs_house_319 S22
theorem hs_house_197 {s0 : SS} (S0 : Sh (pl kp3) (lit km0) s0) : L_house_b197 s0 = some 1 := by
  unfold L_house_b197
  obtain ⟨s17, e17, S17⟩ := sh_act3E S0 kb3 (0 : Int32) 3 (by decide +kernel)
  refine g2 e17 ?_
  refine gp (by decide) ?_
  obtain ⟨s18, e18, S18⟩ := sh_opL (f := fun m => X4_approve m (0 : Int32) (500 : Int32)) (cm_approve (0 : Int32) (500 : Int32)) S17 (500 : Int32) km1 (by decide +kernel)
  refine gx e18 ?_
  refine gp (by decide) ?_
  obtain ⟨s19, e19, S19⟩ := sh_act3E S18 kb3 (0 : Int32) 3 (by decide +kernel)
  refine g2 e19 ?_
  refine gp (by decide) ?_
  refine gp (sh_today S19 (by decide +kernel)) ?_
  obtain ⟨s20, e20, S20⟩ := sh_opL (f := fun m => X4_grant m (600 : Int32)) (cm_grant (600 : Int32)) S19 (600 : Int32) km2 (by decide +kernel)
  refine gx e20 ?_
  refine gp (by decide) ?_
  obtain ⟨s21, e21, S21⟩ := sh_shootL S20 kb3 (0 : Int32) (2 : Int32) 3 kp5 km3 (by decide +kernel)
  refine gx e21 ?_
  refine gp (by decide) ?_
  exact hs_house_266 S21
theorem hs_house_131 {s0 : SS} (S0 : Sh (pl kp3) (lit km0) s0) : L_house_b131 s0 = some 1 := by
  unfold L_house_b131
  obtain ⟨s11, e11, S11⟩ := sh_plannedL S0 kb3 2 (2 : Int32) (by decide +kernel)
  refine gx e11 ?_
  refine gp (by decide) ?_
  obtain ⟨s12, e12, S12⟩ := sh_setChildL S11 0 (1 : Int32) (0 : Int32) 1 kp4 (by decide +kernel)
  refine gx e12 ?_
  refine gp (by decide) ?_
  obtain ⟨s13, e13, S13⟩ := sh_planL S12 kb4 (2 : Int32) (8 : Int32) (32 : Int32) (39 : Int32) (by decide +kernel)
  refine g2 e13 ?_
  refine gn (by decide) ?_
  obtain ⟨s14, e14, S14⟩ := sh_setChildL S13 0 (0 : Int32) (1 : Int32) 0 kp3 (by decide +kernel)
  refine gx e14 ?_
  refine gn (by decide) ?_
  obtain ⟨s15, e15, S15⟩ := sh_planL S14 kb3 (2 : Int32) (8 : Int32) (12 : Int32) (32 : Int32) (by decide +kernel)
  refine g2 e15 ?_
  refine gn (by decide) ?_
  obtain ⟨s16, e16, S16⟩ := sh_refusesL S15 (3 : Int32) (3 : Int32) (0 : Int32) (0 : Int32) 0 0 (by decide +kernel)
  refine g2 e16 ?_
  refine gn (by decide) ?_
  exact hs_house_197 S16
theorem hs_house_56 {s0 : SS} (S0 : Sh (pl kp1) (lit km0) s0) : L_house_b56 s0 = some 1 := by
  unfold L_house_b56
  obtain ⟨s5, e5, S5⟩ := sh_planL S0 kb1 (1 : Int32) (8 : Int32) (-1 : Int32) (-1 : Int32) (by decide +kernel)
  refine g2 e5 ?_
  refine gn (by decide) ?_
  obtain ⟨s6, e6, S6⟩ := sh_addL S5 6 0 1 0 0 1 kp2 (by decide +kernel)
  refine gx e6 ?_
  refine gp (by decide) ?_
  obtain ⟨s7, e7, S7⟩ := sh_planL S6 kb2 (1 : Int32) (8 : Int32) (12 : Int32) (-1 : Int32) (by decide +kernel)
  refine g2 e7 ?_
  refine gn (by decide) ?_
  obtain ⟨s8, e8, S8⟩ := sh_addL S7 6 1 2 0 0 2 kp3 (by decide +kernel)
  refine gx e8 ?_
  refine gp (by decide) ?_
  obtain ⟨s9, e9, S9⟩ := sh_planL S8 kb3 (2 : Int32) (8 : Int32) (12 : Int32) (32 : Int32) (by decide +kernel)
  refine g2 e9 ?_
  refine gn (by decide) ?_
  obtain ⟨s10, e10, S10⟩ := sh_plannedL S9 kb3 0 (0 : Int32) (by decide +kernel)
  refine gx e10 ?_
  refine gp (by decide) ?_
  exact hs_house_131 S10
theorem hs_house : L_house = some 1 := by
  unfold L_house
  have S1 : Sh (pl kp0) (lit km0) sC0 := sh_new
  refine gp (sh_today S1 (by decide +kernel)) ?_
  refine gp (sh_shot S1 (by decide +kernel)) ?_
  obtain ⟨s2, e2, S2⟩ := sh_planL S1 kb0 (0 : Int32) (-1 : Int32) (-1 : Int32) (-1 : Int32) (by decide +kernel)
  refine g2 e2 ?_
  refine gn (by decide) ?_
  obtain ⟨s3, e3, S3⟩ := sh_refusesL S2 (0 : Int32) (0 : Int32) (0 : Int32) (0 : Int32) 0 0 (by decide +kernel)
  refine g2 e3 ?_
  refine gn (by decide) ?_
  obtain ⟨s4, e4, S4⟩ := sh_addL S3 4 0 1 0 0 0 kp1 (by decide +kernel)
  refine gx e4 ?_
  refine gp (by decide) ?_
  exact hs_house_56 S4
