/-- the class's world: its five objects and seventeen rows -/
abbrev WC (q : Nat → Nat) (cA : ClassId) (σ : SS) : va_W := [(q 0, .inr (4, [.ref (q 2), .ref (q 1), .ref (q 3), .ref (q 4), .int (σ 0 4), .int (σ 0 5), .int (σ 0 6)])), (q 1, .inr (2, [.ref (q 2), .ref (q 10), .ref (q 11), .ref (q 12), .ref (q 13), .int (σ 1 5), .int (σ 1 6), .int (σ 1 7)])), (q 2, .inr (3, [.ref (q 5), .ref (q 6), .ref (q 7), .ref (q 8), .ref (q 9), .int (σ 2 5), .int (σ 2 6), .int (σ 2 7), .int (σ 2 8)])), (q 3, .inr (0, [.ref (q 14), .int (σ 3 1), .int (σ 3 2), .int (σ 3 3)])), (q 4, .inr (1, [.ref (q 15), .ref (q 16), .ref (q 17), .ref (q 18), .ref (q 19), .ref (q 20), .ref (q 21), .int (σ 4 7), .int (σ 4 8), .int (σ 4 9)])), (q 5, .inl (cA, 8, .inl (σ 5))), (q 6, .inl (cA, 8, .inl (σ 6))), (q 7, .inl (cA, 8, .inl (σ 7))), (q 8, .inl (cA, 8, .inl (σ 8))), (q 9, .inl (cA, 8, .inl (σ 9))), (q 10, .inl (cA, 8, .inl (σ 10))), (q 11, .inl (cA, 8, .inl (σ 11))), (q 12, .inl (cA, 8, .inl (σ 12))), (q 13, .inl (cA, 8, .inl (σ 13))), (q 14, .inl (cA, 4, .inl (σ 14))), (q 15, .inl (cA, 10, .inl (σ 15))), (q 16, .inl (cA, 10, .inl (σ 16))), (q 17, .inl (cA, 12, .inl (σ 17))), (q 18, .inl (cA, 12, .inl (σ 18))), (q 19, .inl (cA, 12, .inl (σ 19))), (q 20, .inl (cA, 12, .inl (σ 20))), (q 21, .inl (cA, 6, .inl (σ 21)))]
theorem inA0 : ∀ w ∈ u_ws RX0 TX0 4, w ∈ wALL := List.forall_mem_cons.mpr ⟨tk1 (i := 117) rfl rfl, List.forall_mem_cons.mpr ⟨tk1 (i := 119) rfl rfl, List.forall_mem_cons.mpr ⟨tk1 (i := 121) rfl rfl, List.forall_mem_cons.mpr ⟨tk1 (i := 123) rfl rfl, fun _ h => absurd h List.not_mem_nil⟩⟩⟩⟩
theorem inA1 : ∀ w ∈ u_ws RX1 TX1 10, w ∈ wALL := List.forall_mem_cons.mpr ⟨tk1 (i := 147) rfl rfl, List.forall_mem_cons.mpr ⟨tk1 (i := 149) rfl rfl, List.forall_mem_cons.mpr ⟨tk1 (i := 151) rfl rfl, List.forall_mem_cons.mpr ⟨tk1 (i := 153) rfl rfl, List.forall_mem_cons.mpr ⟨tk1 (i := 155) rfl rfl, List.forall_mem_cons.mpr ⟨tk1 (i := 157) rfl rfl, List.forall_mem_cons.mpr ⟨tk1 (i := 159) rfl rfl, List.forall_mem_cons.mpr ⟨tk1 (i := 161) rfl rfl, List.forall_mem_cons.mpr ⟨tk1 (i := 163) rfl rfl, List.forall_mem_cons.mpr ⟨tk1 (i := 165) rfl rfl, fun _ h => absurd h List.not_mem_nil⟩⟩⟩⟩⟩⟩⟩⟩⟩⟩
theorem inA2 : ∀ w ∈ u_ws RX2 TX2 8, w ∈ wALL := List.forall_mem_cons.mpr ⟨tk1 (i := 86) rfl rfl, List.forall_mem_cons.mpr ⟨tk1 (i := 88) rfl rfl, List.forall_mem_cons.mpr ⟨tk1 (i := 90) rfl rfl, List.forall_mem_cons.mpr ⟨tk1 (i := 92) rfl rfl, List.forall_mem_cons.mpr ⟨tk1 (i := 94) rfl rfl, List.forall_mem_cons.mpr ⟨tk1 (i := 96) rfl rfl, List.forall_mem_cons.mpr ⟨tk1 (i := 98) rfl rfl, List.forall_mem_cons.mpr ⟨tk1 (i := 100) rfl rfl, fun _ h => absurd h List.not_mem_nil⟩⟩⟩⟩⟩⟩⟩⟩
theorem inA3 : ∀ w ∈ u_ws RX3 TX3 9, w ∈ wALL := List.forall_mem_cons.mpr ⟨tk1 (i := 53) rfl rfl, List.forall_mem_cons.mpr ⟨tk1 (i := 55) rfl rfl, List.forall_mem_cons.mpr ⟨tk1 (i := 57) rfl rfl, List.forall_mem_cons.mpr ⟨tk1 (i := 59) rfl rfl, List.forall_mem_cons.mpr ⟨tk1 (i := 61) rfl rfl, List.forall_mem_cons.mpr ⟨tk1 (i := 63) rfl rfl, List.forall_mem_cons.mpr ⟨tk1 (i := 65) rfl rfl, List.forall_mem_cons.mpr ⟨tk1 (i := 67) rfl rfl, List.forall_mem_cons.mpr ⟨tk1 (i := 69) rfl rfl, fun _ h => absurd h List.not_mem_nil⟩⟩⟩⟩⟩⟩⟩⟩⟩
theorem inA4 : ∀ w ∈ u_ws RX4 TX4 7, w ∈ wALL := List.forall_mem_cons.mpr ⟨tk1 (i := 175) rfl rfl, List.forall_mem_cons.mpr ⟨tk1 (i := 177) rfl rfl, List.forall_mem_cons.mpr ⟨tk1 (i := 179) rfl rfl, List.forall_mem_cons.mpr ⟨tk1 (i := 181) rfl rfl, List.forall_mem_cons.mpr ⟨tk1 (i := 183) rfl rfl, List.forall_mem_cons.mpr ⟨tk1 (i := 185) rfl rfl, List.forall_mem_cons.mpr ⟨tk1 (i := 187) rfl rfl, fun _ h => absurd h List.not_mem_nil⟩⟩⟩⟩⟩⟩⟩
theorem kw_0 : Cond.fieldLink RX3 27 "Scripthouse$Scenes" "count" "I" ∈ wALL := tk1 (i := 43) rfl rfl
theorem kw_1 : Cond.fieldLink RX2 31 "Scripthouse$Planner" "isMade" "Z" ∈ wALL := tk1 (i := 85) rfl rfl
theorem kw_2 : Cond.fieldLink RX3 9 "Scripthouse$Scenes" "hours" "[I" ∈ wALL := tk1 (i := 34) rfl rfl
theorem kw_3 : Cond.static yX4_put ∈ wALL := tk2 (i := 48) rfl rfl
theorem kw_4 : Cond.initialized RX4 ∈ wALL := tk1 (i := 1) rfl rfl
theorem kw_5 : Cond.code yX4_put cX4_put 3 none ∈ wALL := tk2 (i := 49) rfl rfl
theorem kw_6 : Cond.fieldLink RX3 15 "Scripthouse$Scenes" "places" "[I" ∈ wALL := tk1 (i := 36) rfl rfl
theorem kw_7 : Cond.fieldLink RX3 18 "Scripthouse$Scenes" "players" "[I" ∈ wALL := tk1 (i := 38) rfl rfl
theorem kw_8 : Cond.fieldLink RX3 21 "Scripthouse$Scenes" "lights" "[I" ∈ wALL := tk1 (i := 40) rfl rfl
theorem kw_9 : Cond.fieldLink RX3 24 "Scripthouse$Scenes" "aheads" "[I" ∈ wALL := tk1 (i := 42) rfl rfl
theorem kw_10 : Cond.methodLink RX4 42 yX4_isWithin ∈ wALL := tk1 (i := 194) rfl rfl
theorem kw_11 : Cond.static yX4_isWithin ∈ wALL := tk1 (i := 195) rfl rfl
theorem kw_12 : Cond.code yX4_isWithin cX4_isWithin 3 (some .boolean) ∈ wALL := tk1 (i := 196) rfl rfl
theorem kw_13 : Cond.fieldLink RX4 20 "Scripthouse" "scenes" "LScripthouse$Scenes;" ∈ wALL := tk1 (i := 168) rfl rfl
theorem kw_14 : Cond.methodLink RX4 46 yX3_everyScene ∈ wALL := tk1 (i := 197) rfl rfl
theorem kw_15 : Cond.instanceMethod yX3_everyScene ∈ wALL := tk1 (i := 198) rfl rfl
theorem kw_16 : Cond.selects RX3 yX3_everyScene yX3_everyScene ∈ wALL := tk1 (i := 199) rfl rfl
theorem kw_17 : Cond.initialized RX3 ∈ wALL := tk1 (i := 3) rfl rfl
theorem kw_18 : Cond.code yX3_everyScene cX3_everyScene 1 (some .int) ∈ wALL := tk1 (i := 200) rfl rfl
theorem kw_19 : Cond.fieldLink RX4 55 "Scripthouse$Scenes" "count" "I" ∈ wALL := tk1 (i := 44) rfl rfl
theorem kw_20 : Cond.fieldLink RX4 10 "Scripthouse" "planner" "LScripthouse$Planner;" ∈ wALL := tk1 (i := 169) rfl rfl
theorem kw_21 : Cond.methodLink RX4 61 yX2_forget ∈ wALL := tk2 (i := 39) rfl rfl
theorem kw_22 : Cond.instanceMethod yX2_forget ∈ wALL := tk2 (i := 40) rfl rfl
theorem kw_23 : Cond.selects RX2 yX2_forget yX2_forget ∈ wALL := tk2 (i := 41) rfl rfl
theorem kw_24 : Cond.initialized RX2 ∈ wALL := tk1 (i := 2) rfl rfl
theorem kw_25 : Cond.code yX2_forget cX2_forget 1 none ∈ wALL := tk2 (i := 42) rfl rfl
theorem kw_26 : Cond.methodLink RX4 64 yX3_append ∈ wALL := tk2 (i := 43) rfl rfl
theorem kw_27 : Cond.instanceMethod yX3_append ∈ wALL := tk2 (i := 44) rfl rfl
theorem kw_28 : Cond.selects RX3 yX3_append yX3_append ∈ wALL := tk2 (i := 45) rfl rfl
theorem kw_29 : Cond.code yX3_append cX3_append 6 (some .int) ∈ wALL := tk2 (i := 46) rfl rfl
theorem kw_30 : Cond.classLink RX4 58 "java/lang/IllegalStateException" ∈ wALL := tk2 (i := 24) rfl rfl
theorem kw_31 : Cond.initialized "java/lang/IllegalStateException" ∈ wALL := tk1 (i := 11) rfl rfl
theorem kw_32 : Cond.classLink RX4 52 "java/lang/IllegalArgumentException" ∈ wALL := tk1 (i := 201) rfl rfl
theorem kw_33 : Cond.initialized "java/lang/IllegalArgumentException" ∈ wALL := tk1 (i := 13) rfl rfl
theorem kw_34 : Cond.fieldLink RX4 71 "Scripthouse$Scenes" "outdoors" "I" ∈ wALL := tk1 (i := 49) rfl rfl
theorem kw_35 : Cond.methodLink RX4 74 yX4_isIn ∈ wALL := tk3 (i := 14) rfl rfl
theorem kw_36 : Cond.static yX4_isIn ∈ wALL := tk2 (i := 86) rfl rfl
theorem kw_37 : Cond.code yX4_isIn cX4_isIn 2 (some .boolean) ∈ wALL := tk2 (i := 87) rfl rfl
theorem kw_38 : Cond.methodLink RX4 78 yX4_with ∈ wALL := tk3 (i := 15) rfl rfl
theorem kw_39 : Cond.static yX4_with ∈ wALL := tk2 (i := 125) rfl rfl
theorem kw_40 : Cond.code yX4_with cX4_with 3 (some .int) ∈ wALL := tk2 (i := 126) rfl rfl
theorem kw_41 : Cond.classLink RX4 68 "java/lang/IndexOutOfBoundsException" ∈ wALL := tk2 (i := 229) rfl rfl
theorem kw_42 : Cond.initialized "java/lang/IndexOutOfBoundsException" ∈ wALL := tk1 (i := 12) rfl rfl
theorem kw_43 : Cond.fieldLink RX4 82 "Scripthouse$Scenes" "children" "I" ∈ wALL := tk1 (i := 51) rfl rfl
theorem kw_44 : Cond.fieldLink RX4 35 "Scripthouse" "rate" "I" ∈ wALL := tk1 (i := 172) rfl rfl
theorem kw_45 : Cond.fieldLink RX4 39 "Scripthouse" "cover" "I" ∈ wALL := tk1 (i := 173) rfl rfl
theorem kw_46 : Cond.fieldLink RX4 85 "Scripthouse" "isCovered" "Z" ∈ wALL := tk1 (i := 174) rfl rfl
theorem kw_47 : Cond.fieldLink RX2 22 "Scripthouse$Planner" "begin" "[I" ∈ wALL := tk1 (i := 76) rfl rfl
theorem kw_48 : Cond.fieldLink RX2 18 "Scripthouse$Planner" "order" "[I" ∈ wALL := tk1 (i := 75) rfl rfl
theorem kw_49 : Cond.static yX4_at ∈ wALL := tk2 (i := 75) rfl rfl
theorem kw_50 : Cond.code yX4_at cX4_at 2 (some .int) ∈ wALL := tk2 (i := 76) rfl rfl
theorem kw_51 : Cond.methodLink RX2 58 yX2_dayOf ∈ wALL := tk2 (i := 77) rfl rfl
theorem kw_52 : Cond.static yX2_dayOf ∈ wALL := tk2 (i := 78) rfl rfl
theorem kw_53 : Cond.code yX2_dayOf cX2_dayOf 1 (some .int) ∈ wALL := tk2 (i := 79) rfl rfl
theorem kw_54 : Cond.fieldLink RX2 62 "Scripthouse$Planner" "today" "I" ∈ wALL := tk1 (i := 83) rfl rfl
theorem kw_55 : Cond.methodLink RX2 107 yX2_daysUpTo ∈ wALL := tk2 (i := 70) rfl rfl
theorem kw_56 : Cond.instanceMethod yX2_daysUpTo ∈ wALL := tk2 (i := 71) rfl rfl
theorem kw_57 : Cond.selects RX2 yX2_daysUpTo yX2_daysUpTo ∈ wALL := tk2 (i := 72) rfl rfl
theorem kw_58 : Cond.code yX2_daysUpTo cX2_daysUpTo 2 (some .int) ∈ wALL := tk2 (i := 73) rfl rfl
theorem kw_59 : Cond.fieldLink RX2 35 "Scripthouse$Planner" "bestDays" "I" ∈ wALL := tk1 (i := 81) rfl rfl
theorem kw_60 : Cond.fieldLink RX2 25 "Scripthouse$Planner" "bestOrder" "[I" ∈ wALL := tk1 (i := 77) rfl rfl
theorem kw_61 : Cond.fieldLink RX2 28 "Scripthouse$Planner" "bestBegin" "[I" ∈ wALL := tk1 (i := 79) rfl rfl
theorem kw_62 : Cond.methodLink RX3 52 yX3_isFree ∈ wALL := tk2 (i := 88) rfl rfl
theorem kw_63 : Cond.instanceMethod yX3_isFree ∈ wALL := tk2 (i := 89) rfl rfl
theorem kw_64 : Cond.selects RX3 yX3_isFree yX3_isFree ∈ wALL := tk2 (i := 90) rfl rfl
theorem kw_65 : Cond.code yX3_isFree cX3_isFree 3 (some .boolean) ∈ wALL := tk2 (i := 91) rfl rfl
theorem kw_66 : Cond.fieldLink RX2 12 "Scripthouse$Planner" "scenes" "LScripthouse$Scenes;" ∈ wALL := tk1 (i := 73) rfl rfl
theorem kw_67 : Cond.fieldLink RX2 148 "Scripthouse$Scenes" "hours" "[I" ∈ wALL := tk1 (i := 35) rfl rfl
theorem kw_68 : Cond.fieldLink RX2 145 "Scripthouse$Scenes" "lights" "[I" ∈ wALL := tk1 (i := 41) rfl rfl
theorem kw_69 : Cond.methodLink RX2 133 Lib.Math.max.name ∈ wALL := tk2 (i := 108) rfl rfl
theorem kw_70 : Cond.static Lib.Math.max.name ∈ wALL := tk2 (i := 109) rfl rfl
theorem kw_71 : Cond.initialized RJ9 ∈ wALL := tk1 (i := 6) rfl rfl
theorem kw_72 : Cond.code Lib.Math.max.name Lib.Math.max.code 2 (some .int) ∈ wALL := tk2 (i := 110) rfl rfl
theorem kw_73 : Cond.fieldLink RX2 77 "Scripthouse$Scenes" "count" "I" ∈ wALL := tk1 (i := 45) rfl rfl
theorem kw_74 : Cond.fieldLink RX2 167 "Scripthouse$Scenes" "players" "[I" ∈ wALL := tk1 (i := 39) rfl rfl
theorem kw_75 : Cond.methodLink RX2 124 yX2_endOf ∈ wALL := tk2 (i := 100) rfl rfl
theorem kw_76 : Cond.instanceMethod yX2_endOf ∈ wALL := tk2 (i := 101) rfl rfl
theorem kw_77 : Cond.selects RX2 yX2_endOf yX2_endOf ∈ wALL := tk2 (i := 102) rfl rfl
theorem kw_78 : Cond.code yX2_endOf cX2_endOf 2 (some .int) ∈ wALL := tk2 (i := 103) rfl rfl
theorem kw_79 : Cond.fieldLink RX2 136 "Scripthouse$Scenes" "children" "I" ∈ wALL := tk1 (i := 52) rfl rfl
theorem kw_80 : Cond.methodLink RX2 142 yX2_placedOn ∈ wALL := tk2 (i := 120) rfl rfl
theorem kw_81 : Cond.instanceMethod yX2_placedOn ∈ wALL := tk2 (i := 121) rfl rfl
theorem kw_82 : Cond.selects RX2 yX2_placedOn yX2_placedOn ∈ wALL := tk2 (i := 122) rfl rfl
theorem kw_83 : Cond.code yX2_placedOn cX2_placedOn 5 (some .int) ∈ wALL := tk2 (i := 123) rfl rfl
theorem kw_84 : Cond.methodLink RX2 139 yX2_hoursFor ∈ wALL := tk2 (i := 127) rfl rfl
theorem kw_85 : Cond.instanceMethod yX2_hoursFor ∈ wALL := tk2 (i := 128) rfl rfl
theorem kw_86 : Cond.selects RX2 yX2_hoursFor yX2_hoursFor ∈ wALL := tk2 (i := 129) rfl rfl
theorem kw_87 : Cond.code yX2_hoursFor cX2_hoursFor 5 (some .int) ∈ wALL := tk2 (i := 130) rfl rfl
theorem kw_88 : Cond.methodLink RX2 151 yX2_startOf ∈ wALL := tk2 (i := 97) rfl rfl
theorem kw_89 : Cond.static yX2_startOf ∈ wALL := tk2 (i := 98) rfl rfl
theorem kw_90 : Cond.code yX2_startOf cX2_startOf 1 (some .int) ∈ wALL := tk2 (i := 99) rfl rfl
theorem kw_91 : Cond.fieldLink RX2 154 "Scripthouse$Scenes" "places" "[I" ∈ wALL := tk1 (i := 37) rfl rfl
theorem kw_92 : Cond.methodLink RX2 157 yX2_beginFrom ∈ wALL := tk2 (i := 104) rfl rfl
theorem kw_93 : Cond.instanceMethod yX2_beginFrom ∈ wALL := tk2 (i := 105) rfl rfl
theorem kw_94 : Cond.selects RX2 yX2_beginFrom yX2_beginFrom ∈ wALL := tk2 (i := 106) rfl rfl
theorem kw_95 : Cond.code yX2_beginFrom cX2_beginFrom 8 (some .int) ∈ wALL := tk2 (i := 107) rfl rfl
theorem kw_96 : Cond.methodLink RX2 161 yX2_endsInTime ∈ wALL := tk2 (i := 112) rfl rfl
theorem kw_97 : Cond.instanceMethod yX2_endsInTime ∈ wALL := tk2 (i := 113) rfl rfl
theorem kw_98 : Cond.selects RX2 yX2_endsInTime yX2_endsInTime ∈ wALL := tk2 (i := 114) rfl rfl
theorem kw_99 : Cond.code yX2_endsInTime cX2_endsInTime 5 (some .boolean) ∈ wALL := tk2 (i := 115) rfl rfl
theorem kw_100 : Cond.methodLink RX2 164 yX2_isFitForChildren ∈ wALL := tk2 (i := 116) rfl rfl
theorem kw_101 : Cond.instanceMethod yX2_isFitForChildren ∈ wALL := tk2 (i := 117) rfl rfl
theorem kw_102 : Cond.selects RX2 yX2_isFitForChildren yX2_isFitForChildren ∈ wALL := tk2 (i := 118) rfl rfl
theorem kw_103 : Cond.code yX2_isFitForChildren cX2_isFitForChildren 6 (some .boolean) ∈ wALL := tk2 (i := 119) rfl rfl
theorem kw_104 : Cond.methodLink RX2 127 yX3_hoursOf ∈ wALL := tk2 (i := 139) rfl rfl
theorem kw_105 : Cond.instanceMethod yX3_hoursOf ∈ wALL := tk2 (i := 140) rfl rfl
theorem kw_106 : Cond.selects RX3 yX3_hoursOf yX3_hoursOf ∈ wALL := tk2 (i := 141) rfl rfl
theorem kw_107 : Cond.code yX3_hoursOf cX3_hoursOf 4 (some .int) ∈ wALL := tk2 (i := 142) rfl rfl
theorem kw_108 : Cond.methodLink RX2 130 yX2_hoursIn ∈ wALL := tk2 (i := 143) rfl rfl
theorem kw_109 : Cond.instanceMethod yX2_hoursIn ∈ wALL := tk2 (i := 144) rfl rfl
theorem kw_110 : Cond.selects RX2 yX2_hoursIn yX2_hoursIn ∈ wALL := tk2 (i := 145) rfl rfl
theorem kw_111 : Cond.code yX2_hoursIn cX2_hoursIn 5 (some .int) ∈ wALL := tk2 (i := 146) rfl rfl
theorem kw_112 : Cond.methodLink RX2 90 yX3_everyScene ∈ wALL := tk2 (i := 65) rfl rfl
theorem kw_113 : Cond.methodLink RX2 116 yX2_hasRoom ∈ wALL := tk2 (i := 135) rfl rfl
theorem kw_114 : Cond.instanceMethod yX2_hasRoom ∈ wALL := tk2 (i := 136) rfl rfl
theorem kw_115 : Cond.selects RX2 yX2_hasRoom yX2_hasRoom ∈ wALL := tk2 (i := 137) rfl rfl
theorem kw_116 : Cond.code yX2_hasRoom cX2_hasRoom 5 (some .boolean) ∈ wALL := tk2 (i := 138) rfl rfl
theorem kw_117 : Cond.methodLink RX2 120 yX2_hasRoomForChildren ∈ wALL := tk2 (i := 147) rfl rfl
theorem kw_118 : Cond.instanceMethod yX2_hasRoomForChildren ∈ wALL := tk2 (i := 148) rfl rfl
theorem kw_119 : Cond.selects RX2 yX2_hasRoomForChildren yX2_hasRoomForChildren ∈ wALL := tk2 (i := 149) rfl rfl
theorem kw_120 : Cond.code yX2_hasRoomForChildren cX2_hasRoomForChildren 7 (some .boolean) ∈ wALL := tk2 (i := 150) rfl rfl
theorem kw_121 : Cond.methodLink RX2 97 yX3_canFollow ∈ wALL := tk2 (i := 81) rfl rfl
theorem kw_122 : Cond.instanceMethod yX3_canFollow ∈ wALL := tk2 (i := 82) rfl rfl
theorem kw_123 : Cond.selects RX3 yX3_canFollow yX3_canFollow ∈ wALL := tk2 (i := 83) rfl rfl
theorem kw_124 : Cond.code yX3_canFollow cX3_canFollow 3 (some .boolean) ∈ wALL := tk2 (i := 84) rfl rfl
theorem kw_125 : Cond.methodLink RX2 100 yX2_place ∈ wALL := tk2 (i := 93) rfl rfl
theorem kw_126 : Cond.instanceMethod yX2_place ∈ wALL := tk2 (i := 94) rfl rfl
theorem kw_127 : Cond.selects RX2 yX2_place yX2_place ∈ wALL := tk2 (i := 95) rfl rfl
theorem kw_128 : Cond.code yX2_place cX2_place 7 none ∈ wALL := tk2 (i := 96) rfl rfl
theorem kw_129 : Cond.methodLink RX2 104 yX2_canBeBetter ∈ wALL := tk2 (i := 131) rfl rfl
theorem kw_130 : Cond.instanceMethod yX2_canBeBetter ∈ wALL := tk2 (i := 132) rfl rfl
theorem kw_131 : Cond.selects RX2 yX2_canBeBetter yX2_canBeBetter ∈ wALL := tk2 (i := 133) rfl rfl
theorem kw_132 : Cond.code yX2_canBeBetter cX2_canBeBetter 6 (some .boolean) ∈ wALL := tk2 (i := 134) rfl rfl
theorem kw_133 : Cond.methodLink RX2 42 yX2_tryOrders ∈ wALL := tk2 (i := 62) rfl rfl
theorem kw_134 : Cond.static yX2_tryOrders ∈ wALL := tk2 (i := 63) rfl rfl
theorem kw_135 : Cond.code yX2_tryOrders cX2_tryOrders 5 none ∈ wALL := tk2 (i := 64) rfl rfl
theorem kw_136 : Cond.methodLink RX2 93 yX2_keepIfBetter ∈ wALL := tk2 (i := 66) rfl rfl
theorem kw_137 : Cond.instanceMethod yX2_keepIfBetter ∈ wALL := tk2 (i := 67) rfl rfl
theorem kw_138 : Cond.selects RX2 yX2_keepIfBetter yX2_keepIfBetter ∈ wALL := tk2 (i := 68) rfl rfl
theorem kw_139 : Cond.code yX2_keepIfBetter cX2_keepIfBetter 3 none ∈ wALL := tk2 (i := 69) rfl rfl
theorem kw_140 : Cond.fieldLink RX2 39 "Scripthouse$Scenes" "done" "I" ∈ wALL := tk1 (i := 46) rfl rfl
theorem kw_141 : Cond.constant RJ6 265 (1431655765) ∈ wALL := tk2 (i := 162) rfl rfl
theorem kw_142 : Cond.constant RJ6 266 (858993459) ∈ wALL := tk2 (i := 163) rfl rfl
theorem kw_143 : Cond.constant RJ6 267 (252645135) ∈ wALL := tk2 (i := 164) rfl rfl
theorem kw_144 : Cond.fieldLink RX3 35 "Scripthouse$Scenes" "done" "I" ∈ wALL := tk1 (i := 47) rfl rfl
theorem kw_145 : Cond.methodLink RX3 38 yJ6_bitCount_0f7a4 ∈ wALL := tk2 (i := 159) rfl rfl
theorem kw_146 : Cond.static yJ6_bitCount_0f7a4 ∈ wALL := tk2 (i := 160) rfl rfl
theorem kw_147 : Cond.initialized RJ6 ∈ wALL := tk1 (i := 7) rfl rfl
theorem kw_148 : Cond.code yJ6_bitCount_0f7a4 cJ6_bitCount_0f7a4 1 (some .int) ∈ wALL := tk2 (i := 161) rfl rfl
theorem kw_149 : Cond.fieldLink RX3 55 "Scripthouse$Scenes" "outdoors" "I" ∈ wALL := tk1 (i := 50) rfl rfl
theorem kw_150 : Cond.methodLink RX2 50 yX3_countOpen ∈ wALL := tk2 (i := 155) rfl rfl
theorem kw_151 : Cond.instanceMethod yX3_countOpen ∈ wALL := tk2 (i := 156) rfl rfl
theorem kw_152 : Cond.selects RX3 yX3_countOpen yX3_countOpen ∈ wALL := tk2 (i := 157) rfl rfl
theorem kw_153 : Cond.code yX3_countOpen cX3_countOpen 1 (some .int) ∈ wALL := tk2 (i := 158) rfl rfl
theorem kw_154 : Cond.methodLink RX2 65 yX3_isOutdoors ∈ wALL := tk2 (i := 165) rfl rfl
theorem kw_155 : Cond.instanceMethod yX3_isOutdoors ∈ wALL := tk2 (i := 166) rfl rfl
theorem kw_156 : Cond.selects RX3 yX3_isOutdoors yX3_isOutdoors ∈ wALL := tk2 (i := 167) rfl rfl
theorem kw_157 : Cond.code yX3_isOutdoors cX3_isOutdoors 2 (some .boolean) ∈ wALL := tk2 (i := 168) rfl rfl
theorem kw_158 : Cond.methodLink RX2 69 yX3_isFree ∈ wALL := tk2 (i := 169) rfl rfl
theorem kw_159 : Cond.fieldLink RX0 9 "Scripthouse$Budget" "lines" "[I" ∈ wALL := tk1 (i := 109) rfl rfl
theorem kw_160 : Cond.methodLink RX0 19 Lib.Math.max.name ∈ wALL := tk2 (i := 176) rfl rfl
theorem kw_161 : Cond.methodLink RX0 25 yX0_lackOf ∈ wALL := tk2 (i := 181) rfl rfl
theorem kw_162 : Cond.instanceMethod yX0_lackOf ∈ wALL := tk2 (i := 172) rfl rfl
theorem kw_163 : Cond.selects RX0 yX0_lackOf yX0_lackOf ∈ wALL := tk2 (i := 173) rfl rfl
theorem kw_164 : Cond.initialized RX0 ∈ wALL := tk1 (i := 4) rfl rfl
theorem kw_165 : Cond.code yX0_lackOf cX0_lackOf 3 (some .int) ∈ wALL := tk2 (i := 174) rfl rfl
theorem kw_166 : Cond.static yX4_add ∈ wALL := tk2 (i := 183) rfl rfl
theorem kw_167 : Cond.code yX4_add cX4_add 3 none ∈ wALL := tk2 (i := 184) rfl rfl
theorem kw_168 : Cond.fieldLink RX0 32 "Scripthouse$Budget" "fee" "I" ∈ wALL := tk1 (i := 111) rfl rfl
theorem kw_169 : Cond.fieldLink RX0 36 "Scripthouse$Budget" "costs" "I" ∈ wALL := tk1 (i := 113) rfl rfl
theorem kw_170 : Cond.fieldLink RX0 39 "Scripthouse$Budget" "unreturned" "I" ∈ wALL := tk1 (i := 115) rfl rfl
theorem kw_171 : Cond.methodLink RX2 87 yX2_forget ∈ wALL := tk2 (i := 191) rfl rfl
theorem kw_172 : Cond.methodLink RX4 89 yX2_makePlan ∈ wALL := tk2 (i := 58) rfl rfl
theorem kw_173 : Cond.instanceMethod yX2_makePlan ∈ wALL := tk2 (i := 59) rfl rfl
theorem kw_174 : Cond.selects RX2 yX2_makePlan yX2_makePlan ∈ wALL := tk2 (i := 60) rfl rfl
theorem kw_175 : Cond.code yX2_makePlan cX2_makePlan 1 none ∈ wALL := tk2 (i := 61) rfl rfl
theorem kw_176 : Cond.methodLink RX4 92 yX2_shootable ∈ wALL := tk2 (i := 151) rfl rfl
theorem kw_177 : Cond.instanceMethod yX2_shootable ∈ wALL := tk2 (i := 152) rfl rfl
theorem kw_178 : Cond.selects RX2 yX2_shootable yX2_shootable ∈ wALL := tk2 (i := 153) rfl rfl
theorem kw_179 : Cond.code yX2_shootable cX2_shootable 5 (some .int) ∈ wALL := tk2 (i := 154) rfl rfl
theorem kw_180 : Cond.methodLink RX4 96 yX3_hoursOf ∈ wALL := tk2 (i := 170) rfl rfl
theorem kw_181 : Cond.fieldLink RX4 24 "Scripthouse" "budget" "LScripthouse$Budget;" ∈ wALL := tk1 (i := 170) rfl rfl
theorem kw_182 : Cond.methodLink RX4 100 yX0_lackOf ∈ wALL := tk2 (i := 171) rfl rfl
theorem kw_183 : Cond.fieldLink RX4 104 "Scripthouse$Budget" "fee" "I" ∈ wALL := tk1 (i := 112) rfl rfl
theorem kw_184 : Cond.fieldLink RX4 107 "Scripthouse$Planner" "today" "I" ∈ wALL := tk1 (i := 84) rfl rfl
theorem kw_185 : Cond.methodLink RX4 110 yX0_pay ∈ wALL := tk2 (i := 177) rfl rfl
theorem kw_186 : Cond.instanceMethod yX0_pay ∈ wALL := tk2 (i := 178) rfl rfl
theorem kw_187 : Cond.selects RX0 yX0_pay yX0_pay ∈ wALL := tk2 (i := 179) rfl rfl
theorem kw_188 : Cond.code yX0_pay cX0_pay 4 (some .int) ∈ wALL := tk2 (i := 180) rfl rfl
theorem kw_189 : Cond.methodLink RX4 113 yX2_endDay ∈ wALL := tk2 (i := 187) rfl rfl
theorem kw_190 : Cond.instanceMethod yX2_endDay ∈ wALL := tk2 (i := 188) rfl rfl
theorem kw_191 : Cond.selects RX2 yX2_endDay yX2_endDay ∈ wALL := tk2 (i := 189) rfl rfl
theorem kw_192 : Cond.code yX2_endDay cX2_endDay 3 none ∈ wALL := tk2 (i := 190) rfl rfl
theorem kw_193 : Cond.methodLink RX4 117 yJ6_bitCount_0f7a4 ∈ wALL := tk2 (i := 192) rfl rfl
theorem kw_194 : Cond.constant RX4 122 (100000) ∈ wALL := tk2 (i := 197) rfl rfl
theorem kw_195 : Cond.fieldLink RX4 123 "Scripthouse$Budget" "lines" "[I" ∈ wALL := tk1 (i := 110) rfl rfl
theorem kw_196 : Cond.methodLink RX4 127 yX4_add ∈ wALL := tk3 (i := 24) rfl rfl
theorem kw_197 : Cond.methodLink RX4 131 yX4_at ∈ wALL := tk2 (i := 185) rfl rfl
theorem kw_198 : Cond.fieldLink RX1 9 "Scripthouse$Layers" "lenders" "[I" ∈ wALL := tk1 (i := 132) rfl rfl
theorem kw_199 : Cond.fieldLink RX1 33 "Scripthouse$Layers" "loans" "I" ∈ wALL := tk1 (i := 141) rfl rfl
theorem kw_200 : Cond.fieldLink RX1 15 "Scripthouse$Layers" "loanOpen" "[I" ∈ wALL := tk1 (i := 133) rfl rfl
theorem kw_201 : Cond.fieldLink RX4 31 "Scripthouse" "layers" "LScripthouse$Layers;" ∈ wALL := tk1 (i := 171) rfl rfl
theorem kw_202 : Cond.fieldLink RX4 135 "Scripthouse$Layers" "loans" "I" ∈ wALL := tk1 (i := 142) rfl rfl
theorem kw_203 : Cond.methodLink RX4 138 yX1_appendLoan ∈ wALL := tk3 (i := 33) rfl rfl
theorem kw_204 : Cond.instanceMethod yX1_appendLoan ∈ wALL := tk3 (i := 34) rfl rfl
theorem kw_205 : Cond.selects RX1 yX1_appendLoan yX1_appendLoan ∈ wALL := tk3 (i := 35) rfl rfl
theorem kw_206 : Cond.initialized RX1 ∈ wALL := tk1 (i := 5) rfl rfl
theorem kw_207 : Cond.code yX1_appendLoan cX1_appendLoan 3 (some .int) ∈ wALL := tk3 (i := 36) rfl rfl
theorem kw_208 : Cond.fieldLink RX1 41 "Scripthouse$Layers" "parts" "I" ∈ wALL := tk1 (i := 143) rfl rfl
theorem kw_209 : Cond.fieldLink RX1 18 "Scripthouse$Layers" "wholes" "[I" ∈ wALL := tk1 (i := 135) rfl rfl
theorem kw_210 : Cond.fieldLink RX1 24 "Scripthouse$Layers" "percents" "[I" ∈ wALL := tk1 (i := 137) rfl rfl
theorem kw_211 : Cond.fieldLink RX1 21 "Scripthouse$Layers" "holders" "[I" ∈ wALL := tk1 (i := 136) rfl rfl
theorem kw_212 : Cond.fieldLink RX4 141 "Scripthouse$Layers" "parts" "I" ∈ wALL := tk1 (i := 144) rfl rfl
theorem kw_213 : Cond.methodLink RX4 144 yX1_percentOf ∈ wALL := tk3 (i := 42) rfl rfl
theorem kw_214 : Cond.instanceMethod yX1_percentOf ∈ wALL := tk3 (i := 43) rfl rfl
theorem kw_215 : Cond.selects RX1 yX1_percentOf yX1_percentOf ∈ wALL := tk3 (i := 44) rfl rfl
theorem kw_216 : Cond.code yX1_percentOf cX1_percentOf 4 (some .int) ∈ wALL := tk3 (i := 45) rfl rfl
theorem kw_217 : Cond.methodLink RX4 147 yX1_appendPart ∈ wALL := tk3 (i := 47) rfl rfl
theorem kw_218 : Cond.instanceMethod yX1_appendPart ∈ wALL := tk3 (i := 48) rfl rfl
theorem kw_219 : Cond.selects RX1 yX1_appendPart yX1_appendPart ∈ wALL := tk3 (i := 49) rfl rfl
theorem kw_220 : Cond.code yX1_appendPart cX1_appendPart 4 (some .int) ∈ wALL := tk3 (i := 50) rfl rfl
theorem kw_221 : Cond.methodLink RX0 42 Lib.Math.min.name ∈ wALL := tk3 (i := 60) rfl rfl
theorem kw_222 : Cond.static Lib.Math.min.name ∈ wALL := tk2 (i := 223) rfl rfl
theorem kw_223 : Cond.code Lib.Math.min.name Lib.Math.min.code 2 (some .int) ∈ wALL := tk2 (i := 224) rfl rfl
theorem kw_224 : Cond.methodLink RX1 48 Lib.Math.min.name ∈ wALL := tk3 (i := 65) rfl rfl
theorem kw_225 : Cond.fieldLink RX1 30 "Scripthouse$Layers" "gains" "[I" ∈ wALL := tk1 (i := 139) rfl rfl
theorem kw_226 : Cond.fieldLink RX1 57 "Scripthouse$Layers" "houseGain" "I" ∈ wALL := tk1 (i := 145) rfl rfl
theorem kw_227 : Cond.fieldLink RX1 27 "Scripthouse$Layers" "shares" "[I" ∈ wALL := tk1 (i := 138) rfl rfl
theorem kw_228 : Cond.constant RX4 151 (1000000) ∈ wALL := tk3 (i := 55) rfl rfl
theorem kw_229 : Cond.methodLink RX4 152 yX0_payBack ∈ wALL := tk3 (i := 56) rfl rfl
theorem kw_230 : Cond.instanceMethod yX0_payBack ∈ wALL := tk3 (i := 57) rfl rfl
theorem kw_231 : Cond.selects RX0 yX0_payBack yX0_payBack ∈ wALL := tk3 (i := 58) rfl rfl
theorem kw_232 : Cond.code yX0_payBack cX0_payBack 3 (some .int) ∈ wALL := tk3 (i := 59) rfl rfl
theorem kw_233 : Cond.methodLink RX4 155 yX1_payBackLoans ∈ wALL := tk3 (i := 61) rfl rfl
theorem kw_234 : Cond.instanceMethod yX1_payBackLoans ∈ wALL := tk3 (i := 62) rfl rfl
theorem kw_235 : Cond.selects RX1 yX1_payBackLoans yX1_payBackLoans ∈ wALL := tk3 (i := 63) rfl rfl
theorem kw_236 : Cond.code yX1_payBackLoans cX1_payBackLoans 5 (some .int) ∈ wALL := tk3 (i := 64) rfl rfl
theorem kw_237 : Cond.methodLink RX4 158 yX1_share ∈ wALL := tk3 (i := 67) rfl rfl
theorem kw_238 : Cond.instanceMethod yX1_share ∈ wALL := tk3 (i := 68) rfl rfl
theorem kw_239 : Cond.selects RX1 yX1_share yX1_share ∈ wALL := tk3 (i := 69) rfl rfl
theorem kw_240 : Cond.code yX1_share cX1_share 6 none ∈ wALL := tk3 (i := 70) rfl rfl
theorem kw_241 : Cond.fieldLink RX4 161 "Scripthouse$Scenes" "done" "I" ∈ wALL := tk1 (i := 48) rfl rfl
theorem kw_242 : Cond.fieldLink RX4 164 "Scripthouse$Planner" "bestDays" "I" ∈ wALL := tk1 (i := 82) rfl rfl
theorem kw_243 : Cond.methodLink RX2 46 yX2_fewestOfAll ∈ wALL := tk2 (i := 219) rfl rfl
theorem kw_244 : Cond.static yX2_fewestOfAll ∈ wALL := tk2 (i := 220) rfl rfl
theorem kw_245 : Cond.code yX2_fewestOfAll cX2_fewestOfAll 5 (some .int) ∈ wALL := tk2 (i := 221) rfl rfl
theorem kw_246 : Cond.methodLink RX2 110 Lib.Math.min.name ∈ wALL := tk2 (i := 222) rfl rfl
theorem kw_247 : Cond.methodLink RX4 167 yX3_countOpen ∈ wALL := tk2 (i := 214) rfl rfl
theorem kw_248 : Cond.methodLink RX4 170 yX2_fewestDays ∈ wALL := tk2 (i := 215) rfl rfl
theorem kw_249 : Cond.instanceMethod yX2_fewestDays ∈ wALL := tk2 (i := 216) rfl rfl
theorem kw_250 : Cond.selects RX2 yX2_fewestDays yX2_fewestDays ∈ wALL := tk2 (i := 217) rfl rfl
theorem kw_251 : Cond.code yX2_fewestDays cX2_fewestDays 1 (some .int) ∈ wALL := tk2 (i := 218) rfl rfl
theorem kw_252 : Cond.fieldLink RX4 173 "Scripthouse$Planner" "bestOrder" "[I" ∈ wALL := tk1 (i := 78) rfl rfl
theorem kw_253 : Cond.fieldLink RX4 176 "Scripthouse$Planner" "bestBegin" "[I" ∈ wALL := tk1 (i := 80) rfl rfl
theorem kw_254 : Cond.fieldLink RX4 179 "Scripthouse$Budget" "costs" "I" ∈ wALL := tk1 (i := 114) rfl rfl
theorem kw_255 : Cond.fieldLink RX4 182 "Scripthouse$Budget" "unreturned" "I" ∈ wALL := tk1 (i := 116) rfl rfl
theorem kw_256 : Cond.fieldLink RX4 185 "Scripthouse$Layers" "loanOpen" "[I" ∈ wALL := tk1 (i := 134) rfl rfl
theorem kw_257 : Cond.fieldLink RX4 188 "Scripthouse$Layers" "gains" "[I" ∈ wALL := tk1 (i := 140) rfl rfl
theorem kw_258 : Cond.fieldLink RX4 191 "Scripthouse$Layers" "houseGain" "I" ∈ wALL := tk1 (i := 146) rfl rfl
theorem kw_259 : Cond.methodLink RX4 194 yX4_put ∈ wALL := tk2 (i := 186) rfl rfl
theorem cs_X3_31 : csN RX3 31 yX4_put RX4 cX4_put 3 none 3 := ⟨List.mem_of_getElem? (i := 10) rfl, kw_3, kw_4, kw_5, by decide +kernel⟩
theorem cs_X4_42 : csS RX4 42 yX4_isWithin cX4_isWithin 3 (some .boolean) 3 := ⟨kw_10, kw_11, kw_4, kw_12, by decide +kernel⟩
theorem cs_X4_46 : csV RX4 RX3 46 yX3_everyScene cX3_everyScene 1 (some .int) 0 := ⟨kw_14, kw_15, kw_16, kw_17, kw_18, by decide +kernel⟩
theorem cs_X4_61 : csV RX4 RX2 61 yX2_forget cX2_forget 1 none 0 := ⟨kw_21, kw_22, kw_23, kw_24, kw_25, by decide +kernel⟩
theorem cs_X4_64 : csV RX4 RX3 64 yX3_append cX3_append 6 (some .int) 5 := ⟨kw_26, kw_27, kw_28, kw_17, kw_29, by decide +kernel⟩
theorem cs_X4_74 : csS RX4 74 yX4_isIn cX4_isIn 2 (some .boolean) 2 := ⟨kw_35, kw_36, kw_4, kw_37, by decide +kernel⟩
theorem cs_X4_78 : csS RX4 78 yX4_with cX4_with 3 (some .int) 3 := ⟨kw_38, kw_39, kw_4, kw_40, by decide +kernel⟩
theorem cs_X2_54 : csN RX2 54 yX4_at RX4 cX4_at 2 (some .int) 2 := ⟨List.mem_of_getElem? (i := 4) rfl, kw_49, kw_4, kw_50, by decide +kernel⟩
theorem cs_X2_58 : csS RX2 58 yX2_dayOf cX2_dayOf 1 (some .int) 1 := ⟨kw_51, kw_52, kw_24, kw_53, by decide +kernel⟩
theorem cs_X2_107 : csV RX2 RX2 107 yX2_daysUpTo cX2_daysUpTo 2 (some .int) 1 := ⟨kw_55, kw_56, kw_57, kw_24, kw_58, by decide +kernel⟩
theorem cs_X2_83 : csN RX2 83 yX4_put RX4 cX4_put 3 none 3 := ⟨List.mem_of_getElem? (i := 5) rfl, kw_3, kw_4, kw_5, by decide +kernel⟩
theorem cs_X3_48 : csN RX3 48 yX4_at RX4 cX4_at 2 (some .int) 2 := ⟨List.mem_of_getElem? (i := 7) rfl, kw_49, kw_4, kw_50, by decide +kernel⟩
theorem cs_X3_44 : csN RX3 44 yX4_isIn RX4 cX4_isIn 2 (some .boolean) 2 := ⟨List.mem_of_getElem? (i := 6) rfl, kw_36, kw_4, kw_37, by decide +kernel⟩
theorem cs_X3_52 : csV RX3 RX3 52 yX3_isFree cX3_isFree 3 (some .boolean) 2 := ⟨kw_62, kw_63, kw_64, kw_17, kw_65, by decide +kernel⟩
theorem cs_X2_80 : csN RX2 80 yX4_isIn RX4 cX4_isIn 2 (some .boolean) 2 := ⟨List.mem_of_getElem? (i := 8) rfl, kw_36, kw_4, kw_37, by decide +kernel⟩
theorem cs_X2_124 : csV RX2 RX2 124 yX2_endOf cX2_endOf 2 (some .int) 1 := ⟨kw_75, kw_76, kw_77, kw_24, kw_78, by decide +kernel⟩
theorem cs_X2_73 : csN RX2 73 yX4_with RX4 cX4_with 3 (some .int) 3 := ⟨List.mem_of_getElem? (i := 9) rfl, kw_39, kw_4, kw_40, by decide +kernel⟩
theorem cs_X2_142 : csV RX2 RX2 142 yX2_placedOn cX2_placedOn 5 (some .int) 2 := ⟨kw_80, kw_81, kw_82, kw_24, kw_83, by decide +kernel⟩
theorem cs_X2_139 : csV RX2 RX2 139 yX2_hoursFor cX2_hoursFor 5 (some .int) 2 := ⟨kw_84, kw_85, kw_86, kw_24, kw_87, by decide +kernel⟩
theorem cs_X2_151 : csS RX2 151 yX2_startOf cX2_startOf 1 (some .int) 1 := ⟨kw_88, kw_89, kw_24, kw_90, by decide +kernel⟩
theorem cs_X2_157 : csV RX2 RX2 157 yX2_beginFrom cX2_beginFrom 8 (some .int) 4 := ⟨kw_92, kw_93, kw_94, kw_24, kw_95, by decide +kernel⟩
theorem cs_X2_161 : csV RX2 RX2 161 yX2_endsInTime cX2_endsInTime 5 (some .boolean) 3 := ⟨kw_96, kw_97, kw_98, kw_24, kw_99, by decide +kernel⟩
theorem cs_X2_164 : csV RX2 RX2 164 yX2_isFitForChildren cX2_isFitForChildren 6 (some .boolean) 3 := ⟨kw_100, kw_101, kw_102, kw_24, kw_103, by decide +kernel⟩
theorem cs_X2_127 : csV RX2 RX3 127 yX3_hoursOf cX3_hoursOf 4 (some .int) 1 := ⟨kw_104, kw_105, kw_106, kw_17, kw_107, by decide +kernel⟩
theorem cs_X2_130 : csV RX2 RX2 130 yX2_hoursIn cX2_hoursIn 5 (some .int) 2 := ⟨kw_108, kw_109, kw_110, kw_24, kw_111, by decide +kernel⟩
theorem cs_X2_90 : csV RX2 RX3 90 yX3_everyScene cX3_everyScene 1 (some .int) 0 := ⟨kw_112, kw_15, kw_16, kw_17, kw_18, by decide +kernel⟩
theorem cs_X2_116 : csV RX2 RX2 116 yX2_hasRoom cX2_hasRoom 5 (some .boolean) 3 := ⟨kw_113, kw_114, kw_115, kw_24, kw_116, by decide +kernel⟩
theorem cs_X2_120 : csV RX2 RX2 120 yX2_hasRoomForChildren cX2_hasRoomForChildren 7 (some .boolean) 4 := ⟨kw_117, kw_118, kw_119, kw_24, kw_120, by decide +kernel⟩
theorem cs_X2_97 : csV RX2 RX3 97 yX3_canFollow cX3_canFollow 3 (some .boolean) 2 := ⟨kw_121, kw_122, kw_123, kw_17, kw_124, by decide +kernel⟩
theorem cs_X2_100 : csV RX2 RX2 100 yX2_place cX2_place 7 none 3 := ⟨kw_125, kw_126, kw_127, kw_24, kw_128, by decide +kernel⟩
theorem cs_X2_104 : csV RX2 RX2 104 yX2_canBeBetter cX2_canBeBetter 6 (some .boolean) 2 := ⟨kw_129, kw_130, kw_131, kw_24, kw_132, by decide +kernel⟩
theorem cs_X2_42 : csS RX2 42 yX2_tryOrders cX2_tryOrders 5 none 3 := ⟨kw_133, kw_134, kw_24, kw_135, by decide +kernel⟩
theorem cs_X2_93 : csV RX2 RX2 93 yX2_keepIfBetter cX2_keepIfBetter 3 none 1 := ⟨kw_136, kw_137, kw_138, kw_24, kw_139, by decide +kernel⟩
theorem cs_X3_38 : csS RX3 38 yJ6_bitCount_0f7a4 cJ6_bitCount_0f7a4 1 (some .int) 1 := ⟨kw_145, kw_146, kw_147, kw_148, by decide +kernel⟩
theorem cs_X2_50 : csV RX2 RX3 50 yX3_countOpen cX3_countOpen 1 (some .int) 0 := ⟨kw_150, kw_151, kw_152, kw_17, kw_153, by decide +kernel⟩
theorem cs_X2_65 : csV RX2 RX3 65 yX3_isOutdoors cX3_isOutdoors 2 (some .boolean) 1 := ⟨kw_154, kw_155, kw_156, kw_17, kw_157, by decide +kernel⟩
theorem cs_X2_69 : csV RX2 RX3 69 yX3_isFree cX3_isFree 3 (some .boolean) 2 := ⟨kw_158, kw_63, kw_64, kw_17, kw_65, by decide +kernel⟩
theorem cs_X0_15 : csN RX0 15 yX4_at RX4 cX4_at 2 (some .int) 2 := ⟨List.mem_of_getElem? (i := 11) rfl, kw_49, kw_4, kw_50, by decide +kernel⟩
theorem cs_X0_25 : csV RX0 RX0 25 yX0_lackOf cX0_lackOf 3 (some .int) 2 := ⟨kw_161, kw_162, kw_163, kw_164, kw_165, by decide +kernel⟩
theorem cs_X0_28 : csN RX0 28 yX4_add RX4 cX4_add 3 none 3 := ⟨List.mem_of_getElem? (i := 12) rfl, kw_166, kw_4, kw_167, by decide +kernel⟩
theorem cs_X2_87 : csV RX2 RX2 87 yX2_forget cX2_forget 1 none 0 := ⟨kw_171, kw_22, kw_23, kw_24, kw_25, by decide +kernel⟩
theorem cs_X4_89 : csV RX4 RX2 89 yX2_makePlan cX2_makePlan 1 none 0 := ⟨kw_172, kw_173, kw_174, kw_24, kw_175, by decide +kernel⟩
theorem cs_X4_92 : csV RX4 RX2 92 yX2_shootable cX2_shootable 5 (some .int) 1 := ⟨kw_176, kw_177, kw_178, kw_24, kw_179, by decide +kernel⟩
theorem cs_X4_96 : csV RX4 RX3 96 yX3_hoursOf cX3_hoursOf 4 (some .int) 1 := ⟨kw_180, kw_105, kw_106, kw_17, kw_107, by decide +kernel⟩
theorem cs_X4_100 : csV RX4 RX0 100 yX0_lackOf cX0_lackOf 3 (some .int) 2 := ⟨kw_182, kw_162, kw_163, kw_164, kw_165, by decide +kernel⟩
theorem cs_X4_110 : csV RX4 RX0 110 yX0_pay cX0_pay 4 (some .int) 2 := ⟨kw_185, kw_186, kw_187, kw_164, kw_188, by decide +kernel⟩
theorem cs_X4_113 : csV RX4 RX2 113 yX2_endDay cX2_endDay 3 none 1 := ⟨kw_189, kw_190, kw_191, kw_24, kw_192, by decide +kernel⟩
theorem cs_X4_117 : csS RX4 117 yJ6_bitCount_0f7a4 cJ6_bitCount_0f7a4 1 (some .int) 1 := ⟨kw_193, kw_146, kw_147, kw_148, by decide +kernel⟩
theorem cs_X4_127 : csS RX4 127 yX4_add cX4_add 3 none 3 := ⟨kw_196, kw_166, kw_4, kw_167, by decide +kernel⟩
theorem cs_X4_131 : csS RX4 131 yX4_at cX4_at 2 (some .int) 2 := ⟨kw_197, kw_49, kw_4, kw_50, by decide +kernel⟩
theorem cs_X1_37 : csN RX1 37 yX4_put RX4 cX4_put 3 none 3 := ⟨List.mem_of_getElem? (i := 13) rfl, kw_3, kw_4, kw_5, by decide +kernel⟩
theorem cs_X4_138 : csV RX4 RX1 138 yX1_appendLoan cX1_appendLoan 3 (some .int) 2 := ⟨kw_203, kw_204, kw_205, kw_206, kw_207, by decide +kernel⟩
theorem cs_X1_44 : csN RX1 44 yX4_at RX4 cX4_at 2 (some .int) 2 := ⟨List.mem_of_getElem? (i := 14) rfl, kw_49, kw_4, kw_50, by decide +kernel⟩
theorem cs_X4_144 : csV RX4 RX1 144 yX1_percentOf cX1_percentOf 4 (some .int) 1 := ⟨kw_213, kw_214, kw_215, kw_206, kw_216, by decide +kernel⟩
theorem cs_X4_147 : csV RX4 RX1 147 yX1_appendPart cX1_appendPart 4 (some .int) 3 := ⟨kw_217, kw_218, kw_219, kw_206, kw_220, by decide +kernel⟩
theorem cs_X1_54 : csN RX1 54 yX4_add RX4 cX4_add 3 none 3 := ⟨List.mem_of_getElem? (i := 15) rfl, kw_166, kw_4, kw_167, by decide +kernel⟩
theorem cs_X4_152 : csV RX4 RX0 152 yX0_payBack cX0_payBack 3 (some .int) 1 := ⟨kw_229, kw_230, kw_231, kw_164, kw_232, by decide +kernel⟩
theorem cs_X4_155 : csV RX4 RX1 155 yX1_payBackLoans cX1_payBackLoans 5 (some .int) 1 := ⟨kw_233, kw_234, kw_235, kw_206, kw_236, by decide +kernel⟩
theorem cs_X4_158 : csV RX4 RX1 158 yX1_share cX1_share 6 none 1 := ⟨kw_237, kw_238, kw_239, kw_206, kw_240, by decide +kernel⟩
theorem cs_X2_46 : csS RX2 46 yX2_fewestOfAll cX2_fewestOfAll 5 (some .int) 3 := ⟨kw_243, kw_244, kw_24, kw_245, by decide +kernel⟩
theorem cs_X4_167 : csV RX4 RX3 167 yX3_countOpen cX3_countOpen 1 (some .int) 0 := ⟨kw_247, kw_151, kw_152, kw_17, kw_153, by decide +kernel⟩
theorem cs_X4_170 : csV RX4 RX2 170 yX2_fewestDays cX2_fewestDays 1 (some .int) 0 := ⟨kw_248, kw_249, kw_250, kw_24, kw_251, by decide +kernel⟩
theorem cs_X4_194 : csS RX4 194 yX4_put cX4_put 3 none 3 := ⟨kw_259, kw_3, kw_4, kw_5, by decide +kernel⟩
