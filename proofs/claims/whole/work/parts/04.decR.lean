theorem dX5_init_0 : decode cX5_init 0 = .ok (.aload_n 0, 1) := by decide +kernel
theorem dX5_init_1 : decode cX5_init 1 = .ok (.invokespecial 1, 3) := by decide +kernel
theorem dX5_init_4 : decode cX5_init 4 = .ok (.aload_n 0, 1) := by decide +kernel
theorem dX5_init_5 : decode cX5_init 5 = .ok (.bipush 8, 2) := by decide +kernel
theorem dX5_init_7 : decode cX5_init 7 = .ok (.newarray .int, 2) := by decide +kernel
theorem dX5_init_9 : decode cX5_init 9 = .ok (.putfield 7, 3) := by decide +kernel
theorem dX5_init_12 : decode cX5_init 12 = .ok (.aload_n 0, 1) := by decide +kernel
theorem dX5_init_13 : decode cX5_init 13 = .ok (.bipush 8, 2) := by decide +kernel
theorem dX5_init_15 : decode cX5_init 15 = .ok (.newarray .int, 2) := by decide +kernel
theorem dX5_init_17 : decode cX5_init 17 = .ok (.putfield 13, 3) := by decide +kernel
theorem dX5_init_20 : decode cX5_init 20 = .ok (.aload_n 0, 1) := by decide +kernel
theorem dX5_init_21 : decode cX5_init 21 = .ok (.bipush 8, 2) := by decide +kernel
theorem dX5_init_23 : decode cX5_init 23 = .ok (.newarray .int, 2) := by decide +kernel
theorem dX5_init_25 : decode cX5_init 25 = .ok (.putfield 16, 3) := by decide +kernel
theorem dX5_init_28 : decode cX5_init 28 = .ok (.aload_n 0, 1) := by decide +kernel
theorem dX5_init_29 : decode cX5_init 29 = .ok (.bipush 8, 2) := by decide +kernel
theorem dX5_init_31 : decode cX5_init 31 = .ok (.newarray .int, 2) := by decide +kernel
theorem dX5_init_33 : decode cX5_init 33 = .ok (.putfield 19, 3) := by decide +kernel
theorem dX5_init_36 : decode cX5_init 36 = .ok (.aload_n 0, 1) := by decide +kernel
theorem dX5_init_37 : decode cX5_init 37 = .ok (.bipush 8, 2) := by decide +kernel
theorem dX5_init_39 : decode cX5_init 39 = .ok (.newarray .int, 2) := by decide +kernel
theorem dX5_init_41 : decode cX5_init 41 = .ok (.putfield 22, 3) := by decide +kernel
theorem dX5_init_44 : decode cX5_init 44 = .ok (.aload_n 0, 1) := by decide +kernel
theorem dX5_init_45 : decode cX5_init 45 = .ok (.bipush 8, 2) := by decide +kernel
theorem dX5_init_47 : decode cX5_init 47 = .ok (.newarray .int, 2) := by decide +kernel
theorem dX5_init_49 : decode cX5_init 49 = .ok (.putfield 25, 3) := by decide +kernel
theorem dX5_init_52 : decode cX5_init 52 = .ok (.aload_n 0, 1) := by decide +kernel
theorem dX5_init_53 : decode cX5_init 53 = .ok (.bipush 100, 2) := by decide +kernel
theorem dX5_init_55 : decode cX5_init 55 = .ok (.putfield 28, 3) := by decide +kernel
theorem dX5_init_58 : decode cX5_init 58 = .ok (.aload_n 0, 1) := by decide +kernel
theorem dX5_init_59 : decode cX5_init 59 = .ok (.bipush 50, 2) := by decide +kernel
theorem dX5_init_61 : decode cX5_init 61 = .ok (.putfield 32, 3) := by decide +kernel
theorem dX5_init_64 : decode cX5_init 64 = .ok (.aload_n 0, 1) := by decide +kernel
theorem dX5_init_65 : decode cX5_init 65 = .ok (.bipush 8, 2) := by decide +kernel
theorem dX5_init_67 : decode cX5_init 67 = .ok (.newarray .int, 2) := by decide +kernel
theorem dX5_init_69 : decode cX5_init 69 = .ok (.putfield 35, 3) := by decide +kernel
theorem dX5_init_72 : decode cX5_init 72 = .ok (.aload_n 0, 1) := by decide +kernel
theorem dX5_init_73 : decode cX5_init 73 = .ok (.bipush 8, 2) := by decide +kernel
theorem dX5_init_75 : decode cX5_init 75 = .ok (.newarray .int, 2) := by decide +kernel
theorem dX5_init_77 : decode cX5_init 77 = .ok (.putfield 38, 3) := by decide +kernel
theorem dX5_init_80 : decode cX5_init 80 = .ok (.aload_n 0, 1) := by decide +kernel
theorem dX5_init_81 : decode cX5_init 81 = .ok (.bipush 9, 2) := by decide +kernel
theorem dX5_init_83 : decode cX5_init 83 = .ok (.newarray .int, 2) := by decide +kernel
theorem dX5_init_85 : decode cX5_init 85 = .ok (.putfield 41, 3) := by decide +kernel
theorem dX5_init_88 : decode cX5_init 88 = .ok (.aload_n 0, 1) := by decide +kernel
theorem dX5_init_89 : decode cX5_init 89 = .ok (.bipush 9, 2) := by decide +kernel
theorem dX5_init_91 : decode cX5_init 91 = .ok (.newarray .int, 2) := by decide +kernel
theorem dX5_init_93 : decode cX5_init 93 = .ok (.putfield 44, 3) := by decide +kernel
theorem dX5_init_96 : decode cX5_init 96 = .ok (.aload_n 0, 1) := by decide +kernel
theorem dX5_init_97 : decode cX5_init 97 = .ok (.iconst 4, 1) := by decide +kernel
theorem dX5_init_98 : decode cX5_init 98 = .ok (.newarray .int, 2) := by decide +kernel
theorem dX5_init_100 : decode cX5_init 100 = .ok (.putfield 47, 3) := by decide +kernel
theorem dX5_init_103 : decode cX5_init 103 = .ok (.aload_n 0, 1) := by decide +kernel
theorem dX5_init_104 : decode cX5_init 104 = .ok (.bipush 10, 2) := by decide +kernel
theorem dX5_init_106 : decode cX5_init 106 = .ok (.newarray .int, 2) := by decide +kernel
theorem dX5_init_108 : decode cX5_init 108 = .ok (.putfield 50, 3) := by decide +kernel
theorem dX5_init_111 : decode cX5_init 111 = .ok (.aload_n 0, 1) := by decide +kernel
theorem dX5_init_112 : decode cX5_init 112 = .ok (.bipush 10, 2) := by decide +kernel
theorem dX5_init_114 : decode cX5_init 114 = .ok (.newarray .int, 2) := by decide +kernel
theorem dX5_init_116 : decode cX5_init 116 = .ok (.putfield 53, 3) := by decide +kernel
theorem dX5_init_119 : decode cX5_init 119 = .ok (.aload_n 0, 1) := by decide +kernel
theorem dX5_init_120 : decode cX5_init 120 = .ok (.bipush 12, 2) := by decide +kernel
theorem dX5_init_122 : decode cX5_init 122 = .ok (.newarray .int, 2) := by decide +kernel
theorem dX5_init_124 : decode cX5_init 124 = .ok (.putfield 56, 3) := by decide +kernel
theorem dX5_init_127 : decode cX5_init 127 = .ok (.aload_n 0, 1) := by decide +kernel
theorem dX5_init_128 : decode cX5_init 128 = .ok (.bipush 12, 2) := by decide +kernel
theorem dX5_init_130 : decode cX5_init 130 = .ok (.newarray .int, 2) := by decide +kernel
theorem dX5_init_132 : decode cX5_init 132 = .ok (.putfield 59, 3) := by decide +kernel
theorem dX5_init_135 : decode cX5_init 135 = .ok (.aload_n 0, 1) := by decide +kernel
theorem dX5_init_136 : decode cX5_init 136 = .ok (.bipush 12, 2) := by decide +kernel
theorem dX5_init_138 : decode cX5_init 138 = .ok (.newarray .int, 2) := by decide +kernel
theorem dX5_init_140 : decode cX5_init 140 = .ok (.putfield 62, 3) := by decide +kernel
theorem dX5_init_143 : decode cX5_init 143 = .ok (.aload_n 0, 1) := by decide +kernel
theorem dX5_init_144 : decode cX5_init 144 = .ok (.bipush 12, 2) := by decide +kernel
theorem dX5_init_146 : decode cX5_init 146 = .ok (.newarray .int, 2) := by decide +kernel
theorem dX5_init_148 : decode cX5_init 148 = .ok (.putfield 65, 3) := by decide +kernel
theorem dX5_init_151 : decode cX5_init 151 = .ok (.aload_n 0, 1) := by decide +kernel
theorem dX5_init_152 : decode cX5_init 152 = .ok (.bipush 6, 2) := by decide +kernel
theorem dX5_init_154 : decode cX5_init 154 = .ok (.newarray .int, 2) := by decide +kernel
theorem dX5_init_156 : decode cX5_init 156 = .ok (.putfield 68, 3) := by decide +kernel
theorem dX5_init_159 : decode cX5_init 159 = .ok (.return_, 1) := by decide +kernel
theorem dX5_thrown_0 : decode cX5_thrown 0 = .ok (.aload_n 0, 1) := by decide +kernel
theorem dX5_thrown_1 : decode cX5_thrown 1 = .ok (.getfield 71, 3) := by decide +kernel
theorem dX5_thrown_4 : decode cX5_thrown 4 = .ok (.ireturn, 1) := by decide +kernel
theorem dX5_isIn_0 : decode cX5_isIn 0 = .ok (.iload_n 0, 1) := by decide +kernel
theorem dX5_isIn_1 : decode cX5_isIn 1 = .ok (.iload_n 1, 1) := by decide +kernel
theorem dX5_isIn_2 : decode cX5_isIn 2 = .ok (.if_icmp .lt 12, 3) := by decide +kernel
theorem dX5_isIn_5 : decode cX5_isIn 5 = .ok (.iload_n 0, 1) := by decide +kernel
theorem dX5_isIn_6 : decode cX5_isIn 6 = .ok (.iload_n 2, 1) := by decide +kernel
theorem dX5_isIn_7 : decode cX5_isIn 7 = .ok (.if_icmp .gt 7, 3) := by decide +kernel
theorem dX5_isIn_10 : decode cX5_isIn 10 = .ok (.iconst 1, 1) := by decide +kernel
theorem dX5_isIn_11 : decode cX5_isIn 11 = .ok (.goto 4, 3) := by decide +kernel
theorem dX5_isIn_14 : decode cX5_isIn 14 = .ok (.iconst 0, 1) := by decide +kernel
theorem dX5_isIn_15 : decode cX5_isIn 15 = .ok (.ireturn, 1) := by decide +kernel
theorem dX5_isIn4_0 : decode cX5_isIn4 0 = .ok (.iload_n 0, 1) := by decide +kernel
theorem dX5_isIn4_1 : decode cX5_isIn4 1 = .ok (.iconst 0, 1) := by decide +kernel
theorem dX5_isIn4_2 : decode cX5_isIn4 2 = .ok (.iconst 3, 1) := by decide +kernel
theorem dX5_isIn4_3 : decode cX5_isIn4 3 = .ok (.invokestatic 74, 3) := by decide +kernel
theorem dX5_isIn4_6 : decode cX5_isIn4 6 = .ok (.ireturn, 1) := by decide +kernel
theorem dX5_isPerson_0 : decode cX5_isPerson 0 = .ok (.iload_n 0, 1) := by decide +kernel
theorem dX5_isPerson_1 : decode cX5_isPerson 1 = .ok (.iconst 0, 1) := by decide +kernel
theorem dX5_isPerson_2 : decode cX5_isPerson 2 = .ok (.iconst 5, 1) := by decide +kernel
theorem dX5_isPerson_3 : decode cX5_isPerson 3 = .ok (.invokestatic 74, 3) := by decide +kernel
theorem dX5_isPerson_6 : decode cX5_isPerson 6 = .ok (.ireturn, 1) := by decide +kernel
theorem dX5_rested_0 : decode cX5_rested 0 = .ok (.iconst 0, 1) := by decide +kernel
theorem dX5_rested_1 : decode cX5_rested 1 = .ok (.istore 4, 2) := by decide +kernel
theorem dX5_rested_3 : decode cX5_rested 3 = .ok (.iconst 0, 1) := by decide +kernel
theorem dX5_rested_4 : decode cX5_rested 4 = .ok (.istore 5, 2) := by decide +kernel
theorem dX5_rested_6 : decode cX5_rested 6 = .ok (.iload 5, 2) := by decide +kernel
theorem dX5_rested_8 : decode cX5_rested 8 = .ok (.aload_n 0, 1) := by decide +kernel
theorem dX5_rested_9 : decode cX5_rested 9 = .ok (.getfield 78, 3) := by decide +kernel
theorem dX5_rested_12 : decode cX5_rested 12 = .ok (.iload_n 3, 1) := by decide +kernel
theorem dX5_rested_13 : decode cX5_rested 13 = .ok (.iadd, 1) := by decide +kernel
theorem dX5_rested_14 : decode cX5_rested 14 = .ok (.if_icmp .ge 180, 3) := by decide +kernel
theorem dX5_rested_17 : decode cX5_rested 17 = .ok (.iload 5, 2) := by decide +kernel
theorem dX5_rested_19 : decode cX5_rested 19 = .ok (.aload_n 0, 1) := by decide +kernel
theorem dX5_rested_20 : decode cX5_rested 20 = .ok (.getfield 78, 3) := by decide +kernel
theorem dX5_rested_23 : decode cX5_rested 23 = .ok (.if_icmp .ge 8, 3) := by decide +kernel
theorem dX5_rested_26 : decode cX5_rested 26 = .ok (.iload 5, 2) := by decide +kernel
theorem dX5_rested_28 : decode cX5_rested 28 = .ok (.goto 15, 3) := by decide +kernel
theorem dX5_rested_31 : decode cX5_rested 31 = .ok (.aload_n 0, 1) := by decide +kernel
theorem dX5_rested_32 : decode cX5_rested 32 = .ok (.getfield 41, 3) := by decide +kernel
theorem dX5_rested_35 : decode cX5_rested 35 = .ok (.iload 5, 2) := by decide +kernel
theorem dX5_rested_37 : decode cX5_rested 37 = .ok (.aload_n 0, 1) := by decide +kernel
theorem dX5_rested_38 : decode cX5_rested 38 = .ok (.getfield 78, 3) := by decide +kernel
theorem dX5_rested_41 : decode cX5_rested 41 = .ok (.isub, 1) := by decide +kernel
theorem dX5_rested_42 : decode cX5_rested 42 = .ok (.iaload, 1) := by decide +kernel
theorem dX5_rested_43 : decode cX5_rested 43 = .ok (.istore 6, 2) := by decide +kernel
theorem dX5_rested_45 : decode cX5_rested 45 = .ok (.iload 5, 2) := by decide +kernel
theorem dX5_rested_47 : decode cX5_rested 47 = .ok (.aload_n 0, 1) := by decide +kernel
theorem dX5_rested_48 : decode cX5_rested 48 = .ok (.getfield 78, 3) := by decide +kernel
theorem dX5_rested_51 : decode cX5_rested 51 = .ok (.if_icmp .ge 24, 3) := by decide +kernel
theorem dX5_rested_54 : decode cX5_rested 54 = .ok (.aload_n 0, 1) := by decide +kernel
theorem dX5_rested_55 : decode cX5_rested 55 = .ok (.getfield 81, 3) := by decide +kernel
theorem dX5_rested_58 : decode cX5_rested 58 = .ok (.iload 5, 2) := by decide +kernel
theorem dX5_rested_60 : decode cX5_rested 60 = .ok (.ishr, 1) := by decide +kernel
theorem dX5_rested_61 : decode cX5_rested 61 = .ok (.iconst 1, 1) := by decide +kernel
theorem dX5_rested_62 : decode cX5_rested 62 = .ok (.iand, 1) := by decide +kernel
theorem dX5_rested_63 : decode cX5_rested 63 = .ok (.iconst 1, 1) := by decide +kernel
theorem dX5_rested_64 : decode cX5_rested 64 = .ok (.if_icmp .ne 7, 3) := by decide +kernel
theorem dX5_rested_67 : decode cX5_rested 67 = .ok (.iconst 1, 1) := by decide +kernel
theorem dX5_rested_68 : decode cX5_rested 68 = .ok (.goto 31, 3) := by decide +kernel
theorem dX5_rested_71 : decode cX5_rested 71 = .ok (.iconst 0, 1) := by decide +kernel
theorem dX5_rested_72 : decode cX5_rested 72 = .ok (.goto 27, 3) := by decide +kernel
theorem dX5_rested_75 : decode cX5_rested 75 = .ok (.aload_n 0, 1) := by decide +kernel
theorem dX5_rested_76 : decode cX5_rested 76 = .ok (.getfield 44, 3) := by decide +kernel
theorem dX5_rested_79 : decode cX5_rested 79 = .ok (.iload 5, 2) := by decide +kernel
theorem dX5_rested_81 : decode cX5_rested 81 = .ok (.aload_n 0, 1) := by decide +kernel
theorem dX5_rested_82 : decode cX5_rested 82 = .ok (.getfield 78, 3) := by decide +kernel
theorem dX5_rested_85 : decode cX5_rested 85 = .ok (.isub, 1) := by decide +kernel
theorem dX5_rested_86 : decode cX5_rested 86 = .ok (.iaload, 1) := by decide +kernel
theorem dX5_rested_87 : decode cX5_rested 87 = .ok (.bipush 24, 2) := by decide +kernel
theorem dX5_rested_89 : decode cX5_rested 89 = .ok (.idiv, 1) := by decide +kernel
theorem dX5_rested_90 : decode cX5_rested 90 = .ok (.iload_n 2, 1) := by decide +kernel
theorem dX5_rested_91 : decode cX5_rested 91 = .ok (.if_icmp .ge 7, 3) := by decide +kernel
theorem dX5_rested_94 : decode cX5_rested 94 = .ok (.iconst 1, 1) := by decide +kernel
theorem dX5_rested_95 : decode cX5_rested 95 = .ok (.goto 4, 3) := by decide +kernel
theorem dX5_rested_98 : decode cX5_rested 98 = .ok (.iconst 0, 1) := by decide +kernel
theorem dX5_rested_99 : decode cX5_rested 99 = .ok (.istore 7, 2) := by decide +kernel
theorem dX5_rested_101 : decode cX5_rested 101 = .ok (.iload 5, 2) := by decide +kernel
theorem dX5_rested_103 : decode cX5_rested 103 = .ok (.aload_n 0, 1) := by decide +kernel
theorem dX5_rested_104 : decode cX5_rested 104 = .ok (.getfield 78, 3) := by decide +kernel
theorem dX5_rested_107 : decode cX5_rested 107 = .ok (.if_icmp .ge 13, 3) := by decide +kernel
theorem dX5_rested_110 : decode cX5_rested 110 = .ok (.aload_n 0, 1) := by decide +kernel
theorem dX5_rested_111 : decode cX5_rested 111 = .ok (.getfield 25, 3) := by decide +kernel
theorem dX5_rested_114 : decode cX5_rested 114 = .ok (.iload 5, 2) := by decide +kernel
theorem dX5_rested_116 : decode cX5_rested 116 = .ok (.iaload, 1) := by decide +kernel
theorem dX5_rested_117 : decode cX5_rested 117 = .ok (.goto 15, 3) := by decide +kernel
theorem dX5_rested_120 : decode cX5_rested 120 = .ok (.aload_n 0, 1) := by decide +kernel
theorem dX5_rested_121 : decode cX5_rested 121 = .ok (.getfield 44, 3) := by decide +kernel
theorem dX5_rested_124 : decode cX5_rested 124 = .ok (.iload 5, 2) := by decide +kernel
theorem dX5_rested_126 : decode cX5_rested 126 = .ok (.aload_n 0, 1) := by decide +kernel
theorem dX5_rested_127 : decode cX5_rested 127 = .ok (.getfield 78, 3) := by decide +kernel
theorem dX5_rested_130 : decode cX5_rested 130 = .ok (.isub, 1) := by decide +kernel
theorem dX5_rested_131 : decode cX5_rested 131 = .ok (.iaload, 1) := by decide +kernel
theorem dX5_rested_132 : decode cX5_rested 132 = .ok (.aload_n 0, 1) := by decide +kernel
theorem dX5_rested_133 : decode cX5_rested 133 = .ok (.getfield 7, 3) := by decide +kernel
theorem dX5_rested_136 : decode cX5_rested 136 = .ok (.iload 6, 2) := by decide +kernel
theorem dX5_rested_138 : decode cX5_rested 138 = .ok (.iaload, 1) := by decide +kernel
theorem dX5_rested_139 : decode cX5_rested 139 = .ok (.iadd, 1) := by decide +kernel
theorem dX5_rested_140 : decode cX5_rested 140 = .ok (.bipush 11, 2) := by decide +kernel
theorem dX5_rested_142 : decode cX5_rested 142 = .ok (.iadd, 1) := by decide +kernel
theorem dX5_rested_143 : decode cX5_rested 143 = .ok (.bipush 24, 2) := by decide +kernel
theorem dX5_rested_145 : decode cX5_rested 145 = .ok (.iload_n 2, 1) := by decide +kernel
theorem dX5_rested_146 : decode cX5_rested 146 = .ok (.imul, 1) := by decide +kernel
theorem dX5_rested_147 : decode cX5_rested 147 = .ok (.isub, 1) := by decide +kernel
theorem dX5_rested_148 : decode cX5_rested 148 = .ok (.istore 8, 2) := by decide +kernel
theorem dX5_rested_150 : decode cX5_rested 150 = .ok (.iload 7, 2) := by decide +kernel
theorem dX5_rested_152 : decode cX5_rested 152 = .ok (.ifCond .eq 32, 3) := by decide +kernel
theorem dX5_rested_155 : decode cX5_rested 155 = .ok (.aload_n 0, 1) := by decide +kernel
theorem dX5_rested_156 : decode cX5_rested 156 = .ok (.getfield 16, 3) := by decide +kernel
theorem dX5_rested_159 : decode cX5_rested 159 = .ok (.iload 6, 2) := by decide +kernel
theorem dX5_rested_161 : decode cX5_rested 161 = .ok (.iaload, 1) := by decide +kernel
theorem dX5_rested_162 : decode cX5_rested 162 = .ok (.aload_n 0, 1) := by decide +kernel
theorem dX5_rested_163 : decode cX5_rested 163 = .ok (.getfield 16, 3) := by decide +kernel
theorem dX5_rested_166 : decode cX5_rested 166 = .ok (.iload_n 1, 1) := by decide +kernel
theorem dX5_rested_167 : decode cX5_rested 167 = .ok (.iaload, 1) := by decide +kernel
theorem dX5_rested_168 : decode cX5_rested 168 = .ok (.iand, 1) := by decide +kernel
theorem dX5_rested_169 : decode cX5_rested 169 = .ok (.ifCond .eq 15, 3) := by decide +kernel
theorem dX5_rested_172 : decode cX5_rested 172 = .ok (.iload 8, 2) := by decide +kernel
theorem dX5_rested_174 : decode cX5_rested 174 = .ok (.iload 4, 2) := by decide +kernel
theorem dX5_rested_176 : decode cX5_rested 176 = .ok (.if_icmp .le 8, 3) := by decide +kernel
theorem dX5_rested_179 : decode cX5_rested 179 = .ok (.iload 8, 2) := by decide +kernel
theorem dX5_rested_181 : decode cX5_rested 181 = .ok (.goto 5, 3) := by decide +kernel
theorem dX5_rested_184 : decode cX5_rested 184 = .ok (.iload 4, 2) := by decide +kernel
theorem dX5_rested_186 : decode cX5_rested 186 = .ok (.istore 4, 2) := by decide +kernel
theorem dX5_rested_188 : decode cX5_rested 188 = .ok (.iinc 5 1, 3) := by decide +kernel
theorem dX5_rested_191 : decode cX5_rested 191 = .ok (.goto (-185), 3) := by decide +kernel
theorem dX5_rested_194 : decode cX5_rested 194 = .ok (.iload 4, 2) := by decide +kernel
theorem dX5_rested_196 : decode cX5_rested 196 = .ok (.ireturn, 1) := by decide +kernel
theorem dX5_plays_0 : decode cX5_plays 0 = .ok (.iconst 0, 1) := by decide +kernel
theorem dX5_plays_1 : decode cX5_plays 1 = .ok (.istore 4, 2) := by decide +kernel
theorem dX5_plays_3 : decode cX5_plays 3 = .ok (.iconst 0, 1) := by decide +kernel
theorem dX5_plays_4 : decode cX5_plays 4 = .ok (.istore 5, 2) := by decide +kernel
theorem dX5_plays_6 : decode cX5_plays 6 = .ok (.iload 5, 2) := by decide +kernel
theorem dX5_plays_8 : decode cX5_plays 8 = .ok (.iload_n 3, 1) := by decide +kernel
theorem dX5_plays_9 : decode cX5_plays 9 = .ok (.if_icmp .ge 64, 3) := by decide +kernel
theorem dX5_plays_12 : decode cX5_plays 12 = .ok (.iload 4, 2) := by decide +kernel
theorem dX5_plays_14 : decode cX5_plays 14 = .ok (.aload_n 0, 1) := by decide +kernel
theorem dX5_plays_15 : decode cX5_plays 15 = .ok (.getfield 44, 3) := by decide +kernel
theorem dX5_plays_18 : decode cX5_plays 18 = .ok (.iload 5, 2) := by decide +kernel
theorem dX5_plays_20 : decode cX5_plays 20 = .ok (.iaload, 1) := by decide +kernel
theorem dX5_plays_21 : decode cX5_plays 21 = .ok (.bipush 24, 2) := by decide +kernel
theorem dX5_plays_23 : decode cX5_plays 23 = .ok (.idiv, 1) := by decide +kernel
theorem dX5_plays_24 : decode cX5_plays 24 = .ok (.iload_n 2, 1) := by decide +kernel
theorem dX5_plays_25 : decode cX5_plays 25 = .ok (.if_icmp .ne 38, 3) := by decide +kernel
theorem dX5_plays_28 : decode cX5_plays 28 = .ok (.aload_n 0, 1) := by decide +kernel
theorem dX5_plays_29 : decode cX5_plays 29 = .ok (.getfield 16, 3) := by decide +kernel
theorem dX5_plays_32 : decode cX5_plays 32 = .ok (.aload_n 0, 1) := by decide +kernel
theorem dX5_plays_33 : decode cX5_plays 33 = .ok (.getfield 41, 3) := by decide +kernel
theorem dX5_plays_36 : decode cX5_plays 36 = .ok (.iload 5, 2) := by decide +kernel
theorem dX5_plays_38 : decode cX5_plays 38 = .ok (.iaload, 1) := by decide +kernel
theorem dX5_plays_39 : decode cX5_plays 39 = .ok (.iaload, 1) := by decide +kernel
theorem dX5_plays_40 : decode cX5_plays 40 = .ok (.iload_n 1, 1) := by decide +kernel
theorem dX5_plays_41 : decode cX5_plays 41 = .ok (.ishr, 1) := by decide +kernel
theorem dX5_plays_42 : decode cX5_plays 42 = .ok (.iconst 1, 1) := by decide +kernel
theorem dX5_plays_43 : decode cX5_plays 43 = .ok (.iand, 1) := by decide +kernel
theorem dX5_plays_44 : decode cX5_plays 44 = .ok (.iconst 1, 1) := by decide +kernel
theorem dX5_plays_45 : decode cX5_plays 45 = .ok (.if_icmp .ne 18, 3) := by decide +kernel
theorem dX5_plays_48 : decode cX5_plays 48 = .ok (.aload_n 0, 1) := by decide +kernel
theorem dX5_plays_49 : decode cX5_plays 49 = .ok (.getfield 7, 3) := by decide +kernel
theorem dX5_plays_52 : decode cX5_plays 52 = .ok (.aload_n 0, 1) := by decide +kernel
theorem dX5_plays_53 : decode cX5_plays 53 = .ok (.getfield 41, 3) := by decide +kernel
theorem dX5_plays_56 : decode cX5_plays 56 = .ok (.iload 5, 2) := by decide +kernel
theorem dX5_plays_58 : decode cX5_plays 58 = .ok (.iaload, 1) := by decide +kernel
theorem dX5_plays_59 : decode cX5_plays 59 = .ok (.iaload, 1) := by decide +kernel
theorem dX5_plays_60 : decode cX5_plays 60 = .ok (.goto 4, 3) := by decide +kernel
theorem dX5_plays_63 : decode cX5_plays 63 = .ok (.iconst 0, 1) := by decide +kernel
theorem dX5_plays_64 : decode cX5_plays 64 = .ok (.iadd, 1) := by decide +kernel
theorem dX5_plays_65 : decode cX5_plays 65 = .ok (.istore 4, 2) := by decide +kernel
theorem dX5_plays_67 : decode cX5_plays 67 = .ok (.iinc 5 1, 3) := by decide +kernel
theorem dX5_plays_70 : decode cX5_plays 70 = .ok (.goto (-64), 3) := by decide +kernel
theorem dX5_plays_73 : decode cX5_plays 73 = .ok (.iload 4, 2) := by decide +kernel
theorem dX5_plays_75 : decode cX5_plays 75 = .ok (.ireturn, 1) := by decide +kernel
theorem dX5_isTooLong_0 : decode cX5_isTooLong 0 = .ok (.iconst 0, 1) := by decide +kernel
theorem dX5_isTooLong_1 : decode cX5_isTooLong 1 = .ok (.istore 4, 2) := by decide +kernel
theorem dX5_isTooLong_3 : decode cX5_isTooLong 3 = .ok (.iconst 0, 1) := by decide +kernel
theorem dX5_isTooLong_4 : decode cX5_isTooLong 4 = .ok (.istore 5, 2) := by decide +kernel
theorem dX5_isTooLong_6 : decode cX5_isTooLong 6 = .ok (.iload 5, 2) := by decide +kernel
theorem dX5_isTooLong_8 : decode cX5_isTooLong 8 = .ok (.bipush 6, 2) := by decide +kernel
theorem dX5_isTooLong_10 : decode cX5_isTooLong 10 = .ok (.if_icmp .ge 70, 3) := by decide +kernel
theorem dX5_isTooLong_13 : decode cX5_isTooLong 13 = .ok (.aload_n 0, 1) := by decide +kernel
theorem dX5_isTooLong_14 : decode cX5_isTooLong 14 = .ok (.getfield 84, 3) := by decide +kernel
theorem dX5_isTooLong_17 : decode cX5_isTooLong 17 = .ok (.aload_n 0, 1) := by decide +kernel
theorem dX5_isTooLong_18 : decode cX5_isTooLong 18 = .ok (.getfield 16, 3) := by decide +kernel
theorem dX5_isTooLong_21 : decode cX5_isTooLong 21 = .ok (.iload_n 1, 1) := by decide +kernel
theorem dX5_isTooLong_22 : decode cX5_isTooLong 22 = .ok (.iaload, 1) := by decide +kernel
theorem dX5_isTooLong_23 : decode cX5_isTooLong 23 = .ok (.iand, 1) := by decide +kernel
theorem dX5_isTooLong_24 : decode cX5_isTooLong 24 = .ok (.iconst 1, 1) := by decide +kernel
theorem dX5_isTooLong_25 : decode cX5_isTooLong 25 = .ok (.iload 5, 2) := by decide +kernel
theorem dX5_isTooLong_27 : decode cX5_isTooLong 27 = .ok (.ishl, 1) := by decide +kernel
theorem dX5_isTooLong_28 : decode cX5_isTooLong 28 = .ok (.iand, 1) := by decide +kernel
theorem dX5_isTooLong_29 : decode cX5_isTooLong 29 = .ok (.ifCond .eq 7, 3) := by decide +kernel
theorem dX5_isTooLong_32 : decode cX5_isTooLong 32 = .ok (.iconst 1, 1) := by decide +kernel
theorem dX5_isTooLong_33 : decode cX5_isTooLong 33 = .ok (.goto 4, 3) := by decide +kernel
theorem dX5_isTooLong_36 : decode cX5_isTooLong 36 = .ok (.iconst 0, 1) := by decide +kernel
theorem dX5_isTooLong_37 : decode cX5_isTooLong 37 = .ok (.istore 6, 2) := by decide +kernel
theorem dX5_isTooLong_39 : decode cX5_isTooLong 39 = .ok (.iload 4, 2) := by decide +kernel
theorem dX5_isTooLong_41 : decode cX5_isTooLong 41 = .ok (.iload 6, 2) := by decide +kernel
theorem dX5_isTooLong_43 : decode cX5_isTooLong 43 = .ok (.ifCond .eq 27, 3) := by decide +kernel
theorem dX5_isTooLong_46 : decode cX5_isTooLong 46 = .ok (.aload_n 0, 1) := by decide +kernel
theorem dX5_isTooLong_47 : decode cX5_isTooLong 47 = .ok (.iload 5, 2) := by decide +kernel
theorem dX5_isTooLong_49 : decode cX5_isTooLong 49 = .ok (.iload_n 2, 1) := by decide +kernel
theorem dX5_isTooLong_50 : decode cX5_isTooLong 50 = .ok (.iload_n 3, 1) := by decide +kernel
theorem dX5_isTooLong_51 : decode cX5_isTooLong 51 = .ok (.invokevirtual 87, 3) := by decide +kernel
theorem dX5_isTooLong_54 : decode cX5_isTooLong 54 = .ok (.aload_n 0, 1) := by decide +kernel
theorem dX5_isTooLong_55 : decode cX5_isTooLong 55 = .ok (.getfield 7, 3) := by decide +kernel
theorem dX5_isTooLong_58 : decode cX5_isTooLong 58 = .ok (.iload_n 1, 1) := by decide +kernel
theorem dX5_isTooLong_59 : decode cX5_isTooLong 59 = .ok (.iaload, 1) := by decide +kernel
theorem dX5_isTooLong_60 : decode cX5_isTooLong 60 = .ok (.iadd, 1) := by decide +kernel
theorem dX5_isTooLong_61 : decode cX5_isTooLong 61 = .ok (.bipush 6, 2) := by decide +kernel
theorem dX5_isTooLong_63 : decode cX5_isTooLong 63 = .ok (.if_icmp .le 7, 3) := by decide +kernel
theorem dX5_isTooLong_66 : decode cX5_isTooLong 66 = .ok (.iconst 1, 1) := by decide +kernel
theorem dX5_isTooLong_67 : decode cX5_isTooLong 67 = .ok (.goto 4, 3) := by decide +kernel
theorem dX5_isTooLong_70 : decode cX5_isTooLong 70 = .ok (.iconst 0, 1) := by decide +kernel
theorem dX5_isTooLong_71 : decode cX5_isTooLong 71 = .ok (.ior, 1) := by decide +kernel
theorem dX5_isTooLong_72 : decode cX5_isTooLong 72 = .ok (.istore 4, 2) := by decide +kernel
theorem dX5_isTooLong_74 : decode cX5_isTooLong 74 = .ok (.iinc 5 1, 3) := by decide +kernel
theorem dX5_isTooLong_77 : decode cX5_isTooLong 77 = .ok (.goto (-71), 3) := by decide +kernel
theorem dX5_isTooLong_80 : decode cX5_isTooLong 80 = .ok (.iload 4, 2) := by decide +kernel
theorem dX5_isTooLong_82 : decode cX5_isTooLong 82 = .ok (.ireturn, 1) := by decide +kernel
theorem dX5_begin_0 : decode cX5_begin 0 = .ok (.aload_n 0, 1) := by decide +kernel
theorem dX5_begin_1 : decode cX5_begin 1 = .ok (.getfield 41, 3) := by decide +kernel
theorem dX5_begin_4 : decode cX5_begin 4 = .ok (.iload_n 1, 1) := by decide +kernel
theorem dX5_begin_5 : decode cX5_begin 5 = .ok (.iaload, 1) := by decide +kernel
theorem dX5_begin_6 : decode cX5_begin 6 = .ok (.istore_n 2, 1) := by decide +kernel
theorem dX5_begin_7 : decode cX5_begin 7 = .ok (.iload_n 1, 1) := by decide +kernel
theorem dX5_begin_8 : decode cX5_begin 8 = .ok (.ifCond .ne 10, 3) := by decide +kernel
theorem dX5_begin_11 : decode cX5_begin 11 = .ok (.aload_n 0, 1) := by decide +kernel
theorem dX5_begin_12 : decode cX5_begin 12 = .ok (.getfield 91, 3) := by decide +kernel
theorem dX5_begin_15 : decode cX5_begin 15 = .ok (.goto 14, 3) := by decide +kernel
theorem dX5_begin_18 : decode cX5_begin 18 = .ok (.aload_n 0, 1) := by decide +kernel
theorem dX5_begin_19 : decode cX5_begin 19 = .ok (.getfield 44, 3) := by decide +kernel
theorem dX5_begin_22 : decode cX5_begin 22 = .ok (.iload_n 1, 1) := by decide +kernel
theorem dX5_begin_23 : decode cX5_begin 23 = .ok (.iconst 1, 1) := by decide +kernel
theorem dX5_begin_24 : decode cX5_begin 24 = .ok (.isub, 1) := by decide +kernel
theorem dX5_begin_25 : decode cX5_begin 25 = .ok (.iaload, 1) := by decide +kernel
theorem dX5_begin_26 : decode cX5_begin 26 = .ok (.bipush 24, 2) := by decide +kernel
theorem dX5_begin_28 : decode cX5_begin 28 = .ok (.idiv, 1) := by decide +kernel
theorem dX5_begin_29 : decode cX5_begin 29 = .ok (.istore_n 3, 1) := by decide +kernel
theorem dX5_begin_30 : decode cX5_begin 30 = .ok (.iconst (-1), 1) := by decide +kernel
theorem dX5_begin_31 : decode cX5_begin 31 = .ok (.istore 4, 2) := by decide +kernel
theorem dX5_begin_33 : decode cX5_begin 33 = .ok (.iload 4, 2) := by decide +kernel
theorem dX5_begin_35 : decode cX5_begin 35 = .ok (.ifCond .ge 205, 3) := by decide +kernel
theorem dX5_begin_38 : decode cX5_begin 38 = .ok (.aload_n 0, 1) := by decide +kernel
theorem dX5_begin_39 : decode cX5_begin 39 = .ok (.getfield 19, 3) := by decide +kernel
theorem dX5_begin_42 : decode cX5_begin 42 = .ok (.iload_n 2, 1) := by decide +kernel
theorem dX5_begin_43 : decode cX5_begin 43 = .ok (.iaload, 1) := by decide +kernel
theorem dX5_begin_44 : decode cX5_begin 44 = .ok (.iconst 2, 1) := by decide +kernel
theorem dX5_begin_45 : decode cX5_begin 45 = .ok (.if_icmp .ne 8, 3) := by decide +kernel
theorem dX5_begin_48 : decode cX5_begin 48 = .ok (.bipush 18, 2) := by decide +kernel
theorem dX5_begin_50 : decode cX5_begin 50 = .ok (.goto 5, 3) := by decide +kernel
theorem dX5_begin_53 : decode cX5_begin 53 = .ok (.bipush 8, 2) := by decide +kernel
theorem dX5_begin_55 : decode cX5_begin 55 = .ok (.istore 5, 2) := by decide +kernel
theorem dX5_begin_57 : decode cX5_begin 57 = .ok (.iload_n 1, 1) := by decide +kernel
theorem dX5_begin_58 : decode cX5_begin 58 = .ok (.ifCond .le 87, 3) := by decide +kernel
theorem dX5_begin_61 : decode cX5_begin 61 = .ok (.aload_n 0, 1) := by decide +kernel
theorem dX5_begin_62 : decode cX5_begin 62 = .ok (.getfield 44, 3) := by decide +kernel
theorem dX5_begin_65 : decode cX5_begin 65 = .ok (.iload_n 1, 1) := by decide +kernel
theorem dX5_begin_66 : decode cX5_begin 66 = .ok (.iconst 1, 1) := by decide +kernel
theorem dX5_begin_67 : decode cX5_begin 67 = .ok (.isub, 1) := by decide +kernel
theorem dX5_begin_68 : decode cX5_begin 68 = .ok (.iaload, 1) := by decide +kernel
theorem dX5_begin_69 : decode cX5_begin 69 = .ok (.bipush 24, 2) := by decide +kernel
theorem dX5_begin_71 : decode cX5_begin 71 = .ok (.idiv, 1) := by decide +kernel
theorem dX5_begin_72 : decode cX5_begin 72 = .ok (.iload_n 3, 1) := by decide +kernel
theorem dX5_begin_73 : decode cX5_begin 73 = .ok (.if_icmp .ne 72, 3) := by decide +kernel
theorem dX5_begin_76 : decode cX5_begin 76 = .ok (.aload_n 0, 1) := by decide +kernel
theorem dX5_begin_77 : decode cX5_begin 77 = .ok (.getfield 41, 3) := by decide +kernel
theorem dX5_begin_80 : decode cX5_begin 80 = .ok (.iload_n 1, 1) := by decide +kernel
theorem dX5_begin_81 : decode cX5_begin 81 = .ok (.iconst 1, 1) := by decide +kernel
theorem dX5_begin_82 : decode cX5_begin 82 = .ok (.isub, 1) := by decide +kernel
theorem dX5_begin_83 : decode cX5_begin 83 = .ok (.iaload, 1) := by decide +kernel
theorem dX5_begin_84 : decode cX5_begin 84 = .ok (.istore 6, 2) := by decide +kernel
theorem dX5_begin_86 : decode cX5_begin 86 = .ok (.aload_n 0, 1) := by decide +kernel
theorem dX5_begin_87 : decode cX5_begin 87 = .ok (.getfield 44, 3) := by decide +kernel
theorem dX5_begin_90 : decode cX5_begin 90 = .ok (.iload_n 1, 1) := by decide +kernel
theorem dX5_begin_91 : decode cX5_begin 91 = .ok (.iconst 1, 1) := by decide +kernel
theorem dX5_begin_92 : decode cX5_begin 92 = .ok (.isub, 1) := by decide +kernel
theorem dX5_begin_93 : decode cX5_begin 93 = .ok (.iaload, 1) := by decide +kernel
theorem dX5_begin_94 : decode cX5_begin 94 = .ok (.bipush 24, 2) := by decide +kernel
theorem dX5_begin_96 : decode cX5_begin 96 = .ok (.irem, 1) := by decide +kernel
theorem dX5_begin_97 : decode cX5_begin 97 = .ok (.aload_n 0, 1) := by decide +kernel
theorem dX5_begin_98 : decode cX5_begin 98 = .ok (.getfield 7, 3) := by decide +kernel
theorem dX5_begin_101 : decode cX5_begin 101 = .ok (.iload 6, 2) := by decide +kernel
theorem dX5_begin_103 : decode cX5_begin 103 = .ok (.iaload, 1) := by decide +kernel
theorem dX5_begin_104 : decode cX5_begin 104 = .ok (.iadd, 1) := by decide +kernel
theorem dX5_begin_105 : decode cX5_begin 105 = .ok (.aload_n 0, 1) := by decide +kernel
theorem dX5_begin_106 : decode cX5_begin 106 = .ok (.getfield 13, 3) := by decide +kernel
theorem dX5_begin_109 : decode cX5_begin 109 = .ok (.iload 6, 2) := by decide +kernel
theorem dX5_begin_111 : decode cX5_begin 111 = .ok (.iaload, 1) := by decide +kernel
theorem dX5_begin_112 : decode cX5_begin 112 = .ok (.aload_n 0, 1) := by decide +kernel
theorem dX5_begin_113 : decode cX5_begin 113 = .ok (.getfield 13, 3) := by decide +kernel
theorem dX5_begin_116 : decode cX5_begin 116 = .ok (.iload_n 2, 1) := by decide +kernel
theorem dX5_begin_117 : decode cX5_begin 117 = .ok (.iaload, 1) := by decide +kernel
theorem dX5_begin_118 : decode cX5_begin 118 = .ok (.if_icmp .ne 7, 3) := by decide +kernel
theorem dX5_begin_121 : decode cX5_begin 121 = .ok (.iconst 0, 1) := by decide +kernel
theorem dX5_begin_122 : decode cX5_begin 122 = .ok (.goto 4, 3) := by decide +kernel
theorem dX5_begin_125 : decode cX5_begin 125 = .ok (.iconst 1, 1) := by decide +kernel
theorem dX5_begin_126 : decode cX5_begin 126 = .ok (.iadd, 1) := by decide +kernel
theorem dX5_begin_127 : decode cX5_begin 127 = .ok (.istore 7, 2) := by decide +kernel
theorem dX5_begin_129 : decode cX5_begin 129 = .ok (.iload 7, 2) := by decide +kernel
theorem dX5_begin_131 : decode cX5_begin 131 = .ok (.iload 5, 2) := by decide +kernel
theorem dX5_begin_133 : decode cX5_begin 133 = .ok (.if_icmp .le 8, 3) := by decide +kernel
theorem dX5_begin_136 : decode cX5_begin 136 = .ok (.iload 7, 2) := by decide +kernel
theorem dX5_begin_138 : decode cX5_begin 138 = .ok (.goto 5, 3) := by decide +kernel
theorem dX5_begin_141 : decode cX5_begin 141 = .ok (.iload 5, 2) := by decide +kernel
theorem dX5_begin_143 : decode cX5_begin 143 = .ok (.istore 5, 2) := by decide +kernel
theorem dX5_begin_145 : decode cX5_begin 145 = .ok (.aload_n 0, 1) := by decide +kernel
theorem dX5_begin_146 : decode cX5_begin 146 = .ok (.iload_n 2, 1) := by decide +kernel
theorem dX5_begin_147 : decode cX5_begin 147 = .ok (.iload_n 3, 1) := by decide +kernel
theorem dX5_begin_148 : decode cX5_begin 148 = .ok (.iload_n 1, 1) := by decide +kernel
theorem dX5_begin_149 : decode cX5_begin 149 = .ok (.invokevirtual 94, 3) := by decide +kernel
theorem dX5_begin_152 : decode cX5_begin 152 = .ok (.istore 6, 2) := by decide +kernel
theorem dX5_begin_154 : decode cX5_begin 154 = .ok (.iload 6, 2) := by decide +kernel
theorem dX5_begin_156 : decode cX5_begin 156 = .ok (.iload 5, 2) := by decide +kernel
theorem dX5_begin_158 : decode cX5_begin 158 = .ok (.if_icmp .le 8, 3) := by decide +kernel
theorem dX5_begin_161 : decode cX5_begin 161 = .ok (.iload 6, 2) := by decide +kernel
theorem dX5_begin_163 : decode cX5_begin 163 = .ok (.goto 5, 3) := by decide +kernel
theorem dX5_begin_166 : decode cX5_begin 166 = .ok (.iload 5, 2) := by decide +kernel
theorem dX5_begin_168 : decode cX5_begin 168 = .ok (.istore 5, 2) := by decide +kernel
theorem dX5_begin_170 : decode cX5_begin 170 = .ok (.iload 5, 2) := by decide +kernel
theorem dX5_begin_172 : decode cX5_begin 172 = .ok (.aload_n 0, 1) := by decide +kernel
theorem dX5_begin_173 : decode cX5_begin 173 = .ok (.getfield 7, 3) := by decide +kernel
theorem dX5_begin_176 : decode cX5_begin 176 = .ok (.iload_n 2, 1) := by decide +kernel
theorem dX5_begin_177 : decode cX5_begin 177 = .ok (.iaload, 1) := by decide +kernel
theorem dX5_begin_178 : decode cX5_begin 178 = .ok (.iadd, 1) := by decide +kernel
theorem dX5_begin_179 : decode cX5_begin 179 = .ok (.aload_n 0, 1) := by decide +kernel
theorem dX5_begin_180 : decode cX5_begin 180 = .ok (.getfield 19, 3) := by decide +kernel
theorem dX5_begin_183 : decode cX5_begin 183 = .ok (.iload_n 2, 1) := by decide +kernel
theorem dX5_begin_184 : decode cX5_begin 184 = .ok (.iaload, 1) := by decide +kernel
theorem dX5_begin_185 : decode cX5_begin 185 = .ok (.iconst 1, 1) := by decide +kernel
theorem dX5_begin_186 : decode cX5_begin 186 = .ok (.if_icmp .ne 8, 3) := by decide +kernel
theorem dX5_begin_189 : decode cX5_begin 189 = .ok (.bipush 18, 2) := by decide +kernel
theorem dX5_begin_191 : decode cX5_begin 191 = .ok (.goto 5, 3) := by decide +kernel
theorem dX5_begin_194 : decode cX5_begin 194 = .ok (.bipush 24, 2) := by decide +kernel
theorem dX5_begin_196 : decode cX5_begin 196 = .ok (.if_icmp .gt 7, 3) := by decide +kernel
theorem dX5_begin_199 : decode cX5_begin 199 = .ok (.iconst 1, 1) := by decide +kernel
theorem dX5_begin_200 : decode cX5_begin 200 = .ok (.goto 4, 3) := by decide +kernel
theorem dX5_begin_203 : decode cX5_begin 203 = .ok (.iconst 0, 1) := by decide +kernel
theorem dX5_begin_204 : decode cX5_begin 204 = .ok (.istore 7, 2) := by decide +kernel
theorem dX5_begin_206 : decode cX5_begin 206 = .ok (.iload 7, 2) := by decide +kernel
theorem dX5_begin_208 : decode cX5_begin 208 = .ok (.ifCond .eq 23, 3) := by decide +kernel
theorem dX5_begin_211 : decode cX5_begin 211 = .ok (.aload_n 0, 1) := by decide +kernel
theorem dX5_begin_212 : decode cX5_begin 212 = .ok (.iload_n 2, 1) := by decide +kernel
theorem dX5_begin_213 : decode cX5_begin 213 = .ok (.iload_n 3, 1) := by decide +kernel
theorem dX5_begin_214 : decode cX5_begin 214 = .ok (.iload_n 1, 1) := by decide +kernel
theorem dX5_begin_215 : decode cX5_begin 215 = .ok (.invokevirtual 97, 3) := by decide +kernel
theorem dX5_begin_218 : decode cX5_begin 218 = .ok (.ifCond .ne 13, 3) := by decide +kernel
theorem dX5_begin_221 : decode cX5_begin 221 = .ok (.bipush 24, 2) := by decide +kernel
theorem dX5_begin_223 : decode cX5_begin 223 = .ok (.iload_n 3, 1) := by decide +kernel
theorem dX5_begin_224 : decode cX5_begin 224 = .ok (.imul, 1) := by decide +kernel
theorem dX5_begin_225 : decode cX5_begin 225 = .ok (.iload 5, 2) := by decide +kernel
theorem dX5_begin_227 : decode cX5_begin 227 = .ok (.iadd, 1) := by decide +kernel
theorem dX5_begin_228 : decode cX5_begin 228 = .ok (.goto 4, 3) := by decide +kernel
theorem dX5_begin_231 : decode cX5_begin 231 = .ok (.iconst (-1), 1) := by decide +kernel
theorem dX5_begin_232 : decode cX5_begin 232 = .ok (.istore 4, 2) := by decide +kernel
theorem dX5_begin_234 : decode cX5_begin 234 = .ok (.iinc 3 1, 3) := by decide +kernel
theorem dX5_begin_237 : decode cX5_begin 237 = .ok (.goto (-204), 3) := by decide +kernel
theorem dX5_begin_240 : decode cX5_begin 240 = .ok (.iload 4, 2) := by decide +kernel
theorem dX5_begin_242 : decode cX5_begin 242 = .ok (.ireturn, 1) := by decide +kernel
theorem dX5_may_0 : decode cX5_may 0 = .ok (.aload_n 0, 1) := by decide +kernel
theorem dX5_may_1 : decode cX5_may 1 = .ok (.getfield 41, 3) := by decide +kernel
theorem dX5_may_4 : decode cX5_may 4 = .ok (.iload_n 1, 1) := by decide +kernel
theorem dX5_may_5 : decode cX5_may 5 = .ok (.iaload, 1) := by decide +kernel
theorem dX5_may_6 : decode cX5_may 6 = .ok (.istore_n 2, 1) := by decide +kernel
theorem dX5_may_7 : decode cX5_may 7 = .ok (.aload_n 0, 1) := by decide +kernel
theorem dX5_may_8 : decode cX5_may 8 = .ok (.getfield 81, 3) := by decide +kernel
theorem dX5_may_11 : decode cX5_may 11 = .ok (.istore_n 3, 1) := by decide +kernel
theorem dX5_may_12 : decode cX5_may 12 = .ok (.iconst 0, 1) := by decide +kernel
theorem dX5_may_13 : decode cX5_may 13 = .ok (.istore 4, 2) := by decide +kernel
theorem dX5_may_15 : decode cX5_may 15 = .ok (.iload 4, 2) := by decide +kernel
theorem dX5_may_17 : decode cX5_may 17 = .ok (.iload_n 1, 1) := by decide +kernel
theorem dX5_may_18 : decode cX5_may 18 = .ok (.if_icmp .ge 21, 3) := by decide +kernel
theorem dX5_may_21 : decode cX5_may 21 = .ok (.iload_n 3, 1) := by decide +kernel
theorem dX5_may_22 : decode cX5_may 22 = .ok (.iconst 1, 1) := by decide +kernel
theorem dX5_may_23 : decode cX5_may 23 = .ok (.aload_n 0, 1) := by decide +kernel
theorem dX5_may_24 : decode cX5_may 24 = .ok (.getfield 41, 3) := by decide +kernel
theorem dX5_may_27 : decode cX5_may 27 = .ok (.iload 4, 2) := by decide +kernel
theorem dX5_may_29 : decode cX5_may 29 = .ok (.iaload, 1) := by decide +kernel
theorem dX5_may_30 : decode cX5_may 30 = .ok (.ishl, 1) := by decide +kernel
theorem dX5_may_31 : decode cX5_may 31 = .ok (.ior, 1) := by decide +kernel
theorem dX5_may_32 : decode cX5_may 32 = .ok (.istore_n 3, 1) := by decide +kernel
theorem dX5_may_33 : decode cX5_may 33 = .ok (.iinc 4 1, 3) := by decide +kernel
theorem dX5_may_36 : decode cX5_may 36 = .ok (.goto (-21), 3) := by decide +kernel
theorem dX5_may_39 : decode cX5_may 39 = .ok (.iload_n 3, 1) := by decide +kernel
theorem dX5_may_40 : decode cX5_may 40 = .ok (.iload_n 2, 1) := by decide +kernel
theorem dX5_may_41 : decode cX5_may 41 = .ok (.ishr, 1) := by decide +kernel
theorem dX5_may_42 : decode cX5_may 42 = .ok (.iconst 1, 1) := by decide +kernel
theorem dX5_may_43 : decode cX5_may 43 = .ok (.iand, 1) := by decide +kernel
theorem dX5_may_44 : decode cX5_may 44 = .ok (.ifCond .ne 20, 3) := by decide +kernel
theorem dX5_may_47 : decode cX5_may 47 = .ok (.aload_n 0, 1) := by decide +kernel
theorem dX5_may_48 : decode cX5_may 48 = .ok (.getfield 22, 3) := by decide +kernel
theorem dX5_may_51 : decode cX5_may 51 = .ok (.iload_n 2, 1) := by decide +kernel
theorem dX5_may_52 : decode cX5_may 52 = .ok (.iaload, 1) := by decide +kernel
theorem dX5_may_53 : decode cX5_may 53 = .ok (.iload_n 3, 1) := by decide +kernel
theorem dX5_may_54 : decode cX5_may 54 = .ok (.iconst (-1), 1) := by decide +kernel
theorem dX5_may_55 : decode cX5_may 55 = .ok (.ixor, 1) := by decide +kernel
theorem dX5_may_56 : decode cX5_may 56 = .ok (.iand, 1) := by decide +kernel
theorem dX5_may_57 : decode cX5_may 57 = .ok (.ifCond .ne 7, 3) := by decide +kernel
theorem dX5_may_60 : decode cX5_may 60 = .ok (.iconst 1, 1) := by decide +kernel
theorem dX5_may_61 : decode cX5_may 61 = .ok (.goto 4, 3) := by decide +kernel
theorem dX5_may_64 : decode cX5_may 64 = .ok (.iconst 0, 1) := by decide +kernel
theorem dX5_may_65 : decode cX5_may 65 = .ok (.ireturn, 1) := by decide +kernel
theorem dX5_finds_0 : decode cX5_finds 0 = .ok (.aload_n 0, 1) := by decide +kernel
theorem dX5_finds_1 : decode cX5_finds 1 = .ok (.iconst 0, 1) := by decide +kernel
theorem dX5_finds_2 : decode cX5_finds 2 = .ok (.putfield 100, 3) := by decide +kernel
theorem dX5_finds_5 : decode cX5_finds 5 = .ok (.iconst 0, 1) := by decide +kernel
theorem dX5_finds_6 : decode cX5_finds 6 = .ok (.istore_n 1, 1) := by decide +kernel
theorem dX5_finds_7 : decode cX5_finds 7 = .ok (.iload_n 1, 1) := by decide +kernel
theorem dX5_finds_8 : decode cX5_finds 8 = .ok (.aload_n 0, 1) := by decide +kernel
theorem dX5_finds_9 : decode cX5_finds 9 = .ok (.getfield 78, 3) := by decide +kernel
theorem dX5_finds_12 : decode cX5_finds 12 = .ok (.if_icmp .ge 34, 3) := by decide +kernel
theorem dX5_finds_15 : decode cX5_finds 15 = .ok (.aload_n 0, 1) := by decide +kernel
theorem dX5_finds_16 : decode cX5_finds 16 = .ok (.dup, 1) := by decide +kernel
theorem dX5_finds_17 : decode cX5_finds 17 = .ok (.getfield 100, 3) := by decide +kernel
theorem dX5_finds_20 : decode cX5_finds 20 = .ok (.aload_n 0, 1) := by decide +kernel
theorem dX5_finds_21 : decode cX5_finds 21 = .ok (.getfield 81, 3) := by decide +kernel
theorem dX5_finds_24 : decode cX5_finds 24 = .ok (.iload_n 1, 1) := by decide +kernel
theorem dX5_finds_25 : decode cX5_finds 25 = .ok (.ishr, 1) := by decide +kernel
theorem dX5_finds_26 : decode cX5_finds 26 = .ok (.iconst 1, 1) := by decide +kernel
theorem dX5_finds_27 : decode cX5_finds 27 = .ok (.iand, 1) := by decide +kernel
theorem dX5_finds_28 : decode cX5_finds 28 = .ok (.ifCond .ne 7, 3) := by decide +kernel
theorem dX5_finds_31 : decode cX5_finds 31 = .ok (.iconst 1, 1) := by decide +kernel
theorem dX5_finds_32 : decode cX5_finds 32 = .ok (.goto 4, 3) := by decide +kernel
theorem dX5_finds_35 : decode cX5_finds 35 = .ok (.iconst 0, 1) := by decide +kernel
theorem dX5_finds_36 : decode cX5_finds 36 = .ok (.iadd, 1) := by decide +kernel
theorem dX5_finds_37 : decode cX5_finds 37 = .ok (.putfield 100, 3) := by decide +kernel
theorem dX5_finds_40 : decode cX5_finds 40 = .ok (.iinc 1 1, 3) := by decide +kernel
theorem dX5_finds_43 : decode cX5_finds 43 = .ok (.goto (-36), 3) := by decide +kernel
theorem dX5_finds_46 : decode cX5_finds 46 = .ok (.aload_n 0, 1) := by decide +kernel
theorem dX5_finds_47 : decode cX5_finds 47 = .ok (.aload_n 0, 1) := by decide +kernel
theorem dX5_finds_48 : decode cX5_finds 48 = .ok (.getfield 100, 3) := by decide +kernel
theorem dX5_finds_51 : decode cX5_finds 51 = .ok (.ifCond .ne 7, 3) := by decide +kernel
theorem dX5_finds_54 : decode cX5_finds 54 = .ok (.iconst 0, 1) := by decide +kernel
theorem dX5_finds_55 : decode cX5_finds 55 = .ok (.goto 5, 3) := by decide +kernel
theorem dX5_finds_58 : decode cX5_finds 58 = .ok (.ldc 103, 2) := by decide +kernel
theorem dX5_finds_60 : decode cX5_finds 60 = .ok (.putfield 104, 3) := by decide +kernel
theorem dX5_finds_63 : decode cX5_finds 63 = .ok (.aload_n 0, 1) := by decide +kernel
theorem dX5_finds_64 : decode cX5_finds 64 = .ok (.getfield 100, 3) := by decide +kernel
theorem dX5_finds_67 : decode cX5_finds 67 = .ok (.ifCond .ne 7, 3) := by decide +kernel
theorem dX5_finds_70 : decode cX5_finds 70 = .ok (.iconst (-1), 1) := by decide +kernel
theorem dX5_finds_71 : decode cX5_finds 71 = .ok (.goto 4, 3) := by decide +kernel
theorem dX5_finds_74 : decode cX5_finds 74 = .ok (.iconst 0, 1) := by decide +kernel
theorem dX5_finds_75 : decode cX5_finds 75 = .ok (.istore_n 1, 1) := by decide +kernel
theorem dX5_finds_76 : decode cX5_finds 76 = .ok (.aload_n 0, 1) := by decide +kernel
theorem dX5_finds_77 : decode cX5_finds 77 = .ok (.getfield 41, 3) := by decide +kernel
theorem dX5_finds_80 : decode cX5_finds 80 = .ok (.iconst 0, 1) := by decide +kernel
theorem dX5_finds_81 : decode cX5_finds 81 = .ok (.iconst (-1), 1) := by decide +kernel
theorem dX5_finds_82 : decode cX5_finds 82 = .ok (.iastore, 1) := by decide +kernel
theorem dX5_finds_83 : decode cX5_finds 83 = .ok (.iload_n 1, 1) := by decide +kernel
theorem dX5_finds_84 : decode cX5_finds 84 = .ok (.ifCond .lt 119, 3) := by decide +kernel
theorem dX5_finds_87 : decode cX5_finds 87 = .ok (.aload_n 0, 1) := by decide +kernel
theorem dX5_finds_88 : decode cX5_finds 88 = .ok (.getfield 41, 3) := by decide +kernel
theorem dX5_finds_91 : decode cX5_finds 91 = .ok (.iload_n 1, 1) := by decide +kernel
theorem dX5_finds_92 : decode cX5_finds 92 = .ok (.dup2, 1) := by decide +kernel
theorem dX5_finds_93 : decode cX5_finds 93 = .ok (.iaload, 1) := by decide +kernel
theorem dX5_finds_94 : decode cX5_finds 94 = .ok (.iconst 1, 1) := by decide +kernel
theorem dX5_finds_95 : decode cX5_finds 95 = .ok (.iadd, 1) := by decide +kernel
theorem dX5_finds_96 : decode cX5_finds 96 = .ok (.iastore, 1) := by decide +kernel
theorem dX5_finds_97 : decode cX5_finds 97 = .ok (.aload_n 0, 1) := by decide +kernel
theorem dX5_finds_98 : decode cX5_finds 98 = .ok (.getfield 41, 3) := by decide +kernel
theorem dX5_finds_101 : decode cX5_finds 101 = .ok (.iload_n 1, 1) := by decide +kernel
theorem dX5_finds_102 : decode cX5_finds 102 = .ok (.iaload, 1) := by decide +kernel
theorem dX5_finds_103 : decode cX5_finds 103 = .ok (.aload_n 0, 1) := by decide +kernel
theorem dX5_finds_104 : decode cX5_finds 104 = .ok (.getfield 78, 3) := by decide +kernel
theorem dX5_finds_107 : decode cX5_finds 107 = .ok (.if_icmp .lt 9, 3) := by decide +kernel
theorem dX5_finds_110 : decode cX5_finds 110 = .ok (.iinc 1 (-1), 3) := by decide +kernel
theorem dX5_finds_113 : decode cX5_finds 113 = .ok (.goto (-30), 3) := by decide +kernel
theorem dX5_finds_116 : decode cX5_finds 116 = .ok (.aload_n 0, 1) := by decide +kernel
theorem dX5_finds_117 : decode cX5_finds 117 = .ok (.iload_n 1, 1) := by decide +kernel
theorem dX5_finds_118 : decode cX5_finds 118 = .ok (.invokevirtual 107, 3) := by decide +kernel
theorem dX5_finds_121 : decode cX5_finds 121 = .ok (.ifCond .eq (-38), 3) := by decide +kernel
theorem dX5_finds_124 : decode cX5_finds 124 = .ok (.aload_n 0, 1) := by decide +kernel
theorem dX5_finds_125 : decode cX5_finds 125 = .ok (.getfield 44, 3) := by decide +kernel
theorem dX5_finds_128 : decode cX5_finds 128 = .ok (.iload_n 1, 1) := by decide +kernel
theorem dX5_finds_129 : decode cX5_finds 129 = .ok (.aload_n 0, 1) := by decide +kernel
theorem dX5_finds_130 : decode cX5_finds 130 = .ok (.iload_n 1, 1) := by decide +kernel
theorem dX5_finds_131 : decode cX5_finds 131 = .ok (.invokevirtual 111, 3) := by decide +kernel
theorem dX5_finds_134 : decode cX5_finds 134 = .ok (.iastore, 1) := by decide +kernel
theorem dX5_finds_135 : decode cX5_finds 135 = .ok (.aload_n 0, 1) := by decide +kernel
theorem dX5_finds_136 : decode cX5_finds 136 = .ok (.getfield 44, 3) := by decide +kernel
theorem dX5_finds_139 : decode cX5_finds 139 = .ok (.iload_n 1, 1) := by decide +kernel
theorem dX5_finds_140 : decode cX5_finds 140 = .ok (.iaload, 1) := by decide +kernel
theorem dX5_finds_141 : decode cX5_finds 141 = .ok (.bipush 24, 2) := by decide +kernel
theorem dX5_finds_143 : decode cX5_finds 143 = .ok (.idiv, 1) := by decide +kernel
theorem dX5_finds_144 : decode cX5_finds 144 = .ok (.aload_n 0, 1) := by decide +kernel
theorem dX5_finds_145 : decode cX5_finds 145 = .ok (.getfield 91, 3) := by decide +kernel
theorem dX5_finds_148 : decode cX5_finds 148 = .ok (.isub, 1) := by decide +kernel
theorem dX5_finds_149 : decode cX5_finds 149 = .ok (.iconst 1, 1) := by decide +kernel
theorem dX5_finds_150 : decode cX5_finds 150 = .ok (.iadd, 1) := by decide +kernel
theorem dX5_finds_151 : decode cX5_finds 151 = .ok (.istore_n 2, 1) := by decide +kernel
theorem dX5_finds_152 : decode cX5_finds 152 = .ok (.iload_n 2, 1) := by decide +kernel
theorem dX5_finds_153 : decode cX5_finds 153 = .ok (.aload_n 0, 1) := by decide +kernel
theorem dX5_finds_154 : decode cX5_finds 154 = .ok (.getfield 104, 3) := by decide +kernel
theorem dX5_finds_157 : decode cX5_finds 157 = .ok (.if_icmp .ge 25, 3) := by decide +kernel
theorem dX5_finds_160 : decode cX5_finds 160 = .ok (.iload_n 1, 1) := by decide +kernel
theorem dX5_finds_161 : decode cX5_finds 161 = .ok (.iconst 1, 1) := by decide +kernel
theorem dX5_finds_162 : decode cX5_finds 162 = .ok (.iadd, 1) := by decide +kernel
theorem dX5_finds_163 : decode cX5_finds 163 = .ok (.aload_n 0, 1) := by decide +kernel
theorem dX5_finds_164 : decode cX5_finds 164 = .ok (.getfield 100, 3) := by decide +kernel
theorem dX5_finds_167 : decode cX5_finds 167 = .ok (.if_icmp .ne 15, 3) := by decide +kernel
theorem dX5_finds_170 : decode cX5_finds 170 = .ok (.aload_n 0, 1) := by decide +kernel
theorem dX5_finds_171 : decode cX5_finds 171 = .ok (.iload_n 2, 1) := by decide +kernel
theorem dX5_finds_172 : decode cX5_finds 172 = .ok (.putfield 104, 3) := by decide +kernel
theorem dX5_finds_175 : decode cX5_finds 175 = .ok (.aload_n 0, 1) := by decide +kernel
theorem dX5_finds_176 : decode cX5_finds 176 = .ok (.invokevirtual 115, 3) := by decide +kernel
theorem dX5_finds_179 : decode cX5_finds 179 = .ok (.goto 21, 3) := by decide +kernel
theorem dX5_finds_182 : decode cX5_finds 182 = .ok (.iload_n 2, 1) := by decide +kernel
theorem dX5_finds_183 : decode cX5_finds 183 = .ok (.aload_n 0, 1) := by decide +kernel
theorem dX5_finds_184 : decode cX5_finds 184 = .ok (.getfield 104, 3) := by decide +kernel
theorem dX5_finds_187 : decode cX5_finds 187 = .ok (.if_icmp .ge 13, 3) := by decide +kernel
theorem dX5_finds_190 : decode cX5_finds 190 = .ok (.iinc 1 1, 3) := by decide +kernel
theorem dX5_finds_193 : decode cX5_finds 193 = .ok (.aload_n 0, 1) := by decide +kernel
theorem dX5_finds_194 : decode cX5_finds 194 = .ok (.getfield 41, 3) := by decide +kernel
theorem dX5_finds_197 : decode cX5_finds 197 = .ok (.iload_n 1, 1) := by decide +kernel
theorem dX5_finds_198 : decode cX5_finds 198 = .ok (.iconst (-1), 1) := by decide +kernel
theorem dX5_finds_199 : decode cX5_finds 199 = .ok (.iastore, 1) := by decide +kernel
theorem dX5_finds_200 : decode cX5_finds 200 = .ok (.goto (-117), 3) := by decide +kernel
theorem dX5_finds_203 : decode cX5_finds 203 = .ok (.aload_n 0, 1) := by decide +kernel
theorem dX5_finds_204 : decode cX5_finds 204 = .ok (.iconst 0, 1) := by decide +kernel
theorem dX5_finds_205 : decode cX5_finds 205 = .ok (.putfield 118, 3) := by decide +kernel
theorem dX5_finds_208 : decode cX5_finds 208 = .ok (.return_, 1) := by decide +kernel
theorem dX5_keeps_0 : decode cX5_keeps 0 = .ok (.iconst 0, 1) := by decide +kernel
theorem dX5_keeps_1 : decode cX5_keeps 1 = .ok (.istore_n 1, 1) := by decide +kernel
theorem dX5_keeps_2 : decode cX5_keeps 2 = .ok (.iload_n 1, 1) := by decide +kernel
theorem dX5_keeps_3 : decode cX5_keeps 3 = .ok (.aload_n 0, 1) := by decide +kernel
theorem dX5_keeps_4 : decode cX5_keeps 4 = .ok (.getfield 100, 3) := by decide +kernel
theorem dX5_keeps_7 : decode cX5_keeps 7 = .ok (.if_icmp .ge 33, 3) := by decide +kernel
theorem dX5_keeps_10 : decode cX5_keeps 10 = .ok (.aload_n 0, 1) := by decide +kernel
theorem dX5_keeps_11 : decode cX5_keeps 11 = .ok (.getfield 35, 3) := by decide +kernel
theorem dX5_keeps_14 : decode cX5_keeps 14 = .ok (.iload_n 1, 1) := by decide +kernel
theorem dX5_keeps_15 : decode cX5_keeps 15 = .ok (.aload_n 0, 1) := by decide +kernel
theorem dX5_keeps_16 : decode cX5_keeps 16 = .ok (.getfield 41, 3) := by decide +kernel
theorem dX5_keeps_19 : decode cX5_keeps 19 = .ok (.iload_n 1, 1) := by decide +kernel
theorem dX5_keeps_20 : decode cX5_keeps 20 = .ok (.iaload, 1) := by decide +kernel
theorem dX5_keeps_21 : decode cX5_keeps 21 = .ok (.iastore, 1) := by decide +kernel
theorem dX5_keeps_22 : decode cX5_keeps 22 = .ok (.aload_n 0, 1) := by decide +kernel
theorem dX5_keeps_23 : decode cX5_keeps 23 = .ok (.getfield 38, 3) := by decide +kernel
theorem dX5_keeps_26 : decode cX5_keeps 26 = .ok (.iload_n 1, 1) := by decide +kernel
theorem dX5_keeps_27 : decode cX5_keeps 27 = .ok (.aload_n 0, 1) := by decide +kernel
theorem dX5_keeps_28 : decode cX5_keeps 28 = .ok (.getfield 44, 3) := by decide +kernel
theorem dX5_keeps_31 : decode cX5_keeps 31 = .ok (.iload_n 1, 1) := by decide +kernel
theorem dX5_keeps_32 : decode cX5_keeps 32 = .ok (.iaload, 1) := by decide +kernel
theorem dX5_keeps_33 : decode cX5_keeps 33 = .ok (.iastore, 1) := by decide +kernel
theorem dX5_keeps_34 : decode cX5_keeps 34 = .ok (.iinc 1 1, 3) := by decide +kernel
theorem dX5_keeps_37 : decode cX5_keeps 37 = .ok (.goto (-35), 3) := by decide +kernel
theorem dX5_keeps_40 : decode cX5_keeps 40 = .ok (.return_, 1) := by decide +kernel
theorem dX5_plans_0 : decode cX5_plans 0 = .ok (.aload_n 0, 1) := by decide +kernel
theorem dX5_plans_1 : decode cX5_plans 1 = .ok (.getfield 118, 3) := by decide +kernel
theorem dX5_plans_4 : decode cX5_plans 4 = .ok (.ifCond .eq 7, 3) := by decide +kernel
theorem dX5_plans_7 : decode cX5_plans 7 = .ok (.aload_n 0, 1) := by decide +kernel
theorem dX5_plans_8 : decode cX5_plans 8 = .ok (.invokevirtual 122, 3) := by decide +kernel
theorem dX5_plans_11 : decode cX5_plans 11 = .ok (.return_, 1) := by decide +kernel
theorem dX5_addScene_0 : decode cX5_addScene 0 = .ok (.iload_n 1, 1) := by decide +kernel
theorem dX5_addScene_1 : decode cX5_addScene 1 = .ok (.iconst 1, 1) := by decide +kernel
theorem dX5_addScene_2 : decode cX5_addScene 2 = .ok (.bipush 6, 2) := by decide +kernel
theorem dX5_addScene_4 : decode cX5_addScene 4 = .ok (.invokestatic 74, 3) := by decide +kernel
theorem dX5_addScene_7 : decode cX5_addScene 7 = .ok (.ifCond .eq 51, 3) := by decide +kernel
theorem dX5_addScene_10 : decode cX5_addScene 10 = .ok (.iload_n 2, 1) := by decide +kernel
theorem dX5_addScene_11 : decode cX5_addScene 11 = .ok (.invokestatic 125, 3) := by decide +kernel
theorem dX5_addScene_14 : decode cX5_addScene 14 = .ok (.ifCond .eq 44, 3) := by decide +kernel
theorem dX5_addScene_17 : decode cX5_addScene 17 = .ok (.iload_n 3, 1) := by decide +kernel
theorem dX5_addScene_18 : decode cX5_addScene 18 = .ok (.iconst 0, 1) := by decide +kernel
theorem dX5_addScene_19 : decode cX5_addScene 19 = .ok (.bipush 63, 2) := by decide +kernel
theorem dX5_addScene_21 : decode cX5_addScene 21 = .ok (.invokestatic 74, 3) := by decide +kernel
theorem dX5_addScene_24 : decode cX5_addScene 24 = .ok (.ifCond .eq 34, 3) := by decide +kernel
theorem dX5_addScene_27 : decode cX5_addScene 27 = .ok (.iload 4, 2) := by decide +kernel
theorem dX5_addScene_29 : decode cX5_addScene 29 = .ok (.iconst 0, 1) := by decide +kernel
theorem dX5_addScene_30 : decode cX5_addScene 30 = .ok (.iconst 2, 1) := by decide +kernel
theorem dX5_addScene_31 : decode cX5_addScene 31 = .ok (.invokestatic 74, 3) := by decide +kernel
theorem dX5_addScene_34 : decode cX5_addScene 34 = .ok (.ifCond .eq 24, 3) := by decide +kernel
theorem dX5_addScene_37 : decode cX5_addScene 37 = .ok (.iload 5, 2) := by decide +kernel
theorem dX5_addScene_39 : decode cX5_addScene 39 = .ok (.iconst 0, 1) := by decide +kernel
theorem dX5_addScene_40 : decode cX5_addScene 40 = .ok (.iconst 1, 1) := by decide +kernel
theorem dX5_addScene_41 : decode cX5_addScene 41 = .ok (.aload_n 0, 1) := by decide +kernel
theorem dX5_addScene_42 : decode cX5_addScene 42 = .ok (.getfield 78, 3) := by decide +kernel
theorem dX5_addScene_45 : decode cX5_addScene 45 = .ok (.ishl, 1) := by decide +kernel
theorem dX5_addScene_46 : decode cX5_addScene 46 = .ok (.iconst 1, 1) := by decide +kernel
theorem dX5_addScene_47 : decode cX5_addScene 47 = .ok (.isub, 1) := by decide +kernel
theorem dX5_addScene_48 : decode cX5_addScene 48 = .ok (.invokestatic 74, 3) := by decide +kernel
theorem dX5_addScene_51 : decode cX5_addScene 51 = .ok (.ifCond .eq 7, 3) := by decide +kernel
theorem dX5_addScene_54 : decode cX5_addScene 54 = .ok (.iconst 1, 1) := by decide +kernel
theorem dX5_addScene_55 : decode cX5_addScene 55 = .ok (.goto 4, 3) := by decide +kernel
theorem dX5_addScene_58 : decode cX5_addScene 58 = .ok (.iconst 0, 1) := by decide +kernel
theorem dX5_addScene_59 : decode cX5_addScene 59 = .ok (.istore 6, 2) := by decide +kernel
theorem dX5_addScene_61 : decode cX5_addScene 61 = .ok (.aload_n 0, 1) := by decide +kernel
theorem dX5_addScene_62 : decode cX5_addScene 62 = .ok (.iload 6, 2) := by decide +kernel
theorem dX5_addScene_64 : decode cX5_addScene 64 = .ok (.ifCond .ne 7, 3) := by decide +kernel
theorem dX5_addScene_67 : decode cX5_addScene 67 = .ok (.iconst 1, 1) := by decide +kernel
theorem dX5_addScene_68 : decode cX5_addScene 68 = .ok (.goto 17, 3) := by decide +kernel
theorem dX5_addScene_71 : decode cX5_addScene 71 = .ok (.aload_n 0, 1) := by decide +kernel
theorem dX5_addScene_72 : decode cX5_addScene 72 = .ok (.getfield 78, 3) := by decide +kernel
theorem dX5_addScene_75 : decode cX5_addScene 75 = .ok (.bipush 8, 2) := by decide +kernel
theorem dX5_addScene_77 : decode cX5_addScene 77 = .ok (.if_icmp .ne 7, 3) := by decide +kernel
theorem dX5_addScene_80 : decode cX5_addScene 80 = .ok (.iconst 2, 1) := by decide +kernel
theorem dX5_addScene_81 : decode cX5_addScene 81 = .ok (.goto 4, 3) := by decide +kernel
theorem dX5_addScene_84 : decode cX5_addScene 84 = .ok (.iconst 0, 1) := by decide +kernel
theorem dX5_addScene_85 : decode cX5_addScene 85 = .ok (.putfield 71, 3) := by decide +kernel
theorem dX5_addScene_88 : decode cX5_addScene 88 = .ok (.aload_n 0, 1) := by decide +kernel
theorem dX5_addScene_89 : decode cX5_addScene 89 = .ok (.getfield 71, 3) := by decide +kernel
theorem dX5_addScene_92 : decode cX5_addScene 92 = .ok (.ifCond .le 5, 3) := by decide +kernel
theorem dX5_addScene_95 : decode cX5_addScene 95 = .ok (.iconst 0, 1) := by decide +kernel
theorem dX5_addScene_96 : decode cX5_addScene 96 = .ok (.ireturn, 1) := by decide +kernel
theorem dX5_addScene_97 : decode cX5_addScene 97 = .ok (.aload_n 0, 1) := by decide +kernel
theorem dX5_addScene_98 : decode cX5_addScene 98 = .ok (.getfield 7, 3) := by decide +kernel
theorem dX5_addScene_101 : decode cX5_addScene 101 = .ok (.aload_n 0, 1) := by decide +kernel
theorem dX5_addScene_102 : decode cX5_addScene 102 = .ok (.getfield 78, 3) := by decide +kernel
theorem dX5_addScene_105 : decode cX5_addScene 105 = .ok (.iload_n 1, 1) := by decide +kernel
theorem dX5_addScene_106 : decode cX5_addScene 106 = .ok (.iastore, 1) := by decide +kernel
theorem dX5_addScene_107 : decode cX5_addScene 107 = .ok (.aload_n 0, 1) := by decide +kernel
theorem dX5_addScene_108 : decode cX5_addScene 108 = .ok (.getfield 13, 3) := by decide +kernel
theorem dX5_addScene_111 : decode cX5_addScene 111 = .ok (.aload_n 0, 1) := by decide +kernel
theorem dX5_addScene_112 : decode cX5_addScene 112 = .ok (.getfield 78, 3) := by decide +kernel
theorem dX5_addScene_115 : decode cX5_addScene 115 = .ok (.iload_n 2, 1) := by decide +kernel
theorem dX5_addScene_116 : decode cX5_addScene 116 = .ok (.iastore, 1) := by decide +kernel
theorem dX5_addScene_117 : decode cX5_addScene 117 = .ok (.aload_n 0, 1) := by decide +kernel
theorem dX5_addScene_118 : decode cX5_addScene 118 = .ok (.getfield 16, 3) := by decide +kernel
theorem dX5_addScene_121 : decode cX5_addScene 121 = .ok (.aload_n 0, 1) := by decide +kernel
theorem dX5_addScene_122 : decode cX5_addScene 122 = .ok (.getfield 78, 3) := by decide +kernel
theorem dX5_addScene_125 : decode cX5_addScene 125 = .ok (.iload_n 3, 1) := by decide +kernel
theorem dX5_addScene_126 : decode cX5_addScene 126 = .ok (.iastore, 1) := by decide +kernel
theorem dX5_addScene_127 : decode cX5_addScene 127 = .ok (.aload_n 0, 1) := by decide +kernel
theorem dX5_addScene_128 : decode cX5_addScene 128 = .ok (.getfield 19, 3) := by decide +kernel
theorem dX5_addScene_131 : decode cX5_addScene 131 = .ok (.aload_n 0, 1) := by decide +kernel
theorem dX5_addScene_132 : decode cX5_addScene 132 = .ok (.getfield 78, 3) := by decide +kernel
theorem dX5_addScene_135 : decode cX5_addScene 135 = .ok (.iload 4, 2) := by decide +kernel
theorem dX5_addScene_137 : decode cX5_addScene 137 = .ok (.iastore, 1) := by decide +kernel
theorem dX5_addScene_138 : decode cX5_addScene 138 = .ok (.aload_n 0, 1) := by decide +kernel
theorem dX5_addScene_139 : decode cX5_addScene 139 = .ok (.getfield 22, 3) := by decide +kernel
theorem dX5_addScene_142 : decode cX5_addScene 142 = .ok (.aload_n 0, 1) := by decide +kernel
theorem dX5_addScene_143 : decode cX5_addScene 143 = .ok (.getfield 78, 3) := by decide +kernel
theorem dX5_addScene_146 : decode cX5_addScene 146 = .ok (.iload 5, 2) := by decide +kernel
theorem dX5_addScene_148 : decode cX5_addScene 148 = .ok (.iastore, 1) := by decide +kernel
theorem dX5_addScene_149 : decode cX5_addScene 149 = .ok (.aload_n 0, 1) := by decide +kernel
theorem dX5_addScene_150 : decode cX5_addScene 150 = .ok (.dup, 1) := by decide +kernel
theorem dX5_addScene_151 : decode cX5_addScene 151 = .ok (.getfield 78, 3) := by decide +kernel
theorem dX5_addScene_154 : decode cX5_addScene 154 = .ok (.iconst 1, 1) := by decide +kernel
theorem dX5_addScene_155 : decode cX5_addScene 155 = .ok (.iadd, 1) := by decide +kernel
theorem dX5_addScene_156 : decode cX5_addScene 156 = .ok (.putfield 78, 3) := by decide +kernel
theorem dX5_addScene_159 : decode cX5_addScene 159 = .ok (.aload_n 0, 1) := by decide +kernel
theorem dX5_addScene_160 : decode cX5_addScene 160 = .ok (.iconst 1, 1) := by decide +kernel
theorem dX5_addScene_161 : decode cX5_addScene 161 = .ok (.putfield 118, 3) := by decide +kernel
theorem dX5_addScene_164 : decode cX5_addScene 164 = .ok (.aload_n 0, 1) := by decide +kernel
theorem dX5_addScene_165 : decode cX5_addScene 165 = .ok (.getfield 78, 3) := by decide +kernel
theorem dX5_addScene_168 : decode cX5_addScene 168 = .ok (.iconst 1, 1) := by decide +kernel
theorem dX5_addScene_169 : decode cX5_addScene 169 = .ok (.isub, 1) := by decide +kernel
theorem dX5_addScene_170 : decode cX5_addScene 170 = .ok (.ireturn, 1) := by decide +kernel
theorem dX5_setOut_0 : decode cX5_setOut 0 = .ok (.aload_n 0, 1) := by decide +kernel
theorem dX5_setOut_1 : decode cX5_setOut 1 = .ok (.iload_n 1, 1) := by decide +kernel
theorem dX5_setOut_2 : decode cX5_setOut 2 = .ok (.invokestatic 125, 3) := by decide +kernel
theorem dX5_setOut_5 : decode cX5_setOut 5 = .ok (.ifCond .eq 7, 3) := by decide +kernel
theorem dX5_setOut_8 : decode cX5_setOut 8 = .ok (.iconst 0, 1) := by decide +kernel
theorem dX5_setOut_9 : decode cX5_setOut 9 = .ok (.goto 4, 3) := by decide +kernel
theorem dX5_setOut_12 : decode cX5_setOut 12 = .ok (.iconst 1, 1) := by decide +kernel
theorem dX5_setOut_13 : decode cX5_setOut 13 = .ok (.putfield 71, 3) := by decide +kernel
theorem dX5_setOut_16 : decode cX5_setOut 16 = .ok (.aload_n 0, 1) := by decide +kernel
theorem dX5_setOut_17 : decode cX5_setOut 17 = .ok (.getfield 71, 3) := by decide +kernel
theorem dX5_setOut_20 : decode cX5_setOut 20 = .ok (.ifCond .le 5, 3) := by decide +kernel
theorem dX5_setOut_23 : decode cX5_setOut 23 = .ok (.iconst 0, 1) := by decide +kernel
theorem dX5_setOut_24 : decode cX5_setOut 24 = .ok (.ireturn, 1) := by decide +kernel
theorem dX5_setOut_25 : decode cX5_setOut 25 = .ok (.aload_n 0, 1) := by decide +kernel
theorem dX5_setOut_26 : decode cX5_setOut 26 = .ok (.getfield 128, 3) := by decide +kernel
theorem dX5_setOut_29 : decode cX5_setOut 29 = .ok (.iload_n 1, 1) := by decide +kernel
theorem dX5_setOut_30 : decode cX5_setOut 30 = .ok (.ishr, 1) := by decide +kernel
theorem dX5_setOut_31 : decode cX5_setOut 31 = .ok (.iconst 1, 1) := by decide +kernel
theorem dX5_setOut_32 : decode cX5_setOut 32 = .ok (.iand, 1) := by decide +kernel
theorem dX5_setOut_33 : decode cX5_setOut 33 = .ok (.iconst 1, 1) := by decide +kernel
theorem dX5_setOut_34 : decode cX5_setOut 34 = .ok (.if_icmp .ne 7, 3) := by decide +kernel
theorem dX5_setOut_37 : decode cX5_setOut 37 = .ok (.iconst 1, 1) := by decide +kernel
theorem dX5_setOut_38 : decode cX5_setOut 38 = .ok (.goto 4, 3) := by decide +kernel
theorem dX5_setOut_41 : decode cX5_setOut 41 = .ok (.iconst 0, 1) := by decide +kernel
theorem dX5_setOut_42 : decode cX5_setOut 42 = .ok (.istore_n 3, 1) := by decide +kernel
theorem dX5_setOut_43 : decode cX5_setOut 43 = .ok (.aload_n 0, 1) := by decide +kernel
theorem dX5_setOut_44 : decode cX5_setOut 44 = .ok (.iload_n 2, 1) := by decide +kernel
theorem dX5_setOut_45 : decode cX5_setOut 45 = .ok (.ifCond .eq 14, 3) := by decide +kernel
theorem dX5_setOut_48 : decode cX5_setOut 48 = .ok (.aload_n 0, 1) := by decide +kernel
theorem dX5_setOut_49 : decode cX5_setOut 49 = .ok (.getfield 128, 3) := by decide +kernel
theorem dX5_setOut_52 : decode cX5_setOut 52 = .ok (.iconst 1, 1) := by decide +kernel
theorem dX5_setOut_53 : decode cX5_setOut 53 = .ok (.iload_n 1, 1) := by decide +kernel
theorem dX5_setOut_54 : decode cX5_setOut 54 = .ok (.ishl, 1) := by decide +kernel
theorem dX5_setOut_55 : decode cX5_setOut 55 = .ok (.ior, 1) := by decide +kernel
theorem dX5_setOut_56 : decode cX5_setOut 56 = .ok (.goto 13, 3) := by decide +kernel
theorem dX5_setOut_59 : decode cX5_setOut 59 = .ok (.aload_n 0, 1) := by decide +kernel
theorem dX5_setOut_60 : decode cX5_setOut 60 = .ok (.getfield 128, 3) := by decide +kernel
theorem dX5_setOut_63 : decode cX5_setOut 63 = .ok (.iconst 1, 1) := by decide +kernel
theorem dX5_setOut_64 : decode cX5_setOut 64 = .ok (.iload_n 1, 1) := by decide +kernel
theorem dX5_setOut_65 : decode cX5_setOut 65 = .ok (.ishl, 1) := by decide +kernel
theorem dX5_setOut_66 : decode cX5_setOut 66 = .ok (.iconst (-1), 1) := by decide +kernel
theorem dX5_setOut_67 : decode cX5_setOut 67 = .ok (.ixor, 1) := by decide +kernel
theorem dX5_setOut_68 : decode cX5_setOut 68 = .ok (.iand, 1) := by decide +kernel
theorem dX5_setOut_69 : decode cX5_setOut 69 = .ok (.putfield 128, 3) := by decide +kernel
theorem dX5_setOut_72 : decode cX5_setOut 72 = .ok (.iload_n 3, 1) := by decide +kernel
theorem dX5_setOut_73 : decode cX5_setOut 73 = .ok (.ireturn, 1) := by decide +kernel
theorem dX5_setChild_0 : decode cX5_setChild 0 = .ok (.aload_n 0, 1) := by decide +kernel
theorem dX5_setChild_1 : decode cX5_setChild 1 = .ok (.iload_n 1, 1) := by decide +kernel
theorem dX5_setChild_2 : decode cX5_setChild 2 = .ok (.invokestatic 131, 3) := by decide +kernel
theorem dX5_setChild_5 : decode cX5_setChild 5 = .ok (.ifCond .eq 7, 3) := by decide +kernel
theorem dX5_setChild_8 : decode cX5_setChild 8 = .ok (.iconst 0, 1) := by decide +kernel
theorem dX5_setChild_9 : decode cX5_setChild 9 = .ok (.goto 4, 3) := by decide +kernel
theorem dX5_setChild_12 : decode cX5_setChild 12 = .ok (.iconst 1, 1) := by decide +kernel
theorem dX5_setChild_13 : decode cX5_setChild 13 = .ok (.putfield 71, 3) := by decide +kernel
theorem dX5_setChild_16 : decode cX5_setChild 16 = .ok (.aload_n 0, 1) := by decide +kernel
theorem dX5_setChild_17 : decode cX5_setChild 17 = .ok (.getfield 71, 3) := by decide +kernel
theorem dX5_setChild_20 : decode cX5_setChild 20 = .ok (.ifCond .le 5, 3) := by decide +kernel
theorem dX5_setChild_23 : decode cX5_setChild 23 = .ok (.iconst 0, 1) := by decide +kernel
theorem dX5_setChild_24 : decode cX5_setChild 24 = .ok (.ireturn, 1) := by decide +kernel
theorem dX5_setChild_25 : decode cX5_setChild 25 = .ok (.aload_n 0, 1) := by decide +kernel
theorem dX5_setChild_26 : decode cX5_setChild 26 = .ok (.getfield 84, 3) := by decide +kernel
theorem dX5_setChild_29 : decode cX5_setChild 29 = .ok (.iload_n 1, 1) := by decide +kernel
theorem dX5_setChild_30 : decode cX5_setChild 30 = .ok (.ishr, 1) := by decide +kernel
theorem dX5_setChild_31 : decode cX5_setChild 31 = .ok (.iconst 1, 1) := by decide +kernel
theorem dX5_setChild_32 : decode cX5_setChild 32 = .ok (.iand, 1) := by decide +kernel
theorem dX5_setChild_33 : decode cX5_setChild 33 = .ok (.iconst 1, 1) := by decide +kernel
theorem dX5_setChild_34 : decode cX5_setChild 34 = .ok (.if_icmp .ne 7, 3) := by decide +kernel
theorem dX5_setChild_37 : decode cX5_setChild 37 = .ok (.iconst 1, 1) := by decide +kernel
theorem dX5_setChild_38 : decode cX5_setChild 38 = .ok (.goto 4, 3) := by decide +kernel
theorem dX5_setChild_41 : decode cX5_setChild 41 = .ok (.iconst 0, 1) := by decide +kernel
theorem dX5_setChild_42 : decode cX5_setChild 42 = .ok (.istore_n 3, 1) := by decide +kernel
theorem dX5_setChild_43 : decode cX5_setChild 43 = .ok (.aload_n 0, 1) := by decide +kernel
theorem dX5_setChild_44 : decode cX5_setChild 44 = .ok (.iload_n 2, 1) := by decide +kernel
theorem dX5_setChild_45 : decode cX5_setChild 45 = .ok (.ifCond .eq 14, 3) := by decide +kernel
theorem dX5_setChild_48 : decode cX5_setChild 48 = .ok (.aload_n 0, 1) := by decide +kernel
theorem dX5_setChild_49 : decode cX5_setChild 49 = .ok (.getfield 84, 3) := by decide +kernel
theorem dX5_setChild_52 : decode cX5_setChild 52 = .ok (.iconst 1, 1) := by decide +kernel
theorem dX5_setChild_53 : decode cX5_setChild 53 = .ok (.iload_n 1, 1) := by decide +kernel
theorem dX5_setChild_54 : decode cX5_setChild 54 = .ok (.ishl, 1) := by decide +kernel
theorem dX5_setChild_55 : decode cX5_setChild 55 = .ok (.ior, 1) := by decide +kernel
theorem dX5_setChild_56 : decode cX5_setChild 56 = .ok (.goto 13, 3) := by decide +kernel
theorem dX5_setChild_59 : decode cX5_setChild 59 = .ok (.aload_n 0, 1) := by decide +kernel
theorem dX5_setChild_60 : decode cX5_setChild 60 = .ok (.getfield 84, 3) := by decide +kernel
theorem dX5_setChild_63 : decode cX5_setChild 63 = .ok (.iconst 1, 1) := by decide +kernel
theorem dX5_setChild_64 : decode cX5_setChild 64 = .ok (.iload_n 1, 1) := by decide +kernel
theorem dX5_setChild_65 : decode cX5_setChild 65 = .ok (.ishl, 1) := by decide +kernel
theorem dX5_setChild_66 : decode cX5_setChild 66 = .ok (.iconst (-1), 1) := by decide +kernel
theorem dX5_setChild_67 : decode cX5_setChild 67 = .ok (.ixor, 1) := by decide +kernel
theorem dX5_setChild_68 : decode cX5_setChild 68 = .ok (.iand, 1) := by decide +kernel
theorem dX5_setChild_69 : decode cX5_setChild 69 = .ok (.putfield 84, 3) := by decide +kernel
theorem dX5_setChild_72 : decode cX5_setChild 72 = .ok (.aload_n 0, 1) := by decide +kernel
theorem dX5_setChild_73 : decode cX5_setChild 73 = .ok (.iconst 1, 1) := by decide +kernel
theorem dX5_setChild_74 : decode cX5_setChild 74 = .ok (.putfield 118, 3) := by decide +kernel
theorem dX5_setChild_77 : decode cX5_setChild 77 = .ok (.iload_n 3, 1) := by decide +kernel
theorem dX5_setChild_78 : decode cX5_setChild 78 = .ok (.ireturn, 1) := by decide +kernel
theorem dX5_setRates_0 : decode cX5_setRates 0 = .ok (.aload_n 0, 1) := by decide +kernel
theorem dX5_setRates_1 : decode cX5_setRates 1 = .ok (.iload_n 1, 1) := by decide +kernel
theorem dX5_setRates_2 : decode cX5_setRates 2 = .ok (.iconst 0, 1) := by decide +kernel
theorem dX5_setRates_3 : decode cX5_setRates 3 = .ok (.sipush 1000, 3) := by decide +kernel
theorem dX5_setRates_6 : decode cX5_setRates 6 = .ok (.invokestatic 74, 3) := by decide +kernel
theorem dX5_setRates_9 : decode cX5_setRates 9 = .ok (.ifCond .eq 18, 3) := by decide +kernel
theorem dX5_setRates_12 : decode cX5_setRates 12 = .ok (.iload_n 2, 1) := by decide +kernel
theorem dX5_setRates_13 : decode cX5_setRates 13 = .ok (.iconst 0, 1) := by decide +kernel
theorem dX5_setRates_14 : decode cX5_setRates 14 = .ok (.sipush 1000, 3) := by decide +kernel
theorem dX5_setRates_17 : decode cX5_setRates 17 = .ok (.invokestatic 74, 3) := by decide +kernel
theorem dX5_setRates_20 : decode cX5_setRates 20 = .ok (.ifCond .eq 7, 3) := by decide +kernel
theorem dX5_setRates_23 : decode cX5_setRates 23 = .ok (.iconst 0, 1) := by decide +kernel
theorem dX5_setRates_24 : decode cX5_setRates 24 = .ok (.goto 4, 3) := by decide +kernel
theorem dX5_setRates_27 : decode cX5_setRates 27 = .ok (.iconst 1, 1) := by decide +kernel
theorem dX5_setRates_28 : decode cX5_setRates 28 = .ok (.putfield 71, 3) := by decide +kernel
theorem dX5_setRates_31 : decode cX5_setRates 31 = .ok (.aload_n 0, 1) := by decide +kernel
theorem dX5_setRates_32 : decode cX5_setRates 32 = .ok (.getfield 71, 3) := by decide +kernel
theorem dX5_setRates_35 : decode cX5_setRates 35 = .ok (.ifCond .le 5, 3) := by decide +kernel
theorem dX5_setRates_38 : decode cX5_setRates 38 = .ok (.iconst 0, 1) := by decide +kernel
theorem dX5_setRates_39 : decode cX5_setRates 39 = .ok (.ireturn, 1) := by decide +kernel
theorem dX5_setRates_40 : decode cX5_setRates 40 = .ok (.aload_n 0, 1) := by decide +kernel
theorem dX5_setRates_41 : decode cX5_setRates 41 = .ok (.getfield 28, 3) := by decide +kernel
theorem dX5_setRates_44 : decode cX5_setRates 44 = .ok (.istore_n 3, 1) := by decide +kernel
theorem dX5_setRates_45 : decode cX5_setRates 45 = .ok (.aload_n 0, 1) := by decide +kernel
theorem dX5_setRates_46 : decode cX5_setRates 46 = .ok (.iload_n 1, 1) := by decide +kernel
theorem dX5_setRates_47 : decode cX5_setRates 47 = .ok (.putfield 28, 3) := by decide +kernel
theorem dX5_setRates_50 : decode cX5_setRates 50 = .ok (.aload_n 0, 1) := by decide +kernel
theorem dX5_setRates_51 : decode cX5_setRates 51 = .ok (.iload_n 2, 1) := by decide +kernel
theorem dX5_setRates_52 : decode cX5_setRates 52 = .ok (.putfield 32, 3) := by decide +kernel
theorem dX5_setRates_55 : decode cX5_setRates 55 = .ok (.iload_n 3, 1) := by decide +kernel
theorem dX5_setRates_56 : decode cX5_setRates 56 = .ok (.ireturn, 1) := by decide +kernel
theorem dX5_hold_0 : decode cX5_hold 0 = .ok (.aload_n 0, 1) := by decide +kernel
theorem dX5_hold_1 : decode cX5_hold 1 = .ok (.iconst 0, 1) := by decide +kernel
theorem dX5_hold_2 : decode cX5_hold 2 = .ok (.putfield 71, 3) := by decide +kernel
theorem dX5_hold_5 : decode cX5_hold 5 = .ok (.aload_n 0, 1) := by decide +kernel
theorem dX5_hold_6 : decode cX5_hold 6 = .ok (.getfield 134, 3) := by decide +kernel
theorem dX5_hold_9 : decode cX5_hold 9 = .ok (.istore_n 2, 1) := by decide +kernel
theorem dX5_hold_10 : decode cX5_hold 10 = .ok (.aload_n 0, 1) := by decide +kernel
theorem dX5_hold_11 : decode cX5_hold 11 = .ok (.iload_n 1, 1) := by decide +kernel
theorem dX5_hold_12 : decode cX5_hold 12 = .ok (.putfield 134, 3) := by decide +kernel
theorem dX5_hold_15 : decode cX5_hold 15 = .ok (.iload_n 2, 1) := by decide +kernel
theorem dX5_hold_16 : decode cX5_hold 16 = .ok (.ireturn, 1) := by decide +kernel
theorem dX5_lacks_0 : decode cX5_lacks 0 = .ok (.iload_n 2, 1) := by decide +kernel
theorem dX5_lacks_1 : decode cX5_lacks 1 = .ok (.aload_n 0, 1) := by decide +kernel
theorem dX5_lacks_2 : decode cX5_lacks 2 = .ok (.getfield 47, 3) := by decide +kernel
theorem dX5_lacks_5 : decode cX5_lacks 5 = .ok (.iload_n 1, 1) := by decide +kernel
theorem dX5_lacks_6 : decode cX5_lacks 6 = .ok (.iaload, 1) := by decide +kernel
theorem dX5_lacks_7 : decode cX5_lacks 7 = .ok (.if_icmp .le 14, 3) := by decide +kernel
theorem dX5_lacks_10 : decode cX5_lacks 10 = .ok (.iload_n 2, 1) := by decide +kernel
theorem dX5_lacks_11 : decode cX5_lacks 11 = .ok (.aload_n 0, 1) := by decide +kernel
theorem dX5_lacks_12 : decode cX5_lacks 12 = .ok (.getfield 47, 3) := by decide +kernel
theorem dX5_lacks_15 : decode cX5_lacks 15 = .ok (.iload_n 1, 1) := by decide +kernel
theorem dX5_lacks_16 : decode cX5_lacks 16 = .ok (.iaload, 1) := by decide +kernel
theorem dX5_lacks_17 : decode cX5_lacks 17 = .ok (.isub, 1) := by decide +kernel
theorem dX5_lacks_18 : decode cX5_lacks 18 = .ok (.goto 4, 3) := by decide +kernel
theorem dX5_lacks_21 : decode cX5_lacks 21 = .ok (.iconst 0, 1) := by decide +kernel
theorem dX5_lacks_22 : decode cX5_lacks 22 = .ok (.ireturn, 1) := by decide +kernel
theorem dX5_pays_0 : decode cX5_pays 0 = .ok (.aload_n 0, 1) := by decide +kernel
theorem dX5_pays_1 : decode cX5_pays 1 = .ok (.iload_n 1, 1) := by decide +kernel
theorem dX5_pays_2 : decode cX5_pays 2 = .ok (.iload_n 2, 1) := by decide +kernel
theorem dX5_pays_3 : decode cX5_pays 3 = .ok (.invokevirtual 137, 3) := by decide +kernel
theorem dX5_pays_6 : decode cX5_pays 6 = .ok (.istore_n 3, 1) := by decide +kernel
theorem dX5_pays_7 : decode cX5_pays 7 = .ok (.aload_n 0, 1) := by decide +kernel
theorem dX5_pays_8 : decode cX5_pays 8 = .ok (.getfield 47, 3) := by decide +kernel
theorem dX5_pays_11 : decode cX5_pays 11 = .ok (.iload_n 1, 1) := by decide +kernel
theorem dX5_pays_12 : decode cX5_pays 12 = .ok (.dup2, 1) := by decide +kernel
theorem dX5_pays_13 : decode cX5_pays 13 = .ok (.iaload, 1) := by decide +kernel
theorem dX5_pays_14 : decode cX5_pays 14 = .ok (.iload_n 2, 1) := by decide +kernel
theorem dX5_pays_15 : decode cX5_pays 15 = .ok (.iload_n 3, 1) := by decide +kernel
theorem dX5_pays_16 : decode cX5_pays 16 = .ok (.isub, 1) := by decide +kernel
theorem dX5_pays_17 : decode cX5_pays 17 = .ok (.isub, 1) := by decide +kernel
theorem dX5_pays_18 : decode cX5_pays 18 = .ok (.iastore, 1) := by decide +kernel
theorem dX5_pays_19 : decode cX5_pays 19 = .ok (.aload_n 0, 1) := by decide +kernel
theorem dX5_pays_20 : decode cX5_pays 20 = .ok (.dup, 1) := by decide +kernel
theorem dX5_pays_21 : decode cX5_pays 21 = .ok (.getfield 141, 3) := by decide +kernel
theorem dX5_pays_24 : decode cX5_pays 24 = .ok (.iload_n 3, 1) := by decide +kernel
theorem dX5_pays_25 : decode cX5_pays 25 = .ok (.isub, 1) := by decide +kernel
theorem dX5_pays_26 : decode cX5_pays 26 = .ok (.putfield 141, 3) := by decide +kernel
theorem dX5_pays_29 : decode cX5_pays 29 = .ok (.aload_n 0, 1) := by decide +kernel
theorem dX5_pays_30 : decode cX5_pays 30 = .ok (.dup, 1) := by decide +kernel
theorem dX5_pays_31 : decode cX5_pays 31 = .ok (.getfield 144, 3) := by decide +kernel
theorem dX5_pays_34 : decode cX5_pays 34 = .ok (.iload_n 2, 1) := by decide +kernel
theorem dX5_pays_35 : decode cX5_pays 35 = .ok (.iadd, 1) := by decide +kernel
theorem dX5_pays_36 : decode cX5_pays 36 = .ok (.putfield 144, 3) := by decide +kernel
theorem dX5_pays_39 : decode cX5_pays 39 = .ok (.aload_n 0, 1) := by decide +kernel
theorem dX5_pays_40 : decode cX5_pays 40 = .ok (.dup, 1) := by decide +kernel
theorem dX5_pays_41 : decode cX5_pays 41 = .ok (.getfield 147, 3) := by decide +kernel
theorem dX5_pays_44 : decode cX5_pays 44 = .ok (.iload_n 2, 1) := by decide +kernel
theorem dX5_pays_45 : decode cX5_pays 45 = .ok (.iadd, 1) := by decide +kernel
theorem dX5_pays_46 : decode cX5_pays 46 = .ok (.putfield 147, 3) := by decide +kernel
theorem dX5_pays_49 : decode cX5_pays 49 = .ok (.return_, 1) := by decide +kernel
theorem dX5_shoot_0 : decode cX5_shoot 0 = .ok (.aload_n 0, 1) := by decide +kernel
theorem dX5_shoot_1 : decode cX5_shoot 1 = .ok (.invokevirtual 150, 3) := by decide +kernel
theorem dX5_shoot_4 : decode cX5_shoot 4 = .ok (.aload_n 0, 1) := by decide +kernel
theorem dX5_shoot_5 : decode cX5_shoot 5 = .ok (.getfield 81, 3) := by decide +kernel
theorem dX5_shoot_8 : decode cX5_shoot 8 = .ok (.istore_n 2, 1) := by decide +kernel
theorem dX5_shoot_9 : decode cX5_shoot 9 = .ok (.iconst 0, 1) := by decide +kernel
theorem dX5_shoot_10 : decode cX5_shoot 10 = .ok (.istore_n 3, 1) := by decide +kernel
theorem dX5_shoot_11 : decode cX5_shoot 11 = .ok (.iconst 0, 1) := by decide +kernel
theorem dX5_shoot_12 : decode cX5_shoot 12 = .ok (.istore 4, 2) := by decide +kernel
theorem dX5_shoot_14 : decode cX5_shoot 14 = .ok (.iload 4, 2) := by decide +kernel
theorem dX5_shoot_16 : decode cX5_shoot 16 = .ok (.aload_n 0, 1) := by decide +kernel
theorem dX5_shoot_17 : decode cX5_shoot 17 = .ok (.getfield 100, 3) := by decide +kernel
theorem dX5_shoot_20 : decode cX5_shoot 20 = .ok (.if_icmp .ge 112, 3) := by decide +kernel
theorem dX5_shoot_23 : decode cX5_shoot 23 = .ok (.aload_n 0, 1) := by decide +kernel
theorem dX5_shoot_24 : decode cX5_shoot 24 = .ok (.getfield 35, 3) := by decide +kernel
theorem dX5_shoot_27 : decode cX5_shoot 27 = .ok (.iload 4, 2) := by decide +kernel
theorem dX5_shoot_29 : decode cX5_shoot 29 = .ok (.iaload, 1) := by decide +kernel
theorem dX5_shoot_30 : decode cX5_shoot 30 = .ok (.istore 5, 2) := by decide +kernel
theorem dX5_shoot_32 : decode cX5_shoot 32 = .ok (.iload_n 1, 1) := by decide +kernel
theorem dX5_shoot_33 : decode cX5_shoot 33 = .ok (.ifCond .eq 32, 3) := by decide +kernel
theorem dX5_shoot_36 : decode cX5_shoot 36 = .ok (.aload_n 0, 1) := by decide +kernel
theorem dX5_shoot_37 : decode cX5_shoot 37 = .ok (.getfield 134, 3) := by decide +kernel
theorem dX5_shoot_40 : decode cX5_shoot 40 = .ok (.ifCond .ne 25, 3) := by decide +kernel
theorem dX5_shoot_43 : decode cX5_shoot 43 = .ok (.aload_n 0, 1) := by decide +kernel
theorem dX5_shoot_44 : decode cX5_shoot 44 = .ok (.getfield 128, 3) := by decide +kernel
theorem dX5_shoot_47 : decode cX5_shoot 47 = .ok (.aload_n 0, 1) := by decide +kernel
theorem dX5_shoot_48 : decode cX5_shoot 48 = .ok (.getfield 13, 3) := by decide +kernel
theorem dX5_shoot_51 : decode cX5_shoot 51 = .ok (.iload 5, 2) := by decide +kernel
theorem dX5_shoot_53 : decode cX5_shoot 53 = .ok (.iaload, 1) := by decide +kernel
theorem dX5_shoot_54 : decode cX5_shoot 54 = .ok (.ishr, 1) := by decide +kernel
theorem dX5_shoot_55 : decode cX5_shoot 55 = .ok (.iconst 1, 1) := by decide +kernel
theorem dX5_shoot_56 : decode cX5_shoot 56 = .ok (.iand, 1) := by decide +kernel
theorem dX5_shoot_57 : decode cX5_shoot 57 = .ok (.iconst 1, 1) := by decide +kernel
theorem dX5_shoot_58 : decode cX5_shoot 58 = .ok (.if_icmp .ne 7, 3) := by decide +kernel
theorem dX5_shoot_61 : decode cX5_shoot 61 = .ok (.iconst 1, 1) := by decide +kernel
theorem dX5_shoot_62 : decode cX5_shoot 62 = .ok (.goto 4, 3) := by decide +kernel
theorem dX5_shoot_65 : decode cX5_shoot 65 = .ok (.iconst 0, 1) := by decide +kernel
theorem dX5_shoot_66 : decode cX5_shoot 66 = .ok (.istore 6, 2) := by decide +kernel
theorem dX5_shoot_68 : decode cX5_shoot 68 = .ok (.aload_n 0, 1) := by decide +kernel
theorem dX5_shoot_69 : decode cX5_shoot 69 = .ok (.getfield 38, 3) := by decide +kernel
theorem dX5_shoot_72 : decode cX5_shoot 72 = .ok (.iload 4, 2) := by decide +kernel
theorem dX5_shoot_74 : decode cX5_shoot 74 = .ok (.iaload, 1) := by decide +kernel
theorem dX5_shoot_75 : decode cX5_shoot 75 = .ok (.bipush 24, 2) := by decide +kernel
theorem dX5_shoot_77 : decode cX5_shoot 77 = .ok (.idiv, 1) := by decide +kernel
theorem dX5_shoot_78 : decode cX5_shoot 78 = .ok (.aload_n 0, 1) := by decide +kernel
theorem dX5_shoot_79 : decode cX5_shoot 79 = .ok (.getfield 91, 3) := by decide +kernel
theorem dX5_shoot_82 : decode cX5_shoot 82 = .ok (.if_icmp .ne 44, 3) := by decide +kernel
theorem dX5_shoot_85 : decode cX5_shoot 85 = .ok (.iload 6, 2) := by decide +kernel
theorem dX5_shoot_87 : decode cX5_shoot 87 = .ok (.ifCond .ne 39, 3) := by decide +kernel
theorem dX5_shoot_90 : decode cX5_shoot 90 = .ok (.aload_n 0, 1) := by decide +kernel
theorem dX5_shoot_91 : decode cX5_shoot 91 = .ok (.getfield 22, 3) := by decide +kernel
theorem dX5_shoot_94 : decode cX5_shoot 94 = .ok (.iload 5, 2) := by decide +kernel
theorem dX5_shoot_96 : decode cX5_shoot 96 = .ok (.iaload, 1) := by decide +kernel
theorem dX5_shoot_97 : decode cX5_shoot 97 = .ok (.iload_n 2, 1) := by decide +kernel
theorem dX5_shoot_98 : decode cX5_shoot 98 = .ok (.iconst (-1), 1) := by decide +kernel
theorem dX5_shoot_99 : decode cX5_shoot 99 = .ok (.ixor, 1) := by decide +kernel
theorem dX5_shoot_100 : decode cX5_shoot 100 = .ok (.iand, 1) := by decide +kernel
theorem dX5_shoot_101 : decode cX5_shoot 101 = .ok (.ifCond .ne 25, 3) := by decide +kernel
theorem dX5_shoot_104 : decode cX5_shoot 104 = .ok (.iload_n 2, 1) := by decide +kernel
theorem dX5_shoot_105 : decode cX5_shoot 105 = .ok (.iconst 1, 1) := by decide +kernel
theorem dX5_shoot_106 : decode cX5_shoot 106 = .ok (.iload 5, 2) := by decide +kernel
theorem dX5_shoot_108 : decode cX5_shoot 108 = .ok (.ishl, 1) := by decide +kernel
theorem dX5_shoot_109 : decode cX5_shoot 109 = .ok (.ior, 1) := by decide +kernel
theorem dX5_shoot_110 : decode cX5_shoot 110 = .ok (.istore_n 2, 1) := by decide +kernel
theorem dX5_shoot_111 : decode cX5_shoot 111 = .ok (.iload_n 3, 1) := by decide +kernel
theorem dX5_shoot_112 : decode cX5_shoot 112 = .ok (.aload_n 0, 1) := by decide +kernel
theorem dX5_shoot_113 : decode cX5_shoot 113 = .ok (.getfield 7, 3) := by decide +kernel
theorem dX5_shoot_116 : decode cX5_shoot 116 = .ok (.iload 5, 2) := by decide +kernel
theorem dX5_shoot_118 : decode cX5_shoot 118 = .ok (.iaload, 1) := by decide +kernel
theorem dX5_shoot_119 : decode cX5_shoot 119 = .ok (.aload_n 0, 1) := by decide +kernel
theorem dX5_shoot_120 : decode cX5_shoot 120 = .ok (.getfield 28, 3) := by decide +kernel
theorem dX5_shoot_123 : decode cX5_shoot 123 = .ok (.imul, 1) := by decide +kernel
theorem dX5_shoot_124 : decode cX5_shoot 124 = .ok (.iadd, 1) := by decide +kernel
theorem dX5_shoot_125 : decode cX5_shoot 125 = .ok (.istore_n 3, 1) := by decide +kernel
theorem dX5_shoot_126 : decode cX5_shoot 126 = .ok (.iinc 4 1, 3) := by decide +kernel
theorem dX5_shoot_129 : decode cX5_shoot 129 = .ok (.goto (-115), 3) := by decide +kernel
theorem dX5_shoot_132 : decode cX5_shoot 132 = .ok (.aload_n 0, 1) := by decide +kernel
theorem dX5_shoot_133 : decode cX5_shoot 133 = .ok (.getfield 134, 3) := by decide +kernel
theorem dX5_shoot_136 : decode cX5_shoot 136 = .ok (.ifCond .eq 10, 3) := by decide +kernel
theorem dX5_shoot_139 : decode cX5_shoot 139 = .ok (.aload_n 0, 1) := by decide +kernel
theorem dX5_shoot_140 : decode cX5_shoot 140 = .ok (.getfield 32, 3) := by decide +kernel
theorem dX5_shoot_143 : decode cX5_shoot 143 = .ok (.goto 4, 3) := by decide +kernel
theorem dX5_shoot_146 : decode cX5_shoot 146 = .ok (.iconst 0, 1) := by decide +kernel
theorem dX5_shoot_147 : decode cX5_shoot 147 = .ok (.istore 4, 2) := by decide +kernel
theorem dX5_shoot_149 : decode cX5_shoot 149 = .ok (.aload_n 0, 1) := by decide +kernel
theorem dX5_shoot_150 : decode cX5_shoot 150 = .ok (.aload_n 0, 1) := by decide +kernel
theorem dX5_shoot_151 : decode cX5_shoot 151 = .ok (.iconst 0, 1) := by decide +kernel
theorem dX5_shoot_152 : decode cX5_shoot 152 = .ok (.iload_n 3, 1) := by decide +kernel
theorem dX5_shoot_153 : decode cX5_shoot 153 = .ok (.invokevirtual 137, 3) := by decide +kernel
theorem dX5_shoot_156 : decode cX5_shoot 156 = .ok (.aload_n 0, 1) := by decide +kernel
theorem dX5_shoot_157 : decode cX5_shoot 157 = .ok (.iconst 1, 1) := by decide +kernel
theorem dX5_shoot_158 : decode cX5_shoot 158 = .ok (.iload 4, 2) := by decide +kernel
theorem dX5_shoot_160 : decode cX5_shoot 160 = .ok (.invokevirtual 137, 3) := by decide +kernel
theorem dX5_shoot_163 : decode cX5_shoot 163 = .ok (.iadd, 1) := by decide +kernel
theorem dX5_shoot_164 : decode cX5_shoot 164 = .ok (.aload_n 0, 1) := by decide +kernel
theorem dX5_shoot_165 : decode cX5_shoot 165 = .ok (.getfield 141, 3) := by decide +kernel
theorem dX5_shoot_168 : decode cX5_shoot 168 = .ok (.if_icmp .gt 13, 3) := by decide +kernel
theorem dX5_shoot_171 : decode cX5_shoot 171 = .ok (.aload_n 0, 1) := by decide +kernel
theorem dX5_shoot_172 : decode cX5_shoot 172 = .ok (.getfield 91, 3) := by decide +kernel
theorem dX5_shoot_175 : decode cX5_shoot 175 = .ok (.sipush 1000, 3) := by decide +kernel
theorem dX5_shoot_178 : decode cX5_shoot 178 = .ok (.if_icmp .ne 7, 3) := by decide +kernel
theorem dX5_shoot_181 : decode cX5_shoot 181 = .ok (.iconst 1, 1) := by decide +kernel
theorem dX5_shoot_182 : decode cX5_shoot 182 = .ok (.goto 4, 3) := by decide +kernel
theorem dX5_shoot_185 : decode cX5_shoot 185 = .ok (.iconst 0, 1) := by decide +kernel
theorem dX5_shoot_186 : decode cX5_shoot 186 = .ok (.putfield 71, 3) := by decide +kernel
theorem dX5_shoot_189 : decode cX5_shoot 189 = .ok (.aload_n 0, 1) := by decide +kernel
theorem dX5_shoot_190 : decode cX5_shoot 190 = .ok (.getfield 71, 3) := by decide +kernel
theorem dX5_shoot_193 : decode cX5_shoot 193 = .ok (.ifCond .le 5, 3) := by decide +kernel
theorem dX5_shoot_196 : decode cX5_shoot 196 = .ok (.iconst 0, 1) := by decide +kernel
theorem dX5_shoot_197 : decode cX5_shoot 197 = .ok (.ireturn, 1) := by decide +kernel
theorem dX5_shoot_198 : decode cX5_shoot 198 = .ok (.aload_n 0, 1) := by decide +kernel
theorem dX5_shoot_199 : decode cX5_shoot 199 = .ok (.iconst 0, 1) := by decide +kernel
theorem dX5_shoot_200 : decode cX5_shoot 200 = .ok (.iload_n 3, 1) := by decide +kernel
theorem dX5_shoot_201 : decode cX5_shoot 201 = .ok (.invokevirtual 153, 3) := by decide +kernel
theorem dX5_shoot_204 : decode cX5_shoot 204 = .ok (.aload_n 0, 1) := by decide +kernel
theorem dX5_shoot_205 : decode cX5_shoot 205 = .ok (.iconst 1, 1) := by decide +kernel
theorem dX5_shoot_206 : decode cX5_shoot 206 = .ok (.iload 4, 2) := by decide +kernel
theorem dX5_shoot_208 : decode cX5_shoot 208 = .ok (.invokevirtual 153, 3) := by decide +kernel
theorem dX5_shoot_211 : decode cX5_shoot 211 = .ok (.iconst 0, 1) := by decide +kernel
theorem dX5_shoot_212 : decode cX5_shoot 212 = .ok (.istore 5, 2) := by decide +kernel
theorem dX5_shoot_214 : decode cX5_shoot 214 = .ok (.iconst 0, 1) := by decide +kernel
theorem dX5_shoot_215 : decode cX5_shoot 215 = .ok (.istore 6, 2) := by decide +kernel
theorem dX5_shoot_217 : decode cX5_shoot 217 = .ok (.iload 6, 2) := by decide +kernel
theorem dX5_shoot_219 : decode cX5_shoot 219 = .ok (.aload_n 0, 1) := by decide +kernel
theorem dX5_shoot_220 : decode cX5_shoot 220 = .ok (.getfield 100, 3) := by decide +kernel
theorem dX5_shoot_223 : decode cX5_shoot 223 = .ok (.if_icmp .ge 52, 3) := by decide +kernel
theorem dX5_shoot_226 : decode cX5_shoot 226 = .ok (.iload_n 2, 1) := by decide +kernel
theorem dX5_shoot_227 : decode cX5_shoot 227 = .ok (.aload_n 0, 1) := by decide +kernel
theorem dX5_shoot_228 : decode cX5_shoot 228 = .ok (.getfield 81, 3) := by decide +kernel
theorem dX5_shoot_231 : decode cX5_shoot 231 = .ok (.iconst (-1), 1) := by decide +kernel
theorem dX5_shoot_232 : decode cX5_shoot 232 = .ok (.ixor, 1) := by decide +kernel
theorem dX5_shoot_233 : decode cX5_shoot 233 = .ok (.iand, 1) := by decide +kernel
theorem dX5_shoot_234 : decode cX5_shoot 234 = .ok (.iconst 1, 1) := by decide +kernel
theorem dX5_shoot_235 : decode cX5_shoot 235 = .ok (.aload_n 0, 1) := by decide +kernel
theorem dX5_shoot_236 : decode cX5_shoot 236 = .ok (.getfield 35, 3) := by decide +kernel
theorem dX5_shoot_239 : decode cX5_shoot 239 = .ok (.iload 6, 2) := by decide +kernel
theorem dX5_shoot_241 : decode cX5_shoot 241 = .ok (.iaload, 1) := by decide +kernel
theorem dX5_shoot_242 : decode cX5_shoot 242 = .ok (.ishl, 1) := by decide +kernel
theorem dX5_shoot_243 : decode cX5_shoot 243 = .ok (.iand, 1) := by decide +kernel
theorem dX5_shoot_244 : decode cX5_shoot 244 = .ok (.ifCond .eq 25, 3) := by decide +kernel
theorem dX5_shoot_247 : decode cX5_shoot 247 = .ok (.aload_n 0, 1) := by decide +kernel
theorem dX5_shoot_248 : decode cX5_shoot 248 = .ok (.getfield 25, 3) := by decide +kernel
theorem dX5_shoot_251 : decode cX5_shoot 251 = .ok (.aload_n 0, 1) := by decide +kernel
theorem dX5_shoot_252 : decode cX5_shoot 252 = .ok (.getfield 35, 3) := by decide +kernel
theorem dX5_shoot_255 : decode cX5_shoot 255 = .ok (.iload 6, 2) := by decide +kernel
theorem dX5_shoot_257 : decode cX5_shoot 257 = .ok (.iaload, 1) := by decide +kernel
theorem dX5_shoot_258 : decode cX5_shoot 258 = .ok (.aload_n 0, 1) := by decide +kernel
theorem dX5_shoot_259 : decode cX5_shoot 259 = .ok (.getfield 38, 3) := by decide +kernel
theorem dX5_shoot_262 : decode cX5_shoot 262 = .ok (.iload 6, 2) := by decide +kernel
theorem dX5_shoot_264 : decode cX5_shoot 264 = .ok (.iaload, 1) := by decide +kernel
theorem dX5_shoot_265 : decode cX5_shoot 265 = .ok (.iastore, 1) := by decide +kernel
theorem dX5_shoot_266 : decode cX5_shoot 266 = .ok (.iinc 5 1, 3) := by decide +kernel
theorem dX5_shoot_269 : decode cX5_shoot 269 = .ok (.iinc 6 1, 3) := by decide +kernel
theorem dX5_shoot_272 : decode cX5_shoot 272 = .ok (.goto (-55), 3) := by decide +kernel
theorem dX5_shoot_275 : decode cX5_shoot 275 = .ok (.aload_n 0, 1) := by decide +kernel
theorem dX5_shoot_276 : decode cX5_shoot 276 = .ok (.iload_n 2, 1) := by decide +kernel
theorem dX5_shoot_277 : decode cX5_shoot 277 = .ok (.putfield 81, 3) := by decide +kernel
theorem dX5_shoot_280 : decode cX5_shoot 280 = .ok (.aload_n 0, 1) := by decide +kernel
theorem dX5_shoot_281 : decode cX5_shoot 281 = .ok (.dup, 1) := by decide +kernel
theorem dX5_shoot_282 : decode cX5_shoot 282 = .ok (.getfield 91, 3) := by decide +kernel
theorem dX5_shoot_285 : decode cX5_shoot 285 = .ok (.iconst 1, 1) := by decide +kernel
theorem dX5_shoot_286 : decode cX5_shoot 286 = .ok (.iadd, 1) := by decide +kernel
theorem dX5_shoot_287 : decode cX5_shoot 287 = .ok (.putfield 91, 3) := by decide +kernel
theorem dX5_shoot_290 : decode cX5_shoot 290 = .ok (.aload_n 0, 1) := by decide +kernel
theorem dX5_shoot_291 : decode cX5_shoot 291 = .ok (.iconst 1, 1) := by decide +kernel
theorem dX5_shoot_292 : decode cX5_shoot 292 = .ok (.putfield 118, 3) := by decide +kernel
theorem dX5_shoot_295 : decode cX5_shoot 295 = .ok (.iload 5, 2) := by decide +kernel
theorem dX5_shoot_297 : decode cX5_shoot 297 = .ok (.ireturn, 1) := by decide +kernel
theorem dX5_isLine_0 : decode cX5_isLine 0 = .ok (.aload_n 0, 1) := by decide +kernel
theorem dX5_isLine_1 : decode cX5_isLine 1 = .ok (.iload_n 1, 1) := by decide +kernel
theorem dX5_isLine_2 : decode cX5_isLine 2 = .ok (.invokestatic 125, 3) := by decide +kernel
theorem dX5_isLine_5 : decode cX5_isLine 5 = .ok (.ifCond .eq 7, 3) := by decide +kernel
theorem dX5_isLine_8 : decode cX5_isLine 8 = .ok (.iconst 0, 1) := by decide +kernel
theorem dX5_isLine_9 : decode cX5_isLine 9 = .ok (.goto 4, 3) := by decide +kernel
theorem dX5_isLine_12 : decode cX5_isLine 12 = .ok (.iconst 1, 1) := by decide +kernel
theorem dX5_isLine_13 : decode cX5_isLine 13 = .ok (.putfield 71, 3) := by decide +kernel
theorem dX5_isLine_16 : decode cX5_isLine 16 = .ok (.aload_n 0, 1) := by decide +kernel
theorem dX5_isLine_17 : decode cX5_isLine 17 = .ok (.getfield 71, 3) := by decide +kernel
theorem dX5_isLine_20 : decode cX5_isLine 20 = .ok (.ifCond .ne 7, 3) := by decide +kernel
theorem dX5_isLine_23 : decode cX5_isLine 23 = .ok (.iconst 1, 1) := by decide +kernel
theorem dX5_isLine_24 : decode cX5_isLine 24 = .ok (.goto 4, 3) := by decide +kernel
theorem dX5_isLine_27 : decode cX5_isLine 27 = .ok (.iconst 0, 1) := by decide +kernel
theorem dX5_isLine_28 : decode cX5_isLine 28 = .ok (.ireturn, 1) := by decide +kernel
theorem dX5_isMoney_0 : decode cX5_isMoney 0 = .ok (.iload_n 0, 1) := by decide +kernel
theorem dX5_isMoney_1 : decode cX5_isMoney 1 = .ok (.iconst 1, 1) := by decide +kernel
theorem dX5_isMoney_2 : decode cX5_isMoney 2 = .ok (.ldc 157, 2) := by decide +kernel
theorem dX5_isMoney_4 : decode cX5_isMoney 4 = .ok (.invokestatic 74, 3) := by decide +kernel
theorem dX5_isMoney_7 : decode cX5_isMoney 7 = .ok (.ireturn, 1) := by decide +kernel
theorem dX5_approve_0 : decode cX5_approve 0 = .ok (.aload_n 0, 1) := by decide +kernel
theorem dX5_approve_1 : decode cX5_approve 1 = .ok (.iload_n 1, 1) := by decide +kernel
theorem dX5_approve_2 : decode cX5_approve 2 = .ok (.invokestatic 125, 3) := by decide +kernel
theorem dX5_approve_5 : decode cX5_approve 5 = .ok (.ifCond .ne 7, 3) := by decide +kernel
theorem dX5_approve_8 : decode cX5_approve 8 = .ok (.iconst 1, 1) := by decide +kernel
theorem dX5_approve_9 : decode cX5_approve 9 = .ok (.goto 15, 3) := by decide +kernel
theorem dX5_approve_12 : decode cX5_approve 12 = .ok (.iload_n 2, 1) := by decide +kernel
theorem dX5_approve_13 : decode cX5_approve 13 = .ok (.invokestatic 158, 3) := by decide +kernel
theorem dX5_approve_16 : decode cX5_approve 16 = .ok (.ifCond .eq 7, 3) := by decide +kernel
theorem dX5_approve_19 : decode cX5_approve 19 = .ok (.iconst 0, 1) := by decide +kernel
theorem dX5_approve_20 : decode cX5_approve 20 = .ok (.goto 4, 3) := by decide +kernel
theorem dX5_approve_23 : decode cX5_approve 23 = .ok (.iconst 2, 1) := by decide +kernel
theorem dX5_approve_24 : decode cX5_approve 24 = .ok (.putfield 71, 3) := by decide +kernel
theorem dX5_approve_27 : decode cX5_approve 27 = .ok (.aload_n 0, 1) := by decide +kernel
theorem dX5_approve_28 : decode cX5_approve 28 = .ok (.getfield 71, 3) := by decide +kernel
theorem dX5_approve_31 : decode cX5_approve 31 = .ok (.ifCond .le 5, 3) := by decide +kernel
theorem dX5_approve_34 : decode cX5_approve 34 = .ok (.iconst 0, 1) := by decide +kernel
theorem dX5_approve_35 : decode cX5_approve 35 = .ok (.ireturn, 1) := by decide +kernel
theorem dX5_approve_36 : decode cX5_approve 36 = .ok (.aload_n 0, 1) := by decide +kernel
theorem dX5_approve_37 : decode cX5_approve 37 = .ok (.getfield 47, 3) := by decide +kernel
theorem dX5_approve_40 : decode cX5_approve 40 = .ok (.iload_n 1, 1) := by decide +kernel
theorem dX5_approve_41 : decode cX5_approve 41 = .ok (.dup2, 1) := by decide +kernel
theorem dX5_approve_42 : decode cX5_approve 42 = .ok (.iaload, 1) := by decide +kernel
theorem dX5_approve_43 : decode cX5_approve 43 = .ok (.iload_n 2, 1) := by decide +kernel
theorem dX5_approve_44 : decode cX5_approve 44 = .ok (.iadd, 1) := by decide +kernel
theorem dX5_approve_45 : decode cX5_approve 45 = .ok (.iastore, 1) := by decide +kernel
theorem dX5_approve_46 : decode cX5_approve 46 = .ok (.aload_n 0, 1) := by decide +kernel
theorem dX5_approve_47 : decode cX5_approve 47 = .ok (.getfield 47, 3) := by decide +kernel
theorem dX5_approve_50 : decode cX5_approve 50 = .ok (.iload_n 1, 1) := by decide +kernel
theorem dX5_approve_51 : decode cX5_approve 51 = .ok (.iaload, 1) := by decide +kernel
theorem dX5_approve_52 : decode cX5_approve 52 = .ok (.ireturn, 1) := by decide +kernel
theorem dX5_grant_0 : decode cX5_grant 0 = .ok (.aload_n 0, 1) := by decide +kernel
theorem dX5_grant_1 : decode cX5_grant 1 = .ok (.iload_n 1, 1) := by decide +kernel
theorem dX5_grant_2 : decode cX5_grant 2 = .ok (.invokestatic 158, 3) := by decide +kernel
theorem dX5_grant_5 : decode cX5_grant 5 = .ok (.ifCond .eq 7, 3) := by decide +kernel
theorem dX5_grant_8 : decode cX5_grant 8 = .ok (.iconst 0, 1) := by decide +kernel
theorem dX5_grant_9 : decode cX5_grant 9 = .ok (.goto 4, 3) := by decide +kernel
theorem dX5_grant_12 : decode cX5_grant 12 = .ok (.iconst 1, 1) := by decide +kernel
theorem dX5_grant_13 : decode cX5_grant 13 = .ok (.putfield 71, 3) := by decide +kernel
theorem dX5_grant_16 : decode cX5_grant 16 = .ok (.aload_n 0, 1) := by decide +kernel
theorem dX5_grant_17 : decode cX5_grant 17 = .ok (.getfield 71, 3) := by decide +kernel
theorem dX5_grant_20 : decode cX5_grant 20 = .ok (.ifCond .le 5, 3) := by decide +kernel
theorem dX5_grant_23 : decode cX5_grant 23 = .ok (.iconst 0, 1) := by decide +kernel
theorem dX5_grant_24 : decode cX5_grant 24 = .ok (.ireturn, 1) := by decide +kernel
theorem dX5_grant_25 : decode cX5_grant 25 = .ok (.aload_n 0, 1) := by decide +kernel
theorem dX5_grant_26 : decode cX5_grant 26 = .ok (.dup, 1) := by decide +kernel
theorem dX5_grant_27 : decode cX5_grant 27 = .ok (.getfield 141, 3) := by decide +kernel
theorem dX5_grant_30 : decode cX5_grant 30 = .ok (.iload_n 1, 1) := by decide +kernel
theorem dX5_grant_31 : decode cX5_grant 31 = .ok (.iadd, 1) := by decide +kernel
theorem dX5_grant_32 : decode cX5_grant 32 = .ok (.putfield 141, 3) := by decide +kernel
theorem dX5_grant_35 : decode cX5_grant 35 = .ok (.aload_n 0, 1) := by decide +kernel
theorem dX5_grant_36 : decode cX5_grant 36 = .ok (.getfield 141, 3) := by decide +kernel
theorem dX5_grant_39 : decode cX5_grant 39 = .ok (.ireturn, 1) := by decide +kernel
theorem dX5_bill_0 : decode cX5_bill 0 = .ok (.aload_n 0, 1) := by decide +kernel
theorem dX5_bill_1 : decode cX5_bill 1 = .ok (.iload_n 1, 1) := by decide +kernel
theorem dX5_bill_2 : decode cX5_bill 2 = .ok (.invokestatic 125, 3) := by decide +kernel
theorem dX5_bill_5 : decode cX5_bill 5 = .ok (.ifCond .ne 7, 3) := by decide +kernel
theorem dX5_bill_8 : decode cX5_bill 8 = .ok (.iconst 1, 1) := by decide +kernel
theorem dX5_bill_9 : decode cX5_bill 9 = .ok (.goto 15, 3) := by decide +kernel
theorem dX5_bill_12 : decode cX5_bill 12 = .ok (.iload_n 2, 1) := by decide +kernel
theorem dX5_bill_13 : decode cX5_bill 13 = .ok (.invokestatic 158, 3) := by decide +kernel
theorem dX5_bill_16 : decode cX5_bill 16 = .ok (.ifCond .eq 7, 3) := by decide +kernel
theorem dX5_bill_19 : decode cX5_bill 19 = .ok (.iconst 0, 1) := by decide +kernel
theorem dX5_bill_20 : decode cX5_bill 20 = .ok (.goto 4, 3) := by decide +kernel
theorem dX5_bill_23 : decode cX5_bill 23 = .ok (.iconst 2, 1) := by decide +kernel
theorem dX5_bill_24 : decode cX5_bill 24 = .ok (.putfield 71, 3) := by decide +kernel
theorem dX5_bill_27 : decode cX5_bill 27 = .ok (.aload_n 0, 1) := by decide +kernel
theorem dX5_bill_28 : decode cX5_bill 28 = .ok (.getfield 71, 3) := by decide +kernel
theorem dX5_bill_31 : decode cX5_bill 31 = .ok (.ifCond .le 5, 3) := by decide +kernel
theorem dX5_bill_34 : decode cX5_bill 34 = .ok (.iconst 0, 1) := by decide +kernel
theorem dX5_bill_35 : decode cX5_bill 35 = .ok (.ireturn, 1) := by decide +kernel
theorem dX5_bill_36 : decode cX5_bill 36 = .ok (.aload_n 0, 1) := by decide +kernel
theorem dX5_bill_37 : decode cX5_bill 37 = .ok (.iload_n 1, 1) := by decide +kernel
theorem dX5_bill_38 : decode cX5_bill 38 = .ok (.iload_n 2, 1) := by decide +kernel
theorem dX5_bill_39 : decode cX5_bill 39 = .ok (.invokevirtual 137, 3) := by decide +kernel
theorem dX5_bill_42 : decode cX5_bill 42 = .ok (.istore_n 3, 1) := by decide +kernel
theorem dX5_bill_43 : decode cX5_bill 43 = .ok (.aload_n 0, 1) := by decide +kernel
theorem dX5_bill_44 : decode cX5_bill 44 = .ok (.iload_n 3, 1) := by decide +kernel
theorem dX5_bill_45 : decode cX5_bill 45 = .ok (.aload_n 0, 1) := by decide +kernel
theorem dX5_bill_46 : decode cX5_bill 46 = .ok (.getfield 141, 3) := by decide +kernel
theorem dX5_bill_49 : decode cX5_bill 49 = .ok (.if_icmp .le 7, 3) := by decide +kernel
theorem dX5_bill_52 : decode cX5_bill 52 = .ok (.iconst 3, 1) := by decide +kernel
theorem dX5_bill_53 : decode cX5_bill 53 = .ok (.goto 4, 3) := by decide +kernel
theorem dX5_bill_56 : decode cX5_bill 56 = .ok (.iconst 0, 1) := by decide +kernel
theorem dX5_bill_57 : decode cX5_bill 57 = .ok (.putfield 71, 3) := by decide +kernel
theorem dX5_bill_60 : decode cX5_bill 60 = .ok (.aload_n 0, 1) := by decide +kernel
theorem dX5_bill_61 : decode cX5_bill 61 = .ok (.getfield 71, 3) := by decide +kernel
theorem dX5_bill_64 : decode cX5_bill 64 = .ok (.ifCond .le 5, 3) := by decide +kernel
theorem dX5_bill_67 : decode cX5_bill 67 = .ok (.iconst 0, 1) := by decide +kernel
theorem dX5_bill_68 : decode cX5_bill 68 = .ok (.ireturn, 1) := by decide +kernel
theorem dX5_bill_69 : decode cX5_bill 69 = .ok (.aload_n 0, 1) := by decide +kernel
theorem dX5_bill_70 : decode cX5_bill 70 = .ok (.iload_n 1, 1) := by decide +kernel
theorem dX5_bill_71 : decode cX5_bill 71 = .ok (.iload_n 2, 1) := by decide +kernel
theorem dX5_bill_72 : decode cX5_bill 72 = .ok (.invokevirtual 153, 3) := by decide +kernel
theorem dX5_bill_75 : decode cX5_bill 75 = .ok (.iload_n 3, 1) := by decide +kernel
theorem dX5_bill_76 : decode cX5_bill 76 = .ok (.ireturn, 1) := by decide +kernel
theorem dX5_loan_0 : decode cX5_loan 0 = .ok (.aload_n 0, 1) := by decide +kernel
theorem dX5_loan_1 : decode cX5_loan 1 = .ok (.iload_n 1, 1) := by decide +kernel
theorem dX5_loan_2 : decode cX5_loan 2 = .ok (.invokestatic 131, 3) := by decide +kernel
theorem dX5_loan_5 : decode cX5_loan 5 = .ok (.ifCond .ne 7, 3) := by decide +kernel
theorem dX5_loan_8 : decode cX5_loan 8 = .ok (.iconst 1, 1) := by decide +kernel
theorem dX5_loan_9 : decode cX5_loan 9 = .ok (.goto 28, 3) := by decide +kernel
theorem dX5_loan_12 : decode cX5_loan 12 = .ok (.iload_n 2, 1) := by decide +kernel
theorem dX5_loan_13 : decode cX5_loan 13 = .ok (.invokestatic 158, 3) := by decide +kernel
theorem dX5_loan_16 : decode cX5_loan 16 = .ok (.ifCond .ne 7, 3) := by decide +kernel
theorem dX5_loan_19 : decode cX5_loan 19 = .ok (.iconst 2, 1) := by decide +kernel
theorem dX5_loan_20 : decode cX5_loan 20 = .ok (.goto 17, 3) := by decide +kernel
theorem dX5_loan_23 : decode cX5_loan 23 = .ok (.aload_n 0, 1) := by decide +kernel
theorem dX5_loan_24 : decode cX5_loan 24 = .ok (.getfield 161, 3) := by decide +kernel
theorem dX5_loan_27 : decode cX5_loan 27 = .ok (.bipush 10, 2) := by decide +kernel
theorem dX5_loan_29 : decode cX5_loan 29 = .ok (.if_icmp .ne 7, 3) := by decide +kernel
theorem dX5_loan_32 : decode cX5_loan 32 = .ok (.iconst 3, 1) := by decide +kernel
theorem dX5_loan_33 : decode cX5_loan 33 = .ok (.goto 4, 3) := by decide +kernel
theorem dX5_loan_36 : decode cX5_loan 36 = .ok (.iconst 0, 1) := by decide +kernel
theorem dX5_loan_37 : decode cX5_loan 37 = .ok (.putfield 71, 3) := by decide +kernel
theorem dX5_loan_40 : decode cX5_loan 40 = .ok (.aload_n 0, 1) := by decide +kernel
theorem dX5_loan_41 : decode cX5_loan 41 = .ok (.getfield 71, 3) := by decide +kernel
theorem dX5_loan_44 : decode cX5_loan 44 = .ok (.ifCond .le 5, 3) := by decide +kernel
theorem dX5_loan_47 : decode cX5_loan 47 = .ok (.iconst 0, 1) := by decide +kernel
theorem dX5_loan_48 : decode cX5_loan 48 = .ok (.ireturn, 1) := by decide +kernel
theorem dX5_loan_49 : decode cX5_loan 49 = .ok (.aload_n 0, 1) := by decide +kernel
theorem dX5_loan_50 : decode cX5_loan 50 = .ok (.getfield 50, 3) := by decide +kernel
theorem dX5_loan_53 : decode cX5_loan 53 = .ok (.aload_n 0, 1) := by decide +kernel
theorem dX5_loan_54 : decode cX5_loan 54 = .ok (.getfield 161, 3) := by decide +kernel
theorem dX5_loan_57 : decode cX5_loan 57 = .ok (.iload_n 1, 1) := by decide +kernel
theorem dX5_loan_58 : decode cX5_loan 58 = .ok (.iastore, 1) := by decide +kernel
theorem dX5_loan_59 : decode cX5_loan 59 = .ok (.aload_n 0, 1) := by decide +kernel
theorem dX5_loan_60 : decode cX5_loan 60 = .ok (.getfield 53, 3) := by decide +kernel
theorem dX5_loan_63 : decode cX5_loan 63 = .ok (.aload_n 0, 1) := by decide +kernel
theorem dX5_loan_64 : decode cX5_loan 64 = .ok (.getfield 161, 3) := by decide +kernel
theorem dX5_loan_67 : decode cX5_loan 67 = .ok (.iload_n 2, 1) := by decide +kernel
theorem dX5_loan_68 : decode cX5_loan 68 = .ok (.iastore, 1) := by decide +kernel
theorem dX5_loan_69 : decode cX5_loan 69 = .ok (.aload_n 0, 1) := by decide +kernel
theorem dX5_loan_70 : decode cX5_loan 70 = .ok (.dup, 1) := by decide +kernel
theorem dX5_loan_71 : decode cX5_loan 71 = .ok (.getfield 161, 3) := by decide +kernel
theorem dX5_loan_74 : decode cX5_loan 74 = .ok (.iconst 1, 1) := by decide +kernel
theorem dX5_loan_75 : decode cX5_loan 75 = .ok (.iadd, 1) := by decide +kernel
theorem dX5_loan_76 : decode cX5_loan 76 = .ok (.putfield 161, 3) := by decide +kernel
theorem dX5_loan_79 : decode cX5_loan 79 = .ok (.aload_n 0, 1) := by decide +kernel
theorem dX5_loan_80 : decode cX5_loan 80 = .ok (.getfield 161, 3) := by decide +kernel
theorem dX5_loan_83 : decode cX5_loan 83 = .ok (.iconst 1, 1) := by decide +kernel
theorem dX5_loan_84 : decode cX5_loan 84 = .ok (.isub, 1) := by decide +kernel
theorem dX5_loan_85 : decode cX5_loan 85 = .ok (.ireturn, 1) := by decide +kernel
theorem dX5_part_0 : decode cX5_part 0 = .ok (.iload_n 1, 1) := by decide +kernel
theorem dX5_part_1 : decode cX5_part 1 = .ok (.iconst (-1), 1) := by decide +kernel
theorem dX5_part_2 : decode cX5_part 2 = .ok (.if_icmp .eq 17, 3) := by decide +kernel
theorem dX5_part_5 : decode cX5_part 5 = .ok (.iload_n 1, 1) := by decide +kernel
theorem dX5_part_6 : decode cX5_part 6 = .ok (.iconst 0, 1) := by decide +kernel
theorem dX5_part_7 : decode cX5_part 7 = .ok (.aload_n 0, 1) := by decide +kernel
theorem dX5_part_8 : decode cX5_part 8 = .ok (.getfield 164, 3) := by decide +kernel
theorem dX5_part_11 : decode cX5_part 11 = .ok (.iconst 1, 1) := by decide +kernel
theorem dX5_part_12 : decode cX5_part 12 = .ok (.isub, 1) := by decide +kernel
theorem dX5_part_13 : decode cX5_part 13 = .ok (.invokestatic 74, 3) := by decide +kernel
theorem dX5_part_16 : decode cX5_part 16 = .ok (.ifCond .eq 7, 3) := by decide +kernel
theorem dX5_part_19 : decode cX5_part 19 = .ok (.iconst 1, 1) := by decide +kernel
theorem dX5_part_20 : decode cX5_part 20 = .ok (.goto 4, 3) := by decide +kernel
theorem dX5_part_23 : decode cX5_part 23 = .ok (.iconst 0, 1) := by decide +kernel
theorem dX5_part_24 : decode cX5_part 24 = .ok (.istore 4, 2) := by decide +kernel
theorem dX5_part_26 : decode cX5_part 26 = .ok (.aload_n 0, 1) := by decide +kernel
theorem dX5_part_27 : decode cX5_part 27 = .ok (.iload 4, 2) := by decide +kernel
theorem dX5_part_29 : decode cX5_part 29 = .ok (.ifCond .eq 10, 3) := by decide +kernel
theorem dX5_part_32 : decode cX5_part 32 = .ok (.iload_n 2, 1) := by decide +kernel
theorem dX5_part_33 : decode cX5_part 33 = .ok (.invokestatic 131, 3) := by decide +kernel
theorem dX5_part_36 : decode cX5_part 36 = .ok (.ifCond .ne 7, 3) := by decide +kernel
theorem dX5_part_39 : decode cX5_part 39 = .ok (.iconst 1, 1) := by decide +kernel
theorem dX5_part_40 : decode cX5_part 40 = .ok (.goto 18, 3) := by decide +kernel
theorem dX5_part_43 : decode cX5_part 43 = .ok (.iload_n 3, 1) := by decide +kernel
theorem dX5_part_44 : decode cX5_part 44 = .ok (.iconst 1, 1) := by decide +kernel
theorem dX5_part_45 : decode cX5_part 45 = .ok (.bipush 100, 2) := by decide +kernel
theorem dX5_part_47 : decode cX5_part 47 = .ok (.invokestatic 74, 3) := by decide +kernel
theorem dX5_part_50 : decode cX5_part 50 = .ok (.ifCond .eq 7, 3) := by decide +kernel
theorem dX5_part_53 : decode cX5_part 53 = .ok (.iconst 0, 1) := by decide +kernel
theorem dX5_part_54 : decode cX5_part 54 = .ok (.goto 4, 3) := by decide +kernel
theorem dX5_part_57 : decode cX5_part 57 = .ok (.iconst 2, 1) := by decide +kernel
theorem dX5_part_58 : decode cX5_part 58 = .ok (.putfield 71, 3) := by decide +kernel
theorem dX5_part_61 : decode cX5_part 61 = .ok (.aload_n 0, 1) := by decide +kernel
theorem dX5_part_62 : decode cX5_part 62 = .ok (.getfield 71, 3) := by decide +kernel
theorem dX5_part_65 : decode cX5_part 65 = .ok (.ifCond .le 5, 3) := by decide +kernel
theorem dX5_part_68 : decode cX5_part 68 = .ok (.iconst 0, 1) := by decide +kernel
theorem dX5_part_69 : decode cX5_part 69 = .ok (.ireturn, 1) := by decide +kernel
theorem dX5_part_70 : decode cX5_part 70 = .ok (.iload_n 3, 1) := by decide +kernel
theorem dX5_part_71 : decode cX5_part 71 = .ok (.istore 5, 2) := by decide +kernel
theorem dX5_part_73 : decode cX5_part 73 = .ok (.iconst 0, 1) := by decide +kernel
theorem dX5_part_74 : decode cX5_part 74 = .ok (.istore 6, 2) := by decide +kernel
theorem dX5_part_76 : decode cX5_part 76 = .ok (.iload 6, 2) := by decide +kernel
theorem dX5_part_78 : decode cX5_part 78 = .ok (.aload_n 0, 1) := by decide +kernel
theorem dX5_part_79 : decode cX5_part 79 = .ok (.getfield 164, 3) := by decide +kernel
theorem dX5_part_82 : decode cX5_part 82 = .ok (.if_icmp .ge 36, 3) := by decide +kernel
theorem dX5_part_85 : decode cX5_part 85 = .ok (.iload 5, 2) := by decide +kernel
theorem dX5_part_87 : decode cX5_part 87 = .ok (.aload_n 0, 1) := by decide +kernel
theorem dX5_part_88 : decode cX5_part 88 = .ok (.getfield 56, 3) := by decide +kernel
theorem dX5_part_91 : decode cX5_part 91 = .ok (.iload 6, 2) := by decide +kernel
theorem dX5_part_93 : decode cX5_part 93 = .ok (.iaload, 1) := by decide +kernel
theorem dX5_part_94 : decode cX5_part 94 = .ok (.iload_n 1, 1) := by decide +kernel
theorem dX5_part_95 : decode cX5_part 95 = .ok (.if_icmp .ne 13, 3) := by decide +kernel
theorem dX5_part_98 : decode cX5_part 98 = .ok (.aload_n 0, 1) := by decide +kernel
theorem dX5_part_99 : decode cX5_part 99 = .ok (.getfield 62, 3) := by decide +kernel
theorem dX5_part_102 : decode cX5_part 102 = .ok (.iload 6, 2) := by decide +kernel
theorem dX5_part_104 : decode cX5_part 104 = .ok (.iaload, 1) := by decide +kernel
theorem dX5_part_105 : decode cX5_part 105 = .ok (.goto 4, 3) := by decide +kernel
theorem dX5_part_108 : decode cX5_part 108 = .ok (.iconst 0, 1) := by decide +kernel
theorem dX5_part_109 : decode cX5_part 109 = .ok (.iadd, 1) := by decide +kernel
theorem dX5_part_110 : decode cX5_part 110 = .ok (.istore 5, 2) := by decide +kernel
theorem dX5_part_112 : decode cX5_part 112 = .ok (.iinc 6 1, 3) := by decide +kernel
theorem dX5_part_115 : decode cX5_part 115 = .ok (.goto (-39), 3) := by decide +kernel
theorem dX5_part_118 : decode cX5_part 118 = .ok (.aload_n 0, 1) := by decide +kernel
theorem dX5_part_119 : decode cX5_part 119 = .ok (.aload_n 0, 1) := by decide +kernel
theorem dX5_part_120 : decode cX5_part 120 = .ok (.getfield 164, 3) := by decide +kernel
theorem dX5_part_123 : decode cX5_part 123 = .ok (.bipush 12, 2) := by decide +kernel
theorem dX5_part_125 : decode cX5_part 125 = .ok (.if_icmp .eq 10, 3) := by decide +kernel
theorem dX5_part_128 : decode cX5_part 128 = .ok (.iload 5, 2) := by decide +kernel
theorem dX5_part_130 : decode cX5_part 130 = .ok (.bipush 100, 2) := by decide +kernel
theorem dX5_part_132 : decode cX5_part 132 = .ok (.if_icmp .le 7, 3) := by decide +kernel
theorem dX5_part_135 : decode cX5_part 135 = .ok (.iconst 3, 1) := by decide +kernel
theorem dX5_part_136 : decode cX5_part 136 = .ok (.goto 4, 3) := by decide +kernel
theorem dX5_part_139 : decode cX5_part 139 = .ok (.iconst 0, 1) := by decide +kernel
theorem dX5_part_140 : decode cX5_part 140 = .ok (.putfield 71, 3) := by decide +kernel
theorem dX5_part_143 : decode cX5_part 143 = .ok (.aload_n 0, 1) := by decide +kernel
theorem dX5_part_144 : decode cX5_part 144 = .ok (.getfield 71, 3) := by decide +kernel
theorem dX5_part_147 : decode cX5_part 147 = .ok (.ifCond .le 5, 3) := by decide +kernel
theorem dX5_part_150 : decode cX5_part 150 = .ok (.iconst 0, 1) := by decide +kernel
theorem dX5_part_151 : decode cX5_part 151 = .ok (.ireturn, 1) := by decide +kernel
theorem dX5_part_152 : decode cX5_part 152 = .ok (.aload_n 0, 1) := by decide +kernel
theorem dX5_part_153 : decode cX5_part 153 = .ok (.getfield 56, 3) := by decide +kernel
theorem dX5_part_156 : decode cX5_part 156 = .ok (.aload_n 0, 1) := by decide +kernel
theorem dX5_part_157 : decode cX5_part 157 = .ok (.getfield 164, 3) := by decide +kernel
theorem dX5_part_160 : decode cX5_part 160 = .ok (.iload_n 1, 1) := by decide +kernel
theorem dX5_part_161 : decode cX5_part 161 = .ok (.iastore, 1) := by decide +kernel
theorem dX5_part_162 : decode cX5_part 162 = .ok (.aload_n 0, 1) := by decide +kernel
theorem dX5_part_163 : decode cX5_part 163 = .ok (.getfield 59, 3) := by decide +kernel
theorem dX5_part_166 : decode cX5_part 166 = .ok (.aload_n 0, 1) := by decide +kernel
theorem dX5_part_167 : decode cX5_part 167 = .ok (.getfield 164, 3) := by decide +kernel
theorem dX5_part_170 : decode cX5_part 170 = .ok (.iload_n 2, 1) := by decide +kernel
theorem dX5_part_171 : decode cX5_part 171 = .ok (.iastore, 1) := by decide +kernel
theorem dX5_part_172 : decode cX5_part 172 = .ok (.aload_n 0, 1) := by decide +kernel
theorem dX5_part_173 : decode cX5_part 173 = .ok (.getfield 62, 3) := by decide +kernel
theorem dX5_part_176 : decode cX5_part 176 = .ok (.aload_n 0, 1) := by decide +kernel
theorem dX5_part_177 : decode cX5_part 177 = .ok (.getfield 164, 3) := by decide +kernel
theorem dX5_part_180 : decode cX5_part 180 = .ok (.iload_n 3, 1) := by decide +kernel
theorem dX5_part_181 : decode cX5_part 181 = .ok (.iastore, 1) := by decide +kernel
theorem dX5_part_182 : decode cX5_part 182 = .ok (.aload_n 0, 1) := by decide +kernel
theorem dX5_part_183 : decode cX5_part 183 = .ok (.dup, 1) := by decide +kernel
theorem dX5_part_184 : decode cX5_part 184 = .ok (.getfield 164, 3) := by decide +kernel
theorem dX5_part_187 : decode cX5_part 187 = .ok (.iconst 1, 1) := by decide +kernel
theorem dX5_part_188 : decode cX5_part 188 = .ok (.iadd, 1) := by decide +kernel
theorem dX5_part_189 : decode cX5_part 189 = .ok (.putfield 164, 3) := by decide +kernel
theorem dX5_part_192 : decode cX5_part 192 = .ok (.aload_n 0, 1) := by decide +kernel
theorem dX5_part_193 : decode cX5_part 193 = .ok (.getfield 164, 3) := by decide +kernel
theorem dX5_part_196 : decode cX5_part 196 = .ok (.iconst 1, 1) := by decide +kernel
theorem dX5_part_197 : decode cX5_part 197 = .ok (.isub, 1) := by decide +kernel
theorem dX5_part_198 : decode cX5_part 198 = .ok (.ireturn, 1) := by decide +kernel
theorem dX5_income_0 : decode cX5_income 0 = .ok (.aload_n 0, 1) := by decide +kernel
theorem dX5_income_1 : decode cX5_income 1 = .ok (.iload_n 1, 1) := by decide +kernel
theorem dX5_income_2 : decode cX5_income 2 = .ok (.iconst 1, 1) := by decide +kernel
theorem dX5_income_3 : decode cX5_income 3 = .ok (.ldc 103, 2) := by decide +kernel
theorem dX5_income_5 : decode cX5_income 5 = .ok (.invokestatic 74, 3) := by decide +kernel
theorem dX5_income_8 : decode cX5_income 8 = .ok (.ifCond .eq 7, 3) := by decide +kernel
theorem dX5_income_11 : decode cX5_income 11 = .ok (.iconst 0, 1) := by decide +kernel
theorem dX5_income_12 : decode cX5_income 12 = .ok (.goto 4, 3) := by decide +kernel
theorem dX5_income_15 : decode cX5_income 15 = .ok (.iconst 1, 1) := by decide +kernel
theorem dX5_income_16 : decode cX5_income 16 = .ok (.putfield 71, 3) := by decide +kernel
theorem dX5_income_19 : decode cX5_income 19 = .ok (.aload_n 0, 1) := by decide +kernel
theorem dX5_income_20 : decode cX5_income 20 = .ok (.getfield 71, 3) := by decide +kernel
theorem dX5_income_23 : decode cX5_income 23 = .ok (.ifCond .le 5, 3) := by decide +kernel
theorem dX5_income_26 : decode cX5_income 26 = .ok (.iconst 0, 1) := by decide +kernel
theorem dX5_income_27 : decode cX5_income 27 = .ok (.ireturn, 1) := by decide +kernel
theorem dX5_income_28 : decode cX5_income 28 = .ok (.aload_n 0, 1) := by decide +kernel
theorem dX5_income_29 : decode cX5_income 29 = .ok (.getfield 147, 3) := by decide +kernel
theorem dX5_income_32 : decode cX5_income 32 = .ok (.iload_n 1, 1) := by decide +kernel
theorem dX5_income_33 : decode cX5_income 33 = .ok (.if_icmp .ge 10, 3) := by decide +kernel
theorem dX5_income_36 : decode cX5_income 36 = .ok (.aload_n 0, 1) := by decide +kernel
theorem dX5_income_37 : decode cX5_income 37 = .ok (.getfield 147, 3) := by decide +kernel
theorem dX5_income_40 : decode cX5_income 40 = .ok (.goto 4, 3) := by decide +kernel
theorem dX5_income_43 : decode cX5_income 43 = .ok (.iload_n 1, 1) := by decide +kernel
theorem dX5_income_44 : decode cX5_income 44 = .ok (.istore_n 2, 1) := by decide +kernel
theorem dX5_income_45 : decode cX5_income 45 = .ok (.aload_n 0, 1) := by decide +kernel
theorem dX5_income_46 : decode cX5_income 46 = .ok (.dup, 1) := by decide +kernel
theorem dX5_income_47 : decode cX5_income 47 = .ok (.getfield 147, 3) := by decide +kernel
theorem dX5_income_50 : decode cX5_income 50 = .ok (.iload_n 2, 1) := by decide +kernel
theorem dX5_income_51 : decode cX5_income 51 = .ok (.isub, 1) := by decide +kernel
theorem dX5_income_52 : decode cX5_income 52 = .ok (.putfield 147, 3) := by decide +kernel
theorem dX5_income_55 : decode cX5_income 55 = .ok (.iload_n 1, 1) := by decide +kernel
theorem dX5_income_56 : decode cX5_income 56 = .ok (.iload_n 2, 1) := by decide +kernel
theorem dX5_income_57 : decode cX5_income 57 = .ok (.isub, 1) := by decide +kernel
theorem dX5_income_58 : decode cX5_income 58 = .ok (.istore_n 3, 1) := by decide +kernel
theorem dX5_income_59 : decode cX5_income 59 = .ok (.iconst 0, 1) := by decide +kernel
theorem dX5_income_60 : decode cX5_income 60 = .ok (.istore 4, 2) := by decide +kernel
theorem dX5_income_62 : decode cX5_income 62 = .ok (.iload 4, 2) := by decide +kernel
theorem dX5_income_64 : decode cX5_income 64 = .ok (.aload_n 0, 1) := by decide +kernel
theorem dX5_income_65 : decode cX5_income 65 = .ok (.getfield 161, 3) := by decide +kernel
theorem dX5_income_68 : decode cX5_income 68 = .ok (.if_icmp .ge 67, 3) := by decide +kernel
theorem dX5_income_71 : decode cX5_income 71 = .ok (.aload_n 0, 1) := by decide +kernel
theorem dX5_income_72 : decode cX5_income 72 = .ok (.getfield 53, 3) := by decide +kernel
theorem dX5_income_75 : decode cX5_income 75 = .ok (.iload 4, 2) := by decide +kernel
theorem dX5_income_77 : decode cX5_income 77 = .ok (.iaload, 1) := by decide +kernel
theorem dX5_income_78 : decode cX5_income 78 = .ok (.iload_n 3, 1) := by decide +kernel
theorem dX5_income_79 : decode cX5_income 79 = .ok (.if_icmp .ge 13, 3) := by decide +kernel
theorem dX5_income_82 : decode cX5_income 82 = .ok (.aload_n 0, 1) := by decide +kernel
theorem dX5_income_83 : decode cX5_income 83 = .ok (.getfield 53, 3) := by decide +kernel
theorem dX5_income_86 : decode cX5_income 86 = .ok (.iload 4, 2) := by decide +kernel
theorem dX5_income_88 : decode cX5_income 88 = .ok (.iaload, 1) := by decide +kernel
theorem dX5_income_89 : decode cX5_income 89 = .ok (.goto 4, 3) := by decide +kernel
theorem dX5_income_92 : decode cX5_income 92 = .ok (.iload_n 3, 1) := by decide +kernel
theorem dX5_income_93 : decode cX5_income 93 = .ok (.istore 5, 2) := by decide +kernel
theorem dX5_income_95 : decode cX5_income 95 = .ok (.aload_n 0, 1) := by decide +kernel
theorem dX5_income_96 : decode cX5_income 96 = .ok (.getfield 53, 3) := by decide +kernel
theorem dX5_income_99 : decode cX5_income 99 = .ok (.iload 4, 2) := by decide +kernel
theorem dX5_income_101 : decode cX5_income 101 = .ok (.dup2, 1) := by decide +kernel
theorem dX5_income_102 : decode cX5_income 102 = .ok (.iaload, 1) := by decide +kernel
theorem dX5_income_103 : decode cX5_income 103 = .ok (.iload 5, 2) := by decide +kernel
theorem dX5_income_105 : decode cX5_income 105 = .ok (.isub, 1) := by decide +kernel
theorem dX5_income_106 : decode cX5_income 106 = .ok (.iastore, 1) := by decide +kernel
theorem dX5_income_107 : decode cX5_income 107 = .ok (.aload_n 0, 1) := by decide +kernel
theorem dX5_income_108 : decode cX5_income 108 = .ok (.getfield 68, 3) := by decide +kernel
theorem dX5_income_111 : decode cX5_income 111 = .ok (.aload_n 0, 1) := by decide +kernel
theorem dX5_income_112 : decode cX5_income 112 = .ok (.getfield 50, 3) := by decide +kernel
theorem dX5_income_115 : decode cX5_income 115 = .ok (.iload 4, 2) := by decide +kernel
theorem dX5_income_117 : decode cX5_income 117 = .ok (.iaload, 1) := by decide +kernel
theorem dX5_income_118 : decode cX5_income 118 = .ok (.dup2, 1) := by decide +kernel
theorem dX5_income_119 : decode cX5_income 119 = .ok (.iaload, 1) := by decide +kernel
theorem dX5_income_120 : decode cX5_income 120 = .ok (.iload 5, 2) := by decide +kernel
theorem dX5_income_122 : decode cX5_income 122 = .ok (.iadd, 1) := by decide +kernel
theorem dX5_income_123 : decode cX5_income 123 = .ok (.iastore, 1) := by decide +kernel
theorem dX5_income_124 : decode cX5_income 124 = .ok (.iload_n 3, 1) := by decide +kernel
theorem dX5_income_125 : decode cX5_income 125 = .ok (.iload 5, 2) := by decide +kernel
theorem dX5_income_127 : decode cX5_income 127 = .ok (.isub, 1) := by decide +kernel
theorem dX5_income_128 : decode cX5_income 128 = .ok (.istore_n 3, 1) := by decide +kernel
theorem dX5_income_129 : decode cX5_income 129 = .ok (.iinc 4 1, 3) := by decide +kernel
theorem dX5_income_132 : decode cX5_income 132 = .ok (.goto (-70), 3) := by decide +kernel
theorem dX5_income_135 : decode cX5_income 135 = .ok (.aload_n 0, 1) := by decide +kernel
theorem dX5_income_136 : decode cX5_income 136 = .ok (.dup, 1) := by decide +kernel
theorem dX5_income_137 : decode cX5_income 137 = .ok (.getfield 167, 3) := by decide +kernel
theorem dX5_income_140 : decode cX5_income 140 = .ok (.iload_n 3, 1) := by decide +kernel
theorem dX5_income_141 : decode cX5_income 141 = .ok (.iadd, 1) := by decide +kernel
theorem dX5_income_142 : decode cX5_income 142 = .ok (.putfield 167, 3) := by decide +kernel
theorem dX5_income_145 : decode cX5_income 145 = .ok (.iconst 0, 1) := by decide +kernel
theorem dX5_income_146 : decode cX5_income 146 = .ok (.istore 4, 2) := by decide +kernel
theorem dX5_income_148 : decode cX5_income 148 = .ok (.iload 4, 2) := by decide +kernel
theorem dX5_income_150 : decode cX5_income 150 = .ok (.aload_n 0, 1) := by decide +kernel
theorem dX5_income_151 : decode cX5_income 151 = .ok (.getfield 164, 3) := by decide +kernel
theorem dX5_income_154 : decode cX5_income 154 = .ok (.if_icmp .ge 131, 3) := by decide +kernel
theorem dX5_income_157 : decode cX5_income 157 = .ok (.aload_n 0, 1) := by decide +kernel
theorem dX5_income_158 : decode cX5_income 158 = .ok (.getfield 65, 3) := by decide +kernel
theorem dX5_income_161 : decode cX5_income 161 = .ok (.iload 4, 2) := by decide +kernel
theorem dX5_income_163 : decode cX5_income 163 = .ok (.aload_n 0, 1) := by decide +kernel
theorem dX5_income_164 : decode cX5_income 164 = .ok (.getfield 56, 3) := by decide +kernel
theorem dX5_income_167 : decode cX5_income 167 = .ok (.iload 4, 2) := by decide +kernel
theorem dX5_income_169 : decode cX5_income 169 = .ok (.iaload, 1) := by decide +kernel
theorem dX5_income_170 : decode cX5_income 170 = .ok (.ifCond .ge 7, 3) := by decide +kernel
theorem dX5_income_173 : decode cX5_income 173 = .ok (.iload_n 3, 1) := by decide +kernel
theorem dX5_income_174 : decode cX5_income 174 = .ok (.goto 15, 3) := by decide +kernel
theorem dX5_income_177 : decode cX5_income 177 = .ok (.aload_n 0, 1) := by decide +kernel
theorem dX5_income_178 : decode cX5_income 178 = .ok (.getfield 65, 3) := by decide +kernel
theorem dX5_income_181 : decode cX5_income 181 = .ok (.aload_n 0, 1) := by decide +kernel
theorem dX5_income_182 : decode cX5_income 182 = .ok (.getfield 56, 3) := by decide +kernel
theorem dX5_income_185 : decode cX5_income 185 = .ok (.iload 4, 2) := by decide +kernel
theorem dX5_income_187 : decode cX5_income 187 = .ok (.iaload, 1) := by decide +kernel
theorem dX5_income_188 : decode cX5_income 188 = .ok (.iaload, 1) := by decide +kernel
theorem dX5_income_189 : decode cX5_income 189 = .ok (.aload_n 0, 1) := by decide +kernel
theorem dX5_income_190 : decode cX5_income 190 = .ok (.getfield 62, 3) := by decide +kernel
theorem dX5_income_193 : decode cX5_income 193 = .ok (.iload 4, 2) := by decide +kernel
theorem dX5_income_195 : decode cX5_income 195 = .ok (.iaload, 1) := by decide +kernel
theorem dX5_income_196 : decode cX5_income 196 = .ok (.imul, 1) := by decide +kernel
theorem dX5_income_197 : decode cX5_income 197 = .ok (.bipush 100, 2) := by decide +kernel
theorem dX5_income_199 : decode cX5_income 199 = .ok (.idiv, 1) := by decide +kernel
theorem dX5_income_200 : decode cX5_income 200 = .ok (.iastore, 1) := by decide +kernel
theorem dX5_income_201 : decode cX5_income 201 = .ok (.aload_n 0, 1) := by decide +kernel
theorem dX5_income_202 : decode cX5_income 202 = .ok (.getfield 68, 3) := by decide +kernel
theorem dX5_income_205 : decode cX5_income 205 = .ok (.aload_n 0, 1) := by decide +kernel
theorem dX5_income_206 : decode cX5_income 206 = .ok (.getfield 59, 3) := by decide +kernel
theorem dX5_income_209 : decode cX5_income 209 = .ok (.iload 4, 2) := by decide +kernel
theorem dX5_income_211 : decode cX5_income 211 = .ok (.iaload, 1) := by decide +kernel
theorem dX5_income_212 : decode cX5_income 212 = .ok (.dup2, 1) := by decide +kernel
theorem dX5_income_213 : decode cX5_income 213 = .ok (.iaload, 1) := by decide +kernel
theorem dX5_income_214 : decode cX5_income 214 = .ok (.aload_n 0, 1) := by decide +kernel
theorem dX5_income_215 : decode cX5_income 215 = .ok (.getfield 65, 3) := by decide +kernel
theorem dX5_income_218 : decode cX5_income 218 = .ok (.iload 4, 2) := by decide +kernel
theorem dX5_income_220 : decode cX5_income 220 = .ok (.iaload, 1) := by decide +kernel
theorem dX5_income_221 : decode cX5_income 221 = .ok (.iadd, 1) := by decide +kernel
theorem dX5_income_222 : decode cX5_income 222 = .ok (.iastore, 1) := by decide +kernel
theorem dX5_income_223 : decode cX5_income 223 = .ok (.aload_n 0, 1) := by decide +kernel
theorem dX5_income_224 : decode cX5_income 224 = .ok (.getfield 56, 3) := by decide +kernel
theorem dX5_income_227 : decode cX5_income 227 = .ok (.iload 4, 2) := by decide +kernel
theorem dX5_income_229 : decode cX5_income 229 = .ok (.iaload, 1) := by decide +kernel
theorem dX5_income_230 : decode cX5_income 230 = .ok (.ifCond .ge 22, 3) := by decide +kernel
theorem dX5_income_233 : decode cX5_income 233 = .ok (.aload_n 0, 1) := by decide +kernel
theorem dX5_income_234 : decode cX5_income 234 = .ok (.dup, 1) := by decide +kernel
theorem dX5_income_235 : decode cX5_income 235 = .ok (.getfield 167, 3) := by decide +kernel
theorem dX5_income_238 : decode cX5_income 238 = .ok (.aload_n 0, 1) := by decide +kernel
theorem dX5_income_239 : decode cX5_income 239 = .ok (.getfield 65, 3) := by decide +kernel
theorem dX5_income_242 : decode cX5_income 242 = .ok (.iload 4, 2) := by decide +kernel
theorem dX5_income_244 : decode cX5_income 244 = .ok (.iaload, 1) := by decide +kernel
theorem dX5_income_245 : decode cX5_income 245 = .ok (.isub, 1) := by decide +kernel
theorem dX5_income_246 : decode cX5_income 246 = .ok (.putfield 167, 3) := by decide +kernel
theorem dX5_income_249 : decode cX5_income 249 = .ok (.goto 30, 3) := by decide +kernel
theorem dX5_income_252 : decode cX5_income 252 = .ok (.aload_n 0, 1) := by decide +kernel
theorem dX5_income_253 : decode cX5_income 253 = .ok (.getfield 68, 3) := by decide +kernel
theorem dX5_income_256 : decode cX5_income 256 = .ok (.aload_n 0, 1) := by decide +kernel
theorem dX5_income_257 : decode cX5_income 257 = .ok (.getfield 59, 3) := by decide +kernel
theorem dX5_income_260 : decode cX5_income 260 = .ok (.aload_n 0, 1) := by decide +kernel
theorem dX5_income_261 : decode cX5_income 261 = .ok (.getfield 56, 3) := by decide +kernel
theorem dX5_income_264 : decode cX5_income 264 = .ok (.iload 4, 2) := by decide +kernel
theorem dX5_income_266 : decode cX5_income 266 = .ok (.iaload, 1) := by decide +kernel
theorem dX5_income_267 : decode cX5_income 267 = .ok (.iaload, 1) := by decide +kernel
theorem dX5_income_268 : decode cX5_income 268 = .ok (.dup2, 1) := by decide +kernel
theorem dX5_income_269 : decode cX5_income 269 = .ok (.iaload, 1) := by decide +kernel
theorem dX5_income_270 : decode cX5_income 270 = .ok (.aload_n 0, 1) := by decide +kernel
theorem dX5_income_271 : decode cX5_income 271 = .ok (.getfield 65, 3) := by decide +kernel
theorem dX5_income_274 : decode cX5_income 274 = .ok (.iload 4, 2) := by decide +kernel
theorem dX5_income_276 : decode cX5_income 276 = .ok (.iaload, 1) := by decide +kernel
theorem dX5_income_277 : decode cX5_income 277 = .ok (.isub, 1) := by decide +kernel
theorem dX5_income_278 : decode cX5_income 278 = .ok (.iastore, 1) := by decide +kernel
theorem dX5_income_279 : decode cX5_income 279 = .ok (.iinc 4 1, 3) := by decide +kernel
theorem dX5_income_282 : decode cX5_income 282 = .ok (.goto (-134), 3) := by decide +kernel
theorem dX5_income_285 : decode cX5_income 285 = .ok (.iload_n 3, 1) := by decide +kernel
theorem dX5_income_286 : decode cX5_income 286 = .ok (.ireturn, 1) := by decide +kernel
theorem dX5_today_0 : decode cX5_today 0 = .ok (.aload_n 0, 1) := by decide +kernel
theorem dX5_today_1 : decode cX5_today 1 = .ok (.iconst 0, 1) := by decide +kernel
theorem dX5_today_2 : decode cX5_today 2 = .ok (.putfield 71, 3) := by decide +kernel
theorem dX5_today_5 : decode cX5_today 5 = .ok (.aload_n 0, 1) := by decide +kernel
theorem dX5_today_6 : decode cX5_today 6 = .ok (.getfield 91, 3) := by decide +kernel
theorem dX5_today_9 : decode cX5_today 9 = .ok (.ireturn, 1) := by decide +kernel
theorem dX5_shot_0 : decode cX5_shot 0 = .ok (.aload_n 0, 1) := by decide +kernel
theorem dX5_shot_1 : decode cX5_shot 1 = .ok (.iconst 0, 1) := by decide +kernel
theorem dX5_shot_2 : decode cX5_shot 2 = .ok (.putfield 71, 3) := by decide +kernel
theorem dX5_shot_5 : decode cX5_shot 5 = .ok (.aload_n 0, 1) := by decide +kernel
theorem dX5_shot_6 : decode cX5_shot 6 = .ok (.getfield 81, 3) := by decide +kernel
theorem dX5_shot_9 : decode cX5_shot 9 = .ok (.ireturn, 1) := by decide +kernel
theorem dX5_days_0 : decode cX5_days 0 = .ok (.aload_n 0, 1) := by decide +kernel
theorem dX5_days_1 : decode cX5_days 1 = .ok (.iconst 0, 1) := by decide +kernel
theorem dX5_days_2 : decode cX5_days 2 = .ok (.putfield 71, 3) := by decide +kernel
theorem dX5_days_5 : decode cX5_days 5 = .ok (.aload_n 0, 1) := by decide +kernel
theorem dX5_days_6 : decode cX5_days 6 = .ok (.invokevirtual 150, 3) := by decide +kernel
theorem dX5_days_9 : decode cX5_days 9 = .ok (.aload_n 0, 1) := by decide +kernel
theorem dX5_days_10 : decode cX5_days 10 = .ok (.getfield 104, 3) := by decide +kernel
theorem dX5_days_13 : decode cX5_days 13 = .ok (.ireturn, 1) := by decide +kernel
theorem dX5_daysByAll_0 : decode cX5_daysByAll 0 = .ok (.aload_n 0, 1) := by decide +kernel
theorem dX5_daysByAll_1 : decode cX5_daysByAll 1 = .ok (.invokevirtual 150, 3) := by decide +kernel
theorem dX5_daysByAll_4 : decode cX5_daysByAll 4 = .ok (.aload_n 0, 1) := by decide +kernel
theorem dX5_daysByAll_5 : decode cX5_daysByAll 5 = .ok (.aload_n 0, 1) := by decide +kernel
theorem dX5_daysByAll_6 : decode cX5_daysByAll 6 = .ok (.getfield 100, 3) := by decide +kernel
theorem dX5_daysByAll_9 : decode cX5_daysByAll 9 = .ok (.bipush 6, 2) := by decide +kernel
theorem dX5_daysByAll_11 : decode cX5_daysByAll 11 = .ok (.if_icmp .le 7, 3) := by decide +kernel
theorem dX5_daysByAll_14 : decode cX5_daysByAll 14 = .ok (.iconst 1, 1) := by decide +kernel
theorem dX5_daysByAll_15 : decode cX5_daysByAll 15 = .ok (.goto 4, 3) := by decide +kernel
theorem dX5_daysByAll_18 : decode cX5_daysByAll 18 = .ok (.iconst 0, 1) := by decide +kernel
theorem dX5_daysByAll_19 : decode cX5_daysByAll 19 = .ok (.putfield 71, 3) := by decide +kernel
theorem dX5_daysByAll_22 : decode cX5_daysByAll 22 = .ok (.aload_n 0, 1) := by decide +kernel
theorem dX5_daysByAll_23 : decode cX5_daysByAll 23 = .ok (.getfield 71, 3) := by decide +kernel
theorem dX5_daysByAll_26 : decode cX5_daysByAll 26 = .ok (.ifCond .le 7, 3) := by decide +kernel
theorem dX5_daysByAll_29 : decode cX5_daysByAll 29 = .ok (.iconst 0, 1) := by decide +kernel
theorem dX5_daysByAll_30 : decode cX5_daysByAll 30 = .ok (.goto 7, 3) := by decide +kernel
theorem dX5_daysByAll_33 : decode cX5_daysByAll 33 = .ok (.aload_n 0, 1) := by decide +kernel
theorem dX5_daysByAll_34 : decode cX5_daysByAll 34 = .ok (.getfield 104, 3) := by decide +kernel
theorem dX5_daysByAll_37 : decode cX5_daysByAll 37 = .ok (.ireturn, 1) := by decide +kernel
theorem dX5_planned_0 : decode cX5_planned 0 = .ok (.aload_n 0, 1) := by decide +kernel
theorem dX5_planned_1 : decode cX5_planned 1 = .ok (.invokevirtual 150, 3) := by decide +kernel
theorem dX5_planned_4 : decode cX5_planned 4 = .ok (.aload_n 0, 1) := by decide +kernel
theorem dX5_planned_5 : decode cX5_planned 5 = .ok (.iload_n 1, 1) := by decide +kernel
theorem dX5_planned_6 : decode cX5_planned 6 = .ok (.iconst 0, 1) := by decide +kernel
theorem dX5_planned_7 : decode cX5_planned 7 = .ok (.aload_n 0, 1) := by decide +kernel
theorem dX5_planned_8 : decode cX5_planned 8 = .ok (.getfield 100, 3) := by decide +kernel
theorem dX5_planned_11 : decode cX5_planned 11 = .ok (.iconst 1, 1) := by decide +kernel
theorem dX5_planned_12 : decode cX5_planned 12 = .ok (.isub, 1) := by decide +kernel
theorem dX5_planned_13 : decode cX5_planned 13 = .ok (.invokestatic 74, 3) := by decide +kernel
theorem dX5_planned_16 : decode cX5_planned 16 = .ok (.ifCond .eq 7, 3) := by decide +kernel
theorem dX5_planned_19 : decode cX5_planned 19 = .ok (.iconst 0, 1) := by decide +kernel
theorem dX5_planned_20 : decode cX5_planned 20 = .ok (.goto 4, 3) := by decide +kernel
theorem dX5_planned_23 : decode cX5_planned 23 = .ok (.iconst 1, 1) := by decide +kernel
theorem dX5_planned_24 : decode cX5_planned 24 = .ok (.putfield 71, 3) := by decide +kernel
theorem dX5_planned_27 : decode cX5_planned 27 = .ok (.aload_n 0, 1) := by decide +kernel
theorem dX5_planned_28 : decode cX5_planned 28 = .ok (.getfield 71, 3) := by decide +kernel
theorem dX5_planned_31 : decode cX5_planned 31 = .ok (.ifCond .le 7, 3) := by decide +kernel
theorem dX5_planned_34 : decode cX5_planned 34 = .ok (.iconst 0, 1) := by decide +kernel
theorem dX5_planned_35 : decode cX5_planned 35 = .ok (.goto 9, 3) := by decide +kernel
theorem dX5_planned_38 : decode cX5_planned 38 = .ok (.aload_n 0, 1) := by decide +kernel
theorem dX5_planned_39 : decode cX5_planned 39 = .ok (.getfield 35, 3) := by decide +kernel
theorem dX5_planned_42 : decode cX5_planned 42 = .ok (.iload_n 1, 1) := by decide +kernel
theorem dX5_planned_43 : decode cX5_planned 43 = .ok (.iaload, 1) := by decide +kernel
theorem dX5_planned_44 : decode cX5_planned 44 = .ok (.ireturn, 1) := by decide +kernel
theorem dX5_begins_0 : decode cX5_begins 0 = .ok (.aload_n 0, 1) := by decide +kernel
theorem dX5_begins_1 : decode cX5_begins 1 = .ok (.invokevirtual 150, 3) := by decide +kernel
theorem dX5_begins_4 : decode cX5_begins 4 = .ok (.aload_n 0, 1) := by decide +kernel
theorem dX5_begins_5 : decode cX5_begins 5 = .ok (.iload_n 1, 1) := by decide +kernel
theorem dX5_begins_6 : decode cX5_begins 6 = .ok (.iconst 0, 1) := by decide +kernel
theorem dX5_begins_7 : decode cX5_begins 7 = .ok (.aload_n 0, 1) := by decide +kernel
theorem dX5_begins_8 : decode cX5_begins 8 = .ok (.getfield 78, 3) := by decide +kernel
theorem dX5_begins_11 : decode cX5_begins 11 = .ok (.iconst 1, 1) := by decide +kernel
theorem dX5_begins_12 : decode cX5_begins 12 = .ok (.isub, 1) := by decide +kernel
theorem dX5_begins_13 : decode cX5_begins 13 = .ok (.invokestatic 74, 3) := by decide +kernel
theorem dX5_begins_16 : decode cX5_begins 16 = .ok (.ifCond .eq 7, 3) := by decide +kernel
theorem dX5_begins_19 : decode cX5_begins 19 = .ok (.iconst 0, 1) := by decide +kernel
theorem dX5_begins_20 : decode cX5_begins 20 = .ok (.goto 4, 3) := by decide +kernel
theorem dX5_begins_23 : decode cX5_begins 23 = .ok (.iconst 1, 1) := by decide +kernel
theorem dX5_begins_24 : decode cX5_begins 24 = .ok (.putfield 71, 3) := by decide +kernel
theorem dX5_begins_27 : decode cX5_begins 27 = .ok (.aload_n 0, 1) := by decide +kernel
theorem dX5_begins_28 : decode cX5_begins 28 = .ok (.getfield 71, 3) := by decide +kernel
theorem dX5_begins_31 : decode cX5_begins 31 = .ok (.ifCond .le 5, 3) := by decide +kernel
theorem dX5_begins_34 : decode cX5_begins 34 = .ok (.iconst 0, 1) := by decide +kernel
theorem dX5_begins_35 : decode cX5_begins 35 = .ok (.ireturn, 1) := by decide +kernel
theorem dX5_begins_36 : decode cX5_begins 36 = .ok (.aload_n 0, 1) := by decide +kernel
theorem dX5_begins_37 : decode cX5_begins 37 = .ok (.getfield 25, 3) := by decide +kernel
theorem dX5_begins_40 : decode cX5_begins 40 = .ok (.iload_n 1, 1) := by decide +kernel
theorem dX5_begins_41 : decode cX5_begins 41 = .ok (.iaload, 1) := by decide +kernel
theorem dX5_begins_42 : decode cX5_begins 42 = .ok (.istore_n 2, 1) := by decide +kernel
theorem dX5_begins_43 : decode cX5_begins 43 = .ok (.iconst 0, 1) := by decide +kernel
theorem dX5_begins_44 : decode cX5_begins 44 = .ok (.istore_n 3, 1) := by decide +kernel
theorem dX5_begins_45 : decode cX5_begins 45 = .ok (.iload_n 3, 1) := by decide +kernel
theorem dX5_begins_46 : decode cX5_begins 46 = .ok (.aload_n 0, 1) := by decide +kernel
theorem dX5_begins_47 : decode cX5_begins 47 = .ok (.getfield 100, 3) := by decide +kernel
theorem dX5_begins_50 : decode cX5_begins 50 = .ok (.if_icmp .ge 30, 3) := by decide +kernel
theorem dX5_begins_53 : decode cX5_begins 53 = .ok (.aload_n 0, 1) := by decide +kernel
theorem dX5_begins_54 : decode cX5_begins 54 = .ok (.getfield 35, 3) := by decide +kernel
theorem dX5_begins_57 : decode cX5_begins 57 = .ok (.iload_n 3, 1) := by decide +kernel
theorem dX5_begins_58 : decode cX5_begins 58 = .ok (.iaload, 1) := by decide +kernel
theorem dX5_begins_59 : decode cX5_begins 59 = .ok (.iload_n 1, 1) := by decide +kernel
theorem dX5_begins_60 : decode cX5_begins 60 = .ok (.if_icmp .ne 12, 3) := by decide +kernel
theorem dX5_begins_63 : decode cX5_begins 63 = .ok (.aload_n 0, 1) := by decide +kernel
theorem dX5_begins_64 : decode cX5_begins 64 = .ok (.getfield 38, 3) := by decide +kernel
theorem dX5_begins_67 : decode cX5_begins 67 = .ok (.iload_n 3, 1) := by decide +kernel
theorem dX5_begins_68 : decode cX5_begins 68 = .ok (.iaload, 1) := by decide +kernel
theorem dX5_begins_69 : decode cX5_begins 69 = .ok (.goto 4, 3) := by decide +kernel
theorem dX5_begins_72 : decode cX5_begins 72 = .ok (.iload_n 2, 1) := by decide +kernel
theorem dX5_begins_73 : decode cX5_begins 73 = .ok (.istore_n 2, 1) := by decide +kernel
theorem dX5_begins_74 : decode cX5_begins 74 = .ok (.iinc 3 1, 3) := by decide +kernel
theorem dX5_begins_77 : decode cX5_begins 77 = .ok (.goto (-32), 3) := by decide +kernel
theorem dX5_begins_80 : decode cX5_begins 80 = .ok (.iload_n 2, 1) := by decide +kernel
theorem dX5_begins_81 : decode cX5_begins 81 = .ok (.ireturn, 1) := by decide +kernel
theorem dX5_left_0 : decode cX5_left 0 = .ok (.aload_n 0, 1) := by decide +kernel
theorem dX5_left_1 : decode cX5_left 1 = .ok (.iload_n 1, 1) := by decide +kernel
theorem dX5_left_2 : decode cX5_left 2 = .ok (.invokevirtual 170, 3) := by decide +kernel
theorem dX5_left_5 : decode cX5_left 5 = .ok (.ifCond .eq 12, 3) := by decide +kernel
theorem dX5_left_8 : decode cX5_left 8 = .ok (.aload_n 0, 1) := by decide +kernel
theorem dX5_left_9 : decode cX5_left 9 = .ok (.getfield 47, 3) := by decide +kernel
theorem dX5_left_12 : decode cX5_left 12 = .ok (.iload_n 1, 1) := by decide +kernel
theorem dX5_left_13 : decode cX5_left 13 = .ok (.iaload, 1) := by decide +kernel
theorem dX5_left_14 : decode cX5_left 14 = .ok (.goto 4, 3) := by decide +kernel
theorem dX5_left_17 : decode cX5_left 17 = .ok (.iconst 0, 1) := by decide +kernel
theorem dX5_left_18 : decode cX5_left 18 = .ok (.ireturn, 1) := by decide +kernel
theorem dX5_fee_0 : decode cX5_fee 0 = .ok (.aload_n 0, 1) := by decide +kernel
theorem dX5_fee_1 : decode cX5_fee 1 = .ok (.iconst 0, 1) := by decide +kernel
theorem dX5_fee_2 : decode cX5_fee 2 = .ok (.putfield 71, 3) := by decide +kernel
theorem dX5_fee_5 : decode cX5_fee 5 = .ok (.aload_n 0, 1) := by decide +kernel
theorem dX5_fee_6 : decode cX5_fee 6 = .ok (.getfield 141, 3) := by decide +kernel
theorem dX5_fee_9 : decode cX5_fee 9 = .ok (.ireturn, 1) := by decide +kernel
theorem dX5_costs_0 : decode cX5_costs 0 = .ok (.aload_n 0, 1) := by decide +kernel
theorem dX5_costs_1 : decode cX5_costs 1 = .ok (.iconst 0, 1) := by decide +kernel
theorem dX5_costs_2 : decode cX5_costs 2 = .ok (.putfield 71, 3) := by decide +kernel
theorem dX5_costs_5 : decode cX5_costs 5 = .ok (.aload_n 0, 1) := by decide +kernel
theorem dX5_costs_6 : decode cX5_costs 6 = .ok (.getfield 144, 3) := by decide +kernel
theorem dX5_costs_9 : decode cX5_costs 9 = .ok (.ireturn, 1) := by decide +kernel
theorem dX5_open_0 : decode cX5_open 0 = .ok (.aload_n 0, 1) := by decide +kernel
theorem dX5_open_1 : decode cX5_open 1 = .ok (.iconst 0, 1) := by decide +kernel
theorem dX5_open_2 : decode cX5_open 2 = .ok (.putfield 71, 3) := by decide +kernel
theorem dX5_open_5 : decode cX5_open 5 = .ok (.aload_n 0, 1) := by decide +kernel
theorem dX5_open_6 : decode cX5_open 6 = .ok (.getfield 147, 3) := by decide +kernel
theorem dX5_open_9 : decode cX5_open 9 = .ok (.ireturn, 1) := by decide +kernel
theorem dX5_openOf_0 : decode cX5_openOf 0 = .ok (.aload_n 0, 1) := by decide +kernel
theorem dX5_openOf_1 : decode cX5_openOf 1 = .ok (.iload_n 1, 1) := by decide +kernel
theorem dX5_openOf_2 : decode cX5_openOf 2 = .ok (.iconst 0, 1) := by decide +kernel
theorem dX5_openOf_3 : decode cX5_openOf 3 = .ok (.aload_n 0, 1) := by decide +kernel
theorem dX5_openOf_4 : decode cX5_openOf 4 = .ok (.getfield 161, 3) := by decide +kernel
theorem dX5_openOf_7 : decode cX5_openOf 7 = .ok (.iconst 1, 1) := by decide +kernel
theorem dX5_openOf_8 : decode cX5_openOf 8 = .ok (.isub, 1) := by decide +kernel
theorem dX5_openOf_9 : decode cX5_openOf 9 = .ok (.invokestatic 74, 3) := by decide +kernel
theorem dX5_openOf_12 : decode cX5_openOf 12 = .ok (.ifCond .eq 7, 3) := by decide +kernel
theorem dX5_openOf_15 : decode cX5_openOf 15 = .ok (.iconst 0, 1) := by decide +kernel
theorem dX5_openOf_16 : decode cX5_openOf 16 = .ok (.goto 4, 3) := by decide +kernel
theorem dX5_openOf_19 : decode cX5_openOf 19 = .ok (.iconst 1, 1) := by decide +kernel
theorem dX5_openOf_20 : decode cX5_openOf 20 = .ok (.putfield 71, 3) := by decide +kernel
theorem dX5_openOf_23 : decode cX5_openOf 23 = .ok (.aload_n 0, 1) := by decide +kernel
theorem dX5_openOf_24 : decode cX5_openOf 24 = .ok (.getfield 71, 3) := by decide +kernel
theorem dX5_openOf_27 : decode cX5_openOf 27 = .ok (.ifCond .le 7, 3) := by decide +kernel
theorem dX5_openOf_30 : decode cX5_openOf 30 = .ok (.iconst 0, 1) := by decide +kernel
theorem dX5_openOf_31 : decode cX5_openOf 31 = .ok (.goto 9, 3) := by decide +kernel
theorem dX5_openOf_34 : decode cX5_openOf 34 = .ok (.aload_n 0, 1) := by decide +kernel
theorem dX5_openOf_35 : decode cX5_openOf 35 = .ok (.getfield 53, 3) := by decide +kernel
theorem dX5_openOf_38 : decode cX5_openOf 38 = .ok (.iload_n 1, 1) := by decide +kernel
theorem dX5_openOf_39 : decode cX5_openOf 39 = .ok (.iaload, 1) := by decide +kernel
theorem dX5_openOf_40 : decode cX5_openOf 40 = .ok (.ireturn, 1) := by decide +kernel
theorem dX5_got_0 : decode cX5_got 0 = .ok (.aload_n 0, 1) := by decide +kernel
theorem dX5_got_1 : decode cX5_got 1 = .ok (.iload_n 1, 1) := by decide +kernel
theorem dX5_got_2 : decode cX5_got 2 = .ok (.invokestatic 131, 3) := by decide +kernel
theorem dX5_got_5 : decode cX5_got 5 = .ok (.ifCond .eq 7, 3) := by decide +kernel
theorem dX5_got_8 : decode cX5_got 8 = .ok (.iconst 0, 1) := by decide +kernel
theorem dX5_got_9 : decode cX5_got 9 = .ok (.goto 4, 3) := by decide +kernel
theorem dX5_got_12 : decode cX5_got 12 = .ok (.iconst 1, 1) := by decide +kernel
theorem dX5_got_13 : decode cX5_got 13 = .ok (.putfield 71, 3) := by decide +kernel
theorem dX5_got_16 : decode cX5_got 16 = .ok (.aload_n 0, 1) := by decide +kernel
theorem dX5_got_17 : decode cX5_got 17 = .ok (.getfield 71, 3) := by decide +kernel
theorem dX5_got_20 : decode cX5_got 20 = .ok (.ifCond .le 7, 3) := by decide +kernel
theorem dX5_got_23 : decode cX5_got 23 = .ok (.iconst 0, 1) := by decide +kernel
theorem dX5_got_24 : decode cX5_got 24 = .ok (.goto 9, 3) := by decide +kernel
theorem dX5_got_27 : decode cX5_got 27 = .ok (.aload_n 0, 1) := by decide +kernel
theorem dX5_got_28 : decode cX5_got 28 = .ok (.getfield 68, 3) := by decide +kernel
theorem dX5_got_31 : decode cX5_got 31 = .ok (.iload_n 1, 1) := by decide +kernel
theorem dX5_got_32 : decode cX5_got 32 = .ok (.iaload, 1) := by decide +kernel
theorem dX5_got_33 : decode cX5_got 33 = .ok (.ireturn, 1) := by decide +kernel
theorem dX5_house_0 : decode cX5_house 0 = .ok (.aload_n 0, 1) := by decide +kernel
theorem dX5_house_1 : decode cX5_house 1 = .ok (.iconst 0, 1) := by decide +kernel
theorem dX5_house_2 : decode cX5_house 2 = .ok (.putfield 71, 3) := by decide +kernel
theorem dX5_house_5 : decode cX5_house 5 = .ok (.aload_n 0, 1) := by decide +kernel
theorem dX5_house_6 : decode cX5_house 6 = .ok (.getfield 167, 3) := by decide +kernel
theorem dX5_house_9 : decode cX5_house 9 = .ok (.ireturn, 1) := by decide +kernel
