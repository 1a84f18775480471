theorem dL_act_0 : decode cL_act 0 = .ok (.iload_n 1, 1) := by decide +kernel
theorem dL_act_1 : decode cL_act 1 = .ok (.ifCond .ne 29, 3) := by decide +kernel
theorem dL_act_4 : decode cL_act 4 = .ok (.aload_n 0, 1) := by decide +kernel
theorem dL_act_5 : decode cL_act 5 = .ok (.iload_n 2, 1) := by decide +kernel
theorem dL_act_6 : decode cL_act 6 = .ok (.iload_n 3, 1) := by decide +kernel
theorem dL_act_7 : decode cL_act 7 = .ok (.iconst 1, 1) := by decide +kernel
theorem dL_act_8 : decode cL_act 8 = .ok (.if_icmp .ne 7, 3) := by decide +kernel
theorem dL_act_11 : decode cL_act 11 = .ok (.iconst 1, 1) := by decide +kernel
theorem dL_act_12 : decode cL_act 12 = .ok (.goto 4, 3) := by decide +kernel
theorem dL_act_15 : decode cL_act 15 = .ok (.iconst 0, 1) := by decide +kernel
theorem dL_act_16 : decode cL_act 16 = .ok (.invokevirtual 7, 3) := by decide +kernel
theorem dL_act_19 : decode cL_act 19 = .ok (.ifCond .eq 7, 3) := by decide +kernel
theorem dL_act_22 : decode cL_act 22 = .ok (.iconst 1, 1) := by decide +kernel
theorem dL_act_23 : decode cL_act 23 = .ok (.goto 236, 3) := by decide +kernel
theorem dL_act_26 : decode cL_act 26 = .ok (.iconst 0, 1) := by decide +kernel
theorem dL_act_27 : decode cL_act 27 = .ok (.goto 232, 3) := by decide +kernel
theorem dL_act_30 : decode cL_act 30 = .ok (.iload_n 1, 1) := by decide +kernel
theorem dL_act_31 : decode cL_act 31 = .ok (.iconst 1, 1) := by decide +kernel
theorem dL_act_32 : decode cL_act 32 = .ok (.if_icmp .ne 29, 3) := by decide +kernel
theorem dL_act_35 : decode cL_act 35 = .ok (.aload_n 0, 1) := by decide +kernel
theorem dL_act_36 : decode cL_act 36 = .ok (.iload_n 2, 1) := by decide +kernel
theorem dL_act_37 : decode cL_act 37 = .ok (.iload_n 3, 1) := by decide +kernel
theorem dL_act_38 : decode cL_act 38 = .ok (.iconst 1, 1) := by decide +kernel
theorem dL_act_39 : decode cL_act 39 = .ok (.if_icmp .ne 7, 3) := by decide +kernel
theorem dL_act_42 : decode cL_act 42 = .ok (.iconst 1, 1) := by decide +kernel
theorem dL_act_43 : decode cL_act 43 = .ok (.goto 4, 3) := by decide +kernel
theorem dL_act_46 : decode cL_act 46 = .ok (.iconst 0, 1) := by decide +kernel
theorem dL_act_47 : decode cL_act 47 = .ok (.invokevirtual 13, 3) := by decide +kernel
theorem dL_act_50 : decode cL_act 50 = .ok (.ifCond .eq 7, 3) := by decide +kernel
theorem dL_act_53 : decode cL_act 53 = .ok (.iconst 1, 1) := by decide +kernel
theorem dL_act_54 : decode cL_act 54 = .ok (.goto 205, 3) := by decide +kernel
theorem dL_act_57 : decode cL_act 57 = .ok (.iconst 0, 1) := by decide +kernel
theorem dL_act_58 : decode cL_act 58 = .ok (.goto 201, 3) := by decide +kernel
theorem dL_act_61 : decode cL_act 61 = .ok (.iload_n 1, 1) := by decide +kernel
theorem dL_act_62 : decode cL_act 62 = .ok (.iconst 2, 1) := by decide +kernel
theorem dL_act_63 : decode cL_act 63 = .ok (.if_icmp .ne 12, 3) := by decide +kernel
theorem dL_act_66 : decode cL_act 66 = .ok (.aload_n 0, 1) := by decide +kernel
theorem dL_act_67 : decode cL_act 67 = .ok (.iload_n 2, 1) := by decide +kernel
theorem dL_act_68 : decode cL_act 68 = .ok (.iload_n 3, 1) := by decide +kernel
theorem dL_act_69 : decode cL_act 69 = .ok (.invokevirtual 16, 3) := by decide +kernel
theorem dL_act_72 : decode cL_act 72 = .ok (.goto 187, 3) := by decide +kernel
theorem dL_act_75 : decode cL_act 75 = .ok (.iload_n 1, 1) := by decide +kernel
theorem dL_act_76 : decode cL_act 76 = .ok (.iconst 3, 1) := by decide +kernel
theorem dL_act_77 : decode cL_act 77 = .ok (.if_icmp .ne 20, 3) := by decide +kernel
theorem dL_act_80 : decode cL_act 80 = .ok (.aload_n 0, 1) := by decide +kernel
theorem dL_act_81 : decode cL_act 81 = .ok (.iload_n 2, 1) := by decide +kernel
theorem dL_act_82 : decode cL_act 82 = .ok (.iconst 1, 1) := by decide +kernel
theorem dL_act_83 : decode cL_act 83 = .ok (.if_icmp .ne 7, 3) := by decide +kernel
theorem dL_act_86 : decode cL_act 86 = .ok (.iconst 1, 1) := by decide +kernel
theorem dL_act_87 : decode cL_act 87 = .ok (.goto 4, 3) := by decide +kernel
theorem dL_act_90 : decode cL_act 90 = .ok (.iconst 0, 1) := by decide +kernel
theorem dL_act_91 : decode cL_act 91 = .ok (.invokevirtual 20, 3) := by decide +kernel
theorem dL_act_94 : decode cL_act 94 = .ok (.goto 165, 3) := by decide +kernel
theorem dL_act_97 : decode cL_act 97 = .ok (.iload_n 1, 1) := by decide +kernel
theorem dL_act_98 : decode cL_act 98 = .ok (.iconst 4, 1) := by decide +kernel
theorem dL_act_99 : decode cL_act 99 = .ok (.if_icmp .ne 12, 3) := by decide +kernel
theorem dL_act_102 : decode cL_act 102 = .ok (.aload_n 0, 1) := by decide +kernel
theorem dL_act_103 : decode cL_act 103 = .ok (.iload_n 2, 1) := by decide +kernel
theorem dL_act_104 : decode cL_act 104 = .ok (.iload_n 3, 1) := by decide +kernel
theorem dL_act_105 : decode cL_act 105 = .ok (.invokevirtual 24, 3) := by decide +kernel
theorem dL_act_108 : decode cL_act 108 = .ok (.goto 151, 3) := by decide +kernel
theorem dL_act_111 : decode cL_act 111 = .ok (.iload_n 1, 1) := by decide +kernel
theorem dL_act_112 : decode cL_act 112 = .ok (.iconst 5, 1) := by decide +kernel
theorem dL_act_113 : decode cL_act 113 = .ok (.if_icmp .ne 11, 3) := by decide +kernel
theorem dL_act_116 : decode cL_act 116 = .ok (.aload_n 0, 1) := by decide +kernel
theorem dL_act_117 : decode cL_act 117 = .ok (.iload_n 2, 1) := by decide +kernel
theorem dL_act_118 : decode cL_act 118 = .ok (.invokevirtual 27, 3) := by decide +kernel
theorem dL_act_121 : decode cL_act 121 = .ok (.goto 138, 3) := by decide +kernel
theorem dL_act_124 : decode cL_act 124 = .ok (.iload_n 1, 1) := by decide +kernel
theorem dL_act_125 : decode cL_act 125 = .ok (.bipush 6, 2) := by decide +kernel
theorem dL_act_127 : decode cL_act 127 = .ok (.if_icmp .ne 12, 3) := by decide +kernel
theorem dL_act_130 : decode cL_act 130 = .ok (.aload_n 0, 1) := by decide +kernel
theorem dL_act_131 : decode cL_act 131 = .ok (.iload_n 2, 1) := by decide +kernel
theorem dL_act_132 : decode cL_act 132 = .ok (.iload_n 3, 1) := by decide +kernel
theorem dL_act_133 : decode cL_act 133 = .ok (.invokevirtual 31, 3) := by decide +kernel
theorem dL_act_136 : decode cL_act 136 = .ok (.goto 123, 3) := by decide +kernel
theorem dL_act_139 : decode cL_act 139 = .ok (.iload_n 1, 1) := by decide +kernel
theorem dL_act_140 : decode cL_act 140 = .ok (.bipush 7, 2) := by decide +kernel
theorem dL_act_142 : decode cL_act 142 = .ok (.if_icmp .ne 12, 3) := by decide +kernel
theorem dL_act_145 : decode cL_act 145 = .ok (.aload_n 0, 1) := by decide +kernel
theorem dL_act_146 : decode cL_act 146 = .ok (.iload_n 2, 1) := by decide +kernel
theorem dL_act_147 : decode cL_act 147 = .ok (.iload_n 3, 1) := by decide +kernel
theorem dL_act_148 : decode cL_act 148 = .ok (.invokevirtual 34, 3) := by decide +kernel
theorem dL_act_151 : decode cL_act 151 = .ok (.goto 108, 3) := by decide +kernel
theorem dL_act_154 : decode cL_act 154 = .ok (.iload_n 1, 1) := by decide +kernel
theorem dL_act_155 : decode cL_act 155 = .ok (.bipush 8, 2) := by decide +kernel
theorem dL_act_157 : decode cL_act 157 = .ok (.if_icmp .ne 14, 3) := by decide +kernel
theorem dL_act_160 : decode cL_act 160 = .ok (.aload_n 0, 1) := by decide +kernel
theorem dL_act_161 : decode cL_act 161 = .ok (.iload_n 2, 1) := by decide +kernel
theorem dL_act_162 : decode cL_act 162 = .ok (.iload_n 3, 1) := by decide +kernel
theorem dL_act_163 : decode cL_act 163 = .ok (.iload 4, 2) := by decide +kernel
theorem dL_act_165 : decode cL_act 165 = .ok (.invokevirtual 37, 3) := by decide +kernel
theorem dL_act_168 : decode cL_act 168 = .ok (.goto 91, 3) := by decide +kernel
theorem dL_act_171 : decode cL_act 171 = .ok (.iload_n 1, 1) := by decide +kernel
theorem dL_act_172 : decode cL_act 172 = .ok (.bipush 9, 2) := by decide +kernel
theorem dL_act_174 : decode cL_act 174 = .ok (.if_icmp .ne 11, 3) := by decide +kernel
theorem dL_act_177 : decode cL_act 177 = .ok (.aload_n 0, 1) := by decide +kernel
theorem dL_act_178 : decode cL_act 178 = .ok (.iload_n 2, 1) := by decide +kernel
theorem dL_act_179 : decode cL_act 179 = .ok (.invokevirtual 41, 3) := by decide +kernel
theorem dL_act_182 : decode cL_act 182 = .ok (.goto 77, 3) := by decide +kernel
theorem dL_act_185 : decode cL_act 185 = .ok (.iload_n 1, 1) := by decide +kernel
theorem dL_act_186 : decode cL_act 186 = .ok (.bipush 10, 2) := by decide +kernel
theorem dL_act_188 : decode cL_act 188 = .ok (.if_icmp .ne 10, 3) := by decide +kernel
theorem dL_act_191 : decode cL_act 191 = .ok (.aload_n 0, 1) := by decide +kernel
theorem dL_act_192 : decode cL_act 192 = .ok (.invokevirtual 44, 3) := by decide +kernel
theorem dL_act_195 : decode cL_act 195 = .ok (.goto 64, 3) := by decide +kernel
theorem dL_act_198 : decode cL_act 198 = .ok (.iload_n 1, 1) := by decide +kernel
theorem dL_act_199 : decode cL_act 199 = .ok (.bipush 11, 2) := by decide +kernel
theorem dL_act_201 : decode cL_act 201 = .ok (.if_icmp .ne 11, 3) := by decide +kernel
theorem dL_act_204 : decode cL_act 204 = .ok (.aload_n 0, 1) := by decide +kernel
theorem dL_act_205 : decode cL_act 205 = .ok (.iload_n 2, 1) := by decide +kernel
theorem dL_act_206 : decode cL_act 206 = .ok (.invokevirtual 48, 3) := by decide +kernel
theorem dL_act_209 : decode cL_act 209 = .ok (.goto 50, 3) := by decide +kernel
theorem dL_act_212 : decode cL_act 212 = .ok (.iload_n 1, 1) := by decide +kernel
theorem dL_act_213 : decode cL_act 213 = .ok (.bipush 12, 2) := by decide +kernel
theorem dL_act_215 : decode cL_act 215 = .ok (.if_icmp .ne 11, 3) := by decide +kernel
theorem dL_act_218 : decode cL_act 218 = .ok (.aload_n 0, 1) := by decide +kernel
theorem dL_act_219 : decode cL_act 219 = .ok (.iload_n 2, 1) := by decide +kernel
theorem dL_act_220 : decode cL_act 220 = .ok (.invokevirtual 51, 3) := by decide +kernel
theorem dL_act_223 : decode cL_act 223 = .ok (.goto 36, 3) := by decide +kernel
theorem dL_act_226 : decode cL_act 226 = .ok (.iload_n 1, 1) := by decide +kernel
theorem dL_act_227 : decode cL_act 227 = .ok (.bipush 13, 2) := by decide +kernel
theorem dL_act_229 : decode cL_act 229 = .ok (.if_icmp .ne 11, 3) := by decide +kernel
theorem dL_act_232 : decode cL_act 232 = .ok (.aload_n 0, 1) := by decide +kernel
theorem dL_act_233 : decode cL_act 233 = .ok (.iload_n 2, 1) := by decide +kernel
theorem dL_act_234 : decode cL_act 234 = .ok (.invokevirtual 54, 3) := by decide +kernel
theorem dL_act_237 : decode cL_act 237 = .ok (.goto 22, 3) := by decide +kernel
theorem dL_act_240 : decode cL_act 240 = .ok (.iload_n 1, 1) := by decide +kernel
theorem dL_act_241 : decode cL_act 241 = .ok (.bipush 14, 2) := by decide +kernel
theorem dL_act_243 : decode cL_act 243 = .ok (.if_icmp .ne 11, 3) := by decide +kernel
theorem dL_act_246 : decode cL_act 246 = .ok (.aload_n 0, 1) := by decide +kernel
theorem dL_act_247 : decode cL_act 247 = .ok (.iload_n 2, 1) := by decide +kernel
theorem dL_act_248 : decode cL_act 248 = .ok (.invokevirtual 57, 3) := by decide +kernel
theorem dL_act_251 : decode cL_act 251 = .ok (.goto 8, 3) := by decide +kernel
theorem dL_act_254 : decode cL_act 254 = .ok (.aload_n 0, 1) := by decide +kernel
theorem dL_act_255 : decode cL_act 255 = .ok (.iload_n 2, 1) := by decide +kernel
theorem dL_act_256 : decode cL_act 256 = .ok (.invokevirtual 60, 3) := by decide +kernel
theorem dL_act_259 : decode cL_act 259 = .ok (.ireturn, 1) := by decide +kernel
theorem dL_act_260 : decode cL_act 260 = .ok (.astore 5, 2) := by decide +kernel
theorem dL_act_262 : decode cL_act 262 = .ok (.bipush (-71), 2) := by decide +kernel
theorem dL_act_264 : decode cL_act 264 = .ok (.ireturn, 1) := by decide +kernel
theorem dL_act_265 : decode cL_act 265 = .ok (.astore 5, 2) := by decide +kernel
theorem dL_act_267 : decode cL_act 267 = .ok (.bipush (-72), 2) := by decide +kernel
theorem dL_act_269 : decode cL_act 269 = .ok (.ireturn, 1) := by decide +kernel
theorem dL_act_270 : decode cL_act 270 = .ok (.astore 5, 2) := by decide +kernel
theorem dL_act_272 : decode cL_act 272 = .ok (.bipush (-73), 2) := by decide +kernel
theorem dL_act_274 : decode cL_act 274 = .ok (.ireturn, 1) := by decide +kernel
theorem dL_scene_0 : decode cL_scene 0 = .ok (.aload_n 0, 1) := by decide +kernel
theorem dL_scene_1 : decode cL_scene 1 = .ok (.iload_n 1, 1) := by decide +kernel
theorem dL_scene_2 : decode cL_scene 2 = .ok (.iload_n 2, 1) := by decide +kernel
theorem dL_scene_3 : decode cL_scene 3 = .ok (.iload_n 3, 1) := by decide +kernel
theorem dL_scene_4 : decode cL_scene 4 = .ok (.iload 4, 2) := by decide +kernel
theorem dL_scene_6 : decode cL_scene 6 = .ok (.iload 5, 2) := by decide +kernel
theorem dL_scene_8 : decode cL_scene 8 = .ok (.invokevirtual 69, 3) := by decide +kernel
theorem dL_scene_11 : decode cL_scene 11 = .ok (.ireturn, 1) := by decide +kernel
theorem dL_scene_12 : decode cL_scene 12 = .ok (.astore 6, 2) := by decide +kernel
theorem dL_scene_14 : decode cL_scene 14 = .ok (.bipush (-72), 2) := by decide +kernel
theorem dL_scene_16 : decode cL_scene 16 = .ok (.ireturn, 1) := by decide +kernel
theorem dL_scene_17 : decode cL_scene 17 = .ok (.astore 6, 2) := by decide +kernel
theorem dL_scene_19 : decode cL_scene 19 = .ok (.bipush (-73), 2) := by decide +kernel
theorem dL_scene_21 : decode cL_scene 21 = .ok (.ireturn, 1) := by decide +kernel
theorem dL_refuses_0 : decode cL_refuses 0 = .ok (.aload_n 0, 1) := by decide +kernel
theorem dL_refuses_1 : decode cL_refuses 1 = .ok (.invokevirtual 73, 3) := by decide +kernel
theorem dL_refuses_4 : decode cL_refuses 4 = .ok (.istore 5, 2) := by decide +kernel
theorem dL_refuses_6 : decode cL_refuses 6 = .ok (.aload_n 0, 1) := by decide +kernel
theorem dL_refuses_7 : decode cL_refuses 7 = .ok (.invokevirtual 76, 3) := by decide +kernel
theorem dL_refuses_10 : decode cL_refuses 10 = .ok (.istore 6, 2) := by decide +kernel
theorem dL_refuses_12 : decode cL_refuses 12 = .ok (.aload_n 0, 1) := by decide +kernel
theorem dL_refuses_13 : decode cL_refuses 13 = .ok (.invokevirtual 79, 3) := by decide +kernel
theorem dL_refuses_16 : decode cL_refuses 16 = .ok (.istore 7, 2) := by decide +kernel
theorem dL_refuses_18 : decode cL_refuses 18 = .ok (.aload_n 0, 1) := by decide +kernel
theorem dL_refuses_19 : decode cL_refuses 19 = .ok (.invokevirtual 82, 3) := by decide +kernel
theorem dL_refuses_22 : decode cL_refuses 22 = .ok (.istore 8, 2) := by decide +kernel
theorem dL_refuses_24 : decode cL_refuses 24 = .ok (.ldc 85, 2) := by decide +kernel
theorem dL_refuses_26 : decode cL_refuses 26 = .ok (.istore 9, 2) := by decide +kernel
theorem dL_refuses_28 : decode cL_refuses 28 = .ok (.iconst 0, 1) := by decide +kernel
theorem dL_refuses_29 : decode cL_refuses 29 = .ok (.istore 10, 2) := by decide +kernel
theorem dL_refuses_31 : decode cL_refuses 31 = .ok (.iload 10, 2) := by decide +kernel
theorem dL_refuses_33 : decode cL_refuses 33 = .ok (.iconst 4, 1) := by decide +kernel
theorem dL_refuses_34 : decode cL_refuses 34 = .ok (.if_icmp .ge 643, 3) := by decide +kernel
theorem dL_refuses_37 : decode cL_refuses 37 = .ok (.iload 10, 2) := by decide +kernel
theorem dL_refuses_39 : decode cL_refuses 39 = .ok (.ifCond .ne 7, 3) := by decide +kernel
theorem dL_refuses_42 : decode cL_refuses 42 = .ok (.iconst (-1), 1) := by decide +kernel
theorem dL_refuses_43 : decode cL_refuses 43 = .ok (.goto 19, 3) := by decide +kernel
theorem dL_refuses_46 : decode cL_refuses 46 = .ok (.iload 10, 2) := by decide +kernel
theorem dL_refuses_48 : decode cL_refuses 48 = .ok (.iconst 2, 1) := by decide +kernel
theorem dL_refuses_49 : decode cL_refuses 49 = .ok (.if_icmp .ne 8, 3) := by decide +kernel
theorem dL_refuses_52 : decode cL_refuses 52 = .ok (.iload 9, 2) := by decide +kernel
theorem dL_refuses_54 : decode cL_refuses 54 = .ok (.goto 8, 3) := by decide +kernel
theorem dL_refuses_57 : decode cL_refuses 57 = .ok (.iload 9, 2) := by decide +kernel
theorem dL_refuses_59 : decode cL_refuses 59 = .ok (.ineg, 1) := by decide +kernel
theorem dL_refuses_60 : decode cL_refuses 60 = .ok (.iconst 1, 1) := by decide +kernel
theorem dL_refuses_61 : decode cL_refuses 61 = .ok (.isub, 1) := by decide +kernel
theorem dL_refuses_62 : decode cL_refuses 62 = .ok (.istore 11, 2) := by decide +kernel
theorem dL_refuses_64 : decode cL_refuses 64 = .ok (.iload 10, 2) := by decide +kernel
theorem dL_refuses_66 : decode cL_refuses 66 = .ok (.iconst 1, 1) := by decide +kernel
theorem dL_refuses_67 : decode cL_refuses 67 = .ok (.if_icmp .ne 7, 3) := by decide +kernel
theorem dL_refuses_70 : decode cL_refuses 70 = .ok (.iconst 4, 1) := by decide +kernel
theorem dL_refuses_71 : decode cL_refuses 71 = .ok (.goto 5, 3) := by decide +kernel
theorem dL_refuses_74 : decode cL_refuses 74 = .ok (.iload 11, 2) := by decide +kernel
theorem dL_refuses_76 : decode cL_refuses 76 = .ok (.istore 12, 2) := by decide +kernel
theorem dL_refuses_78 : decode cL_refuses 78 = .ok (.iload 10, 2) := by decide +kernel
theorem dL_refuses_80 : decode cL_refuses 80 = .ok (.iconst 1, 1) := by decide +kernel
theorem dL_refuses_81 : decode cL_refuses 81 = .ok (.if_icmp .ne 8, 3) := by decide +kernel
theorem dL_refuses_84 : decode cL_refuses 84 = .ok (.bipush 6, 2) := by decide +kernel
theorem dL_refuses_86 : decode cL_refuses 86 = .ok (.goto 5, 3) := by decide +kernel
theorem dL_refuses_89 : decode cL_refuses 89 = .ok (.iload 11, 2) := by decide +kernel
theorem dL_refuses_91 : decode cL_refuses 91 = .ok (.istore 13, 2) := by decide +kernel
theorem dL_refuses_93 : decode cL_refuses 93 = .ok (.iload 10, 2) := by decide +kernel
theorem dL_refuses_95 : decode cL_refuses 95 = .ok (.iconst 1, 1) := by decide +kernel
theorem dL_refuses_96 : decode cL_refuses 96 = .ok (.if_icmp .ne 9, 3) := by decide +kernel
theorem dL_refuses_99 : decode cL_refuses 99 = .ok (.sipush 1001, 3) := by decide +kernel
theorem dL_refuses_102 : decode cL_refuses 102 = .ok (.goto 5, 3) := by decide +kernel
theorem dL_refuses_105 : decode cL_refuses 105 = .ok (.iload 11, 2) := by decide +kernel
theorem dL_refuses_107 : decode cL_refuses 107 = .ok (.istore 14, 2) := by decide +kernel
theorem dL_refuses_109 : decode cL_refuses 109 = .ok (.iload 10, 2) := by decide +kernel
theorem dL_refuses_111 : decode cL_refuses 111 = .ok (.ifCond .ne 7, 3) := by decide +kernel
theorem dL_refuses_114 : decode cL_refuses 114 = .ok (.iconst 0, 1) := by decide +kernel
theorem dL_refuses_115 : decode cL_refuses 115 = .ok (.goto 16, 3) := by decide +kernel
theorem dL_refuses_118 : decode cL_refuses 118 = .ok (.iload 10, 2) := by decide +kernel
theorem dL_refuses_120 : decode cL_refuses 120 = .ok (.iconst 1, 1) := by decide +kernel
theorem dL_refuses_121 : decode cL_refuses 121 = .ok (.if_icmp .ne 8, 3) := by decide +kernel
theorem dL_refuses_124 : decode cL_refuses 124 = .ok (.ldc 86, 2) := by decide +kernel
theorem dL_refuses_126 : decode cL_refuses 126 = .ok (.goto 5, 3) := by decide +kernel
theorem dL_refuses_129 : decode cL_refuses 129 = .ok (.iload 11, 2) := by decide +kernel
theorem dL_refuses_131 : decode cL_refuses 131 = .ok (.istore 15, 2) := by decide +kernel
theorem dL_refuses_133 : decode cL_refuses 133 = .ok (.aload_n 0, 1) := by decide +kernel
theorem dL_refuses_134 : decode cL_refuses 134 = .ok (.iconst 0, 1) := by decide +kernel
theorem dL_refuses_135 : decode cL_refuses 135 = .ok (.iload 12, 2) := by decide +kernel
theorem dL_refuses_137 : decode cL_refuses 137 = .ok (.iconst 1, 1) := by decide +kernel
theorem dL_refuses_138 : decode cL_refuses 138 = .ok (.iconst 0, 1) := by decide +kernel
theorem dL_refuses_139 : decode cL_refuses 139 = .ok (.invokestatic 87, 3) := by decide +kernel
theorem dL_refuses_142 : decode cL_refuses 142 = .ok (.bipush (-71), 2) := by decide +kernel
theorem dL_refuses_144 : decode cL_refuses 144 = .ok (.if_icmp .ne 377, 3) := by decide +kernel
theorem dL_refuses_147 : decode cL_refuses 147 = .ok (.aload_n 0, 1) := by decide +kernel
theorem dL_refuses_148 : decode cL_refuses 148 = .ok (.iconst 1, 1) := by decide +kernel
theorem dL_refuses_149 : decode cL_refuses 149 = .ok (.iload 13, 2) := by decide +kernel
theorem dL_refuses_151 : decode cL_refuses 151 = .ok (.iconst 1, 1) := by decide +kernel
theorem dL_refuses_152 : decode cL_refuses 152 = .ok (.iconst 0, 1) := by decide +kernel
theorem dL_refuses_153 : decode cL_refuses 153 = .ok (.invokestatic 87, 3) := by decide +kernel
theorem dL_refuses_156 : decode cL_refuses 156 = .ok (.bipush (-71), 2) := by decide +kernel
theorem dL_refuses_158 : decode cL_refuses 158 = .ok (.if_icmp .ne 363, 3) := by decide +kernel
theorem dL_refuses_161 : decode cL_refuses 161 = .ok (.aload_n 0, 1) := by decide +kernel
theorem dL_refuses_162 : decode cL_refuses 162 = .ok (.iconst 2, 1) := by decide +kernel
theorem dL_refuses_163 : decode cL_refuses 163 = .ok (.iload 14, 2) := by decide +kernel
theorem dL_refuses_165 : decode cL_refuses 165 = .ok (.iconst 0, 1) := by decide +kernel
theorem dL_refuses_166 : decode cL_refuses 166 = .ok (.iconst 0, 1) := by decide +kernel
theorem dL_refuses_167 : decode cL_refuses 167 = .ok (.invokestatic 87, 3) := by decide +kernel
theorem dL_refuses_170 : decode cL_refuses 170 = .ok (.bipush (-72), 2) := by decide +kernel
theorem dL_refuses_172 : decode cL_refuses 172 = .ok (.if_icmp .ne 349, 3) := by decide +kernel
theorem dL_refuses_175 : decode cL_refuses 175 = .ok (.aload_n 0, 1) := by decide +kernel
theorem dL_refuses_176 : decode cL_refuses 176 = .ok (.iconst 2, 1) := by decide +kernel
theorem dL_refuses_177 : decode cL_refuses 177 = .ok (.iconst 0, 1) := by decide +kernel
theorem dL_refuses_178 : decode cL_refuses 178 = .ok (.iload 14, 2) := by decide +kernel
theorem dL_refuses_180 : decode cL_refuses 180 = .ok (.iconst 0, 1) := by decide +kernel
theorem dL_refuses_181 : decode cL_refuses 181 = .ok (.invokestatic 87, 3) := by decide +kernel
theorem dL_refuses_184 : decode cL_refuses 184 = .ok (.bipush (-72), 2) := by decide +kernel
theorem dL_refuses_186 : decode cL_refuses 186 = .ok (.if_icmp .ne 335, 3) := by decide +kernel
theorem dL_refuses_189 : decode cL_refuses 189 = .ok (.aload_n 0, 1) := by decide +kernel
theorem dL_refuses_190 : decode cL_refuses 190 = .ok (.iconst 4, 1) := by decide +kernel
theorem dL_refuses_191 : decode cL_refuses 191 = .ok (.iload 12, 2) := by decide +kernel
theorem dL_refuses_193 : decode cL_refuses 193 = .ok (.iconst 0, 1) := by decide +kernel
theorem dL_refuses_194 : decode cL_refuses 194 = .ok (.iconst 0, 1) := by decide +kernel
theorem dL_refuses_195 : decode cL_refuses 195 = .ok (.invokestatic 87, 3) := by decide +kernel
theorem dL_refuses_198 : decode cL_refuses 198 = .ok (.bipush (-71), 2) := by decide +kernel
theorem dL_refuses_200 : decode cL_refuses 200 = .ok (.if_icmp .ne 321, 3) := by decide +kernel
theorem dL_refuses_203 : decode cL_refuses 203 = .ok (.aload_n 0, 1) := by decide +kernel
theorem dL_refuses_204 : decode cL_refuses 204 = .ok (.iconst 4, 1) := by decide +kernel
theorem dL_refuses_205 : decode cL_refuses 205 = .ok (.iconst 0, 1) := by decide +kernel
theorem dL_refuses_206 : decode cL_refuses 206 = .ok (.iload 15, 2) := by decide +kernel
theorem dL_refuses_208 : decode cL_refuses 208 = .ok (.iconst 0, 1) := by decide +kernel
theorem dL_refuses_209 : decode cL_refuses 209 = .ok (.invokestatic 87, 3) := by decide +kernel
theorem dL_refuses_212 : decode cL_refuses 212 = .ok (.bipush (-72), 2) := by decide +kernel
theorem dL_refuses_214 : decode cL_refuses 214 = .ok (.if_icmp .ne 307, 3) := by decide +kernel
theorem dL_refuses_217 : decode cL_refuses 217 = .ok (.aload_n 0, 1) := by decide +kernel
theorem dL_refuses_218 : decode cL_refuses 218 = .ok (.iconst 5, 1) := by decide +kernel
theorem dL_refuses_219 : decode cL_refuses 219 = .ok (.iload 15, 2) := by decide +kernel
theorem dL_refuses_221 : decode cL_refuses 221 = .ok (.iconst 0, 1) := by decide +kernel
theorem dL_refuses_222 : decode cL_refuses 222 = .ok (.iconst 0, 1) := by decide +kernel
theorem dL_refuses_223 : decode cL_refuses 223 = .ok (.invokestatic 87, 3) := by decide +kernel
theorem dL_refuses_226 : decode cL_refuses 226 = .ok (.bipush (-72), 2) := by decide +kernel
theorem dL_refuses_228 : decode cL_refuses 228 = .ok (.if_icmp .ne 293, 3) := by decide +kernel
theorem dL_refuses_231 : decode cL_refuses 231 = .ok (.aload_n 0, 1) := by decide +kernel
theorem dL_refuses_232 : decode cL_refuses 232 = .ok (.bipush 6, 2) := by decide +kernel
theorem dL_refuses_234 : decode cL_refuses 234 = .ok (.iload 12, 2) := by decide +kernel
theorem dL_refuses_236 : decode cL_refuses 236 = .ok (.iconst 0, 1) := by decide +kernel
theorem dL_refuses_237 : decode cL_refuses 237 = .ok (.iconst 0, 1) := by decide +kernel
theorem dL_refuses_238 : decode cL_refuses 238 = .ok (.invokestatic 87, 3) := by decide +kernel
theorem dL_refuses_241 : decode cL_refuses 241 = .ok (.bipush (-71), 2) := by decide +kernel
theorem dL_refuses_243 : decode cL_refuses 243 = .ok (.if_icmp .ne 278, 3) := by decide +kernel
theorem dL_refuses_246 : decode cL_refuses 246 = .ok (.aload_n 0, 1) := by decide +kernel
theorem dL_refuses_247 : decode cL_refuses 247 = .ok (.bipush 6, 2) := by decide +kernel
theorem dL_refuses_249 : decode cL_refuses 249 = .ok (.iconst 0, 1) := by decide +kernel
theorem dL_refuses_250 : decode cL_refuses 250 = .ok (.iload 15, 2) := by decide +kernel
theorem dL_refuses_252 : decode cL_refuses 252 = .ok (.iconst 0, 1) := by decide +kernel
theorem dL_refuses_253 : decode cL_refuses 253 = .ok (.invokestatic 87, 3) := by decide +kernel
theorem dL_refuses_256 : decode cL_refuses 256 = .ok (.bipush (-72), 2) := by decide +kernel
theorem dL_refuses_258 : decode cL_refuses 258 = .ok (.if_icmp .ne 263, 3) := by decide +kernel
theorem dL_refuses_261 : decode cL_refuses 261 = .ok (.aload_n 0, 1) := by decide +kernel
theorem dL_refuses_262 : decode cL_refuses 262 = .ok (.bipush 7, 2) := by decide +kernel
theorem dL_refuses_264 : decode cL_refuses 264 = .ok (.iload 13, 2) := by decide +kernel
theorem dL_refuses_266 : decode cL_refuses 266 = .ok (.iconst 0, 1) := by decide +kernel
theorem dL_refuses_267 : decode cL_refuses 267 = .ok (.iconst 0, 1) := by decide +kernel
theorem dL_refuses_268 : decode cL_refuses 268 = .ok (.invokestatic 87, 3) := by decide +kernel
theorem dL_refuses_271 : decode cL_refuses 271 = .ok (.bipush (-71), 2) := by decide +kernel
theorem dL_refuses_273 : decode cL_refuses 273 = .ok (.if_icmp .ne 248, 3) := by decide +kernel
theorem dL_refuses_276 : decode cL_refuses 276 = .ok (.aload_n 0, 1) := by decide +kernel
theorem dL_refuses_277 : decode cL_refuses 277 = .ok (.bipush 7, 2) := by decide +kernel
theorem dL_refuses_279 : decode cL_refuses 279 = .ok (.iconst 0, 1) := by decide +kernel
theorem dL_refuses_280 : decode cL_refuses 280 = .ok (.iload 15, 2) := by decide +kernel
theorem dL_refuses_282 : decode cL_refuses 282 = .ok (.iconst 0, 1) := by decide +kernel
theorem dL_refuses_283 : decode cL_refuses 283 = .ok (.invokestatic 87, 3) := by decide +kernel
theorem dL_refuses_286 : decode cL_refuses 286 = .ok (.bipush (-72), 2) := by decide +kernel
theorem dL_refuses_288 : decode cL_refuses 288 = .ok (.if_icmp .ne 233, 3) := by decide +kernel
theorem dL_refuses_291 : decode cL_refuses 291 = .ok (.aload_n 0, 1) := by decide +kernel
theorem dL_refuses_292 : decode cL_refuses 292 = .ok (.bipush 8, 2) := by decide +kernel
theorem dL_refuses_294 : decode cL_refuses 294 = .ok (.iload 10, 2) := by decide +kernel
theorem dL_refuses_296 : decode cL_refuses 296 = .ok (.ifCond .ne 8, 3) := by decide +kernel
theorem dL_refuses_299 : decode cL_refuses 299 = .ok (.bipush (-2), 2) := by decide +kernel
theorem dL_refuses_301 : decode cL_refuses 301 = .ok (.goto 16, 3) := by decide +kernel
theorem dL_refuses_304 : decode cL_refuses 304 = .ok (.iload 10, 2) := by decide +kernel
theorem dL_refuses_306 : decode cL_refuses 306 = .ok (.iconst 1, 1) := by decide +kernel
theorem dL_refuses_307 : decode cL_refuses 307 = .ok (.if_icmp .ne 8, 3) := by decide +kernel
theorem dL_refuses_310 : decode cL_refuses 310 = .ok (.iload 4, 2) := by decide +kernel
theorem dL_refuses_312 : decode cL_refuses 312 = .ok (.goto 5, 3) := by decide +kernel
theorem dL_refuses_315 : decode cL_refuses 315 = .ok (.iload 11, 2) := by decide +kernel
theorem dL_refuses_317 : decode cL_refuses 317 = .ok (.iconst 0, 1) := by decide +kernel
theorem dL_refuses_318 : decode cL_refuses 318 = .ok (.iconst 0, 1) := by decide +kernel
theorem dL_refuses_319 : decode cL_refuses 319 = .ok (.invokestatic 87, 3) := by decide +kernel
theorem dL_refuses_322 : decode cL_refuses 322 = .ok (.bipush (-71), 2) := by decide +kernel
theorem dL_refuses_324 : decode cL_refuses 324 = .ok (.if_icmp .ne 197, 3) := by decide +kernel
theorem dL_refuses_327 : decode cL_refuses 327 = .ok (.aload_n 0, 1) := by decide +kernel
theorem dL_refuses_328 : decode cL_refuses 328 = .ok (.bipush 8, 2) := by decide +kernel
theorem dL_refuses_330 : decode cL_refuses 330 = .ok (.iconst (-1), 1) := by decide +kernel
theorem dL_refuses_331 : decode cL_refuses 331 = .ok (.iload 13, 2) := by decide +kernel
theorem dL_refuses_333 : decode cL_refuses 333 = .ok (.iconst 0, 1) := by decide +kernel
theorem dL_refuses_334 : decode cL_refuses 334 = .ok (.invokestatic 87, 3) := by decide +kernel
theorem dL_refuses_337 : decode cL_refuses 337 = .ok (.bipush (-71), 2) := by decide +kernel
theorem dL_refuses_339 : decode cL_refuses 339 = .ok (.if_icmp .ne 182, 3) := by decide +kernel
theorem dL_refuses_342 : decode cL_refuses 342 = .ok (.aload_n 0, 1) := by decide +kernel
theorem dL_refuses_343 : decode cL_refuses 343 = .ok (.bipush 8, 2) := by decide +kernel
theorem dL_refuses_345 : decode cL_refuses 345 = .ok (.iconst (-1), 1) := by decide +kernel
theorem dL_refuses_346 : decode cL_refuses 346 = .ok (.iconst 0, 1) := by decide +kernel
theorem dL_refuses_347 : decode cL_refuses 347 = .ok (.iload 10, 2) := by decide +kernel
theorem dL_refuses_349 : decode cL_refuses 349 = .ok (.ifCond .ne 7, 3) := by decide +kernel
theorem dL_refuses_352 : decode cL_refuses 352 = .ok (.iconst 0, 1) := by decide +kernel
theorem dL_refuses_353 : decode cL_refuses 353 = .ok (.goto 16, 3) := by decide +kernel
theorem dL_refuses_356 : decode cL_refuses 356 = .ok (.iload 10, 2) := by decide +kernel
theorem dL_refuses_358 : decode cL_refuses 358 = .ok (.iconst 1, 1) := by decide +kernel
theorem dL_refuses_359 : decode cL_refuses 359 = .ok (.if_icmp .ne 8, 3) := by decide +kernel
theorem dL_refuses_362 : decode cL_refuses 362 = .ok (.bipush 101, 2) := by decide +kernel
theorem dL_refuses_364 : decode cL_refuses 364 = .ok (.goto 5, 3) := by decide +kernel
theorem dL_refuses_367 : decode cL_refuses 367 = .ok (.iload 11, 2) := by decide +kernel
theorem dL_refuses_369 : decode cL_refuses 369 = .ok (.invokestatic 87, 3) := by decide +kernel
theorem dL_refuses_372 : decode cL_refuses 372 = .ok (.bipush (-72), 2) := by decide +kernel
theorem dL_refuses_374 : decode cL_refuses 374 = .ok (.if_icmp .ne 147, 3) := by decide +kernel
theorem dL_refuses_377 : decode cL_refuses 377 = .ok (.aload_n 0, 1) := by decide +kernel
theorem dL_refuses_378 : decode cL_refuses 378 = .ok (.bipush 9, 2) := by decide +kernel
theorem dL_refuses_380 : decode cL_refuses 380 = .ok (.iload 10, 2) := by decide +kernel
theorem dL_refuses_382 : decode cL_refuses 382 = .ok (.ifCond .ne 7, 3) := by decide +kernel
theorem dL_refuses_385 : decode cL_refuses 385 = .ok (.iconst 0, 1) := by decide +kernel
theorem dL_refuses_386 : decode cL_refuses 386 = .ok (.goto 16, 3) := by decide +kernel
theorem dL_refuses_389 : decode cL_refuses 389 = .ok (.iload 10, 2) := by decide +kernel
theorem dL_refuses_391 : decode cL_refuses 391 = .ok (.iconst 1, 1) := by decide +kernel
theorem dL_refuses_392 : decode cL_refuses 392 = .ok (.if_icmp .ne 8, 3) := by decide +kernel
theorem dL_refuses_395 : decode cL_refuses 395 = .ok (.ldc 93, 2) := by decide +kernel
theorem dL_refuses_397 : decode cL_refuses 397 = .ok (.goto 5, 3) := by decide +kernel
theorem dL_refuses_400 : decode cL_refuses 400 = .ok (.iload 11, 2) := by decide +kernel
theorem dL_refuses_402 : decode cL_refuses 402 = .ok (.iconst 0, 1) := by decide +kernel
theorem dL_refuses_403 : decode cL_refuses 403 = .ok (.iconst 0, 1) := by decide +kernel
theorem dL_refuses_404 : decode cL_refuses 404 = .ok (.invokestatic 87, 3) := by decide +kernel
theorem dL_refuses_407 : decode cL_refuses 407 = .ok (.bipush (-72), 2) := by decide +kernel
theorem dL_refuses_409 : decode cL_refuses 409 = .ok (.if_icmp .ne 112, 3) := by decide +kernel
theorem dL_refuses_412 : decode cL_refuses 412 = .ok (.aload_n 0, 1) := by decide +kernel
theorem dL_refuses_413 : decode cL_refuses 413 = .ok (.bipush 11, 2) := by decide +kernel
theorem dL_refuses_415 : decode cL_refuses 415 = .ok (.iload 10, 2) := by decide +kernel
theorem dL_refuses_417 : decode cL_refuses 417 = .ok (.iconst 1, 1) := by decide +kernel
theorem dL_refuses_418 : decode cL_refuses 418 = .ok (.if_icmp .ne 7, 3) := by decide +kernel
theorem dL_refuses_421 : decode cL_refuses 421 = .ok (.iload_n 2, 1) := by decide +kernel
theorem dL_refuses_422 : decode cL_refuses 422 = .ok (.goto 5, 3) := by decide +kernel
theorem dL_refuses_425 : decode cL_refuses 425 = .ok (.iload 11, 2) := by decide +kernel
theorem dL_refuses_427 : decode cL_refuses 427 = .ok (.iconst 0, 1) := by decide +kernel
theorem dL_refuses_428 : decode cL_refuses 428 = .ok (.iconst 0, 1) := by decide +kernel
theorem dL_refuses_429 : decode cL_refuses 429 = .ok (.invokestatic 87, 3) := by decide +kernel
theorem dL_refuses_432 : decode cL_refuses 432 = .ok (.bipush (-71), 2) := by decide +kernel
theorem dL_refuses_434 : decode cL_refuses 434 = .ok (.if_icmp .ne 87, 3) := by decide +kernel
theorem dL_refuses_437 : decode cL_refuses 437 = .ok (.aload_n 0, 1) := by decide +kernel
theorem dL_refuses_438 : decode cL_refuses 438 = .ok (.bipush 12, 2) := by decide +kernel
theorem dL_refuses_440 : decode cL_refuses 440 = .ok (.iload 10, 2) := by decide +kernel
theorem dL_refuses_442 : decode cL_refuses 442 = .ok (.iconst 1, 1) := by decide +kernel
theorem dL_refuses_443 : decode cL_refuses 443 = .ok (.if_icmp .ne 7, 3) := by decide +kernel
theorem dL_refuses_446 : decode cL_refuses 446 = .ok (.iload_n 1, 1) := by decide +kernel
theorem dL_refuses_447 : decode cL_refuses 447 = .ok (.goto 5, 3) := by decide +kernel
theorem dL_refuses_450 : decode cL_refuses 450 = .ok (.iload 11, 2) := by decide +kernel
theorem dL_refuses_452 : decode cL_refuses 452 = .ok (.iconst 0, 1) := by decide +kernel
theorem dL_refuses_453 : decode cL_refuses 453 = .ok (.iconst 0, 1) := by decide +kernel
theorem dL_refuses_454 : decode cL_refuses 454 = .ok (.invokestatic 87, 3) := by decide +kernel
theorem dL_refuses_457 : decode cL_refuses 457 = .ok (.bipush (-71), 2) := by decide +kernel
theorem dL_refuses_459 : decode cL_refuses 459 = .ok (.if_icmp .ne 62, 3) := by decide +kernel
theorem dL_refuses_462 : decode cL_refuses 462 = .ok (.aload_n 0, 1) := by decide +kernel
theorem dL_refuses_463 : decode cL_refuses 463 = .ok (.bipush 13, 2) := by decide +kernel
theorem dL_refuses_465 : decode cL_refuses 465 = .ok (.iload 12, 2) := by decide +kernel
theorem dL_refuses_467 : decode cL_refuses 467 = .ok (.iconst 0, 1) := by decide +kernel
theorem dL_refuses_468 : decode cL_refuses 468 = .ok (.iconst 0, 1) := by decide +kernel
theorem dL_refuses_469 : decode cL_refuses 469 = .ok (.invokestatic 87, 3) := by decide +kernel
theorem dL_refuses_472 : decode cL_refuses 472 = .ok (.bipush (-71), 2) := by decide +kernel
theorem dL_refuses_474 : decode cL_refuses 474 = .ok (.if_icmp .ne 47, 3) := by decide +kernel
theorem dL_refuses_477 : decode cL_refuses 477 = .ok (.aload_n 0, 1) := by decide +kernel
theorem dL_refuses_478 : decode cL_refuses 478 = .ok (.bipush 14, 2) := by decide +kernel
theorem dL_refuses_480 : decode cL_refuses 480 = .ok (.iload 10, 2) := by decide +kernel
theorem dL_refuses_482 : decode cL_refuses 482 = .ok (.iconst 1, 1) := by decide +kernel
theorem dL_refuses_483 : decode cL_refuses 483 = .ok (.if_icmp .ne 7, 3) := by decide +kernel
theorem dL_refuses_486 : decode cL_refuses 486 = .ok (.iload_n 3, 1) := by decide +kernel
theorem dL_refuses_487 : decode cL_refuses 487 = .ok (.goto 5, 3) := by decide +kernel
theorem dL_refuses_490 : decode cL_refuses 490 = .ok (.iload 11, 2) := by decide +kernel
theorem dL_refuses_492 : decode cL_refuses 492 = .ok (.iconst 0, 1) := by decide +kernel
theorem dL_refuses_493 : decode cL_refuses 493 = .ok (.iconst 0, 1) := by decide +kernel
theorem dL_refuses_494 : decode cL_refuses 494 = .ok (.invokestatic 87, 3) := by decide +kernel
theorem dL_refuses_497 : decode cL_refuses 497 = .ok (.bipush (-71), 2) := by decide +kernel
theorem dL_refuses_499 : decode cL_refuses 499 = .ok (.if_icmp .ne 22, 3) := by decide +kernel
theorem dL_refuses_502 : decode cL_refuses 502 = .ok (.aload_n 0, 1) := by decide +kernel
theorem dL_refuses_503 : decode cL_refuses 503 = .ok (.bipush 15, 2) := by decide +kernel
theorem dL_refuses_505 : decode cL_refuses 505 = .ok (.iload 13, 2) := by decide +kernel
theorem dL_refuses_507 : decode cL_refuses 507 = .ok (.iconst 0, 1) := by decide +kernel
theorem dL_refuses_508 : decode cL_refuses 508 = .ok (.iconst 0, 1) := by decide +kernel
theorem dL_refuses_509 : decode cL_refuses 509 = .ok (.invokestatic 87, 3) := by decide +kernel
theorem dL_refuses_512 : decode cL_refuses 512 = .ok (.bipush (-71), 2) := by decide +kernel
theorem dL_refuses_514 : decode cL_refuses 514 = .ok (.if_icmp .ne 7, 3) := by decide +kernel
theorem dL_refuses_517 : decode cL_refuses 517 = .ok (.iconst 1, 1) := by decide +kernel
theorem dL_refuses_518 : decode cL_refuses 518 = .ok (.goto 4, 3) := by decide +kernel
theorem dL_refuses_521 : decode cL_refuses 521 = .ok (.iconst 0, 1) := by decide +kernel
theorem dL_refuses_522 : decode cL_refuses 522 = .ok (.istore 16, 2) := by decide +kernel
theorem dL_refuses_524 : decode cL_refuses 524 = .ok (.iload 16, 2) := by decide +kernel
theorem dL_refuses_526 : decode cL_refuses 526 = .ok (.ifCond .eq 135, 3) := by decide +kernel
theorem dL_refuses_529 : decode cL_refuses 529 = .ok (.aload_n 0, 1) := by decide +kernel
theorem dL_refuses_530 : decode cL_refuses 530 = .ok (.iload 10, 2) := by decide +kernel
theorem dL_refuses_532 : decode cL_refuses 532 = .ok (.ifCond .ne 7, 3) := by decide +kernel
theorem dL_refuses_535 : decode cL_refuses 535 = .ok (.iconst 0, 1) := by decide +kernel
theorem dL_refuses_536 : decode cL_refuses 536 = .ok (.goto 16, 3) := by decide +kernel
theorem dL_refuses_539 : decode cL_refuses 539 = .ok (.iload 10, 2) := by decide +kernel
theorem dL_refuses_541 : decode cL_refuses 541 = .ok (.iconst 1, 1) := by decide +kernel
theorem dL_refuses_542 : decode cL_refuses 542 = .ok (.if_icmp .ne 8, 3) := by decide +kernel
theorem dL_refuses_545 : decode cL_refuses 545 = .ok (.bipush 7, 2) := by decide +kernel
theorem dL_refuses_547 : decode cL_refuses 547 = .ok (.goto 5, 3) := by decide +kernel
theorem dL_refuses_550 : decode cL_refuses 550 = .ok (.iload 11, 2) := by decide +kernel
theorem dL_refuses_552 : decode cL_refuses 552 = .ok (.iconst 0, 1) := by decide +kernel
theorem dL_refuses_553 : decode cL_refuses 553 = .ok (.iconst 0, 1) := by decide +kernel
theorem dL_refuses_554 : decode cL_refuses 554 = .ok (.iconst 0, 1) := by decide +kernel
theorem dL_refuses_555 : decode cL_refuses 555 = .ok (.iconst 0, 1) := by decide +kernel
theorem dL_refuses_556 : decode cL_refuses 556 = .ok (.invokestatic 94, 3) := by decide +kernel
theorem dL_refuses_559 : decode cL_refuses 559 = .ok (.bipush (-72), 2) := by decide +kernel
theorem dL_refuses_561 : decode cL_refuses 561 = .ok (.if_icmp .ne 100, 3) := by decide +kernel
theorem dL_refuses_564 : decode cL_refuses 564 = .ok (.aload_n 0, 1) := by decide +kernel
theorem dL_refuses_565 : decode cL_refuses 565 = .ok (.iconst 1, 1) := by decide +kernel
theorem dL_refuses_566 : decode cL_refuses 566 = .ok (.iload 12, 2) := by decide +kernel
theorem dL_refuses_568 : decode cL_refuses 568 = .ok (.iconst 0, 1) := by decide +kernel
theorem dL_refuses_569 : decode cL_refuses 569 = .ok (.iconst 0, 1) := by decide +kernel
theorem dL_refuses_570 : decode cL_refuses 570 = .ok (.iconst 0, 1) := by decide +kernel
theorem dL_refuses_571 : decode cL_refuses 571 = .ok (.invokestatic 94, 3) := by decide +kernel
theorem dL_refuses_574 : decode cL_refuses 574 = .ok (.bipush (-72), 2) := by decide +kernel
theorem dL_refuses_576 : decode cL_refuses 576 = .ok (.if_icmp .ne 85, 3) := by decide +kernel
theorem dL_refuses_579 : decode cL_refuses 579 = .ok (.aload_n 0, 1) := by decide +kernel
theorem dL_refuses_580 : decode cL_refuses 580 = .ok (.iconst 1, 1) := by decide +kernel
theorem dL_refuses_581 : decode cL_refuses 581 = .ok (.iconst 0, 1) := by decide +kernel
theorem dL_refuses_582 : decode cL_refuses 582 = .ok (.iload 10, 2) := by decide +kernel
theorem dL_refuses_584 : decode cL_refuses 584 = .ok (.iconst 1, 1) := by decide +kernel
theorem dL_refuses_585 : decode cL_refuses 585 = .ok (.if_icmp .ne 8, 3) := by decide +kernel
theorem dL_refuses_588 : decode cL_refuses 588 = .ok (.bipush 64, 2) := by decide +kernel
theorem dL_refuses_590 : decode cL_refuses 590 = .ok (.goto 5, 3) := by decide +kernel
theorem dL_refuses_593 : decode cL_refuses 593 = .ok (.iload 11, 2) := by decide +kernel
theorem dL_refuses_595 : decode cL_refuses 595 = .ok (.iconst 0, 1) := by decide +kernel
theorem dL_refuses_596 : decode cL_refuses 596 = .ok (.iconst 0, 1) := by decide +kernel
theorem dL_refuses_597 : decode cL_refuses 597 = .ok (.invokestatic 94, 3) := by decide +kernel
theorem dL_refuses_600 : decode cL_refuses 600 = .ok (.bipush (-72), 2) := by decide +kernel
theorem dL_refuses_602 : decode cL_refuses 602 = .ok (.if_icmp .ne 59, 3) := by decide +kernel
theorem dL_refuses_605 : decode cL_refuses 605 = .ok (.aload_n 0, 1) := by decide +kernel
theorem dL_refuses_606 : decode cL_refuses 606 = .ok (.iconst 1, 1) := by decide +kernel
theorem dL_refuses_607 : decode cL_refuses 607 = .ok (.iconst 0, 1) := by decide +kernel
theorem dL_refuses_608 : decode cL_refuses 608 = .ok (.iconst 0, 1) := by decide +kernel
theorem dL_refuses_609 : decode cL_refuses 609 = .ok (.iload 10, 2) := by decide +kernel
theorem dL_refuses_611 : decode cL_refuses 611 = .ok (.iconst 1, 1) := by decide +kernel
theorem dL_refuses_612 : decode cL_refuses 612 = .ok (.if_icmp .ne 7, 3) := by decide +kernel
theorem dL_refuses_615 : decode cL_refuses 615 = .ok (.iconst 3, 1) := by decide +kernel
theorem dL_refuses_616 : decode cL_refuses 616 = .ok (.goto 5, 3) := by decide +kernel
theorem dL_refuses_619 : decode cL_refuses 619 = .ok (.iload 11, 2) := by decide +kernel
theorem dL_refuses_621 : decode cL_refuses 621 = .ok (.iconst 0, 1) := by decide +kernel
theorem dL_refuses_622 : decode cL_refuses 622 = .ok (.invokestatic 94, 3) := by decide +kernel
theorem dL_refuses_625 : decode cL_refuses 625 = .ok (.bipush (-72), 2) := by decide +kernel
theorem dL_refuses_627 : decode cL_refuses 627 = .ok (.if_icmp .ne 34, 3) := by decide +kernel
theorem dL_refuses_630 : decode cL_refuses 630 = .ok (.aload_n 0, 1) := by decide +kernel
theorem dL_refuses_631 : decode cL_refuses 631 = .ok (.iconst 1, 1) := by decide +kernel
theorem dL_refuses_632 : decode cL_refuses 632 = .ok (.iconst 0, 1) := by decide +kernel
theorem dL_refuses_633 : decode cL_refuses 633 = .ok (.iconst 0, 1) := by decide +kernel
theorem dL_refuses_634 : decode cL_refuses 634 = .ok (.iconst 0, 1) := by decide +kernel
theorem dL_refuses_635 : decode cL_refuses 635 = .ok (.iload 10, 2) := by decide +kernel
theorem dL_refuses_637 : decode cL_refuses 637 = .ok (.iconst 1, 1) := by decide +kernel
theorem dL_refuses_638 : decode cL_refuses 638 = .ok (.if_icmp .ne 9, 3) := by decide +kernel
theorem dL_refuses_641 : decode cL_refuses 641 = .ok (.iconst 1, 1) := by decide +kernel
theorem dL_refuses_642 : decode cL_refuses 642 = .ok (.iload_n 1, 1) := by decide +kernel
theorem dL_refuses_643 : decode cL_refuses 643 = .ok (.ishl, 1) := by decide +kernel
theorem dL_refuses_644 : decode cL_refuses 644 = .ok (.goto 5, 3) := by decide +kernel
theorem dL_refuses_647 : decode cL_refuses 647 = .ok (.iload 11, 2) := by decide +kernel
theorem dL_refuses_649 : decode cL_refuses 649 = .ok (.invokestatic 94, 3) := by decide +kernel
theorem dL_refuses_652 : decode cL_refuses 652 = .ok (.bipush (-72), 2) := by decide +kernel
theorem dL_refuses_654 : decode cL_refuses 654 = .ok (.if_icmp .ne 7, 3) := by decide +kernel
theorem dL_refuses_657 : decode cL_refuses 657 = .ok (.iconst 1, 1) := by decide +kernel
theorem dL_refuses_658 : decode cL_refuses 658 = .ok (.goto 4, 3) := by decide +kernel
theorem dL_refuses_661 : decode cL_refuses 661 = .ok (.iconst 0, 1) := by decide +kernel
theorem dL_refuses_662 : decode cL_refuses 662 = .ok (.istore 16, 2) := by decide +kernel
theorem dL_refuses_664 : decode cL_refuses 664 = .ok (.iload 16, 2) := by decide +kernel
theorem dL_refuses_666 : decode cL_refuses 666 = .ok (.ifCond .ne 5, 3) := by decide +kernel
theorem dL_refuses_669 : decode cL_refuses 669 = .ok (.iconst 0, 1) := by decide +kernel
theorem dL_refuses_670 : decode cL_refuses 670 = .ok (.ireturn, 1) := by decide +kernel
theorem dL_refuses_671 : decode cL_refuses 671 = .ok (.iinc 10 1, 3) := by decide +kernel
theorem dL_refuses_674 : decode cL_refuses 674 = .ok (.goto (-643), 3) := by decide +kernel
theorem dL_refuses_677 : decode cL_refuses 677 = .ok (.aload_n 0, 1) := by decide +kernel
theorem dL_refuses_678 : decode cL_refuses 678 = .ok (.invokevirtual 73, 3) := by decide +kernel
theorem dL_refuses_681 : decode cL_refuses 681 = .ok (.iload 5, 2) := by decide +kernel
theorem dL_refuses_683 : decode cL_refuses 683 = .ok (.if_icmp .ne 34, 3) := by decide +kernel
theorem dL_refuses_686 : decode cL_refuses 686 = .ok (.aload_n 0, 1) := by decide +kernel
theorem dL_refuses_687 : decode cL_refuses 687 = .ok (.invokevirtual 76, 3) := by decide +kernel
theorem dL_refuses_690 : decode cL_refuses 690 = .ok (.iload 6, 2) := by decide +kernel
theorem dL_refuses_692 : decode cL_refuses 692 = .ok (.if_icmp .ne 25, 3) := by decide +kernel
theorem dL_refuses_695 : decode cL_refuses 695 = .ok (.aload_n 0, 1) := by decide +kernel
theorem dL_refuses_696 : decode cL_refuses 696 = .ok (.invokevirtual 79, 3) := by decide +kernel
theorem dL_refuses_699 : decode cL_refuses 699 = .ok (.iload 7, 2) := by decide +kernel
theorem dL_refuses_701 : decode cL_refuses 701 = .ok (.if_icmp .ne 16, 3) := by decide +kernel
theorem dL_refuses_704 : decode cL_refuses 704 = .ok (.aload_n 0, 1) := by decide +kernel
theorem dL_refuses_705 : decode cL_refuses 705 = .ok (.invokevirtual 82, 3) := by decide +kernel
theorem dL_refuses_708 : decode cL_refuses 708 = .ok (.iload 8, 2) := by decide +kernel
theorem dL_refuses_710 : decode cL_refuses 710 = .ok (.if_icmp .ne 7, 3) := by decide +kernel
theorem dL_refuses_713 : decode cL_refuses 713 = .ok (.iconst 1, 1) := by decide +kernel
theorem dL_refuses_714 : decode cL_refuses 714 = .ok (.goto 4, 3) := by decide +kernel
theorem dL_refuses_717 : decode cL_refuses 717 = .ok (.iconst 0, 1) := by decide +kernel
theorem dL_refuses_718 : decode cL_refuses 718 = .ok (.ireturn, 1) := by decide +kernel
theorem dL_plan_0 : decode cL_plan 0 = .ok (.aload_n 0, 1) := by decide +kernel
theorem dL_plan_1 : decode cL_plan 1 = .ok (.invokevirtual 73, 3) := by decide +kernel
theorem dL_plan_4 : decode cL_plan 4 = .ok (.iload_n 1, 1) := by decide +kernel
theorem dL_plan_5 : decode cL_plan 5 = .ok (.if_icmp .ne 56, 3) := by decide +kernel
theorem dL_plan_8 : decode cL_plan 8 = .ok (.aload_n 0, 1) := by decide +kernel
theorem dL_plan_9 : decode cL_plan 9 = .ok (.invokevirtual 44, 3) := by decide +kernel
theorem dL_plan_12 : decode cL_plan 12 = .ok (.iload_n 1, 1) := by decide +kernel
theorem dL_plan_13 : decode cL_plan 13 = .ok (.if_icmp .ne 48, 3) := by decide +kernel
theorem dL_plan_16 : decode cL_plan 16 = .ok (.iload_n 2, 1) := by decide +kernel
theorem dL_plan_17 : decode cL_plan 17 = .ok (.ifCond .lt 12, 3) := by decide +kernel
theorem dL_plan_20 : decode cL_plan 20 = .ok (.aload_n 0, 1) := by decide +kernel
theorem dL_plan_21 : decode cL_plan 21 = .ok (.iconst 0, 1) := by decide +kernel
theorem dL_plan_22 : decode cL_plan 22 = .ok (.invokevirtual 51, 3) := by decide +kernel
theorem dL_plan_25 : decode cL_plan 25 = .ok (.iload_n 2, 1) := by decide +kernel
theorem dL_plan_26 : decode cL_plan 26 = .ok (.if_icmp .ne 35, 3) := by decide +kernel
theorem dL_plan_29 : decode cL_plan 29 = .ok (.iload_n 3, 1) := by decide +kernel
theorem dL_plan_30 : decode cL_plan 30 = .ok (.ifCond .lt 12, 3) := by decide +kernel
theorem dL_plan_33 : decode cL_plan 33 = .ok (.aload_n 0, 1) := by decide +kernel
theorem dL_plan_34 : decode cL_plan 34 = .ok (.iconst 1, 1) := by decide +kernel
theorem dL_plan_35 : decode cL_plan 35 = .ok (.invokevirtual 51, 3) := by decide +kernel
theorem dL_plan_38 : decode cL_plan 38 = .ok (.iload_n 3, 1) := by decide +kernel
theorem dL_plan_39 : decode cL_plan 39 = .ok (.if_icmp .ne 22, 3) := by decide +kernel
theorem dL_plan_42 : decode cL_plan 42 = .ok (.iload 4, 2) := by decide +kernel
theorem dL_plan_44 : decode cL_plan 44 = .ok (.ifCond .lt 13, 3) := by decide +kernel
theorem dL_plan_47 : decode cL_plan 47 = .ok (.aload_n 0, 1) := by decide +kernel
theorem dL_plan_48 : decode cL_plan 48 = .ok (.iconst 2, 1) := by decide +kernel
theorem dL_plan_49 : decode cL_plan 49 = .ok (.invokevirtual 51, 3) := by decide +kernel
theorem dL_plan_52 : decode cL_plan 52 = .ok (.iload 4, 2) := by decide +kernel
theorem dL_plan_54 : decode cL_plan 54 = .ok (.if_icmp .ne 7, 3) := by decide +kernel
theorem dL_plan_57 : decode cL_plan 57 = .ok (.iconst 1, 1) := by decide +kernel
theorem dL_plan_58 : decode cL_plan 58 = .ok (.goto 4, 3) := by decide +kernel
theorem dL_plan_61 : decode cL_plan 61 = .ok (.iconst 0, 1) := by decide +kernel
theorem dL_plan_62 : decode cL_plan 62 = .ok (.ireturn, 1) := by decide +kernel
theorem dL_house_0 : decode cL_house 0 = .ok (.new 8, 3) := by decide +kernel
theorem dL_house_3 : decode cL_house 3 = .ok (.dup, 1) := by decide +kernel
theorem dL_house_4 : decode cL_house 4 = .ok (.invokespecial 98, 3) := by decide +kernel
theorem dL_house_7 : decode cL_house 7 = .ok (.astore_n 0, 1) := by decide +kernel
theorem dL_house_8 : decode cL_house 8 = .ok (.aload_n 0, 1) := by decide +kernel
theorem dL_house_9 : decode cL_house 9 = .ok (.invokevirtual 99, 3) := by decide +kernel
theorem dL_house_12 : decode cL_house 12 = .ok (.ifCond .ne 344, 3) := by decide +kernel
theorem dL_house_15 : decode cL_house 15 = .ok (.aload_n 0, 1) := by decide +kernel
theorem dL_house_16 : decode cL_house 16 = .ok (.invokevirtual 102, 3) := by decide +kernel
theorem dL_house_19 : decode cL_house 19 = .ok (.ifCond .ne 337, 3) := by decide +kernel
theorem dL_house_22 : decode cL_house 22 = .ok (.aload_n 0, 1) := by decide +kernel
theorem dL_house_23 : decode cL_house 23 = .ok (.iconst 0, 1) := by decide +kernel
theorem dL_house_24 : decode cL_house 24 = .ok (.iconst (-1), 1) := by decide +kernel
theorem dL_house_25 : decode cL_house 25 = .ok (.iconst (-1), 1) := by decide +kernel
theorem dL_house_26 : decode cL_house 26 = .ok (.iconst (-1), 1) := by decide +kernel
theorem dL_house_27 : decode cL_house 27 = .ok (.invokestatic 105, 3) := by decide +kernel
theorem dL_house_30 : decode cL_house 30 = .ok (.ifCond .eq 326, 3) := by decide +kernel
theorem dL_house_33 : decode cL_house 33 = .ok (.aload_n 0, 1) := by decide +kernel
theorem dL_house_34 : decode cL_house 34 = .ok (.iconst 0, 1) := by decide +kernel
theorem dL_house_35 : decode cL_house 35 = .ok (.iconst 0, 1) := by decide +kernel
theorem dL_house_36 : decode cL_house 36 = .ok (.iconst 0, 1) := by decide +kernel
theorem dL_house_37 : decode cL_house 37 = .ok (.iconst 0, 1) := by decide +kernel
theorem dL_house_38 : decode cL_house 38 = .ok (.invokestatic 109, 3) := by decide +kernel
theorem dL_house_41 : decode cL_house 41 = .ok (.ifCond .eq 315, 3) := by decide +kernel
theorem dL_house_44 : decode cL_house 44 = .ok (.aload_n 0, 1) := by decide +kernel
theorem dL_house_45 : decode cL_house 45 = .ok (.iconst 4, 1) := by decide +kernel
theorem dL_house_46 : decode cL_house 46 = .ok (.iconst 0, 1) := by decide +kernel
theorem dL_house_47 : decode cL_house 47 = .ok (.iconst 1, 1) := by decide +kernel
theorem dL_house_48 : decode cL_house 48 = .ok (.iconst 0, 1) := by decide +kernel
theorem dL_house_49 : decode cL_house 49 = .ok (.iconst 0, 1) := by decide +kernel
theorem dL_house_50 : decode cL_house 50 = .ok (.invokevirtual 69, 3) := by decide +kernel
theorem dL_house_53 : decode cL_house 53 = .ok (.ifCond .ne 303, 3) := by decide +kernel
theorem dL_house_56 : decode cL_house 56 = .ok (.aload_n 0, 1) := by decide +kernel
theorem dL_house_57 : decode cL_house 57 = .ok (.iconst 1, 1) := by decide +kernel
theorem dL_house_58 : decode cL_house 58 = .ok (.bipush 8, 2) := by decide +kernel
theorem dL_house_60 : decode cL_house 60 = .ok (.iconst (-1), 1) := by decide +kernel
theorem dL_house_61 : decode cL_house 61 = .ok (.iconst (-1), 1) := by decide +kernel
theorem dL_house_62 : decode cL_house 62 = .ok (.invokestatic 105, 3) := by decide +kernel
theorem dL_house_65 : decode cL_house 65 = .ok (.ifCond .eq 291, 3) := by decide +kernel
theorem dL_house_68 : decode cL_house 68 = .ok (.aload_n 0, 1) := by decide +kernel
theorem dL_house_69 : decode cL_house 69 = .ok (.bipush 6, 2) := by decide +kernel
theorem dL_house_71 : decode cL_house 71 = .ok (.iconst 0, 1) := by decide +kernel
theorem dL_house_72 : decode cL_house 72 = .ok (.iconst 1, 1) := by decide +kernel
theorem dL_house_73 : decode cL_house 73 = .ok (.iconst 0, 1) := by decide +kernel
theorem dL_house_74 : decode cL_house 74 = .ok (.iconst 0, 1) := by decide +kernel
theorem dL_house_75 : decode cL_house 75 = .ok (.invokevirtual 69, 3) := by decide +kernel
theorem dL_house_78 : decode cL_house 78 = .ok (.iconst 1, 1) := by decide +kernel
theorem dL_house_79 : decode cL_house 79 = .ok (.if_icmp .ne 277, 3) := by decide +kernel
theorem dL_house_82 : decode cL_house 82 = .ok (.aload_n 0, 1) := by decide +kernel
theorem dL_house_83 : decode cL_house 83 = .ok (.iconst 1, 1) := by decide +kernel
theorem dL_house_84 : decode cL_house 84 = .ok (.bipush 8, 2) := by decide +kernel
theorem dL_house_86 : decode cL_house 86 = .ok (.bipush 12, 2) := by decide +kernel
theorem dL_house_88 : decode cL_house 88 = .ok (.iconst (-1), 1) := by decide +kernel
theorem dL_house_89 : decode cL_house 89 = .ok (.invokestatic 105, 3) := by decide +kernel
theorem dL_house_92 : decode cL_house 92 = .ok (.ifCond .eq 264, 3) := by decide +kernel
theorem dL_house_95 : decode cL_house 95 = .ok (.aload_n 0, 1) := by decide +kernel
theorem dL_house_96 : decode cL_house 96 = .ok (.bipush 6, 2) := by decide +kernel
theorem dL_house_98 : decode cL_house 98 = .ok (.iconst 1, 1) := by decide +kernel
theorem dL_house_99 : decode cL_house 99 = .ok (.iconst 2, 1) := by decide +kernel
theorem dL_house_100 : decode cL_house 100 = .ok (.iconst 0, 1) := by decide +kernel
theorem dL_house_101 : decode cL_house 101 = .ok (.iconst 0, 1) := by decide +kernel
theorem dL_house_102 : decode cL_house 102 = .ok (.invokevirtual 69, 3) := by decide +kernel
theorem dL_house_105 : decode cL_house 105 = .ok (.iconst 2, 1) := by decide +kernel
theorem dL_house_106 : decode cL_house 106 = .ok (.if_icmp .ne 250, 3) := by decide +kernel
theorem dL_house_109 : decode cL_house 109 = .ok (.aload_n 0, 1) := by decide +kernel
theorem dL_house_110 : decode cL_house 110 = .ok (.iconst 2, 1) := by decide +kernel
theorem dL_house_111 : decode cL_house 111 = .ok (.bipush 8, 2) := by decide +kernel
theorem dL_house_113 : decode cL_house 113 = .ok (.bipush 12, 2) := by decide +kernel
theorem dL_house_115 : decode cL_house 115 = .ok (.bipush 32, 2) := by decide +kernel
theorem dL_house_117 : decode cL_house 117 = .ok (.invokestatic 105, 3) := by decide +kernel
theorem dL_house_120 : decode cL_house 120 = .ok (.ifCond .eq 236, 3) := by decide +kernel
theorem dL_house_123 : decode cL_house 123 = .ok (.aload_n 0, 1) := by decide +kernel
theorem dL_house_124 : decode cL_house 124 = .ok (.iconst 0, 1) := by decide +kernel
theorem dL_house_125 : decode cL_house 125 = .ok (.invokevirtual 48, 3) := by decide +kernel
theorem dL_house_128 : decode cL_house 128 = .ok (.ifCond .ne 228, 3) := by decide +kernel
theorem dL_house_131 : decode cL_house 131 = .ok (.aload_n 0, 1) := by decide +kernel
theorem dL_house_132 : decode cL_house 132 = .ok (.iconst 2, 1) := by decide +kernel
theorem dL_house_133 : decode cL_house 133 = .ok (.invokevirtual 48, 3) := by decide +kernel
theorem dL_house_136 : decode cL_house 136 = .ok (.iconst 2, 1) := by decide +kernel
theorem dL_house_137 : decode cL_house 137 = .ok (.if_icmp .ne 219, 3) := by decide +kernel
theorem dL_house_140 : decode cL_house 140 = .ok (.aload_n 0, 1) := by decide +kernel
theorem dL_house_141 : decode cL_house 141 = .ok (.iconst 0, 1) := by decide +kernel
theorem dL_house_142 : decode cL_house 142 = .ok (.iconst 1, 1) := by decide +kernel
theorem dL_house_143 : decode cL_house 143 = .ok (.invokevirtual 13, 3) := by decide +kernel
theorem dL_house_146 : decode cL_house 146 = .ok (.ifCond .ne 210, 3) := by decide +kernel
theorem dL_house_149 : decode cL_house 149 = .ok (.aload_n 0, 1) := by decide +kernel
theorem dL_house_150 : decode cL_house 150 = .ok (.iconst 2, 1) := by decide +kernel
theorem dL_house_151 : decode cL_house 151 = .ok (.bipush 8, 2) := by decide +kernel
theorem dL_house_153 : decode cL_house 153 = .ok (.bipush 32, 2) := by decide +kernel
theorem dL_house_155 : decode cL_house 155 = .ok (.bipush 39, 2) := by decide +kernel
theorem dL_house_157 : decode cL_house 157 = .ok (.invokestatic 105, 3) := by decide +kernel
theorem dL_house_160 : decode cL_house 160 = .ok (.ifCond .eq 196, 3) := by decide +kernel
theorem dL_house_163 : decode cL_house 163 = .ok (.aload_n 0, 1) := by decide +kernel
theorem dL_house_164 : decode cL_house 164 = .ok (.iconst 0, 1) := by decide +kernel
theorem dL_house_165 : decode cL_house 165 = .ok (.iconst 0, 1) := by decide +kernel
theorem dL_house_166 : decode cL_house 166 = .ok (.invokevirtual 13, 3) := by decide +kernel
theorem dL_house_169 : decode cL_house 169 = .ok (.ifCond .eq 187, 3) := by decide +kernel
theorem dL_house_172 : decode cL_house 172 = .ok (.aload_n 0, 1) := by decide +kernel
theorem dL_house_173 : decode cL_house 173 = .ok (.iconst 2, 1) := by decide +kernel
theorem dL_house_174 : decode cL_house 174 = .ok (.bipush 8, 2) := by decide +kernel
theorem dL_house_176 : decode cL_house 176 = .ok (.bipush 12, 2) := by decide +kernel
theorem dL_house_178 : decode cL_house 178 = .ok (.bipush 32, 2) := by decide +kernel
theorem dL_house_180 : decode cL_house 180 = .ok (.invokestatic 105, 3) := by decide +kernel
theorem dL_house_183 : decode cL_house 183 = .ok (.ifCond .eq 173, 3) := by decide +kernel
theorem dL_house_186 : decode cL_house 186 = .ok (.aload_n 0, 1) := by decide +kernel
theorem dL_house_187 : decode cL_house 187 = .ok (.iconst 3, 1) := by decide +kernel
theorem dL_house_188 : decode cL_house 188 = .ok (.iconst 3, 1) := by decide +kernel
theorem dL_house_189 : decode cL_house 189 = .ok (.iconst 0, 1) := by decide +kernel
theorem dL_house_190 : decode cL_house 190 = .ok (.iconst 0, 1) := by decide +kernel
theorem dL_house_191 : decode cL_house 191 = .ok (.invokestatic 109, 3) := by decide +kernel
theorem dL_house_194 : decode cL_house 194 = .ok (.ifCond .eq 162, 3) := by decide +kernel
theorem dL_house_197 : decode cL_house 197 = .ok (.aload_n 0, 1) := by decide +kernel
theorem dL_house_198 : decode cL_house 198 = .ok (.iconst 3, 1) := by decide +kernel
theorem dL_house_199 : decode cL_house 199 = .ok (.iconst 0, 1) := by decide +kernel
theorem dL_house_200 : decode cL_house 200 = .ok (.iconst 0, 1) := by decide +kernel
theorem dL_house_201 : decode cL_house 201 = .ok (.iconst 0, 1) := by decide +kernel
theorem dL_house_202 : decode cL_house 202 = .ok (.invokestatic 87, 3) := by decide +kernel
theorem dL_house_205 : decode cL_house 205 = .ok (.bipush (-73), 2) := by decide +kernel
theorem dL_house_207 : decode cL_house 207 = .ok (.if_icmp .ne 149, 3) := by decide +kernel
theorem dL_house_210 : decode cL_house 210 = .ok (.aload_n 0, 1) := by decide +kernel
theorem dL_house_211 : decode cL_house 211 = .ok (.iconst 0, 1) := by decide +kernel
theorem dL_house_212 : decode cL_house 212 = .ok (.sipush 500, 3) := by decide +kernel
theorem dL_house_215 : decode cL_house 215 = .ok (.invokevirtual 24, 3) := by decide +kernel
theorem dL_house_218 : decode cL_house 218 = .ok (.sipush 500, 3) := by decide +kernel
theorem dL_house_221 : decode cL_house 221 = .ok (.if_icmp .ne 135, 3) := by decide +kernel
theorem dL_house_224 : decode cL_house 224 = .ok (.aload_n 0, 1) := by decide +kernel
theorem dL_house_225 : decode cL_house 225 = .ok (.iconst 3, 1) := by decide +kernel
theorem dL_house_226 : decode cL_house 226 = .ok (.iconst 0, 1) := by decide +kernel
theorem dL_house_227 : decode cL_house 227 = .ok (.iconst 0, 1) := by decide +kernel
theorem dL_house_228 : decode cL_house 228 = .ok (.iconst 0, 1) := by decide +kernel
theorem dL_house_229 : decode cL_house 229 = .ok (.invokestatic 87, 3) := by decide +kernel
theorem dL_house_232 : decode cL_house 232 = .ok (.bipush (-73), 2) := by decide +kernel
theorem dL_house_234 : decode cL_house 234 = .ok (.if_icmp .ne 122, 3) := by decide +kernel
theorem dL_house_237 : decode cL_house 237 = .ok (.aload_n 0, 1) := by decide +kernel
theorem dL_house_238 : decode cL_house 238 = .ok (.invokevirtual 99, 3) := by decide +kernel
theorem dL_house_241 : decode cL_house 241 = .ok (.ifCond .ne 115, 3) := by decide +kernel
theorem dL_house_244 : decode cL_house 244 = .ok (.aload_n 0, 1) := by decide +kernel
theorem dL_house_245 : decode cL_house 245 = .ok (.sipush 600, 3) := by decide +kernel
theorem dL_house_248 : decode cL_house 248 = .ok (.invokevirtual 27, 3) := by decide +kernel
theorem dL_house_251 : decode cL_house 251 = .ok (.sipush 600, 3) := by decide +kernel
theorem dL_house_254 : decode cL_house 254 = .ok (.if_icmp .ne 102, 3) := by decide +kernel
theorem dL_house_257 : decode cL_house 257 = .ok (.aload_n 0, 1) := by decide +kernel
theorem dL_house_258 : decode cL_house 258 = .ok (.iconst 0, 1) := by decide +kernel
theorem dL_house_259 : decode cL_house 259 = .ok (.invokevirtual 20, 3) := by decide +kernel
theorem dL_house_262 : decode cL_house 262 = .ok (.iconst 2, 1) := by decide +kernel
theorem dL_house_263 : decode cL_house 263 = .ok (.if_icmp .ne 93, 3) := by decide +kernel
theorem dL_house_266 : decode cL_house 266 = .ok (.aload_n 0, 1) := by decide +kernel
theorem dL_house_267 : decode cL_house 267 = .ok (.invokevirtual 99, 3) := by decide +kernel
theorem dL_house_270 : decode cL_house 270 = .ok (.iconst 1, 1) := by decide +kernel
theorem dL_house_271 : decode cL_house 271 = .ok (.if_icmp .ne 85, 3) := by decide +kernel
theorem dL_house_274 : decode cL_house 274 = .ok (.aload_n 0, 1) := by decide +kernel
theorem dL_house_275 : decode cL_house 275 = .ok (.invokevirtual 102, 3) := by decide +kernel
theorem dL_house_278 : decode cL_house 278 = .ok (.iconst 3, 1) := by decide +kernel
theorem dL_house_279 : decode cL_house 279 = .ok (.if_icmp .ne 77, 3) := by decide +kernel
theorem dL_house_282 : decode cL_house 282 = .ok (.aload_n 0, 1) := by decide +kernel
theorem dL_house_283 : decode cL_house 283 = .ok (.iconst 0, 1) := by decide +kernel
theorem dL_house_284 : decode cL_house 284 = .ok (.invokevirtual 54, 3) := by decide +kernel
theorem dL_house_287 : decode cL_house 287 = .ok (.ifCond .ne 69, 3) := by decide +kernel
theorem dL_house_290 : decode cL_house 290 = .ok (.aload_n 0, 1) := by decide +kernel
theorem dL_house_291 : decode cL_house 291 = .ok (.invokevirtual 76, 3) := by decide +kernel
theorem dL_house_294 : decode cL_house 294 = .ok (.bipush 100, 2) := by decide +kernel
theorem dL_house_296 : decode cL_house 296 = .ok (.if_icmp .ne 60, 3) := by decide +kernel
theorem dL_house_299 : decode cL_house 299 = .ok (.aload_n 0, 1) := by decide +kernel
theorem dL_house_300 : decode cL_house 300 = .ok (.invokevirtual 79, 3) := by decide +kernel
theorem dL_house_303 : decode cL_house 303 = .ok (.sipush 1000, 3) := by decide +kernel
theorem dL_house_306 : decode cL_house 306 = .ok (.if_icmp .ne 50, 3) := by decide +kernel
theorem dL_house_309 : decode cL_house 309 = .ok (.aload_n 0, 1) := by decide +kernel
theorem dL_house_310 : decode cL_house 310 = .ok (.invokevirtual 112, 3) := by decide +kernel
theorem dL_house_313 : decode cL_house 313 = .ok (.sipush 1000, 3) := by decide +kernel
theorem dL_house_316 : decode cL_house 316 = .ok (.if_icmp .ne 40, 3) := by decide +kernel
theorem dL_house_319 : decode cL_house 319 = .ok (.aload_n 0, 1) := by decide +kernel
theorem dL_house_320 : decode cL_house 320 = .ok (.iconst 1, 1) := by decide +kernel
theorem dL_house_321 : decode cL_house 321 = .ok (.bipush 8, 2) := by decide +kernel
theorem dL_house_323 : decode cL_house 323 = .ok (.bipush 12, 2) := by decide +kernel
theorem dL_house_325 : decode cL_house 325 = .ok (.bipush 32, 2) := by decide +kernel
theorem dL_house_327 : decode cL_house 327 = .ok (.invokestatic 105, 3) := by decide +kernel
theorem dL_house_330 : decode cL_house 330 = .ok (.ifCond .eq 26, 3) := by decide +kernel
theorem dL_house_333 : decode cL_house 333 = .ok (.aload_n 0, 1) := by decide +kernel
theorem dL_house_334 : decode cL_house 334 = .ok (.iconst 0, 1) := by decide +kernel
theorem dL_house_335 : decode cL_house 335 = .ok (.invokevirtual 48, 3) := by decide +kernel
theorem dL_house_338 : decode cL_house 338 = .ok (.iconst 2, 1) := by decide +kernel
theorem dL_house_339 : decode cL_house 339 = .ok (.if_icmp .ne 17, 3) := by decide +kernel
theorem dL_house_342 : decode cL_house 342 = .ok (.aload_n 0, 1) := by decide +kernel
theorem dL_house_343 : decode cL_house 343 = .ok (.bipush 11, 2) := by decide +kernel
theorem dL_house_345 : decode cL_house 345 = .ok (.iconst 1, 1) := by decide +kernel
theorem dL_house_346 : decode cL_house 346 = .ok (.iconst 0, 1) := by decide +kernel
theorem dL_house_347 : decode cL_house 347 = .ok (.iconst 0, 1) := by decide +kernel
theorem dL_house_348 : decode cL_house 348 = .ok (.invokestatic 87, 3) := by decide +kernel
theorem dL_house_351 : decode cL_house 351 = .ok (.bipush (-71), 2) := by decide +kernel
theorem dL_house_353 : decode cL_house 353 = .ok (.if_icmp .eq 5, 3) := by decide +kernel
theorem dL_house_356 : decode cL_house 356 = .ok (.iconst 0, 1) := by decide +kernel
theorem dL_house_357 : decode cL_house 357 = .ok (.ireturn, 1) := by decide +kernel
theorem dL_house_358 : decode cL_house 358 = .ok (.aload_n 0, 1) := by decide +kernel
theorem dL_house_359 : decode cL_house 359 = .ok (.iconst 1, 1) := by decide +kernel
theorem dL_house_360 : decode cL_house 360 = .ok (.iconst 1, 1) := by decide +kernel
theorem dL_house_361 : decode cL_house 361 = .ok (.invokevirtual 7, 3) := by decide +kernel
theorem dL_house_364 : decode cL_house 364 = .ok (.ifCond .ne 263, 3) := by decide +kernel
theorem dL_house_367 : decode cL_house 367 = .ok (.aload_n 0, 1) := by decide +kernel
theorem dL_house_368 : decode cL_house 368 = .ok (.iconst 1, 1) := by decide +kernel
theorem dL_house_369 : decode cL_house 369 = .ok (.invokevirtual 20, 3) := by decide +kernel
theorem dL_house_372 : decode cL_house 372 = .ok (.ifCond .ne 255, 3) := by decide +kernel
theorem dL_house_375 : decode cL_house 375 = .ok (.aload_n 0, 1) := by decide +kernel
theorem dL_house_376 : decode cL_house 376 = .ok (.invokevirtual 99, 3) := by decide +kernel
theorem dL_house_379 : decode cL_house 379 = .ok (.iconst 2, 1) := by decide +kernel
theorem dL_house_380 : decode cL_house 380 = .ok (.if_icmp .ne 247, 3) := by decide +kernel
theorem dL_house_383 : decode cL_house 383 = .ok (.aload_n 0, 1) := by decide +kernel
theorem dL_house_384 : decode cL_house 384 = .ok (.invokevirtual 79, 3) := by decide +kernel
theorem dL_house_387 : decode cL_house 387 = .ok (.sipush 1000, 3) := by decide +kernel
theorem dL_house_390 : decode cL_house 390 = .ok (.if_icmp .ne 237, 3) := by decide +kernel
theorem dL_house_393 : decode cL_house 393 = .ok (.aload_n 0, 1) := by decide +kernel
theorem dL_house_394 : decode cL_house 394 = .ok (.iconst 1, 1) := by decide +kernel
theorem dL_house_395 : decode cL_house 395 = .ok (.bipush 8, 2) := by decide +kernel
theorem dL_house_397 : decode cL_house 397 = .ok (.bipush 12, 2) := by decide +kernel
theorem dL_house_399 : decode cL_house 399 = .ok (.bipush 56, 2) := by decide +kernel
theorem dL_house_401 : decode cL_house 401 = .ok (.invokestatic 105, 3) := by decide +kernel
theorem dL_house_404 : decode cL_house 404 = .ok (.ifCond .eq 223, 3) := by decide +kernel
theorem dL_house_407 : decode cL_house 407 = .ok (.aload_n 0, 1) := by decide +kernel
theorem dL_house_408 : decode cL_house 408 = .ok (.iconst 1, 1) := by decide +kernel
theorem dL_house_409 : decode cL_house 409 = .ok (.invokevirtual 115, 3) := by decide +kernel
theorem dL_house_412 : decode cL_house 412 = .ok (.ifCond .ne 215, 3) := by decide +kernel
theorem dL_house_415 : decode cL_house 415 = .ok (.aload_n 0, 1) := by decide +kernel
theorem dL_house_416 : decode cL_house 416 = .ok (.iconst 3, 1) := by decide +kernel
theorem dL_house_417 : decode cL_house 417 = .ok (.iconst 1, 1) := by decide +kernel
theorem dL_house_418 : decode cL_house 418 = .ok (.iconst 0, 1) := by decide +kernel
theorem dL_house_419 : decode cL_house 419 = .ok (.iconst 0, 1) := by decide +kernel
theorem dL_house_420 : decode cL_house 420 = .ok (.invokestatic 87, 3) := by decide +kernel
theorem dL_house_423 : decode cL_house 423 = .ok (.bipush (-73), 2) := by decide +kernel
theorem dL_house_425 : decode cL_house 425 = .ok (.if_icmp .ne 202, 3) := by decide +kernel
theorem dL_house_428 : decode cL_house 428 = .ok (.aload_n 0, 1) := by decide +kernel
theorem dL_house_429 : decode cL_house 429 = .ok (.iconst 0, 1) := by decide +kernel
theorem dL_house_430 : decode cL_house 430 = .ok (.sipush 600, 3) := by decide +kernel
theorem dL_house_433 : decode cL_house 433 = .ok (.invokevirtual 24, 3) := by decide +kernel
theorem dL_house_436 : decode cL_house 436 = .ok (.sipush 600, 3) := by decide +kernel
theorem dL_house_439 : decode cL_house 439 = .ok (.if_icmp .ne 188, 3) := by decide +kernel
theorem dL_house_442 : decode cL_house 442 = .ok (.aload_n 0, 1) := by decide +kernel
theorem dL_house_443 : decode cL_house 443 = .ok (.iconst 1, 1) := by decide +kernel
theorem dL_house_444 : decode cL_house 444 = .ok (.invokevirtual 20, 3) := by decide +kernel
theorem dL_house_447 : decode cL_house 447 = .ok (.iconst 1, 1) := by decide +kernel
theorem dL_house_448 : decode cL_house 448 = .ok (.if_icmp .ne 179, 3) := by decide +kernel
theorem dL_house_451 : decode cL_house 451 = .ok (.aload_n 0, 1) := by decide +kernel
theorem dL_house_452 : decode cL_house 452 = .ok (.iconst 0, 1) := by decide +kernel
theorem dL_house_453 : decode cL_house 453 = .ok (.invokevirtual 54, 3) := by decide +kernel
theorem dL_house_456 : decode cL_house 456 = .ok (.ifCond .ne 171, 3) := by decide +kernel
theorem dL_house_459 : decode cL_house 459 = .ok (.aload_n 0, 1) := by decide +kernel
theorem dL_house_460 : decode cL_house 460 = .ok (.iconst 1, 1) := by decide +kernel
theorem dL_house_461 : decode cL_house 461 = .ok (.invokevirtual 54, 3) := by decide +kernel
theorem dL_house_464 : decode cL_house 464 = .ok (.ifCond .ne 163, 3) := by decide +kernel
theorem dL_house_467 : decode cL_house 467 = .ok (.aload_n 0, 1) := by decide +kernel
theorem dL_house_468 : decode cL_house 468 = .ok (.invokevirtual 76, 3) := by decide +kernel
theorem dL_house_471 : decode cL_house 471 = .ok (.bipush 50, 2) := by decide +kernel
theorem dL_house_473 : decode cL_house 473 = .ok (.if_icmp .ne 154, 3) := by decide +kernel
theorem dL_house_476 : decode cL_house 476 = .ok (.aload_n 0, 1) := by decide +kernel
theorem dL_house_477 : decode cL_house 477 = .ok (.invokevirtual 79, 3) := by decide +kernel
theorem dL_house_480 : decode cL_house 480 = .ok (.sipush 1650, 3) := by decide +kernel
theorem dL_house_483 : decode cL_house 483 = .ok (.if_icmp .ne 144, 3) := by decide +kernel
theorem dL_house_486 : decode cL_house 486 = .ok (.aload_n 0, 1) := by decide +kernel
theorem dL_house_487 : decode cL_house 487 = .ok (.invokevirtual 102, 3) := by decide +kernel
theorem dL_house_490 : decode cL_house 490 = .ok (.bipush 7, 2) := by decide +kernel
theorem dL_house_492 : decode cL_house 492 = .ok (.if_icmp .ne 135, 3) := by decide +kernel
theorem dL_house_495 : decode cL_house 495 = .ok (.aload_n 0, 1) := by decide +kernel
theorem dL_house_496 : decode cL_house 496 = .ok (.iconst 0, 1) := by decide +kernel
theorem dL_house_497 : decode cL_house 497 = .ok (.bipush 8, 2) := by decide +kernel
theorem dL_house_499 : decode cL_house 499 = .ok (.bipush 12, 2) := by decide +kernel
theorem dL_house_501 : decode cL_house 501 = .ok (.bipush 56, 2) := by decide +kernel
theorem dL_house_503 : decode cL_house 503 = .ok (.invokestatic 105, 3) := by decide +kernel
theorem dL_house_506 : decode cL_house 506 = .ok (.ifCond .eq 121, 3) := by decide +kernel
theorem dL_house_509 : decode cL_house 509 = .ok (.aload_n 0, 1) := by decide +kernel
theorem dL_house_510 : decode cL_house 510 = .ok (.invokevirtual 99, 3) := by decide +kernel
theorem dL_house_513 : decode cL_house 513 = .ok (.iconst 3, 1) := by decide +kernel
theorem dL_house_514 : decode cL_house 514 = .ok (.if_icmp .ne 113, 3) := by decide +kernel
theorem dL_house_517 : decode cL_house 517 = .ok (.aload_n 0, 1) := by decide +kernel
theorem dL_house_518 : decode cL_house 518 = .ok (.iconst 0, 1) := by decide +kernel
theorem dL_house_519 : decode cL_house 519 = .ok (.invokevirtual 20, 3) := by decide +kernel
theorem dL_house_522 : decode cL_house 522 = .ok (.ifCond .ne 105, 3) := by decide +kernel
theorem dL_house_525 : decode cL_house 525 = .ok (.aload_n 0, 1) := by decide +kernel
theorem dL_house_526 : decode cL_house 526 = .ok (.invokevirtual 76, 3) := by decide +kernel
theorem dL_house_529 : decode cL_house 529 = .ok (.ifCond .ne 98, 3) := by decide +kernel
theorem dL_house_532 : decode cL_house 532 = .ok (.aload_n 0, 1) := by decide +kernel
theorem dL_house_533 : decode cL_house 533 = .ok (.invokevirtual 79, 3) := by decide +kernel
theorem dL_house_536 : decode cL_house 536 = .ok (.sipush 1700, 3) := by decide +kernel
theorem dL_house_539 : decode cL_house 539 = .ok (.if_icmp .ne 88, 3) := by decide +kernel
theorem dL_house_542 : decode cL_house 542 = .ok (.aload_n 0, 1) := by decide +kernel
theorem dL_house_543 : decode cL_house 543 = .ok (.iconst 3, 1) := by decide +kernel
theorem dL_house_544 : decode cL_house 544 = .ok (.iconst 0, 1) := by decide +kernel
theorem dL_house_545 : decode cL_house 545 = .ok (.iconst 0, 1) := by decide +kernel
theorem dL_house_546 : decode cL_house 546 = .ok (.iconst 0, 1) := by decide +kernel
theorem dL_house_547 : decode cL_house 547 = .ok (.invokestatic 87, 3) := by decide +kernel
theorem dL_house_550 : decode cL_house 550 = .ok (.bipush (-73), 2) := by decide +kernel
theorem dL_house_552 : decode cL_house 552 = .ok (.if_icmp .ne 75, 3) := by decide +kernel
theorem dL_house_555 : decode cL_house 555 = .ok (.aload_n 0, 1) := by decide +kernel
theorem dL_house_556 : decode cL_house 556 = .ok (.iconst 0, 1) := by decide +kernel
theorem dL_house_557 : decode cL_house 557 = .ok (.invokevirtual 115, 3) := by decide +kernel
theorem dL_house_560 : decode cL_house 560 = .ok (.ifCond .eq 67, 3) := by decide +kernel
theorem dL_house_563 : decode cL_house 563 = .ok (.aload_n 0, 1) := by decide +kernel
theorem dL_house_564 : decode cL_house 564 = .ok (.iconst 1, 1) := by decide +kernel
theorem dL_house_565 : decode cL_house 565 = .ok (.invokevirtual 20, 3) := by decide +kernel
theorem dL_house_568 : decode cL_house 568 = .ok (.ifCond .ne 59, 3) := by decide +kernel
theorem dL_house_571 : decode cL_house 571 = .ok (.aload_n 0, 1) := by decide +kernel
theorem dL_house_572 : decode cL_house 572 = .ok (.invokevirtual 99, 3) := by decide +kernel
theorem dL_house_575 : decode cL_house 575 = .ok (.iconst 5, 1) := by decide +kernel
theorem dL_house_576 : decode cL_house 576 = .ok (.if_icmp .ne 51, 3) := by decide +kernel
theorem dL_house_579 : decode cL_house 579 = .ok (.aload_n 0, 1) := by decide +kernel
theorem dL_house_580 : decode cL_house 580 = .ok (.iconst 0, 1) := by decide +kernel
theorem dL_house_581 : decode cL_house 581 = .ok (.iconst 0, 1) := by decide +kernel
theorem dL_house_582 : decode cL_house 582 = .ok (.invokevirtual 16, 3) := by decide +kernel
theorem dL_house_585 : decode cL_house 585 = .ok (.bipush 100, 2) := by decide +kernel
theorem dL_house_587 : decode cL_house 587 = .ok (.if_icmp .ne 40, 3) := by decide +kernel
theorem dL_house_590 : decode cL_house 590 = .ok (.aload_n 0, 1) := by decide +kernel
theorem dL_house_591 : decode cL_house 591 = .ok (.iconst 1, 1) := by decide +kernel
theorem dL_house_592 : decode cL_house 592 = .ok (.invokevirtual 115, 3) := by decide +kernel
theorem dL_house_595 : decode cL_house 595 = .ok (.ifCond .ne 32, 3) := by decide +kernel
theorem dL_house_598 : decode cL_house 598 = .ok (.aload_n 0, 1) := by decide +kernel
theorem dL_house_599 : decode cL_house 599 = .ok (.iconst 1, 1) := by decide +kernel
theorem dL_house_600 : decode cL_house 600 = .ok (.invokevirtual 20, 3) := by decide +kernel
theorem dL_house_603 : decode cL_house 603 = .ok (.ifCond .ne 24, 3) := by decide +kernel
theorem dL_house_606 : decode cL_house 606 = .ok (.aload_n 0, 1) := by decide +kernel
theorem dL_house_607 : decode cL_house 607 = .ok (.invokevirtual 79, 3) := by decide +kernel
theorem dL_house_610 : decode cL_house 610 = .ok (.sipush 1700, 3) := by decide +kernel
theorem dL_house_613 : decode cL_house 613 = .ok (.if_icmp .ne 14, 3) := by decide +kernel
theorem dL_house_616 : decode cL_house 616 = .ok (.aload_n 0, 1) := by decide +kernel
theorem dL_house_617 : decode cL_house 617 = .ok (.iconst 3, 1) := by decide +kernel
theorem dL_house_618 : decode cL_house 618 = .ok (.iconst 0, 1) := by decide +kernel
theorem dL_house_619 : decode cL_house 619 = .ok (.iconst 0, 1) := by decide +kernel
theorem dL_house_620 : decode cL_house 620 = .ok (.iconst 0, 1) := by decide +kernel
theorem dL_house_621 : decode cL_house 621 = .ok (.invokestatic 109, 3) := by decide +kernel
theorem dL_house_624 : decode cL_house 624 = .ok (.ifCond .ne 5, 3) := by decide +kernel
theorem dL_house_627 : decode cL_house 627 = .ok (.iconst 0, 1) := by decide +kernel
theorem dL_house_628 : decode cL_house 628 = .ok (.ireturn, 1) := by decide +kernel
theorem dL_house_629 : decode cL_house 629 = .ok (.aload_n 0, 1) := by decide +kernel
theorem dL_house_630 : decode cL_house 630 = .ok (.iconst 1, 1) := by decide +kernel
theorem dL_house_631 : decode cL_house 631 = .ok (.sipush 300, 3) := by decide +kernel
theorem dL_house_634 : decode cL_house 634 = .ok (.invokevirtual 34, 3) := by decide +kernel
theorem dL_house_637 : decode cL_house 637 = .ok (.ifCond .ne 333, 3) := by decide +kernel
theorem dL_house_640 : decode cL_house 640 = .ok (.aload_n 0, 1) := by decide +kernel
theorem dL_house_641 : decode cL_house 641 = .ok (.iconst 2, 1) := by decide +kernel
theorem dL_house_642 : decode cL_house 642 = .ok (.sipush 200, 3) := by decide +kernel
theorem dL_house_645 : decode cL_house 645 = .ok (.invokevirtual 34, 3) := by decide +kernel
theorem dL_house_648 : decode cL_house 648 = .ok (.iconst 1, 1) := by decide +kernel
theorem dL_house_649 : decode cL_house 649 = .ok (.if_icmp .ne 321, 3) := by decide +kernel
theorem dL_house_652 : decode cL_house 652 = .ok (.aload_n 0, 1) := by decide +kernel
theorem dL_house_653 : decode cL_house 653 = .ok (.iconst (-1), 1) := by decide +kernel
theorem dL_house_654 : decode cL_house 654 = .ok (.iconst 3, 1) := by decide +kernel
theorem dL_house_655 : decode cL_house 655 = .ok (.bipush 50, 2) := by decide +kernel
theorem dL_house_657 : decode cL_house 657 = .ok (.invokevirtual 37, 3) := by decide +kernel
theorem dL_house_660 : decode cL_house 660 = .ok (.ifCond .ne 310, 3) := by decide +kernel
theorem dL_house_663 : decode cL_house 663 = .ok (.aload_n 0, 1) := by decide +kernel
theorem dL_house_664 : decode cL_house 664 = .ok (.iconst 0, 1) := by decide +kernel
theorem dL_house_665 : decode cL_house 665 = .ok (.iconst 4, 1) := by decide +kernel
theorem dL_house_666 : decode cL_house 666 = .ok (.bipush 20, 2) := by decide +kernel
theorem dL_house_668 : decode cL_house 668 = .ok (.invokevirtual 37, 3) := by decide +kernel
theorem dL_house_671 : decode cL_house 671 = .ok (.iconst 1, 1) := by decide +kernel
theorem dL_house_672 : decode cL_house 672 = .ok (.if_icmp .ne 298, 3) := by decide +kernel
theorem dL_house_675 : decode cL_house 675 = .ok (.aload_n 0, 1) := by decide +kernel
theorem dL_house_676 : decode cL_house 676 = .ok (.iconst 1, 1) := by decide +kernel
theorem dL_house_677 : decode cL_house 677 = .ok (.iconst 5, 1) := by decide +kernel
theorem dL_house_678 : decode cL_house 678 = .ok (.bipush 50, 2) := by decide +kernel
theorem dL_house_680 : decode cL_house 680 = .ok (.invokevirtual 37, 3) := by decide +kernel
theorem dL_house_683 : decode cL_house 683 = .ok (.iconst 2, 1) := by decide +kernel
theorem dL_house_684 : decode cL_house 684 = .ok (.if_icmp .ne 286, 3) := by decide +kernel
theorem dL_house_687 : decode cL_house 687 = .ok (.aload_n 0, 1) := by decide +kernel
theorem dL_house_688 : decode cL_house 688 = .ok (.bipush 8, 2) := by decide +kernel
theorem dL_house_690 : decode cL_house 690 = .ok (.iconst (-1), 1) := by decide +kernel
theorem dL_house_691 : decode cL_house 691 = .ok (.iconst 3, 1) := by decide +kernel
theorem dL_house_692 : decode cL_house 692 = .ok (.bipush 51, 2) := by decide +kernel
theorem dL_house_694 : decode cL_house 694 = .ok (.invokestatic 87, 3) := by decide +kernel
theorem dL_house_697 : decode cL_house 697 = .ok (.bipush (-73), 2) := by decide +kernel
theorem dL_house_699 : decode cL_house 699 = .ok (.if_icmp .ne 271, 3) := by decide +kernel
theorem dL_house_702 : decode cL_house 702 = .ok (.aload_n 0, 1) := by decide +kernel
theorem dL_house_703 : decode cL_house 703 = .ok (.iconst (-1), 1) := by decide +kernel
theorem dL_house_704 : decode cL_house 704 = .ok (.iconst 2, 1) := by decide +kernel
theorem dL_house_705 : decode cL_house 705 = .ok (.bipush 25, 2) := by decide +kernel
theorem dL_house_707 : decode cL_house 707 = .ok (.invokevirtual 37, 3) := by decide +kernel
theorem dL_house_710 : decode cL_house 710 = .ok (.iconst 3, 1) := by decide +kernel
theorem dL_house_711 : decode cL_house 711 = .ok (.if_icmp .ne 259, 3) := by decide +kernel
theorem dL_house_714 : decode cL_house 714 = .ok (.aload_n 0, 1) := by decide +kernel
theorem dL_house_715 : decode cL_house 715 = .ok (.bipush 8, 2) := by decide +kernel
theorem dL_house_717 : decode cL_house 717 = .ok (.iconst 0, 1) := by decide +kernel
theorem dL_house_718 : decode cL_house 718 = .ok (.iconst 3, 1) := by decide +kernel
theorem dL_house_719 : decode cL_house 719 = .ok (.bipush 81, 2) := by decide +kernel
theorem dL_house_721 : decode cL_house 721 = .ok (.invokestatic 87, 3) := by decide +kernel
theorem dL_house_724 : decode cL_house 724 = .ok (.bipush (-73), 2) := by decide +kernel
theorem dL_house_726 : decode cL_house 726 = .ok (.if_icmp .ne 244, 3) := by decide +kernel
theorem dL_house_729 : decode cL_house 729 = .ok (.aload_n 0, 1) := by decide +kernel
theorem dL_house_730 : decode cL_house 730 = .ok (.sipush 1000, 3) := by decide +kernel
theorem dL_house_733 : decode cL_house 733 = .ok (.invokevirtual 41, 3) := by decide +kernel
theorem dL_house_736 : decode cL_house 736 = .ok (.ifCond .ne 234, 3) := by decide +kernel
theorem dL_house_739 : decode cL_house 739 = .ok (.aload_n 0, 1) := by decide +kernel
theorem dL_house_740 : decode cL_house 740 = .ok (.invokevirtual 112, 3) := by decide +kernel
theorem dL_house_743 : decode cL_house 743 = .ok (.sipush 700, 3) := by decide +kernel
theorem dL_house_746 : decode cL_house 746 = .ok (.if_icmp .ne 224, 3) := by decide +kernel
theorem dL_house_749 : decode cL_house 749 = .ok (.aload_n 0, 1) := by decide +kernel
theorem dL_house_750 : decode cL_house 750 = .ok (.iconst 0, 1) := by decide +kernel
theorem dL_house_751 : decode cL_house 751 = .ok (.invokevirtual 57, 3) := by decide +kernel
theorem dL_house_754 : decode cL_house 754 = .ok (.sipush 300, 3) := by decide +kernel
theorem dL_house_757 : decode cL_house 757 = .ok (.if_icmp .ne 213, 3) := by decide +kernel
theorem dL_house_760 : decode cL_house 760 = .ok (.aload_n 0, 1) := by decide +kernel
theorem dL_house_761 : decode cL_house 761 = .ok (.sipush 1000, 3) := by decide +kernel
theorem dL_house_764 : decode cL_house 764 = .ok (.invokevirtual 41, 3) := by decide +kernel
theorem dL_house_767 : decode cL_house 767 = .ok (.ifCond .ne 203, 3) := by decide +kernel
theorem dL_house_770 : decode cL_house 770 = .ok (.aload_n 0, 1) := by decide +kernel
theorem dL_house_771 : decode cL_house 771 = .ok (.invokevirtual 112, 3) := by decide +kernel
theorem dL_house_774 : decode cL_house 774 = .ok (.ifCond .ne 196, 3) := by decide +kernel
theorem dL_house_777 : decode cL_house 777 = .ok (.aload_n 0, 1) := by decide +kernel
theorem dL_house_778 : decode cL_house 778 = .ok (.iconst 0, 1) := by decide +kernel
theorem dL_house_779 : decode cL_house 779 = .ok (.invokevirtual 57, 3) := by decide +kernel
theorem dL_house_782 : decode cL_house 782 = .ok (.ifCond .ne 188, 3) := by decide +kernel
theorem dL_house_785 : decode cL_house 785 = .ok (.aload_n 0, 1) := by decide +kernel
theorem dL_house_786 : decode cL_house 786 = .ok (.iconst 1, 1) := by decide +kernel
theorem dL_house_787 : decode cL_house 787 = .ok (.invokevirtual 57, 3) := by decide +kernel
theorem dL_house_790 : decode cL_house 790 = .ok (.sipush 200, 3) := by decide +kernel
theorem dL_house_793 : decode cL_house 793 = .ok (.if_icmp .ne 177, 3) := by decide +kernel
theorem dL_house_796 : decode cL_house 796 = .ok (.aload_n 0, 1) := by decide +kernel
theorem dL_house_797 : decode cL_house 797 = .ok (.iconst 1, 1) := by decide +kernel
theorem dL_house_798 : decode cL_house 798 = .ok (.invokevirtual 60, 3) := by decide +kernel
theorem dL_house_801 : decode cL_house 801 = .ok (.sipush 300, 3) := by decide +kernel
theorem dL_house_804 : decode cL_house 804 = .ok (.if_icmp .ne 166, 3) := by decide +kernel
theorem dL_house_807 : decode cL_house 807 = .ok (.aload_n 0, 1) := by decide +kernel
theorem dL_house_808 : decode cL_house 808 = .ok (.iconst 3, 1) := by decide +kernel
theorem dL_house_809 : decode cL_house 809 = .ok (.invokevirtual 60, 3) := by decide +kernel
theorem dL_house_812 : decode cL_house 812 = .ok (.ifCond .ne 158, 3) := by decide +kernel
theorem dL_house_815 : decode cL_house 815 = .ok (.aload_n 0, 1) := by decide +kernel
theorem dL_house_816 : decode cL_house 816 = .ok (.sipush 1200, 3) := by decide +kernel
theorem dL_house_819 : decode cL_house 819 = .ok (.invokevirtual 41, 3) := by decide +kernel
theorem dL_house_822 : decode cL_house 822 = .ok (.sipush 1000, 3) := by decide +kernel
theorem dL_house_825 : decode cL_house 825 = .ok (.if_icmp .ne 145, 3) := by decide +kernel
theorem dL_house_828 : decode cL_house 828 = .ok (.aload_n 0, 1) := by decide +kernel
theorem dL_house_829 : decode cL_house 829 = .ok (.iconst 1, 1) := by decide +kernel
theorem dL_house_830 : decode cL_house 830 = .ok (.invokevirtual 57, 3) := by decide +kernel
theorem dL_house_833 : decode cL_house 833 = .ok (.ifCond .ne 137, 3) := by decide +kernel
theorem dL_house_836 : decode cL_house 836 = .ok (.aload_n 0, 1) := by decide +kernel
theorem dL_house_837 : decode cL_house 837 = .ok (.iconst 2, 1) := by decide +kernel
theorem dL_house_838 : decode cL_house 838 = .ok (.invokevirtual 60, 3) := by decide +kernel
theorem dL_house_841 : decode cL_house 841 = .ok (.sipush 450, 3) := by decide +kernel
theorem dL_house_844 : decode cL_house 844 = .ok (.if_icmp .ne 126, 3) := by decide +kernel
theorem dL_house_847 : decode cL_house 847 = .ok (.aload_n 0, 1) := by decide +kernel
theorem dL_house_848 : decode cL_house 848 = .ok (.iconst 3, 1) := by decide +kernel
theorem dL_house_849 : decode cL_house 849 = .ok (.invokevirtual 60, 3) := by decide +kernel
theorem dL_house_852 : decode cL_house 852 = .ok (.sipush 400, 3) := by decide +kernel
theorem dL_house_855 : decode cL_house 855 = .ok (.if_icmp .ne 115, 3) := by decide +kernel
theorem dL_house_858 : decode cL_house 858 = .ok (.aload_n 0, 1) := by decide +kernel
theorem dL_house_859 : decode cL_house 859 = .ok (.iconst 4, 1) := by decide +kernel
theorem dL_house_860 : decode cL_house 860 = .ok (.invokevirtual 60, 3) := by decide +kernel
theorem dL_house_863 : decode cL_house 863 = .ok (.bipush 50, 2) := by decide +kernel
theorem dL_house_865 : decode cL_house 865 = .ok (.if_icmp .ne 105, 3) := by decide +kernel
theorem dL_house_868 : decode cL_house 868 = .ok (.aload_n 0, 1) := by decide +kernel
theorem dL_house_869 : decode cL_house 869 = .ok (.iconst 5, 1) := by decide +kernel
theorem dL_house_870 : decode cL_house 870 = .ok (.invokevirtual 60, 3) := by decide +kernel
theorem dL_house_873 : decode cL_house 873 = .ok (.bipush 50, 2) := by decide +kernel
theorem dL_house_875 : decode cL_house 875 = .ok (.if_icmp .ne 95, 3) := by decide +kernel
theorem dL_house_878 : decode cL_house 878 = .ok (.aload_n 0, 1) := by decide +kernel
theorem dL_house_879 : decode cL_house 879 = .ok (.iconst 0, 1) := by decide +kernel
theorem dL_house_880 : decode cL_house 880 = .ok (.invokevirtual 60, 3) := by decide +kernel
theorem dL_house_883 : decode cL_house 883 = .ok (.ifCond .ne 87, 3) := by decide +kernel
theorem dL_house_886 : decode cL_house 886 = .ok (.aload_n 0, 1) := by decide +kernel
theorem dL_house_887 : decode cL_house 887 = .ok (.invokevirtual 82, 3) := by decide +kernel
theorem dL_house_890 : decode cL_house 890 = .ok (.sipush 250, 3) := by decide +kernel
theorem dL_house_893 : decode cL_house 893 = .ok (.if_icmp .ne 77, 3) := by decide +kernel
theorem dL_house_896 : decode cL_house 896 = .ok (.aload_n 0, 1) := by decide +kernel
theorem dL_house_897 : decode cL_house 897 = .ok (.bipush 7, 2) := by decide +kernel
theorem dL_house_899 : decode cL_house 899 = .ok (.invokevirtual 41, 3) := by decide +kernel
theorem dL_house_902 : decode cL_house 902 = .ok (.bipush 7, 2) := by decide +kernel
theorem dL_house_904 : decode cL_house 904 = .ok (.if_icmp .ne 66, 3) := by decide +kernel
theorem dL_house_907 : decode cL_house 907 = .ok (.aload_n 0, 1) := by decide +kernel
theorem dL_house_908 : decode cL_house 908 = .ok (.iconst 3, 1) := by decide +kernel
theorem dL_house_909 : decode cL_house 909 = .ok (.invokevirtual 60, 3) := by decide +kernel
theorem dL_house_912 : decode cL_house 912 = .ok (.sipush 403, 3) := by decide +kernel
theorem dL_house_915 : decode cL_house 915 = .ok (.if_icmp .ne 55, 3) := by decide +kernel
theorem dL_house_918 : decode cL_house 918 = .ok (.aload_n 0, 1) := by decide +kernel
theorem dL_house_919 : decode cL_house 919 = .ok (.iconst 2, 1) := by decide +kernel
theorem dL_house_920 : decode cL_house 920 = .ok (.invokevirtual 60, 3) := by decide +kernel
theorem dL_house_923 : decode cL_house 923 = .ok (.sipush 451, 3) := by decide +kernel
theorem dL_house_926 : decode cL_house 926 = .ok (.if_icmp .ne 44, 3) := by decide +kernel
theorem dL_house_929 : decode cL_house 929 = .ok (.aload_n 0, 1) := by decide +kernel
theorem dL_house_930 : decode cL_house 930 = .ok (.iconst 4, 1) := by decide +kernel
theorem dL_house_931 : decode cL_house 931 = .ok (.invokevirtual 60, 3) := by decide +kernel
theorem dL_house_934 : decode cL_house 934 = .ok (.bipush 50, 2) := by decide +kernel
theorem dL_house_936 : decode cL_house 936 = .ok (.if_icmp .ne 34, 3) := by decide +kernel
theorem dL_house_939 : decode cL_house 939 = .ok (.aload_n 0, 1) := by decide +kernel
theorem dL_house_940 : decode cL_house 940 = .ok (.invokevirtual 82, 3) := by decide +kernel
theorem dL_house_943 : decode cL_house 943 = .ok (.sipush 253, 3) := by decide +kernel
theorem dL_house_946 : decode cL_house 946 = .ok (.if_icmp .ne 24, 3) := by decide +kernel
theorem dL_house_949 : decode cL_house 949 = .ok (.aload_n 0, 1) := by decide +kernel
theorem dL_house_950 : decode cL_house 950 = .ok (.invokevirtual 79, 3) := by decide +kernel
theorem dL_house_953 : decode cL_house 953 = .ok (.sipush 1700, 3) := by decide +kernel
theorem dL_house_956 : decode cL_house 956 = .ok (.if_icmp .ne 14, 3) := by decide +kernel
theorem dL_house_959 : decode cL_house 959 = .ok (.aload_n 0, 1) := by decide +kernel
theorem dL_house_960 : decode cL_house 960 = .ok (.iconst 3, 1) := by decide +kernel
theorem dL_house_961 : decode cL_house 961 = .ok (.iconst 0, 1) := by decide +kernel
theorem dL_house_962 : decode cL_house 962 = .ok (.iconst 2, 1) := by decide +kernel
theorem dL_house_963 : decode cL_house 963 = .ok (.iconst 4, 1) := by decide +kernel
theorem dL_house_964 : decode cL_house 964 = .ok (.invokestatic 109, 3) := by decide +kernel
theorem dL_house_967 : decode cL_house 967 = .ok (.ifCond .ne 5, 3) := by decide +kernel
theorem dL_house_970 : decode cL_house 970 = .ok (.iconst 0, 1) := by decide +kernel
theorem dL_house_971 : decode cL_house 971 = .ok (.ireturn, 1) := by decide +kernel
theorem dL_house_972 : decode cL_house 972 = .ok (.aload_n 0, 1) := by decide +kernel
theorem dL_house_973 : decode cL_house 973 = .ok (.iconst 3, 1) := by decide +kernel
theorem dL_house_974 : decode cL_house 974 = .ok (.bipush 30, 2) := by decide +kernel
theorem dL_house_976 : decode cL_house 976 = .ok (.invokevirtual 24, 3) := by decide +kernel
theorem dL_house_979 : decode cL_house 979 = .ok (.bipush 30, 2) := by decide +kernel
theorem dL_house_981 : decode cL_house 981 = .ok (.if_icmp .ne 154, 3) := by decide +kernel
theorem dL_house_984 : decode cL_house 984 = .ok (.aload_n 0, 1) := by decide +kernel
theorem dL_house_985 : decode cL_house 985 = .ok (.bipush 20, 2) := by decide +kernel
theorem dL_house_987 : decode cL_house 987 = .ok (.invokevirtual 27, 3) := by decide +kernel
theorem dL_house_990 : decode cL_house 990 = .ok (.bipush 20, 2) := by decide +kernel
theorem dL_house_992 : decode cL_house 992 = .ok (.if_icmp .ne 143, 3) := by decide +kernel
theorem dL_house_995 : decode cL_house 995 = .ok (.aload_n 0, 1) := by decide +kernel
theorem dL_house_996 : decode cL_house 996 = .ok (.bipush 6, 2) := by decide +kernel
theorem dL_house_998 : decode cL_house 998 = .ok (.iconst 3, 1) := by decide +kernel
theorem dL_house_999 : decode cL_house 999 = .ok (.bipush 51, 2) := by decide +kernel
theorem dL_house_1001 : decode cL_house 1001 = .ok (.iconst 0, 1) := by decide +kernel
theorem dL_house_1002 : decode cL_house 1002 = .ok (.invokestatic 87, 3) := by decide +kernel
theorem dL_house_1005 : decode cL_house 1005 = .ok (.bipush (-73), 2) := by decide +kernel
theorem dL_house_1007 : decode cL_house 1007 = .ok (.if_icmp .ne 128, 3) := by decide +kernel
theorem dL_house_1010 : decode cL_house 1010 = .ok (.aload_n 0, 1) := by decide +kernel
theorem dL_house_1011 : decode cL_house 1011 = .ok (.iconst 3, 1) := by decide +kernel
theorem dL_house_1012 : decode cL_house 1012 = .ok (.bipush 40, 2) := by decide +kernel
theorem dL_house_1014 : decode cL_house 1014 = .ok (.invokevirtual 31, 3) := by decide +kernel
theorem dL_house_1017 : decode cL_house 1017 = .ok (.bipush 10, 2) := by decide +kernel
theorem dL_house_1019 : decode cL_house 1019 = .ok (.if_icmp .ne 116, 3) := by decide +kernel
theorem dL_house_1022 : decode cL_house 1022 = .ok (.aload_n 0, 1) := by decide +kernel
theorem dL_house_1023 : decode cL_house 1023 = .ok (.iconst 3, 1) := by decide +kernel
theorem dL_house_1024 : decode cL_house 1024 = .ok (.invokevirtual 54, 3) := by decide +kernel
theorem dL_house_1027 : decode cL_house 1027 = .ok (.ifCond .ne 108, 3) := by decide +kernel
theorem dL_house_1030 : decode cL_house 1030 = .ok (.aload_n 0, 1) := by decide +kernel
theorem dL_house_1031 : decode cL_house 1031 = .ok (.invokevirtual 76, 3) := by decide +kernel
theorem dL_house_1034 : decode cL_house 1034 = .ok (.bipush 10, 2) := by decide +kernel
theorem dL_house_1036 : decode cL_house 1036 = .ok (.if_icmp .ne 99, 3) := by decide +kernel
theorem dL_house_1039 : decode cL_house 1039 = .ok (.aload_n 0, 1) := by decide +kernel
theorem dL_house_1040 : decode cL_house 1040 = .ok (.iconst 2, 1) := by decide +kernel
theorem dL_house_1041 : decode cL_house 1041 = .ok (.bipush 10, 2) := by decide +kernel
theorem dL_house_1043 : decode cL_house 1043 = .ok (.invokevirtual 31, 3) := by decide +kernel
theorem dL_house_1046 : decode cL_house 1046 = .ok (.bipush 10, 2) := by decide +kernel
theorem dL_house_1048 : decode cL_house 1048 = .ok (.if_icmp .ne 87, 3) := by decide +kernel
theorem dL_house_1051 : decode cL_house 1051 = .ok (.aload_n 0, 1) := by decide +kernel
theorem dL_house_1052 : decode cL_house 1052 = .ok (.invokevirtual 79, 3) := by decide +kernel
theorem dL_house_1055 : decode cL_house 1055 = .ok (.sipush 1750, 3) := by decide +kernel
theorem dL_house_1058 : decode cL_house 1058 = .ok (.if_icmp .ne 77, 3) := by decide +kernel
theorem dL_house_1061 : decode cL_house 1061 = .ok (.aload_n 0, 1) := by decide +kernel
theorem dL_house_1062 : decode cL_house 1062 = .ok (.invokevirtual 112, 3) := by decide +kernel
theorem dL_house_1065 : decode cL_house 1065 = .ok (.bipush 50, 2) := by decide +kernel
theorem dL_house_1067 : decode cL_house 1067 = .ok (.if_icmp .ne 68, 3) := by decide +kernel
theorem dL_house_1070 : decode cL_house 1070 = .ok (.aload_n 0, 1) := by decide +kernel
theorem dL_house_1071 : decode cL_house 1071 = .ok (.iconst 0, 1) := by decide +kernel
theorem dL_house_1072 : decode cL_house 1072 = .ok (.iconst 1, 1) := by decide +kernel
theorem dL_house_1073 : decode cL_house 1073 = .ok (.invokevirtual 34, 3) := by decide +kernel
theorem dL_house_1076 : decode cL_house 1076 = .ok (.iconst 2, 1) := by decide +kernel
theorem dL_house_1077 : decode cL_house 1077 = .ok (.if_icmp .ne 58, 3) := by decide +kernel
theorem dL_house_1080 : decode cL_house 1080 = .ok (.aload_n 0, 1) := by decide +kernel
theorem dL_house_1081 : decode cL_house 1081 = .ok (.bipush 52, 2) := by decide +kernel
theorem dL_house_1083 : decode cL_house 1083 = .ok (.invokevirtual 41, 3) := by decide +kernel
theorem dL_house_1086 : decode cL_house 1086 = .ok (.iconst 1, 1) := by decide +kernel
theorem dL_house_1087 : decode cL_house 1087 = .ok (.if_icmp .ne 48, 3) := by decide +kernel
theorem dL_house_1090 : decode cL_house 1090 = .ok (.aload_n 0, 1) := by decide +kernel
theorem dL_house_1091 : decode cL_house 1091 = .ok (.iconst 0, 1) := by decide +kernel
theorem dL_house_1092 : decode cL_house 1092 = .ok (.invokevirtual 60, 3) := by decide +kernel
theorem dL_house_1095 : decode cL_house 1095 = .ok (.iconst 1, 1) := by decide +kernel
theorem dL_house_1096 : decode cL_house 1096 = .ok (.if_icmp .ne 39, 3) := by decide +kernel
theorem dL_house_1099 : decode cL_house 1099 = .ok (.aload_n 0, 1) := by decide +kernel
theorem dL_house_1100 : decode cL_house 1100 = .ok (.invokevirtual 82, 3) := by decide +kernel
theorem dL_house_1103 : decode cL_house 1103 = .ok (.sipush 254, 3) := by decide +kernel
theorem dL_house_1106 : decode cL_house 1106 = .ok (.if_icmp .ne 29, 3) := by decide +kernel
theorem dL_house_1109 : decode cL_house 1109 = .ok (.aload_n 0, 1) := by decide +kernel
theorem dL_house_1110 : decode cL_house 1110 = .ok (.iconst 2, 1) := by decide +kernel
theorem dL_house_1111 : decode cL_house 1111 = .ok (.invokevirtual 60, 3) := by decide +kernel
theorem dL_house_1114 : decode cL_house 1114 = .ok (.sipush 451, 3) := by decide +kernel
theorem dL_house_1117 : decode cL_house 1117 = .ok (.if_icmp .ne 18, 3) := by decide +kernel
theorem dL_house_1120 : decode cL_house 1120 = .ok (.aload_n 0, 1) := by decide +kernel
theorem dL_house_1121 : decode cL_house 1121 = .ok (.iconst 3, 1) := by decide +kernel
theorem dL_house_1122 : decode cL_house 1122 = .ok (.iconst 0, 1) := by decide +kernel
theorem dL_house_1123 : decode cL_house 1123 = .ok (.iconst 3, 1) := by decide +kernel
theorem dL_house_1124 : decode cL_house 1124 = .ok (.iconst 4, 1) := by decide +kernel
theorem dL_house_1125 : decode cL_house 1125 = .ok (.invokestatic 109, 3) := by decide +kernel
theorem dL_house_1128 : decode cL_house 1128 = .ok (.ifCond .eq 7, 3) := by decide +kernel
theorem dL_house_1131 : decode cL_house 1131 = .ok (.iconst 1, 1) := by decide +kernel
theorem dL_house_1132 : decode cL_house 1132 = .ok (.goto 4, 3) := by decide +kernel
theorem dL_house_1135 : decode cL_house 1135 = .ok (.iconst 0, 1) := by decide +kernel
theorem dL_house_1136 : decode cL_house 1136 = .ok (.ireturn, 1) := by decide +kernel
theorem dL_plans_0 : decode cL_plans 0 = .ok (.new 8, 3) := by decide +kernel
theorem dL_plans_3 : decode cL_plans 3 = .ok (.dup, 1) := by decide +kernel
theorem dL_plans_4 : decode cL_plans 4 = .ok (.invokespecial 98, 3) := by decide +kernel
theorem dL_plans_7 : decode cL_plans 7 = .ok (.astore_n 0, 1) := by decide +kernel
theorem dL_plans_8 : decode cL_plans 8 = .ok (.aload_n 0, 1) := by decide +kernel
theorem dL_plans_9 : decode cL_plans 9 = .ok (.bipush 6, 2) := by decide +kernel
theorem dL_plans_11 : decode cL_plans 11 = .ok (.iconst 0, 1) := by decide +kernel
theorem dL_plans_12 : decode cL_plans 12 = .ok (.iconst 1, 1) := by decide +kernel
theorem dL_plans_13 : decode cL_plans 13 = .ok (.iconst 2, 1) := by decide +kernel
theorem dL_plans_14 : decode cL_plans 14 = .ok (.iconst 0, 1) := by decide +kernel
theorem dL_plans_15 : decode cL_plans 15 = .ok (.invokevirtual 69, 3) := by decide +kernel
theorem dL_plans_18 : decode cL_plans 18 = .ok (.ifCond .ne 105, 3) := by decide +kernel
theorem dL_plans_21 : decode cL_plans 21 = .ok (.aload_n 0, 1) := by decide +kernel
theorem dL_plans_22 : decode cL_plans 22 = .ok (.iconst 1, 1) := by decide +kernel
theorem dL_plans_23 : decode cL_plans 23 = .ok (.bipush 18, 2) := by decide +kernel
theorem dL_plans_25 : decode cL_plans 25 = .ok (.iconst (-1), 1) := by decide +kernel
theorem dL_plans_26 : decode cL_plans 26 = .ok (.iconst (-1), 1) := by decide +kernel
theorem dL_plans_27 : decode cL_plans 27 = .ok (.invokestatic 105, 3) := by decide +kernel
theorem dL_plans_30 : decode cL_plans 30 = .ok (.ifCond .eq 93, 3) := by decide +kernel
theorem dL_plans_33 : decode cL_plans 33 = .ok (.aload_n 0, 1) := by decide +kernel
theorem dL_plans_34 : decode cL_plans 34 = .ok (.bipush 6, 2) := by decide +kernel
theorem dL_plans_36 : decode cL_plans 36 = .ok (.iconst 0, 1) := by decide +kernel
theorem dL_plans_37 : decode cL_plans 37 = .ok (.iconst 1, 1) := by decide +kernel
theorem dL_plans_38 : decode cL_plans 38 = .ok (.iconst 0, 1) := by decide +kernel
theorem dL_plans_39 : decode cL_plans 39 = .ok (.iconst 0, 1) := by decide +kernel
theorem dL_plans_40 : decode cL_plans 40 = .ok (.invokevirtual 69, 3) := by decide +kernel
theorem dL_plans_43 : decode cL_plans 43 = .ok (.iconst 1, 1) := by decide +kernel
theorem dL_plans_44 : decode cL_plans 44 = .ok (.if_icmp .ne 79, 3) := by decide +kernel
theorem dL_plans_47 : decode cL_plans 47 = .ok (.aload_n 0, 1) := by decide +kernel
theorem dL_plans_48 : decode cL_plans 48 = .ok (.iconst 1, 1) := by decide +kernel
theorem dL_plans_49 : decode cL_plans 49 = .ok (.bipush 18, 2) := by decide +kernel
theorem dL_plans_51 : decode cL_plans 51 = .ok (.bipush 8, 2) := by decide +kernel
theorem dL_plans_53 : decode cL_plans 53 = .ok (.iconst (-1), 1) := by decide +kernel
theorem dL_plans_54 : decode cL_plans 54 = .ok (.invokestatic 105, 3) := by decide +kernel
theorem dL_plans_57 : decode cL_plans 57 = .ok (.ifCond .eq 66, 3) := by decide +kernel
theorem dL_plans_60 : decode cL_plans 60 = .ok (.aload_n 0, 1) := by decide +kernel
theorem dL_plans_61 : decode cL_plans 61 = .ok (.iconst 0, 1) := by decide +kernel
theorem dL_plans_62 : decode cL_plans 62 = .ok (.invokevirtual 48, 3) := by decide +kernel
theorem dL_plans_65 : decode cL_plans 65 = .ok (.iconst 1, 1) := by decide +kernel
theorem dL_plans_66 : decode cL_plans 66 = .ok (.if_icmp .ne 57, 3) := by decide +kernel
theorem dL_plans_69 : decode cL_plans 69 = .ok (.aload_n 0, 1) := by decide +kernel
theorem dL_plans_70 : decode cL_plans 70 = .ok (.bipush 6, 2) := by decide +kernel
theorem dL_plans_72 : decode cL_plans 72 = .ok (.iconst 0, 1) := by decide +kernel
theorem dL_plans_73 : decode cL_plans 73 = .ok (.iconst 1, 1) := by decide +kernel
theorem dL_plans_74 : decode cL_plans 74 = .ok (.iconst 1, 1) := by decide +kernel
theorem dL_plans_75 : decode cL_plans 75 = .ok (.iconst 1, 1) := by decide +kernel
theorem dL_plans_76 : decode cL_plans 76 = .ok (.invokevirtual 69, 3) := by decide +kernel
theorem dL_plans_79 : decode cL_plans 79 = .ok (.iconst 2, 1) := by decide +kernel
theorem dL_plans_80 : decode cL_plans 80 = .ok (.if_icmp .ne 43, 3) := by decide +kernel
theorem dL_plans_83 : decode cL_plans 83 = .ok (.aload_n 0, 1) := by decide +kernel
theorem dL_plans_84 : decode cL_plans 84 = .ok (.iconst 2, 1) := by decide +kernel
theorem dL_plans_85 : decode cL_plans 85 = .ok (.bipush 18, 2) := by decide +kernel
theorem dL_plans_87 : decode cL_plans 87 = .ok (.bipush 41, 2) := by decide +kernel
theorem dL_plans_89 : decode cL_plans 89 = .ok (.bipush 35, 2) := by decide +kernel
theorem dL_plans_91 : decode cL_plans 91 = .ok (.invokestatic 105, 3) := by decide +kernel
theorem dL_plans_94 : decode cL_plans 94 = .ok (.ifCond .eq 29, 3) := by decide +kernel
theorem dL_plans_97 : decode cL_plans 97 = .ok (.aload_n 0, 1) := by decide +kernel
theorem dL_plans_98 : decode cL_plans 98 = .ok (.iconst 0, 1) := by decide +kernel
theorem dL_plans_99 : decode cL_plans 99 = .ok (.invokevirtual 48, 3) := by decide +kernel
theorem dL_plans_102 : decode cL_plans 102 = .ok (.ifCond .ne 21, 3) := by decide +kernel
theorem dL_plans_105 : decode cL_plans 105 = .ok (.aload_n 0, 1) := by decide +kernel
theorem dL_plans_106 : decode cL_plans 106 = .ok (.iconst 1, 1) := by decide +kernel
theorem dL_plans_107 : decode cL_plans 107 = .ok (.invokevirtual 48, 3) := by decide +kernel
theorem dL_plans_110 : decode cL_plans 110 = .ok (.iconst 2, 1) := by decide +kernel
theorem dL_plans_111 : decode cL_plans 111 = .ok (.if_icmp .ne 12, 3) := by decide +kernel
theorem dL_plans_114 : decode cL_plans 114 = .ok (.aload_n 0, 1) := by decide +kernel
theorem dL_plans_115 : decode cL_plans 115 = .ok (.iconst 2, 1) := by decide +kernel
theorem dL_plans_116 : decode cL_plans 116 = .ok (.invokevirtual 48, 3) := by decide +kernel
theorem dL_plans_119 : decode cL_plans 119 = .ok (.iconst 1, 1) := by decide +kernel
theorem dL_plans_120 : decode cL_plans 120 = .ok (.if_icmp .eq 5, 3) := by decide +kernel
theorem dL_plans_123 : decode cL_plans 123 = .ok (.iconst 0, 1) := by decide +kernel
theorem dL_plans_124 : decode cL_plans 124 = .ok (.ireturn, 1) := by decide +kernel
theorem dL_plans_125 : decode cL_plans 125 = .ok (.new 8, 3) := by decide +kernel
theorem dL_plans_128 : decode cL_plans 128 = .ok (.dup, 1) := by decide +kernel
theorem dL_plans_129 : decode cL_plans 129 = .ok (.invokespecial 98, 3) := by decide +kernel
theorem dL_plans_132 : decode cL_plans 132 = .ok (.astore_n 1, 1) := by decide +kernel
theorem dL_plans_133 : decode cL_plans 133 = .ok (.aload_n 1, 1) := by decide +kernel
theorem dL_plans_134 : decode cL_plans 134 = .ok (.bipush 6, 2) := by decide +kernel
theorem dL_plans_136 : decode cL_plans 136 = .ok (.iconst 0, 1) := by decide +kernel
theorem dL_plans_137 : decode cL_plans 137 = .ok (.iconst 1, 1) := by decide +kernel
theorem dL_plans_138 : decode cL_plans 138 = .ok (.iconst 2, 1) := by decide +kernel
theorem dL_plans_139 : decode cL_plans 139 = .ok (.iconst 0, 1) := by decide +kernel
theorem dL_plans_140 : decode cL_plans 140 = .ok (.invokevirtual 69, 3) := by decide +kernel
theorem dL_plans_143 : decode cL_plans 143 = .ok (.ifCond .ne 191, 3) := by decide +kernel
theorem dL_plans_146 : decode cL_plans 146 = .ok (.aload_n 1, 1) := by decide +kernel
theorem dL_plans_147 : decode cL_plans 147 = .ok (.bipush 6, 2) := by decide +kernel
theorem dL_plans_149 : decode cL_plans 149 = .ok (.iconst 0, 1) := by decide +kernel
theorem dL_plans_150 : decode cL_plans 150 = .ok (.iconst 2, 1) := by decide +kernel
theorem dL_plans_151 : decode cL_plans 151 = .ok (.iconst 0, 1) := by decide +kernel
theorem dL_plans_152 : decode cL_plans 152 = .ok (.iconst 1, 1) := by decide +kernel
theorem dL_plans_153 : decode cL_plans 153 = .ok (.invokevirtual 69, 3) := by decide +kernel
theorem dL_plans_156 : decode cL_plans 156 = .ok (.iconst 1, 1) := by decide +kernel
theorem dL_plans_157 : decode cL_plans 157 = .ok (.if_icmp .ne 177, 3) := by decide +kernel
theorem dL_plans_160 : decode cL_plans 160 = .ok (.aload_n 1, 1) := by decide +kernel
theorem dL_plans_161 : decode cL_plans 161 = .ok (.iconst 2, 1) := by decide +kernel
theorem dL_plans_162 : decode cL_plans 162 = .ok (.bipush 18, 2) := by decide +kernel
theorem dL_plans_164 : decode cL_plans 164 = .ok (.bipush 32, 2) := by decide +kernel
theorem dL_plans_166 : decode cL_plans 166 = .ok (.iconst (-1), 1) := by decide +kernel
theorem dL_plans_167 : decode cL_plans 167 = .ok (.invokestatic 105, 3) := by decide +kernel
theorem dL_plans_170 : decode cL_plans 170 = .ok (.ifCond .eq 164, 3) := by decide +kernel
theorem dL_plans_173 : decode cL_plans 173 = .ok (.aload_n 1, 1) := by decide +kernel
theorem dL_plans_174 : decode cL_plans 174 = .ok (.iconst 1, 1) := by decide +kernel
theorem dL_plans_175 : decode cL_plans 175 = .ok (.iconst 1, 1) := by decide +kernel
theorem dL_plans_176 : decode cL_plans 176 = .ok (.iconst 3, 1) := by decide +kernel
theorem dL_plans_177 : decode cL_plans 177 = .ok (.iconst 1, 1) := by decide +kernel
theorem dL_plans_178 : decode cL_plans 178 = .ok (.iconst 2, 1) := by decide +kernel
theorem dL_plans_179 : decode cL_plans 179 = .ok (.invokevirtual 69, 3) := by decide +kernel
theorem dL_plans_182 : decode cL_plans 182 = .ok (.iconst 2, 1) := by decide +kernel
theorem dL_plans_183 : decode cL_plans 183 = .ok (.if_icmp .ne 151, 3) := by decide +kernel
theorem dL_plans_186 : decode cL_plans 186 = .ok (.aload_n 1, 1) := by decide +kernel
theorem dL_plans_187 : decode cL_plans 187 = .ok (.iconst 2, 1) := by decide +kernel
theorem dL_plans_188 : decode cL_plans 188 = .ok (.bipush 18, 2) := by decide +kernel
theorem dL_plans_190 : decode cL_plans 190 = .ok (.bipush 32, 2) := by decide +kernel
theorem dL_plans_192 : decode cL_plans 192 = .ok (.bipush 39, 2) := by decide +kernel
theorem dL_plans_194 : decode cL_plans 194 = .ok (.invokestatic 105, 3) := by decide +kernel
theorem dL_plans_197 : decode cL_plans 197 = .ok (.ifCond .eq 137, 3) := by decide +kernel
theorem dL_plans_200 : decode cL_plans 200 = .ok (.aload_n 1, 1) := by decide +kernel
theorem dL_plans_201 : decode cL_plans 201 = .ok (.iconst 0, 1) := by decide +kernel
theorem dL_plans_202 : decode cL_plans 202 = .ok (.iconst 0, 1) := by decide +kernel
theorem dL_plans_203 : decode cL_plans 203 = .ok (.invokevirtual 16, 3) := by decide +kernel
theorem dL_plans_206 : decode cL_plans 206 = .ok (.bipush 100, 2) := by decide +kernel
theorem dL_plans_208 : decode cL_plans 208 = .ok (.if_icmp .ne 126, 3) := by decide +kernel
theorem dL_plans_211 : decode cL_plans 211 = .ok (.aload_n 1, 1) := by decide +kernel
theorem dL_plans_212 : decode cL_plans 212 = .ok (.iconst 1, 1) := by decide +kernel
theorem dL_plans_213 : decode cL_plans 213 = .ok (.invokevirtual 20, 3) := by decide +kernel
theorem dL_plans_216 : decode cL_plans 216 = .ok (.iconst 1, 1) := by decide +kernel
theorem dL_plans_217 : decode cL_plans 217 = .ok (.if_icmp .ne 117, 3) := by decide +kernel
theorem dL_plans_220 : decode cL_plans 220 = .ok (.aload_n 1, 1) := by decide +kernel
theorem dL_plans_221 : decode cL_plans 221 = .ok (.invokevirtual 102, 3) := by decide +kernel
theorem dL_plans_224 : decode cL_plans 224 = .ok (.iconst 1, 1) := by decide +kernel
theorem dL_plans_225 : decode cL_plans 225 = .ok (.if_icmp .ne 109, 3) := by decide +kernel
theorem dL_plans_228 : decode cL_plans 228 = .ok (.aload_n 1, 1) := by decide +kernel
theorem dL_plans_229 : decode cL_plans 229 = .ok (.iconst 1, 1) := by decide +kernel
theorem dL_plans_230 : decode cL_plans 230 = .ok (.bipush 18, 2) := by decide +kernel
theorem dL_plans_232 : decode cL_plans 232 = .ok (.bipush 32, 2) := by decide +kernel
theorem dL_plans_234 : decode cL_plans 234 = .ok (.bipush 39, 2) := by decide +kernel
theorem dL_plans_236 : decode cL_plans 236 = .ok (.invokestatic 105, 3) := by decide +kernel
theorem dL_plans_239 : decode cL_plans 239 = .ok (.ifCond .eq 95, 3) := by decide +kernel
theorem dL_plans_242 : decode cL_plans 242 = .ok (.aload_n 1, 1) := by decide +kernel
theorem dL_plans_243 : decode cL_plans 243 = .ok (.iconst 3, 1) := by decide +kernel
theorem dL_plans_244 : decode cL_plans 244 = .ok (.iconst 1, 1) := by decide +kernel
theorem dL_plans_245 : decode cL_plans 245 = .ok (.iconst 0, 1) := by decide +kernel
theorem dL_plans_246 : decode cL_plans 246 = .ok (.iconst 1, 1) := by decide +kernel
theorem dL_plans_247 : decode cL_plans 247 = .ok (.iconst 4, 1) := by decide +kernel
theorem dL_plans_248 : decode cL_plans 248 = .ok (.invokevirtual 69, 3) := by decide +kernel
theorem dL_plans_251 : decode cL_plans 251 = .ok (.iconst 3, 1) := by decide +kernel
theorem dL_plans_252 : decode cL_plans 252 = .ok (.if_icmp .ne 82, 3) := by decide +kernel
theorem dL_plans_255 : decode cL_plans 255 = .ok (.aload_n 1, 1) := by decide +kernel
theorem dL_plans_256 : decode cL_plans 256 = .ok (.invokevirtual 73, 3) := by decide +kernel
theorem dL_plans_259 : decode cL_plans 259 = .ok (.iconst 2, 1) := by decide +kernel
theorem dL_plans_260 : decode cL_plans 260 = .ok (.if_icmp .ne 74, 3) := by decide +kernel
theorem dL_plans_263 : decode cL_plans 263 = .ok (.aload_n 1, 1) := by decide +kernel
theorem dL_plans_264 : decode cL_plans 264 = .ok (.iconst 3, 1) := by decide +kernel
theorem dL_plans_265 : decode cL_plans 265 = .ok (.invokevirtual 51, 3) := by decide +kernel
theorem dL_plans_268 : decode cL_plans 268 = .ok (.bipush 56, 2) := by decide +kernel
theorem dL_plans_270 : decode cL_plans 270 = .ok (.if_icmp .ne 64, 3) := by decide +kernel
theorem dL_plans_273 : decode cL_plans 273 = .ok (.aload_n 1, 1) := by decide +kernel
theorem dL_plans_274 : decode cL_plans 274 = .ok (.iconst 0, 1) := by decide +kernel
theorem dL_plans_275 : decode cL_plans 275 = .ok (.invokevirtual 20, 3) := by decide +kernel
theorem dL_plans_278 : decode cL_plans 278 = .ok (.iconst 2, 1) := by decide +kernel
theorem dL_plans_279 : decode cL_plans 279 = .ok (.if_icmp .ne 55, 3) := by decide +kernel
theorem dL_plans_282 : decode cL_plans 282 = .ok (.aload_n 1, 1) := by decide +kernel
theorem dL_plans_283 : decode cL_plans 283 = .ok (.invokevirtual 99, 3) := by decide +kernel
theorem dL_plans_286 : decode cL_plans 286 = .ok (.iconst 2, 1) := by decide +kernel
theorem dL_plans_287 : decode cL_plans 287 = .ok (.if_icmp .ne 47, 3) := by decide +kernel
theorem dL_plans_290 : decode cL_plans 290 = .ok (.aload_n 1, 1) := by decide +kernel
theorem dL_plans_291 : decode cL_plans 291 = .ok (.invokevirtual 73, 3) := by decide +kernel
theorem dL_plans_294 : decode cL_plans 294 = .ok (.iconst 1, 1) := by decide +kernel
theorem dL_plans_295 : decode cL_plans 295 = .ok (.if_icmp .ne 39, 3) := by decide +kernel
theorem dL_plans_298 : decode cL_plans 298 = .ok (.aload_n 1, 1) := by decide +kernel
theorem dL_plans_299 : decode cL_plans 299 = .ok (.iconst 3, 1) := by decide +kernel
theorem dL_plans_300 : decode cL_plans 300 = .ok (.invokevirtual 51, 3) := by decide +kernel
theorem dL_plans_303 : decode cL_plans 303 = .ok (.bipush 56, 2) := by decide +kernel
theorem dL_plans_305 : decode cL_plans 305 = .ok (.if_icmp .ne 29, 3) := by decide +kernel
theorem dL_plans_308 : decode cL_plans 308 = .ok (.aload_n 1, 1) := by decide +kernel
theorem dL_plans_309 : decode cL_plans 309 = .ok (.iconst 2, 1) := by decide +kernel
theorem dL_plans_310 : decode cL_plans 310 = .ok (.invokevirtual 51, 3) := by decide +kernel
theorem dL_plans_313 : decode cL_plans 313 = .ok (.bipush 39, 2) := by decide +kernel
theorem dL_plans_315 : decode cL_plans 315 = .ok (.if_icmp .ne 19, 3) := by decide +kernel
theorem dL_plans_318 : decode cL_plans 318 = .ok (.aload_n 1, 1) := by decide +kernel
theorem dL_plans_319 : decode cL_plans 319 = .ok (.iconst 0, 1) := by decide +kernel
theorem dL_plans_320 : decode cL_plans 320 = .ok (.invokevirtual 20, 3) := by decide +kernel
theorem dL_plans_323 : decode cL_plans 323 = .ok (.iconst 1, 1) := by decide +kernel
theorem dL_plans_324 : decode cL_plans 324 = .ok (.if_icmp .ne 10, 3) := by decide +kernel
theorem dL_plans_327 : decode cL_plans 327 = .ok (.aload_n 1, 1) := by decide +kernel
theorem dL_plans_328 : decode cL_plans 328 = .ok (.invokevirtual 73, 3) := by decide +kernel
theorem dL_plans_331 : decode cL_plans 331 = .ok (.ifCond .eq 5, 3) := by decide +kernel
theorem dL_plans_334 : decode cL_plans 334 = .ok (.iconst 0, 1) := by decide +kernel
theorem dL_plans_335 : decode cL_plans 335 = .ok (.ireturn, 1) := by decide +kernel
theorem dL_plans_336 : decode cL_plans 336 = .ok (.new 8, 3) := by decide +kernel
theorem dL_plans_339 : decode cL_plans 339 = .ok (.dup, 1) := by decide +kernel
theorem dL_plans_340 : decode cL_plans 340 = .ok (.invokespecial 98, 3) := by decide +kernel
theorem dL_plans_343 : decode cL_plans 343 = .ok (.astore_n 2, 1) := by decide +kernel
theorem dL_plans_344 : decode cL_plans 344 = .ok (.aload_n 2, 1) := by decide +kernel
theorem dL_plans_345 : decode cL_plans 345 = .ok (.iconst 5, 1) := by decide +kernel
theorem dL_plans_346 : decode cL_plans 346 = .ok (.iconst 1, 1) := by decide +kernel
theorem dL_plans_347 : decode cL_plans 347 = .ok (.invokevirtual 13, 3) := by decide +kernel
theorem dL_plans_350 : decode cL_plans 350 = .ok (.ifCond .ne 134, 3) := by decide +kernel
theorem dL_plans_353 : decode cL_plans 353 = .ok (.aload_n 2, 1) := by decide +kernel
theorem dL_plans_354 : decode cL_plans 354 = .ok (.iconst 3, 1) := by decide +kernel
theorem dL_plans_355 : decode cL_plans 355 = .ok (.iconst 2, 1) := by decide +kernel
theorem dL_plans_356 : decode cL_plans 356 = .ok (.bipush 32, 2) := by decide +kernel
theorem dL_plans_358 : decode cL_plans 358 = .ok (.iconst 0, 1) := by decide +kernel
theorem dL_plans_359 : decode cL_plans 359 = .ok (.iconst 0, 1) := by decide +kernel
theorem dL_plans_360 : decode cL_plans 360 = .ok (.invokevirtual 69, 3) := by decide +kernel
theorem dL_plans_363 : decode cL_plans 363 = .ok (.ifCond .ne 121, 3) := by decide +kernel
theorem dL_plans_366 : decode cL_plans 366 = .ok (.aload_n 2, 1) := by decide +kernel
theorem dL_plans_367 : decode cL_plans 367 = .ok (.iconst 3, 1) := by decide +kernel
theorem dL_plans_368 : decode cL_plans 368 = .ok (.iconst 2, 1) := by decide +kernel
theorem dL_plans_369 : decode cL_plans 369 = .ok (.bipush 48, 2) := by decide +kernel
theorem dL_plans_371 : decode cL_plans 371 = .ok (.iconst 0, 1) := by decide +kernel
theorem dL_plans_372 : decode cL_plans 372 = .ok (.iconst 0, 1) := by decide +kernel
theorem dL_plans_373 : decode cL_plans 373 = .ok (.invokevirtual 69, 3) := by decide +kernel
theorem dL_plans_376 : decode cL_plans 376 = .ok (.iconst 1, 1) := by decide +kernel
theorem dL_plans_377 : decode cL_plans 377 = .ok (.if_icmp .ne 107, 3) := by decide +kernel
theorem dL_plans_380 : decode cL_plans 380 = .ok (.aload_n 2, 1) := by decide +kernel
theorem dL_plans_381 : decode cL_plans 381 = .ok (.iconst 1, 1) := by decide +kernel
theorem dL_plans_382 : decode cL_plans 382 = .ok (.bipush 8, 2) := by decide +kernel
theorem dL_plans_384 : decode cL_plans 384 = .ok (.bipush 11, 2) := by decide +kernel
theorem dL_plans_386 : decode cL_plans 386 = .ok (.iconst (-1), 1) := by decide +kernel
theorem dL_plans_387 : decode cL_plans 387 = .ok (.invokestatic 105, 3) := by decide +kernel
theorem dL_plans_390 : decode cL_plans 390 = .ok (.ifCond .eq 94, 3) := by decide +kernel
theorem dL_plans_393 : decode cL_plans 393 = .ok (.aload_n 2, 1) := by decide +kernel
theorem dL_plans_394 : decode cL_plans 394 = .ok (.iconst 1, 1) := by decide +kernel
theorem dL_plans_395 : decode cL_plans 395 = .ok (.iconst 2, 1) := by decide +kernel
theorem dL_plans_396 : decode cL_plans 396 = .ok (.bipush 48, 2) := by decide +kernel
theorem dL_plans_398 : decode cL_plans 398 = .ok (.iconst 0, 1) := by decide +kernel
theorem dL_plans_399 : decode cL_plans 399 = .ok (.iconst 0, 1) := by decide +kernel
theorem dL_plans_400 : decode cL_plans 400 = .ok (.invokevirtual 69, 3) := by decide +kernel
theorem dL_plans_403 : decode cL_plans 403 = .ok (.iconst 2, 1) := by decide +kernel
theorem dL_plans_404 : decode cL_plans 404 = .ok (.if_icmp .ne 80, 3) := by decide +kernel
theorem dL_plans_407 : decode cL_plans 407 = .ok (.aload_n 2, 1) := by decide +kernel
theorem dL_plans_408 : decode cL_plans 408 = .ok (.iconst 2, 1) := by decide +kernel
theorem dL_plans_409 : decode cL_plans 409 = .ok (.bipush 8, 2) := by decide +kernel
theorem dL_plans_411 : decode cL_plans 411 = .ok (.bipush 11, 2) := by decide +kernel
theorem dL_plans_413 : decode cL_plans 413 = .ok (.bipush 32, 2) := by decide +kernel
theorem dL_plans_415 : decode cL_plans 415 = .ok (.invokestatic 105, 3) := by decide +kernel
theorem dL_plans_418 : decode cL_plans 418 = .ok (.ifCond .eq 66, 3) := by decide +kernel
theorem dL_plans_421 : decode cL_plans 421 = .ok (.aload_n 2, 1) := by decide +kernel
theorem dL_plans_422 : decode cL_plans 422 = .ok (.iconst 4, 1) := by decide +kernel
theorem dL_plans_423 : decode cL_plans 423 = .ok (.iconst 1, 1) := by decide +kernel
theorem dL_plans_424 : decode cL_plans 424 = .ok (.invokevirtual 13, 3) := by decide +kernel
theorem dL_plans_427 : decode cL_plans 427 = .ok (.ifCond .ne 57, 3) := by decide +kernel
theorem dL_plans_430 : decode cL_plans 430 = .ok (.aload_n 2, 1) := by decide +kernel
theorem dL_plans_431 : decode cL_plans 431 = .ok (.iconst 2, 1) := by decide +kernel
theorem dL_plans_432 : decode cL_plans 432 = .ok (.bipush 8, 2) := by decide +kernel
theorem dL_plans_434 : decode cL_plans 434 = .ok (.bipush 11, 2) := by decide +kernel
theorem dL_plans_436 : decode cL_plans 436 = .ok (.bipush 32, 2) := by decide +kernel
theorem dL_plans_438 : decode cL_plans 438 = .ok (.invokestatic 105, 3) := by decide +kernel
theorem dL_plans_441 : decode cL_plans 441 = .ok (.ifCond .eq 43, 3) := by decide +kernel
theorem dL_plans_444 : decode cL_plans 444 = .ok (.aload_n 2, 1) := by decide +kernel
theorem dL_plans_445 : decode cL_plans 445 = .ok (.iconst 5, 1) := by decide +kernel
theorem dL_plans_446 : decode cL_plans 446 = .ok (.iconst 0, 1) := by decide +kernel
theorem dL_plans_447 : decode cL_plans 447 = .ok (.invokevirtual 13, 3) := by decide +kernel
theorem dL_plans_450 : decode cL_plans 450 = .ok (.ifCond .eq 34, 3) := by decide +kernel
theorem dL_plans_453 : decode cL_plans 453 = .ok (.aload_n 2, 1) := by decide +kernel
theorem dL_plans_454 : decode cL_plans 454 = .ok (.iconst 1, 1) := by decide +kernel
theorem dL_plans_455 : decode cL_plans 455 = .ok (.bipush 8, 2) := by decide +kernel
theorem dL_plans_457 : decode cL_plans 457 = .ok (.bipush 11, 2) := by decide +kernel
theorem dL_plans_459 : decode cL_plans 459 = .ok (.bipush 14, 2) := by decide +kernel
theorem dL_plans_461 : decode cL_plans 461 = .ok (.invokestatic 105, 3) := by decide +kernel
theorem dL_plans_464 : decode cL_plans 464 = .ok (.ifCond .eq 20, 3) := by decide +kernel
theorem dL_plans_467 : decode cL_plans 467 = .ok (.aload_n 2, 1) := by decide +kernel
theorem dL_plans_468 : decode cL_plans 468 = .ok (.iconst 5, 1) := by decide +kernel
theorem dL_plans_469 : decode cL_plans 469 = .ok (.iconst 1, 1) := by decide +kernel
theorem dL_plans_470 : decode cL_plans 470 = .ok (.invokevirtual 13, 3) := by decide +kernel
theorem dL_plans_473 : decode cL_plans 473 = .ok (.ifCond .ne 11, 3) := by decide +kernel
theorem dL_plans_476 : decode cL_plans 476 = .ok (.aload_n 2, 1) := by decide +kernel
theorem dL_plans_477 : decode cL_plans 477 = .ok (.invokevirtual 73, 3) := by decide +kernel
theorem dL_plans_480 : decode cL_plans 480 = .ok (.iconst 2, 1) := by decide +kernel
theorem dL_plans_481 : decode cL_plans 481 = .ok (.if_icmp .eq 5, 3) := by decide +kernel
theorem dL_plans_484 : decode cL_plans 484 = .ok (.iconst 0, 1) := by decide +kernel
theorem dL_plans_485 : decode cL_plans 485 = .ok (.ireturn, 1) := by decide +kernel
theorem dL_plans_486 : decode cL_plans 486 = .ok (.new 8, 3) := by decide +kernel
theorem dL_plans_489 : decode cL_plans 489 = .ok (.dup, 1) := by decide +kernel
theorem dL_plans_490 : decode cL_plans 490 = .ok (.invokespecial 98, 3) := by decide +kernel
theorem dL_plans_493 : decode cL_plans 493 = .ok (.astore_n 3, 1) := by decide +kernel
theorem dL_plans_494 : decode cL_plans 494 = .ok (.aload_n 3, 1) := by decide +kernel
theorem dL_plans_495 : decode cL_plans 495 = .ok (.iconst 3, 1) := by decide +kernel
theorem dL_plans_496 : decode cL_plans 496 = .ok (.iconst 1, 1) := by decide +kernel
theorem dL_plans_497 : decode cL_plans 497 = .ok (.invokevirtual 7, 3) := by decide +kernel
theorem dL_plans_500 : decode cL_plans 500 = .ok (.ifCond .ne 208, 3) := by decide +kernel
theorem dL_plans_503 : decode cL_plans 503 = .ok (.aload_n 3, 1) := by decide +kernel
theorem dL_plans_504 : decode cL_plans 504 = .ok (.iconst 1, 1) := by decide +kernel
theorem dL_plans_505 : decode cL_plans 505 = .ok (.sipush 1000, 3) := by decide +kernel
theorem dL_plans_508 : decode cL_plans 508 = .ok (.invokevirtual 16, 3) := by decide +kernel
theorem dL_plans_511 : decode cL_plans 511 = .ok (.bipush 100, 2) := by decide +kernel
theorem dL_plans_513 : decode cL_plans 513 = .ok (.if_icmp .ne 195, 3) := by decide +kernel
theorem dL_plans_516 : decode cL_plans 516 = .ok (.aload_n 3, 1) := by decide +kernel
theorem dL_plans_517 : decode cL_plans 517 = .ok (.bipush 100, 2) := by decide +kernel
theorem dL_plans_519 : decode cL_plans 519 = .ok (.invokevirtual 27, 3) := by decide +kernel
theorem dL_plans_522 : decode cL_plans 522 = .ok (.bipush 100, 2) := by decide +kernel
theorem dL_plans_524 : decode cL_plans 524 = .ok (.if_icmp .ne 184, 3) := by decide +kernel
theorem dL_plans_527 : decode cL_plans 527 = .ok (.aload_n 3, 1) := by decide +kernel
theorem dL_plans_528 : decode cL_plans 528 = .ok (.iconst 2, 1) := by decide +kernel
theorem dL_plans_529 : decode cL_plans 529 = .ok (.iconst 3, 1) := by decide +kernel
theorem dL_plans_530 : decode cL_plans 530 = .ok (.iconst 0, 1) := by decide +kernel
theorem dL_plans_531 : decode cL_plans 531 = .ok (.iconst 0, 1) := by decide +kernel
theorem dL_plans_532 : decode cL_plans 532 = .ok (.iconst 0, 1) := by decide +kernel
theorem dL_plans_533 : decode cL_plans 533 = .ok (.invokevirtual 69, 3) := by decide +kernel
theorem dL_plans_536 : decode cL_plans 536 = .ok (.ifCond .ne 172, 3) := by decide +kernel
theorem dL_plans_539 : decode cL_plans 539 = .ok (.aload_n 3, 1) := by decide +kernel
theorem dL_plans_540 : decode cL_plans 540 = .ok (.iconst 2, 1) := by decide +kernel
theorem dL_plans_541 : decode cL_plans 541 = .ok (.iconst 0, 1) := by decide +kernel
theorem dL_plans_542 : decode cL_plans 542 = .ok (.iconst 0, 1) := by decide +kernel
theorem dL_plans_543 : decode cL_plans 543 = .ok (.iconst 0, 1) := by decide +kernel
theorem dL_plans_544 : decode cL_plans 544 = .ok (.iconst 1, 1) := by decide +kernel
theorem dL_plans_545 : decode cL_plans 545 = .ok (.invokevirtual 69, 3) := by decide +kernel
theorem dL_plans_548 : decode cL_plans 548 = .ok (.iconst 1, 1) := by decide +kernel
theorem dL_plans_549 : decode cL_plans 549 = .ok (.if_icmp .ne 159, 3) := by decide +kernel
theorem dL_plans_552 : decode cL_plans 552 = .ok (.aload_n 3, 1) := by decide +kernel
theorem dL_plans_553 : decode cL_plans 553 = .ok (.iconst 2, 1) := by decide +kernel
theorem dL_plans_554 : decode cL_plans 554 = .ok (.iconst 0, 1) := by decide +kernel
theorem dL_plans_555 : decode cL_plans 555 = .ok (.iconst 0, 1) := by decide +kernel
theorem dL_plans_556 : decode cL_plans 556 = .ok (.iconst 0, 1) := by decide +kernel
theorem dL_plans_557 : decode cL_plans 557 = .ok (.iconst 0, 1) := by decide +kernel
theorem dL_plans_558 : decode cL_plans 558 = .ok (.invokevirtual 69, 3) := by decide +kernel
theorem dL_plans_561 : decode cL_plans 561 = .ok (.iconst 2, 1) := by decide +kernel
theorem dL_plans_562 : decode cL_plans 562 = .ok (.if_icmp .ne 146, 3) := by decide +kernel
theorem dL_plans_565 : decode cL_plans 565 = .ok (.aload_n 3, 1) := by decide +kernel
theorem dL_plans_566 : decode cL_plans 566 = .ok (.iconst 1, 1) := by decide +kernel
theorem dL_plans_567 : decode cL_plans 567 = .ok (.bipush 8, 2) := by decide +kernel
theorem dL_plans_569 : decode cL_plans 569 = .ok (.bipush 11, 2) := by decide +kernel
theorem dL_plans_571 : decode cL_plans 571 = .ok (.bipush 13, 2) := by decide +kernel
theorem dL_plans_573 : decode cL_plans 573 = .ok (.invokestatic 105, 3) := by decide +kernel
theorem dL_plans_576 : decode cL_plans 576 = .ok (.ifCond .eq 132, 3) := by decide +kernel
theorem dL_plans_579 : decode cL_plans 579 = .ok (.aload_n 3, 1) := by decide +kernel
theorem dL_plans_580 : decode cL_plans 580 = .ok (.iconst 1, 1) := by decide +kernel
theorem dL_plans_581 : decode cL_plans 581 = .ok (.invokevirtual 20, 3) := by decide +kernel
theorem dL_plans_584 : decode cL_plans 584 = .ok (.iconst 1, 1) := by decide +kernel
theorem dL_plans_585 : decode cL_plans 585 = .ok (.if_icmp .ne 123, 3) := by decide +kernel
theorem dL_plans_588 : decode cL_plans 588 = .ok (.aload_n 3, 1) := by decide +kernel
theorem dL_plans_589 : decode cL_plans 589 = .ok (.invokevirtual 102, 3) := by decide +kernel
theorem dL_plans_592 : decode cL_plans 592 = .ok (.iconst 4, 1) := by decide +kernel
theorem dL_plans_593 : decode cL_plans 593 = .ok (.if_icmp .ne 115, 3) := by decide +kernel
theorem dL_plans_596 : decode cL_plans 596 = .ok (.aload_n 3, 1) := by decide +kernel
theorem dL_plans_597 : decode cL_plans 597 = .ok (.iconst 2, 1) := by decide +kernel
theorem dL_plans_598 : decode cL_plans 598 = .ok (.invokevirtual 51, 3) := by decide +kernel
theorem dL_plans_601 : decode cL_plans 601 = .ok (.bipush 13, 2) := by decide +kernel
theorem dL_plans_603 : decode cL_plans 603 = .ok (.if_icmp .ne 105, 3) := by decide +kernel
theorem dL_plans_606 : decode cL_plans 606 = .ok (.aload_n 3, 1) := by decide +kernel
theorem dL_plans_607 : decode cL_plans 607 = .ok (.invokevirtual 79, 3) := by decide +kernel
theorem dL_plans_610 : decode cL_plans 610 = .ok (.iconst 2, 1) := by decide +kernel
theorem dL_plans_611 : decode cL_plans 611 = .ok (.if_icmp .ne 97, 3) := by decide +kernel
theorem dL_plans_614 : decode cL_plans 614 = .ok (.aload_n 3, 1) := by decide +kernel
theorem dL_plans_615 : decode cL_plans 615 = .ok (.iconst 1, 1) := by decide +kernel
theorem dL_plans_616 : decode cL_plans 616 = .ok (.bipush 32, 2) := by decide +kernel
theorem dL_plans_618 : decode cL_plans 618 = .ok (.bipush 35, 2) := by decide +kernel
theorem dL_plans_620 : decode cL_plans 620 = .ok (.bipush 13, 2) := by decide +kernel
theorem dL_plans_622 : decode cL_plans 622 = .ok (.invokestatic 105, 3) := by decide +kernel
theorem dL_plans_625 : decode cL_plans 625 = .ok (.ifCond .eq 83, 3) := by decide +kernel
theorem dL_plans_628 : decode cL_plans 628 = .ok (.aload_n 3, 1) := by decide +kernel
theorem dL_plans_629 : decode cL_plans 629 = .ok (.iconst 1, 1) := by decide +kernel
theorem dL_plans_630 : decode cL_plans 630 = .ok (.invokevirtual 115, 3) := by decide +kernel
theorem dL_plans_633 : decode cL_plans 633 = .ok (.ifCond .ne 75, 3) := by decide +kernel
theorem dL_plans_636 : decode cL_plans 636 = .ok (.aload_n 3, 1) := by decide +kernel
theorem dL_plans_637 : decode cL_plans 637 = .ok (.iconst 3, 1) := by decide +kernel
theorem dL_plans_638 : decode cL_plans 638 = .ok (.iconst 1, 1) := by decide +kernel
theorem dL_plans_639 : decode cL_plans 639 = .ok (.iconst 0, 1) := by decide +kernel
theorem dL_plans_640 : decode cL_plans 640 = .ok (.iconst 0, 1) := by decide +kernel
theorem dL_plans_641 : decode cL_plans 641 = .ok (.invokestatic 87, 3) := by decide +kernel
theorem dL_plans_644 : decode cL_plans 644 = .ok (.bipush (-73), 2) := by decide +kernel
theorem dL_plans_646 : decode cL_plans 646 = .ok (.if_icmp .ne 62, 3) := by decide +kernel
theorem dL_plans_649 : decode cL_plans 649 = .ok (.aload_n 3, 1) := by decide +kernel
theorem dL_plans_650 : decode cL_plans 650 = .ok (.iconst 1, 1) := by decide +kernel
theorem dL_plans_651 : decode cL_plans 651 = .ok (.sipush 1000, 3) := by decide +kernel
theorem dL_plans_654 : decode cL_plans 654 = .ok (.invokevirtual 24, 3) := by decide +kernel
theorem dL_plans_657 : decode cL_plans 657 = .ok (.sipush 1000, 3) := by decide +kernel
theorem dL_plans_660 : decode cL_plans 660 = .ok (.if_icmp .ne 48, 3) := by decide +kernel
theorem dL_plans_663 : decode cL_plans 663 = .ok (.aload_n 3, 1) := by decide +kernel
theorem dL_plans_664 : decode cL_plans 664 = .ok (.iconst 1, 1) := by decide +kernel
theorem dL_plans_665 : decode cL_plans 665 = .ok (.invokevirtual 20, 3) := by decide +kernel
theorem dL_plans_668 : decode cL_plans 668 = .ok (.iconst 2, 1) := by decide +kernel
theorem dL_plans_669 : decode cL_plans 669 = .ok (.if_icmp .ne 39, 3) := by decide +kernel
theorem dL_plans_672 : decode cL_plans 672 = .ok (.aload_n 3, 1) := by decide +kernel
theorem dL_plans_673 : decode cL_plans 673 = .ok (.invokevirtual 102, 3) := by decide +kernel
theorem dL_plans_676 : decode cL_plans 676 = .ok (.bipush 7, 2) := by decide +kernel
theorem dL_plans_678 : decode cL_plans 678 = .ok (.if_icmp .ne 30, 3) := by decide +kernel
theorem dL_plans_681 : decode cL_plans 681 = .ok (.aload_n 3, 1) := by decide +kernel
theorem dL_plans_682 : decode cL_plans 682 = .ok (.invokevirtual 79, 3) := by decide +kernel
theorem dL_plans_685 : decode cL_plans 685 = .ok (.sipush 1006, 3) := by decide +kernel
theorem dL_plans_688 : decode cL_plans 688 = .ok (.if_icmp .ne 20, 3) := by decide +kernel
theorem dL_plans_691 : decode cL_plans 691 = .ok (.aload_n 3, 1) := by decide +kernel
theorem dL_plans_692 : decode cL_plans 692 = .ok (.iconst 1, 1) := by decide +kernel
theorem dL_plans_693 : decode cL_plans 693 = .ok (.invokevirtual 54, 3) := by decide +kernel
theorem dL_plans_696 : decode cL_plans 696 = .ok (.ifCond .ne 12, 3) := by decide +kernel
theorem dL_plans_699 : decode cL_plans 699 = .ok (.aload_n 3, 1) := by decide +kernel
theorem dL_plans_700 : decode cL_plans 700 = .ok (.invokevirtual 76, 3) := by decide +kernel
theorem dL_plans_703 : decode cL_plans 703 = .ok (.bipush 94, 2) := by decide +kernel
theorem dL_plans_705 : decode cL_plans 705 = .ok (.if_icmp .eq 5, 3) := by decide +kernel
theorem dL_plans_708 : decode cL_plans 708 = .ok (.iconst 0, 1) := by decide +kernel
theorem dL_plans_709 : decode cL_plans 709 = .ok (.ireturn, 1) := by decide +kernel
theorem dL_plans_710 : decode cL_plans 710 = .ok (.new 8, 3) := by decide +kernel
theorem dL_plans_713 : decode cL_plans 713 = .ok (.dup, 1) := by decide +kernel
theorem dL_plans_714 : decode cL_plans 714 = .ok (.invokespecial 98, 3) := by decide +kernel
theorem dL_plans_717 : decode cL_plans 717 = .ok (.astore 4, 2) := by decide +kernel
theorem dL_plans_719 : decode cL_plans 719 = .ok (.iconst 0, 1) := by decide +kernel
theorem dL_plans_720 : decode cL_plans 720 = .ok (.istore 5, 2) := by decide +kernel
theorem dL_plans_722 : decode cL_plans 722 = .ok (.iload 5, 2) := by decide +kernel
theorem dL_plans_724 : decode cL_plans 724 = .ok (.bipush 9, 2) := by decide +kernel
theorem dL_plans_726 : decode cL_plans 726 = .ok (.if_icmp .ge 47, 3) := by decide +kernel
theorem dL_plans_729 : decode cL_plans 729 = .ok (.aload 4, 2) := by decide +kernel
theorem dL_plans_731 : decode cL_plans 731 = .ok (.iconst 4, 1) := by decide +kernel
theorem dL_plans_732 : decode cL_plans 732 = .ok (.iload 5, 2) := by decide +kernel
theorem dL_plans_734 : decode cL_plans 734 = .ok (.iconst 2, 1) := by decide +kernel
theorem dL_plans_735 : decode cL_plans 735 = .ok (.irem, 1) := by decide +kernel
theorem dL_plans_736 : decode cL_plans 736 = .ok (.iconst 1, 1) := by decide +kernel
theorem dL_plans_737 : decode cL_plans 737 = .ok (.iload 5, 2) := by decide +kernel
theorem dL_plans_739 : decode cL_plans 739 = .ok (.bipush 6, 2) := by decide +kernel
theorem dL_plans_741 : decode cL_plans 741 = .ok (.irem, 1) := by decide +kernel
theorem dL_plans_742 : decode cL_plans 742 = .ok (.ishl, 1) := by decide +kernel
theorem dL_plans_743 : decode cL_plans 743 = .ok (.iconst 0, 1) := by decide +kernel
theorem dL_plans_744 : decode cL_plans 744 = .ok (.iconst 0, 1) := by decide +kernel
theorem dL_plans_745 : decode cL_plans 745 = .ok (.invokestatic 94, 3) := by decide +kernel
theorem dL_plans_748 : decode cL_plans 748 = .ok (.iload 5, 2) := by decide +kernel
theorem dL_plans_750 : decode cL_plans 750 = .ok (.bipush 8, 2) := by decide +kernel
theorem dL_plans_752 : decode cL_plans 752 = .ok (.if_icmp .ge 8, 3) := by decide +kernel
theorem dL_plans_755 : decode cL_plans 755 = .ok (.iload 5, 2) := by decide +kernel
theorem dL_plans_757 : decode cL_plans 757 = .ok (.goto 5, 3) := by decide +kernel
theorem dL_plans_760 : decode cL_plans 760 = .ok (.bipush (-73), 2) := by decide +kernel
theorem dL_plans_762 : decode cL_plans 762 = .ok (.if_icmp .eq 5, 3) := by decide +kernel
theorem dL_plans_765 : decode cL_plans 765 = .ok (.iconst 0, 1) := by decide +kernel
theorem dL_plans_766 : decode cL_plans 766 = .ok (.ireturn, 1) := by decide +kernel
theorem dL_plans_767 : decode cL_plans 767 = .ok (.iinc 5 1, 3) := by decide +kernel
theorem dL_plans_770 : decode cL_plans 770 = .ok (.goto (-48), 3) := by decide +kernel
theorem dL_plans_773 : decode cL_plans 773 = .ok (.aload 4, 2) := by decide +kernel
theorem dL_plans_775 : decode cL_plans 775 = .ok (.invokevirtual 73, 3) := by decide +kernel
theorem dL_plans_778 : decode cL_plans 778 = .ok (.iconst 2, 1) := by decide +kernel
theorem dL_plans_779 : decode cL_plans 779 = .ok (.if_icmp .ne 95, 3) := by decide +kernel
theorem dL_plans_782 : decode cL_plans 782 = .ok (.aload 4, 2) := by decide +kernel
theorem dL_plans_784 : decode cL_plans 784 = .ok (.bipush 10, 2) := by decide +kernel
theorem dL_plans_786 : decode cL_plans 786 = .ok (.iconst 0, 1) := by decide +kernel
theorem dL_plans_787 : decode cL_plans 787 = .ok (.iconst 0, 1) := by decide +kernel
theorem dL_plans_788 : decode cL_plans 788 = .ok (.iconst 0, 1) := by decide +kernel
theorem dL_plans_789 : decode cL_plans 789 = .ok (.invokestatic 87, 3) := by decide +kernel
theorem dL_plans_792 : decode cL_plans 792 = .ok (.bipush (-73), 2) := by decide +kernel
theorem dL_plans_794 : decode cL_plans 794 = .ok (.if_icmp .ne 80, 3) := by decide +kernel
theorem dL_plans_797 : decode cL_plans 797 = .ok (.aload 4, 2) := by decide +kernel
theorem dL_plans_799 : decode cL_plans 799 = .ok (.iconst 0, 1) := by decide +kernel
theorem dL_plans_800 : decode cL_plans 800 = .ok (.invokevirtual 48, 3) := by decide +kernel
theorem dL_plans_803 : decode cL_plans 803 = .ok (.ifCond .ne 71, 3) := by decide +kernel
theorem dL_plans_806 : decode cL_plans 806 = .ok (.aload 4, 2) := by decide +kernel
theorem dL_plans_808 : decode cL_plans 808 = .ok (.iconst 1, 1) := by decide +kernel
theorem dL_plans_809 : decode cL_plans 809 = .ok (.invokevirtual 48, 3) := by decide +kernel
theorem dL_plans_812 : decode cL_plans 812 = .ok (.iconst 2, 1) := by decide +kernel
theorem dL_plans_813 : decode cL_plans 813 = .ok (.if_icmp .ne 61, 3) := by decide +kernel
theorem dL_plans_816 : decode cL_plans 816 = .ok (.aload 4, 2) := by decide +kernel
theorem dL_plans_818 : decode cL_plans 818 = .ok (.iconst 4, 1) := by decide +kernel
theorem dL_plans_819 : decode cL_plans 819 = .ok (.invokevirtual 48, 3) := by decide +kernel
theorem dL_plans_822 : decode cL_plans 822 = .ok (.iconst 1, 1) := by decide +kernel
theorem dL_plans_823 : decode cL_plans 823 = .ok (.if_icmp .ne 51, 3) := by decide +kernel
theorem dL_plans_826 : decode cL_plans 826 = .ok (.aload 4, 2) := by decide +kernel
theorem dL_plans_828 : decode cL_plans 828 = .ok (.iconst 0, 1) := by decide +kernel
theorem dL_plans_829 : decode cL_plans 829 = .ok (.invokevirtual 51, 3) := by decide +kernel
theorem dL_plans_832 : decode cL_plans 832 = .ok (.bipush 8, 2) := by decide +kernel
theorem dL_plans_834 : decode cL_plans 834 = .ok (.if_icmp .ne 40, 3) := by decide +kernel
theorem dL_plans_837 : decode cL_plans 837 = .ok (.aload 4, 2) := by decide +kernel
theorem dL_plans_839 : decode cL_plans 839 = .ok (.bipush 6, 2) := by decide +kernel
theorem dL_plans_841 : decode cL_plans 841 = .ok (.invokevirtual 51, 3) := by decide +kernel
theorem dL_plans_844 : decode cL_plans 844 = .ok (.bipush 20, 2) := by decide +kernel
theorem dL_plans_846 : decode cL_plans 846 = .ok (.if_icmp .ne 28, 3) := by decide +kernel
theorem dL_plans_849 : decode cL_plans 849 = .ok (.aload 4, 2) := by decide +kernel
theorem dL_plans_851 : decode cL_plans 851 = .ok (.iconst 1, 1) := by decide +kernel
theorem dL_plans_852 : decode cL_plans 852 = .ok (.invokevirtual 51, 3) := by decide +kernel
theorem dL_plans_855 : decode cL_plans 855 = .ok (.bipush 32, 2) := by decide +kernel
theorem dL_plans_857 : decode cL_plans 857 = .ok (.if_icmp .ne 17, 3) := by decide +kernel
theorem dL_plans_860 : decode cL_plans 860 = .ok (.aload 4, 2) := by decide +kernel
theorem dL_plans_862 : decode cL_plans 862 = .ok (.bipush 8, 2) := by decide +kernel
theorem dL_plans_864 : decode cL_plans 864 = .ok (.bipush 8, 2) := by decide +kernel
theorem dL_plans_866 : decode cL_plans 866 = .ok (.iconst 0, 1) := by decide +kernel
theorem dL_plans_867 : decode cL_plans 867 = .ok (.iconst 0, 1) := by decide +kernel
theorem dL_plans_868 : decode cL_plans 868 = .ok (.invokestatic 109, 3) := by decide +kernel
theorem dL_plans_871 : decode cL_plans 871 = .ok (.ifCond .ne 5, 3) := by decide +kernel
theorem dL_plans_874 : decode cL_plans 874 = .ok (.iconst 0, 1) := by decide +kernel
theorem dL_plans_875 : decode cL_plans 875 = .ok (.ireturn, 1) := by decide +kernel
theorem dL_plans_876 : decode cL_plans 876 = .ok (.iconst 0, 1) := by decide +kernel
theorem dL_plans_877 : decode cL_plans 877 = .ok (.istore 5, 2) := by decide +kernel
theorem dL_plans_879 : decode cL_plans 879 = .ok (.iload 5, 2) := by decide +kernel
theorem dL_plans_881 : decode cL_plans 881 = .ok (.bipush 11, 2) := by decide +kernel
theorem dL_plans_883 : decode cL_plans 883 = .ok (.if_icmp .ge 43, 3) := by decide +kernel
theorem dL_plans_886 : decode cL_plans 886 = .ok (.aload 4, 2) := by decide +kernel
theorem dL_plans_888 : decode cL_plans 888 = .ok (.bipush 7, 2) := by decide +kernel
theorem dL_plans_890 : decode cL_plans 890 = .ok (.iload 5, 2) := by decide +kernel
theorem dL_plans_892 : decode cL_plans 892 = .ok (.bipush 6, 2) := by decide +kernel
theorem dL_plans_894 : decode cL_plans 894 = .ok (.irem, 1) := by decide +kernel
theorem dL_plans_895 : decode cL_plans 895 = .ok (.ldc 119, 2) := by decide +kernel
theorem dL_plans_897 : decode cL_plans 897 = .ok (.iconst 0, 1) := by decide +kernel
theorem dL_plans_898 : decode cL_plans 898 = .ok (.invokestatic 87, 3) := by decide +kernel
theorem dL_plans_901 : decode cL_plans 901 = .ok (.iload 5, 2) := by decide +kernel
theorem dL_plans_903 : decode cL_plans 903 = .ok (.bipush 10, 2) := by decide +kernel
theorem dL_plans_905 : decode cL_plans 905 = .ok (.if_icmp .ge 8, 3) := by decide +kernel
theorem dL_plans_908 : decode cL_plans 908 = .ok (.iload 5, 2) := by decide +kernel
theorem dL_plans_910 : decode cL_plans 910 = .ok (.goto 5, 3) := by decide +kernel
theorem dL_plans_913 : decode cL_plans 913 = .ok (.bipush (-73), 2) := by decide +kernel
theorem dL_plans_915 : decode cL_plans 915 = .ok (.if_icmp .eq 5, 3) := by decide +kernel
theorem dL_plans_918 : decode cL_plans 918 = .ok (.iconst 0, 1) := by decide +kernel
theorem dL_plans_919 : decode cL_plans 919 = .ok (.ireturn, 1) := by decide +kernel
theorem dL_plans_920 : decode cL_plans 920 = .ok (.iinc 5 1, 3) := by decide +kernel
theorem dL_plans_923 : decode cL_plans 923 = .ok (.goto (-44), 3) := by decide +kernel
theorem dL_plans_926 : decode cL_plans 926 = .ok (.iconst 0, 1) := by decide +kernel
theorem dL_plans_927 : decode cL_plans 927 = .ok (.istore 5, 2) := by decide +kernel
theorem dL_plans_929 : decode cL_plans 929 = .ok (.iload 5, 2) := by decide +kernel
theorem dL_plans_931 : decode cL_plans 931 = .ok (.bipush 13, 2) := by decide +kernel
theorem dL_plans_933 : decode cL_plans 933 = .ok (.if_icmp .ge 46, 3) := by decide +kernel
theorem dL_plans_936 : decode cL_plans 936 = .ok (.aload 4, 2) := by decide +kernel
theorem dL_plans_938 : decode cL_plans 938 = .ok (.bipush 8, 2) := by decide +kernel
theorem dL_plans_940 : decode cL_plans 940 = .ok (.iload 5, 2) := by decide +kernel
theorem dL_plans_942 : decode cL_plans 942 = .ok (.iconst 1, 1) := by decide +kernel
theorem dL_plans_943 : decode cL_plans 943 = .ok (.isub, 1) := by decide +kernel
theorem dL_plans_944 : decode cL_plans 944 = .ok (.iload 5, 2) := by decide +kernel
theorem dL_plans_946 : decode cL_plans 946 = .ok (.bipush 6, 2) := by decide +kernel
theorem dL_plans_948 : decode cL_plans 948 = .ok (.irem, 1) := by decide +kernel
theorem dL_plans_949 : decode cL_plans 949 = .ok (.bipush 100, 2) := by decide +kernel
theorem dL_plans_951 : decode cL_plans 951 = .ok (.invokestatic 87, 3) := by decide +kernel
theorem dL_plans_954 : decode cL_plans 954 = .ok (.iload 5, 2) := by decide +kernel
theorem dL_plans_956 : decode cL_plans 956 = .ok (.bipush 12, 2) := by decide +kernel
theorem dL_plans_958 : decode cL_plans 958 = .ok (.if_icmp .ge 8, 3) := by decide +kernel
theorem dL_plans_961 : decode cL_plans 961 = .ok (.iload 5, 2) := by decide +kernel
theorem dL_plans_963 : decode cL_plans 963 = .ok (.goto 5, 3) := by decide +kernel
theorem dL_plans_966 : decode cL_plans 966 = .ok (.bipush (-73), 2) := by decide +kernel
theorem dL_plans_968 : decode cL_plans 968 = .ok (.if_icmp .eq 5, 3) := by decide +kernel
theorem dL_plans_971 : decode cL_plans 971 = .ok (.iconst 0, 1) := by decide +kernel
theorem dL_plans_972 : decode cL_plans 972 = .ok (.ireturn, 1) := by decide +kernel
theorem dL_plans_973 : decode cL_plans 973 = .ok (.iinc 5 1, 3) := by decide +kernel
theorem dL_plans_976 : decode cL_plans 976 = .ok (.goto (-47), 3) := by decide +kernel
theorem dL_plans_979 : decode cL_plans 979 = .ok (.aload 4, 2) := by decide +kernel
theorem dL_plans_981 : decode cL_plans 981 = .ok (.ldc 120, 2) := by decide +kernel
theorem dL_plans_983 : decode cL_plans 983 = .ok (.invokevirtual 41, 3) := by decide +kernel
theorem dL_plans_986 : decode cL_plans 986 = .ok (.ifCond .ne 65, 3) := by decide +kernel
theorem dL_plans_989 : decode cL_plans 989 = .ok (.aload 4, 2) := by decide +kernel
theorem dL_plans_991 : decode cL_plans 991 = .ok (.ldc 120, 2) := by decide +kernel
theorem dL_plans_993 : decode cL_plans 993 = .ok (.invokevirtual 41, 3) := by decide +kernel
theorem dL_plans_996 : decode cL_plans 996 = .ok (.ldc 120, 2) := by decide +kernel
theorem dL_plans_998 : decode cL_plans 998 = .ok (.if_icmp .ne 53, 3) := by decide +kernel
theorem dL_plans_1001 : decode cL_plans 1001 = .ok (.aload 4, 2) := by decide +kernel
theorem dL_plans_1003 : decode cL_plans 1003 = .ok (.iconst 5, 1) := by decide +kernel
theorem dL_plans_1004 : decode cL_plans 1004 = .ok (.invokevirtual 60, 3) := by decide +kernel
theorem dL_plans_1007 : decode cL_plans 1007 = .ok (.ldc 121, 2) := by decide +kernel
theorem dL_plans_1009 : decode cL_plans 1009 = .ok (.if_icmp .ne 42, 3) := by decide +kernel
theorem dL_plans_1012 : decode cL_plans 1012 = .ok (.aload 4, 2) := by decide +kernel
theorem dL_plans_1014 : decode cL_plans 1014 = .ok (.iconst 0, 1) := by decide +kernel
theorem dL_plans_1015 : decode cL_plans 1015 = .ok (.invokevirtual 60, 3) := by decide +kernel
theorem dL_plans_1018 : decode cL_plans 1018 = .ok (.ldc 122, 2) := by decide +kernel
theorem dL_plans_1020 : decode cL_plans 1020 = .ok (.if_icmp .ne 31, 3) := by decide +kernel
theorem dL_plans_1023 : decode cL_plans 1023 = .ok (.aload 4, 2) := by decide +kernel
theorem dL_plans_1025 : decode cL_plans 1025 = .ok (.invokevirtual 82, 3) := by decide +kernel
theorem dL_plans_1028 : decode cL_plans 1028 = .ok (.ifCond .ne 23, 3) := by decide +kernel
theorem dL_plans_1031 : decode cL_plans 1031 = .ok (.aload 4, 2) := by decide +kernel
theorem dL_plans_1033 : decode cL_plans 1033 = .ok (.bipush 8, 2) := by decide +kernel
theorem dL_plans_1035 : decode cL_plans 1035 = .ok (.bipush 8, 2) := by decide +kernel
theorem dL_plans_1037 : decode cL_plans 1037 = .ok (.bipush 10, 2) := by decide +kernel
theorem dL_plans_1039 : decode cL_plans 1039 = .ok (.bipush 12, 2) := by decide +kernel
theorem dL_plans_1041 : decode cL_plans 1041 = .ok (.invokestatic 109, 3) := by decide +kernel
theorem dL_plans_1044 : decode cL_plans 1044 = .ok (.ifCond .eq 7, 3) := by decide +kernel
theorem dL_plans_1047 : decode cL_plans 1047 = .ok (.iconst 1, 1) := by decide +kernel
theorem dL_plans_1048 : decode cL_plans 1048 = .ok (.goto 4, 3) := by decide +kernel
theorem dL_plans_1051 : decode cL_plans 1051 = .ok (.iconst 0, 1) := by decide +kernel
theorem dL_plans_1052 : decode cL_plans 1052 = .ok (.ireturn, 1) := by decide +kernel
theorem dL_law_0 : decode cL_law 0 = .ok (.invokestatic 123, 3) := by decide +kernel
theorem dL_law_3 : decode cL_law 3 = .ok (.ifCond .eq 9, 3) := by decide +kernel
theorem dL_law_6 : decode cL_law 6 = .ok (.invokestatic 126, 3) := by decide +kernel
theorem dL_law_9 : decode cL_law 9 = .ok (.ifCond .ne 5, 3) := by decide +kernel
theorem dL_law_12 : decode cL_law 12 = .ok (.iconst 0, 1) := by decide +kernel
theorem dL_law_13 : decode cL_law 13 = .ok (.ireturn, 1) := by decide +kernel
theorem dL_law_14 : decode cL_law 14 = .ok (.new 8, 3) := by decide +kernel
theorem dL_law_17 : decode cL_law 17 = .ok (.dup, 1) := by decide +kernel
theorem dL_law_18 : decode cL_law 18 = .ok (.invokespecial 98, 3) := by decide +kernel
theorem dL_law_21 : decode cL_law 21 = .ok (.astore_n 1, 1) := by decide +kernel
theorem dL_law_22 : decode cL_law 22 = .ok (.iconst 0, 1) := by decide +kernel
theorem dL_law_23 : decode cL_law 23 = .ok (.istore_n 2, 1) := by decide +kernel
theorem dL_law_24 : decode cL_law 24 = .ok (.iload_n 2, 1) := by decide +kernel
theorem dL_law_25 : decode cL_law 25 = .ok (.sipush 1001, 3) := by decide +kernel
theorem dL_law_28 : decode cL_law 28 = .ok (.if_icmp .ge 37, 3) := by decide +kernel
theorem dL_law_31 : decode cL_law 31 = .ok (.aload_n 1, 1) := by decide +kernel
theorem dL_law_32 : decode cL_law 32 = .ok (.iconst 3, 1) := by decide +kernel
theorem dL_law_33 : decode cL_law 33 = .ok (.iload_n 2, 1) := by decide +kernel
theorem dL_law_34 : decode cL_law 34 = .ok (.iconst 2, 1) := by decide +kernel
theorem dL_law_35 : decode cL_law 35 = .ok (.irem, 1) := by decide +kernel
theorem dL_law_36 : decode cL_law 36 = .ok (.iconst 0, 1) := by decide +kernel
theorem dL_law_37 : decode cL_law 37 = .ok (.iconst 0, 1) := by decide +kernel
theorem dL_law_38 : decode cL_law 38 = .ok (.invokestatic 87, 3) := by decide +kernel
theorem dL_law_41 : decode cL_law 41 = .ok (.iload_n 2, 1) := by decide +kernel
theorem dL_law_42 : decode cL_law 42 = .ok (.sipush 1000, 3) := by decide +kernel
theorem dL_law_45 : decode cL_law 45 = .ok (.if_icmp .ge 7, 3) := by decide +kernel
theorem dL_law_48 : decode cL_law 48 = .ok (.iconst 0, 1) := by decide +kernel
theorem dL_law_49 : decode cL_law 49 = .ok (.goto 5, 3) := by decide +kernel
theorem dL_law_52 : decode cL_law 52 = .ok (.bipush (-73), 2) := by decide +kernel
theorem dL_law_54 : decode cL_law 54 = .ok (.if_icmp .eq 5, 3) := by decide +kernel
theorem dL_law_57 : decode cL_law 57 = .ok (.iconst 0, 1) := by decide +kernel
theorem dL_law_58 : decode cL_law 58 = .ok (.ireturn, 1) := by decide +kernel
theorem dL_law_59 : decode cL_law 59 = .ok (.iinc 2 1, 3) := by decide +kernel
theorem dL_law_62 : decode cL_law 62 = .ok (.goto (-38), 3) := by decide +kernel
theorem dL_law_65 : decode cL_law 65 = .ok (.aload_n 1, 1) := by decide +kernel
theorem dL_law_66 : decode cL_law 66 = .ok (.invokevirtual 99, 3) := by decide +kernel
theorem dL_law_69 : decode cL_law 69 = .ok (.sipush 1000, 3) := by decide +kernel
theorem dL_law_72 : decode cL_law 72 = .ok (.if_icmp .ne 39, 3) := by decide +kernel
theorem dL_law_75 : decode cL_law 75 = .ok (.aload_n 1, 1) := by decide +kernel
theorem dL_law_76 : decode cL_law 76 = .ok (.iconst 1, 1) := by decide +kernel
theorem dL_law_77 : decode cL_law 77 = .ok (.iconst 0, 1) := by decide +kernel
theorem dL_law_78 : decode cL_law 78 = .ok (.iconst 0, 1) := by decide +kernel
theorem dL_law_79 : decode cL_law 79 = .ok (.iconst 2, 1) := by decide +kernel
theorem dL_law_80 : decode cL_law 80 = .ok (.iconst 0, 1) := by decide +kernel
theorem dL_law_81 : decode cL_law 81 = .ok (.invokevirtual 69, 3) := by decide +kernel
theorem dL_law_84 : decode cL_law 84 = .ok (.ifCond .ne 27, 3) := by decide +kernel
theorem dL_law_87 : decode cL_law 87 = .ok (.aload_n 1, 1) := by decide +kernel
theorem dL_law_88 : decode cL_law 88 = .ok (.iconst 0, 1) := by decide +kernel
theorem dL_law_89 : decode cL_law 89 = .ok (.invokevirtual 51, 3) := by decide +kernel
theorem dL_law_92 : decode cL_law 92 = .ok (.sipush 24018, 3) := by decide +kernel
theorem dL_law_95 : decode cL_law 95 = .ok (.if_icmp .ne 16, 3) := by decide +kernel
theorem dL_law_98 : decode cL_law 98 = .ok (.aload_n 1, 1) := by decide +kernel
theorem dL_law_99 : decode cL_law 99 = .ok (.iconst 3, 1) := by decide +kernel
theorem dL_law_100 : decode cL_law 100 = .ok (.iconst 0, 1) := by decide +kernel
theorem dL_law_101 : decode cL_law 101 = .ok (.iconst 0, 1) := by decide +kernel
theorem dL_law_102 : decode cL_law 102 = .ok (.iconst 0, 1) := by decide +kernel
theorem dL_law_103 : decode cL_law 103 = .ok (.invokestatic 87, 3) := by decide +kernel
theorem dL_law_106 : decode cL_law 106 = .ok (.bipush (-73), 2) := by decide +kernel
theorem dL_law_108 : decode cL_law 108 = .ok (.if_icmp .eq 5, 3) := by decide +kernel
theorem dL_law_111 : decode cL_law 111 = .ok (.iconst 0, 1) := by decide +kernel
theorem dL_law_112 : decode cL_law 112 = .ok (.ireturn, 1) := by decide +kernel
theorem dL_law_113 : decode cL_law 113 = .ok (.new 8, 3) := by decide +kernel
theorem dL_law_116 : decode cL_law 116 = .ok (.dup, 1) := by decide +kernel
theorem dL_law_117 : decode cL_law 117 = .ok (.invokespecial 98, 3) := by decide +kernel
theorem dL_law_120 : decode cL_law 120 = .ok (.astore_n 2, 1) := by decide +kernel
theorem dL_law_121 : decode cL_law 121 = .ok (.aload_n 2, 1) := by decide +kernel
theorem dL_law_122 : decode cL_law 122 = .ok (.iconst 1, 1) := by decide +kernel
theorem dL_law_123 : decode cL_law 123 = .ok (.iconst 1, 1) := by decide +kernel
theorem dL_law_124 : decode cL_law 124 = .ok (.invokevirtual 16, 3) := by decide +kernel
theorem dL_law_127 : decode cL_law 127 = .ok (.bipush 100, 2) := by decide +kernel
theorem dL_law_129 : decode cL_law 129 = .ok (.if_icmp .ne 14, 3) := by decide +kernel
theorem dL_law_132 : decode cL_law 132 = .ok (.aload_n 2, 1) := by decide +kernel
theorem dL_law_133 : decode cL_law 133 = .ok (.ldc 119, 2) := by decide +kernel
theorem dL_law_135 : decode cL_law 135 = .ok (.invokevirtual 27, 3) := by decide +kernel
theorem dL_law_138 : decode cL_law 138 = .ok (.ldc 119, 2) := by decide +kernel
theorem dL_law_140 : decode cL_law 140 = .ok (.if_icmp .eq 5, 3) := by decide +kernel
theorem dL_law_143 : decode cL_law 143 = .ok (.iconst 0, 1) := by decide +kernel
theorem dL_law_144 : decode cL_law 144 = .ok (.ireturn, 1) := by decide +kernel
theorem dL_law_145 : decode cL_law 145 = .ok (.iconst 0, 1) := by decide +kernel
theorem dL_law_146 : decode cL_law 146 = .ok (.istore_n 3, 1) := by decide +kernel
theorem dL_law_147 : decode cL_law 147 = .ok (.iconst 0, 1) := by decide +kernel
theorem dL_law_148 : decode cL_law 148 = .ok (.istore 4, 2) := by decide +kernel
theorem dL_law_150 : decode cL_law 150 = .ok (.iload 4, 2) := by decide +kernel
theorem dL_law_152 : decode cL_law 152 = .ok (.bipush 8, 2) := by decide +kernel
theorem dL_law_154 : decode cL_law 154 = .ok (.if_icmp .ge 134, 3) := by decide +kernel
theorem dL_law_157 : decode cL_law 157 = .ok (.aload_n 0, 1) := by decide +kernel
theorem dL_law_158 : decode cL_law 158 = .ok (.arraylength, 1) := by decide +kernel
theorem dL_law_159 : decode cL_law 159 = .ok (.ifCond .ne 11, 3) := by decide +kernel
theorem dL_law_162 : decode cL_law 162 = .ok (.bipush 71, 2) := by decide +kernel
theorem dL_law_164 : decode cL_law 164 = .ok (.iload 4, 2) := by decide +kernel
theorem dL_law_166 : decode cL_law 166 = .ok (.imul, 1) := by decide +kernel
theorem dL_law_167 : decode cL_law 167 = .ok (.goto 13, 3) := by decide +kernel
theorem dL_law_170 : decode cL_law 170 = .ok (.aload_n 0, 1) := by decide +kernel
theorem dL_law_171 : decode cL_law 171 = .ok (.iload 4, 2) := by decide +kernel
theorem dL_law_173 : decode cL_law 173 = .ok (.aload_n 0, 1) := by decide +kernel
theorem dL_law_174 : decode cL_law 174 = .ok (.arraylength, 1) := by decide +kernel
theorem dL_law_175 : decode cL_law 175 = .ok (.irem, 1) := by decide +kernel
theorem dL_law_176 : decode cL_law 176 = .ok (.iaload, 1) := by decide +kernel
theorem dL_law_177 : decode cL_law 177 = .ok (.bipush 8, 2) := by decide +kernel
theorem dL_law_179 : decode cL_law 179 = .ok (.iushr, 1) := by decide +kernel
theorem dL_law_180 : decode cL_law 180 = .ok (.istore 5, 2) := by decide +kernel
theorem dL_law_182 : decode cL_law 182 = .ok (.aload_n 2, 1) := by decide +kernel
theorem dL_law_183 : decode cL_law 183 = .ok (.iconst 1, 1) := by decide +kernel
theorem dL_law_184 : decode cL_law 184 = .ok (.iload 5, 2) := by decide +kernel
theorem dL_law_186 : decode cL_law 186 = .ok (.bipush 6, 2) := by decide +kernel
theorem dL_law_188 : decode cL_law 188 = .ok (.irem, 1) := by decide +kernel
theorem dL_law_189 : decode cL_law 189 = .ok (.iadd, 1) := by decide +kernel
theorem dL_law_190 : decode cL_law 190 = .ok (.iload 5, 2) := by decide +kernel
theorem dL_law_192 : decode cL_law 192 = .ok (.iconst 4, 1) := by decide +kernel
theorem dL_law_193 : decode cL_law 193 = .ok (.irem, 1) := by decide +kernel
theorem dL_law_194 : decode cL_law 194 = .ok (.iload 5, 2) := by decide +kernel
theorem dL_law_196 : decode cL_law 196 = .ok (.bipush 64, 2) := by decide +kernel
theorem dL_law_198 : decode cL_law 198 = .ok (.irem, 1) := by decide +kernel
theorem dL_law_199 : decode cL_law 199 = .ok (.iload 5, 2) := by decide +kernel
theorem dL_law_201 : decode cL_law 201 = .ok (.iconst 3, 1) := by decide +kernel
theorem dL_law_202 : decode cL_law 202 = .ok (.irem, 1) := by decide +kernel
theorem dL_law_203 : decode cL_law 203 = .ok (.iload 4, 2) := by decide +kernel
theorem dL_law_205 : decode cL_law 205 = .ok (.ifCond .ne 7, 3) := by decide +kernel
theorem dL_law_208 : decode cL_law 208 = .ok (.iconst 0, 1) := by decide +kernel
theorem dL_law_209 : decode cL_law 209 = .ok (.goto 10, 3) := by decide +kernel
theorem dL_law_212 : decode cL_law 212 = .ok (.iload 5, 2) := by decide +kernel
theorem dL_law_214 : decode cL_law 214 = .ok (.iconst 1, 1) := by decide +kernel
theorem dL_law_215 : decode cL_law 215 = .ok (.iload 4, 2) := by decide +kernel
theorem dL_law_217 : decode cL_law 217 = .ok (.ishl, 1) := by decide +kernel
theorem dL_law_218 : decode cL_law 218 = .ok (.irem, 1) := by decide +kernel
theorem dL_law_219 : decode cL_law 219 = .ok (.invokevirtual 69, 3) := by decide +kernel
theorem dL_law_222 : decode cL_law 222 = .ok (.iload 4, 2) := by decide +kernel
theorem dL_law_224 : decode cL_law 224 = .ok (.if_icmp .ne 56, 3) := by decide +kernel
theorem dL_law_227 : decode cL_law 227 = .ok (.iload 4, 2) := by decide +kernel
theorem dL_law_229 : decode cL_law 229 = .ok (.iconst 3, 1) := by decide +kernel
theorem dL_law_230 : decode cL_law 230 = .ok (.irem, 1) := by decide +kernel
theorem dL_law_231 : decode cL_law 231 = .ok (.iconst 2, 1) := by decide +kernel
theorem dL_law_232 : decode cL_law 232 = .ok (.if_icmp .ne 23, 3) := by decide +kernel
theorem dL_law_235 : decode cL_law 235 = .ok (.aload_n 2, 1) := by decide +kernel
theorem dL_law_236 : decode cL_law 236 = .ok (.iload 5, 2) := by decide +kernel
theorem dL_law_238 : decode cL_law 238 = .ok (.iconst 2, 1) := by decide +kernel
theorem dL_law_239 : decode cL_law 239 = .ok (.irem, 1) := by decide +kernel
theorem dL_law_240 : decode cL_law 240 = .ok (.ifCond .ne 7, 3) := by decide +kernel
theorem dL_law_243 : decode cL_law 243 = .ok (.iconst 1, 1) := by decide +kernel
theorem dL_law_244 : decode cL_law 244 = .ok (.goto 4, 3) := by decide +kernel
theorem dL_law_247 : decode cL_law 247 = .ok (.iconst 0, 1) := by decide +kernel
theorem dL_law_248 : decode cL_law 248 = .ok (.invokevirtual 20, 3) := by decide +kernel
theorem dL_law_251 : decode cL_law 251 = .ok (.iconst 1, 1) := by decide +kernel
theorem dL_law_252 : decode cL_law 252 = .ok (.if_icmp .lt 28, 3) := by decide +kernel
theorem dL_law_255 : decode cL_law 255 = .ok (.aload_n 2, 1) := by decide +kernel
theorem dL_law_256 : decode cL_law 256 = .ok (.invokevirtual 73, 3) := by decide +kernel
theorem dL_law_259 : decode cL_law 259 = .ok (.ifCond .lt 21, 3) := by decide +kernel
theorem dL_law_262 : decode cL_law 262 = .ok (.iload 4, 2) := by decide +kernel
theorem dL_law_264 : decode cL_law 264 = .ok (.bipush 6, 2) := by decide +kernel
theorem dL_law_266 : decode cL_law 266 = .ok (.if_icmp .ge 16, 3) := by decide +kernel
theorem dL_law_269 : decode cL_law 269 = .ok (.aload_n 2, 1) := by decide +kernel
theorem dL_law_270 : decode cL_law 270 = .ok (.invokevirtual 73, 3) := by decide +kernel
theorem dL_law_273 : decode cL_law 273 = .ok (.aload_n 2, 1) := by decide +kernel
theorem dL_law_274 : decode cL_law 274 = .ok (.invokevirtual 44, 3) := by decide +kernel
theorem dL_law_277 : decode cL_law 277 = .ok (.if_icmp .eq 5, 3) := by decide +kernel
theorem dL_law_280 : decode cL_law 280 = .ok (.iconst 0, 1) := by decide +kernel
theorem dL_law_281 : decode cL_law 281 = .ok (.ireturn, 1) := by decide +kernel
theorem dL_law_282 : decode cL_law 282 = .ok (.iinc 4 1, 3) := by decide +kernel
theorem dL_law_285 : decode cL_law 285 = .ok (.goto (-135), 3) := by decide +kernel
theorem dL_law_288 : decode cL_law 288 = .ok (.iconst 0, 1) := by decide +kernel
theorem dL_law_289 : decode cL_law 289 = .ok (.istore 4, 2) := by decide +kernel
theorem dL_law_291 : decode cL_law 291 = .ok (.iload 4, 2) := by decide +kernel
theorem dL_law_293 : decode cL_law 293 = .ok (.bipush 30, 2) := by decide +kernel
theorem dL_law_295 : decode cL_law 295 = .ok (.if_icmp .ge 17, 3) := by decide +kernel
theorem dL_law_298 : decode cL_law 298 = .ok (.iload_n 3, 1) := by decide +kernel
theorem dL_law_299 : decode cL_law 299 = .ok (.aload_n 2, 1) := by decide +kernel
theorem dL_law_300 : decode cL_law 300 = .ok (.iconst 0, 1) := by decide +kernel
theorem dL_law_301 : decode cL_law 301 = .ok (.invokevirtual 20, 3) := by decide +kernel
theorem dL_law_304 : decode cL_law 304 = .ok (.iadd, 1) := by decide +kernel
theorem dL_law_305 : decode cL_law 305 = .ok (.istore_n 3, 1) := by decide +kernel
theorem dL_law_306 : decode cL_law 306 = .ok (.iinc 4 1, 3) := by decide +kernel
theorem dL_law_309 : decode cL_law 309 = .ok (.goto (-18), 3) := by decide +kernel
theorem dL_law_312 : decode cL_law 312 = .ok (.iload_n 3, 1) := by decide +kernel
theorem dL_law_313 : decode cL_law 313 = .ok (.ifCond .lt 36, 3) := by decide +kernel
theorem dL_law_316 : decode cL_law 316 = .ok (.aload_n 2, 1) := by decide +kernel
theorem dL_law_317 : decode cL_law 317 = .ok (.invokevirtual 102, 3) := by decide +kernel
theorem dL_law_320 : decode cL_law 320 = .ok (.sipush 255, 3) := by decide +kernel
theorem dL_law_323 : decode cL_law 323 = .ok (.if_icmp .ne 26, 3) := by decide +kernel
theorem dL_law_326 : decode cL_law 326 = .ok (.aload_n 2, 1) := by decide +kernel
theorem dL_law_327 : decode cL_law 327 = .ok (.invokevirtual 73, 3) := by decide +kernel
theorem dL_law_330 : decode cL_law 330 = .ok (.ifCond .ne 19, 3) := by decide +kernel
theorem dL_law_333 : decode cL_law 333 = .ok (.aload_n 2, 1) := by decide +kernel
theorem dL_law_334 : decode cL_law 334 = .ok (.bipush 8, 2) := by decide +kernel
theorem dL_law_336 : decode cL_law 336 = .ok (.iconst 0, 1) := by decide +kernel
theorem dL_law_337 : decode cL_law 337 = .ok (.iconst 0, 1) := by decide +kernel
theorem dL_law_338 : decode cL_law 338 = .ok (.iconst 0, 1) := by decide +kernel
theorem dL_law_339 : decode cL_law 339 = .ok (.invokestatic 109, 3) := by decide +kernel
theorem dL_law_342 : decode cL_law 342 = .ok (.ifCond .eq 7, 3) := by decide +kernel
theorem dL_law_345 : decode cL_law 345 = .ok (.iconst 1, 1) := by decide +kernel
theorem dL_law_346 : decode cL_law 346 = .ok (.goto 4, 3) := by decide +kernel
theorem dL_law_349 : decode cL_law 349 = .ok (.iconst 0, 1) := by decide +kernel
theorem dL_law_350 : decode cL_law 350 = .ok (.ireturn, 1) := by decide +kernel
