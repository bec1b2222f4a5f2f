/-! Ref.cycle -/
theorem wm_219 : ae_m 219 = some (wk_M 219) := rfl
theorem wd_219_186 : decode (wk_M 219).2.2.1 186 = .ok (.iconst 0, 1) := by decide +kernel
theorem wd_219_187 : decode (wk_M 219).2.2.1 187 = .ok (.istore_n 3, 1) := by decide +kernel
theorem wd_219_188 : decode (wk_M 219).2.2.1 188 = .ok (.iload_n 3, 1) := by decide +kernel
theorem wd_219_189 : decode (wk_M 219).2.2.1 189 = .ok (.bipush 96, 2) := by decide +kernel
theorem wd_219_191 : decode (wk_M 219).2.2.1 191 = .ok (.if_icmp .ge 39, 3) := by decide +kernel
theorem wd_219_194 : decode (wk_M 219).2.2.1 194 = .ok (.aload_n 0, 1) := by decide +kernel
theorem wd_219_195 : decode (wk_M 219).2.2.1 195 = .ok (.getfield 39, 3) := by decide +kernel
theorem wd_219_198 : decode (wk_M 219).2.2.1 198 = .ok (.iload_n 3, 1) := by decide +kernel
theorem wd_219_199 : decode (wk_M 219).2.2.1 199 = .ok (.iaload, 1) := by decide +kernel
theorem wd_219_200 : decode (wk_M 219).2.2.1 200 = .ok (.ifCond .lt 24, 3) := by decide +kernel
theorem wd_219_203 : decode (wk_M 219).2.2.1 203 = .ok (.aload_n 0, 1) := by decide +kernel
theorem wd_219_204 : decode (wk_M 219).2.2.1 204 = .ok (.getfield 51, 3) := by decide +kernel
theorem wd_219_207 : decode (wk_M 219).2.2.1 207 = .ok (.aload_n 0, 1) := by decide +kernel
theorem wd_219_208 : decode (wk_M 219).2.2.1 208 = .ok (.getfield 45, 3) := by decide +kernel
theorem wd_219_211 : decode (wk_M 219).2.2.1 211 = .ok (.iload_n 3, 1) := by decide +kernel
theorem wd_219_212 : decode (wk_M 219).2.2.1 212 = .ok (.iaload, 1) := by decide +kernel
theorem wd_219_213 : decode (wk_M 219).2.2.1 213 = .ok (.iaload, 1) := by decide +kernel
theorem wd_219_214 : decode (wk_M 219).2.2.1 214 = .ok (.iconst 1, 1) := by decide +kernel
theorem wd_219_215 : decode (wk_M 219).2.2.1 215 = .ok (.if_icmp .le 9, 3) := by decide +kernel
theorem wd_219_218 : decode (wk_M 219).2.2.1 218 = .ok (.aload_n 0, 1) := by decide +kernel
theorem wd_219_219 : decode (wk_M 219).2.2.1 219 = .ok (.iload_n 3, 1) := by decide +kernel
theorem wd_219_220 : decode (wk_M 219).2.2.1 220 = .ok (.invokevirtual 388, 3) := by decide +kernel
theorem wd_219_223 : decode (wk_M 219).2.2.1 223 = .ok (.ireturn, 1) := by decide +kernel
theorem wd_219_224 : decode (wk_M 219).2.2.1 224 = .ok (.iinc 3 1, 3) := by decide +kernel
theorem wd_219_227 : decode (wk_M 219).2.2.1 227 = .ok (.goto (-39), 3) := by decide +kernel
theorem wd_219_230 : decode (wk_M 219).2.2.1 230 = .ok (.aload_n 0, 1) := by decide +kernel
/-! Ref.lay -/
theorem wm_257 : ae_m 257 = some (wk_M 257) := rfl
theorem wd_257_0 : decode (wk_M 257).2.2.1 0 = .ok (.aload_n 0, 1) := by decide +kernel
theorem wd_257_1 : decode (wk_M 257).2.2.1 1 = .ok (.getfield 151, 3) := by decide +kernel
theorem wd_257_4 : decode (wk_M 257).2.2.1 4 = .ok (.aload_n 0, 1) := by decide +kernel
theorem wd_257_5 : decode (wk_M 257).2.2.1 5 = .ok (.getfield 491, 3) := by decide +kernel
theorem wd_257_8 : decode (wk_M 257).2.2.1 8 = .ok (.iload_n 1, 1) := by decide +kernel
theorem wd_257_9 : decode (wk_M 257).2.2.1 9 = .ok (.iastore, 1) := by decide +kernel
theorem wd_257_10 : decode (wk_M 257).2.2.1 10 = .ok (.aload_n 0, 1) := by decide +kernel
theorem wd_257_11 : decode (wk_M 257).2.2.1 11 = .ok (.getfield 154, 3) := by decide +kernel
theorem wd_257_14 : decode (wk_M 257).2.2.1 14 = .ok (.aload_n 0, 1) := by decide +kernel
theorem wd_257_15 : decode (wk_M 257).2.2.1 15 = .ok (.getfield 491, 3) := by decide +kernel
theorem wd_257_18 : decode (wk_M 257).2.2.1 18 = .ok (.iload_n 2, 1) := by decide +kernel
theorem wd_257_19 : decode (wk_M 257).2.2.1 19 = .ok (.iastore, 1) := by decide +kernel
theorem wd_257_20 : decode (wk_M 257).2.2.1 20 = .ok (.aload_n 0, 1) := by decide +kernel
theorem wd_257_21 : decode (wk_M 257).2.2.1 21 = .ok (.dup, 1) := by decide +kernel
theorem wd_257_22 : decode (wk_M 257).2.2.1 22 = .ok (.getfield 491, 3) := by decide +kernel
theorem wd_257_25 : decode (wk_M 257).2.2.1 25 = .ok (.iconst 1, 1) := by decide +kernel
theorem wd_257_26 : decode (wk_M 257).2.2.1 26 = .ok (.iadd, 1) := by decide +kernel
theorem wd_257_27 : decode (wk_M 257).2.2.1 27 = .ok (.putfield 491, 3) := by decide +kernel
theorem wd_257_30 : decode (wk_M 257).2.2.1 30 = .ok (.return_, 1) := by decide +kernel
/-! Ref.point -/
theorem wm_258 : ae_m 258 = some (wk_M 258) := rfl
theorem wd_258_0 : decode (wk_M 258).2.2.1 0 = .ok (.iconst 0, 1) := by decide +kernel
theorem wd_258_1 : decode (wk_M 258).2.2.1 1 = .ok (.istore_n 2, 1) := by decide +kernel
theorem wd_258_2 : decode (wk_M 258).2.2.1 2 = .ok (.iload_n 2, 1) := by decide +kernel
theorem wd_258_3 : decode (wk_M 258).2.2.1 3 = .ok (.aload_n 0, 1) := by decide +kernel
theorem wd_258_4 : decode (wk_M 258).2.2.1 4 = .ok (.getfield 494, 3) := by decide +kernel
theorem wd_258_7 : decode (wk_M 258).2.2.1 7 = .ok (.if_icmp .ge 29, 3) := by decide +kernel
theorem wd_258_10 : decode (wk_M 258).2.2.1 10 = .ok (.aload_n 0, 1) := by decide +kernel
theorem wd_258_11 : decode (wk_M 258).2.2.1 11 = .ok (.getfield 157, 3) := by decide +kernel
theorem wd_258_14 : decode (wk_M 258).2.2.1 14 = .ok (.iload_n 2, 1) := by decide +kernel
theorem wd_258_15 : decode (wk_M 258).2.2.1 15 = .ok (.iaload, 1) := by decide +kernel
theorem wd_258_16 : decode (wk_M 258).2.2.1 16 = .ok (.iload_n 1, 1) := by decide +kernel
theorem wd_258_17 : decode (wk_M 258).2.2.1 17 = .ok (.if_icmp .ne 13, 3) := by decide +kernel
theorem wd_258_20 : decode (wk_M 258).2.2.1 20 = .ok (.aload_n 0, 1) := by decide +kernel
theorem wd_258_21 : decode (wk_M 258).2.2.1 21 = .ok (.getfield 160, 3) := by decide +kernel
theorem wd_258_24 : decode (wk_M 258).2.2.1 24 = .ok (.iload_n 2, 1) := by decide +kernel
theorem wd_258_25 : decode (wk_M 258).2.2.1 25 = .ok (.iaload, 1) := by decide +kernel
theorem wd_258_26 : decode (wk_M 258).2.2.1 26 = .ok (.iconst 3, 1) := by decide +kernel
theorem wd_258_27 : decode (wk_M 258).2.2.1 27 = .ok (.if_icmp .ne 9, 3) := by decide +kernel
theorem wd_258_30 : decode (wk_M 258).2.2.1 30 = .ok (.iinc 2 1, 3) := by decide +kernel
theorem wd_258_33 : decode (wk_M 258).2.2.1 33 = .ok (.goto (-31), 3) := by decide +kernel
theorem wd_258_36 : decode (wk_M 258).2.2.1 36 = .ok (.iload_n 2, 1) := by decide +kernel
theorem wd_258_37 : decode (wk_M 258).2.2.1 37 = .ok (.iconst 4, 1) := by decide +kernel
theorem wd_258_38 : decode (wk_M 258).2.2.1 38 = .ok (.if_icmp .ne 10, 3) := by decide +kernel
theorem wd_258_41 : decode (wk_M 258).2.2.1 41 = .ok (.aload_n 0, 1) := by decide +kernel
theorem wd_258_42 : decode (wk_M 258).2.2.1 42 = .ok (.iconst 1, 1) := by decide +kernel
theorem wd_258_43 : decode (wk_M 258).2.2.1 43 = .ok (.putfield 497, 3) := by decide +kernel
theorem wd_258_46 : decode (wk_M 258).2.2.1 46 = .ok (.iconst 0, 1) := by decide +kernel
theorem wd_258_47 : decode (wk_M 258).2.2.1 47 = .ok (.ireturn, 1) := by decide +kernel
theorem wd_258_48 : decode (wk_M 258).2.2.1 48 = .ok (.iload_n 2, 1) := by decide +kernel
theorem wd_258_49 : decode (wk_M 258).2.2.1 49 = .ok (.aload_n 0, 1) := by decide +kernel
theorem wd_258_50 : decode (wk_M 258).2.2.1 50 = .ok (.getfield 494, 3) := by decide +kernel
theorem wd_258_53 : decode (wk_M 258).2.2.1 53 = .ok (.if_icmp .ne 60, 3) := by decide +kernel
theorem wd_258_56 : decode (wk_M 258).2.2.1 56 = .ok (.aload_n 0, 1) := by decide +kernel
theorem wd_258_57 : decode (wk_M 258).2.2.1 57 = .ok (.getfield 157, 3) := by decide +kernel
theorem wd_258_60 : decode (wk_M 258).2.2.1 60 = .ok (.iload_n 2, 1) := by decide +kernel
theorem wd_258_61 : decode (wk_M 258).2.2.1 61 = .ok (.iload_n 1, 1) := by decide +kernel
theorem wd_258_62 : decode (wk_M 258).2.2.1 62 = .ok (.iastore, 1) := by decide +kernel
theorem wd_258_63 : decode (wk_M 258).2.2.1 63 = .ok (.aload_n 0, 1) := by decide +kernel
theorem wd_258_64 : decode (wk_M 258).2.2.1 64 = .ok (.getfield 160, 3) := by decide +kernel
theorem wd_258_67 : decode (wk_M 258).2.2.1 67 = .ok (.iload_n 2, 1) := by decide +kernel
theorem wd_258_68 : decode (wk_M 258).2.2.1 68 = .ok (.iconst 0, 1) := by decide +kernel
theorem wd_258_69 : decode (wk_M 258).2.2.1 69 = .ok (.iastore, 1) := by decide +kernel
theorem wd_258_70 : decode (wk_M 258).2.2.1 70 = .ok (.aload_n 0, 1) := by decide +kernel
theorem wd_258_71 : decode (wk_M 258).2.2.1 71 = .ok (.dup, 1) := by decide +kernel
theorem wd_258_72 : decode (wk_M 258).2.2.1 72 = .ok (.getfield 494, 3) := by decide +kernel
theorem wd_258_75 : decode (wk_M 258).2.2.1 75 = .ok (.iconst 1, 1) := by decide +kernel
theorem wd_258_76 : decode (wk_M 258).2.2.1 76 = .ok (.iadd, 1) := by decide +kernel
theorem wd_258_77 : decode (wk_M 258).2.2.1 77 = .ok (.putfield 494, 3) := by decide +kernel
theorem wd_258_80 : decode (wk_M 258).2.2.1 80 = .ok (.aload_n 0, 1) := by decide +kernel
theorem wd_258_81 : decode (wk_M 258).2.2.1 81 = .ok (.iload_n 1, 1) := by decide +kernel
theorem wd_258_82 : decode (wk_M 258).2.2.1 82 = .ok (.bipush 20, 2) := by decide +kernel
theorem wd_258_84 : decode (wk_M 258).2.2.1 84 = .ok (.if_icmp .le 15, 3) := by decide +kernel
theorem wd_258_87 : decode (wk_M 258).2.2.1 87 = .ok (.bipush 65, 2) := by decide +kernel
theorem wd_258_89 : decode (wk_M 258).2.2.1 89 = .ok (.iload_n 1, 1) := by decide +kernel
theorem wd_258_90 : decode (wk_M 258).2.2.1 90 = .ok (.iadd, 1) := by decide +kernel
theorem wd_258_91 : decode (wk_M 258).2.2.1 91 = .ok (.bipush 20, 2) := by decide +kernel
theorem wd_258_93 : decode (wk_M 258).2.2.1 93 = .ok (.isub, 1) := by decide +kernel
theorem wd_258_94 : decode (wk_M 258).2.2.1 94 = .ok (.iconst 1, 1) := by decide +kernel
theorem wd_258_95 : decode (wk_M 258).2.2.1 95 = .ok (.isub, 1) := by decide +kernel
theorem wd_258_96 : decode (wk_M 258).2.2.1 96 = .ok (.goto 9, 3) := by decide +kernel
theorem wd_258_99 : decode (wk_M 258).2.2.1 99 = .ok (.bipush 40, 2) := by decide +kernel
theorem wd_258_101 : decode (wk_M 258).2.2.1 101 = .ok (.iload_n 1, 1) := by decide +kernel
theorem wd_258_102 : decode (wk_M 258).2.2.1 102 = .ok (.iadd, 1) := by decide +kernel
theorem wd_258_103 : decode (wk_M 258).2.2.1 103 = .ok (.iconst 1, 1) := by decide +kernel
theorem wd_258_104 : decode (wk_M 258).2.2.1 104 = .ok (.isub, 1) := by decide +kernel
theorem wd_258_105 : decode (wk_M 258).2.2.1 105 = .ok (.sipush 144, 3) := by decide +kernel
theorem wd_258_108 : decode (wk_M 258).2.2.1 108 = .ok (.iload_n 2, 1) := by decide +kernel
theorem wd_258_109 : decode (wk_M 258).2.2.1 109 = .ok (.iadd, 1) := by decide +kernel
theorem wd_258_110 : decode (wk_M 258).2.2.1 110 = .ok (.invokevirtual 500, 3) := by decide +kernel
theorem wd_258_113 : decode (wk_M 258).2.2.1 113 = .ok (.aload_n 0, 1) := by decide +kernel
theorem wd_258_114 : decode (wk_M 258).2.2.1 114 = .ok (.getfield 160, 3) := by decide +kernel
theorem wd_258_117 : decode (wk_M 258).2.2.1 117 = .ok (.iload_n 2, 1) := by decide +kernel
theorem wd_258_118 : decode (wk_M 258).2.2.1 118 = .ok (.dup2, 1) := by decide +kernel
theorem wd_258_119 : decode (wk_M 258).2.2.1 119 = .ok (.iaload, 1) := by decide +kernel
theorem wd_258_120 : decode (wk_M 258).2.2.1 120 = .ok (.iconst 1, 1) := by decide +kernel
theorem wd_258_121 : decode (wk_M 258).2.2.1 121 = .ok (.iadd, 1) := by decide +kernel
theorem wd_258_122 : decode (wk_M 258).2.2.1 122 = .ok (.iastore, 1) := by decide +kernel
theorem wd_258_123 : decode (wk_M 258).2.2.1 123 = .ok (.iconst 3, 1) := by decide +kernel
theorem wd_258_124 : decode (wk_M 258).2.2.1 124 = .ok (.iload_n 2, 1) := by decide +kernel
theorem wd_258_125 : decode (wk_M 258).2.2.1 125 = .ok (.imul, 1) := by decide +kernel
theorem wd_258_126 : decode (wk_M 258).2.2.1 126 = .ok (.aload_n 0, 1) := by decide +kernel
theorem wd_258_127 : decode (wk_M 258).2.2.1 127 = .ok (.getfield 160, 3) := by decide +kernel
theorem wd_258_130 : decode (wk_M 258).2.2.1 130 = .ok (.iload_n 2, 1) := by decide +kernel
theorem wd_258_131 : decode (wk_M 258).2.2.1 131 = .ok (.iaload, 1) := by decide +kernel
theorem wd_258_132 : decode (wk_M 258).2.2.1 132 = .ok (.iadd, 1) := by decide +kernel
theorem wd_258_133 : decode (wk_M 258).2.2.1 133 = .ok (.iconst 1, 1) := by decide +kernel
theorem wd_258_134 : decode (wk_M 258).2.2.1 134 = .ok (.isub, 1) := by decide +kernel
theorem wd_258_135 : decode (wk_M 258).2.2.1 135 = .ok (.ireturn, 1) := by decide +kernel
/-! Ref.addends -/
theorem wm_260 : ae_m 260 = some (wk_M 260) := rfl
theorem wd_260_0 : decode (wk_M 260).2.2.1 0 = .ok (.aload_n 0, 1) := by decide +kernel
theorem wd_260_1 : decode (wk_M 260).2.2.1 1 = .ok (.getfield 136, 3) := by decide +kernel
theorem wd_260_4 : decode (wk_M 260).2.2.1 4 = .ok (.iload_n 1, 1) := by decide +kernel
theorem wd_260_5 : decode (wk_M 260).2.2.1 5 = .ok (.iaload, 1) := by decide +kernel
theorem wd_260_6 : decode (wk_M 260).2.2.1 6 = .ok (.istore_n 3, 1) := by decide +kernel
theorem wd_260_7 : decode (wk_M 260).2.2.1 7 = .ok (.iload_n 3, 1) := by decide +kernel
theorem wd_260_8 : decode (wk_M 260).2.2.1 8 = .ok (.ifCond .ge 16, 3) := by decide +kernel
theorem wd_260_11 : decode (wk_M 260).2.2.1 11 = .ok (.aload_n 0, 1) := by decide +kernel
theorem wd_260_12 : decode (wk_M 260).2.2.1 12 = .ok (.bipush 60, 2) := by decide +kernel
theorem wd_260_14 : decode (wk_M 260).2.2.1 14 = .ok (.bipush 96, 2) := by decide +kernel
theorem wd_260_16 : decode (wk_M 260).2.2.1 16 = .ok (.bipush 6, 2) := by decide +kernel
theorem wd_260_18 : decode (wk_M 260).2.2.1 18 = .ok (.iload_n 2, 1) := by decide +kernel
theorem wd_260_19 : decode (wk_M 260).2.2.1 19 = .ok (.imul, 1) := by decide +kernel
theorem wd_260_20 : decode (wk_M 260).2.2.1 20 = .ok (.iadd, 1) := by decide +kernel
theorem wd_260_21 : decode (wk_M 260).2.2.1 21 = .ok (.invokevirtual 500, 3) := by decide +kernel
theorem wd_260_24 : decode (wk_M 260).2.2.1 24 = .ok (.iconst 0, 1) := by decide +kernel
theorem wd_260_25 : decode (wk_M 260).2.2.1 25 = .ok (.istore 4, 2) := by decide +kernel
theorem wd_260_27 : decode (wk_M 260).2.2.1 27 = .ok (.iload_n 3, 1) := by decide +kernel
theorem wd_260_28 : decode (wk_M 260).2.2.1 28 = .ok (.ifCond .lt 54, 3) := by decide +kernel
theorem wd_260_31 : decode (wk_M 260).2.2.1 31 = .ok (.iload 4, 2) := by decide +kernel
theorem wd_260_33 : decode (wk_M 260).2.2.1 33 = .ok (.aload_n 0, 1) := by decide +kernel
theorem wd_260_34 : decode (wk_M 260).2.2.1 34 = .ok (.getfield 127, 3) := by decide +kernel
theorem wd_260_37 : decode (wk_M 260).2.2.1 37 = .ok (.iload_n 3, 1) := by decide +kernel
theorem wd_260_38 : decode (wk_M 260).2.2.1 38 = .ok (.iaload, 1) := by decide +kernel
theorem wd_260_39 : decode (wk_M 260).2.2.1 39 = .ok (.aload_n 0, 1) := by decide +kernel
theorem wd_260_40 : decode (wk_M 260).2.2.1 40 = .ok (.getfield 124, 3) := by decide +kernel
theorem wd_260_43 : decode (wk_M 260).2.2.1 43 = .ok (.iload_n 3, 1) := by decide +kernel
theorem wd_260_44 : decode (wk_M 260).2.2.1 44 = .ok (.iaload, 1) := by decide +kernel
theorem wd_260_45 : decode (wk_M 260).2.2.1 45 = .ok (.isub, 1) := by decide +kernel
theorem wd_260_46 : decode (wk_M 260).2.2.1 46 = .ok (.if_icmp .gt 36, 3) := by decide +kernel
theorem wd_260_49 : decode (wk_M 260).2.2.1 49 = .ok (.aload_n 0, 1) := by decide +kernel
theorem wd_260_50 : decode (wk_M 260).2.2.1 50 = .ok (.iconst 0, 1) := by decide +kernel
theorem wd_260_51 : decode (wk_M 260).2.2.1 51 = .ok (.aload_n 0, 1) := by decide +kernel
theorem wd_260_52 : decode (wk_M 260).2.2.1 52 = .ok (.getfield 127, 3) := by decide +kernel
theorem wd_260_55 : decode (wk_M 260).2.2.1 55 = .ok (.iload_n 3, 1) := by decide +kernel
theorem wd_260_56 : decode (wk_M 260).2.2.1 56 = .ok (.iaload, 1) := by decide +kernel
theorem wd_260_57 : decode (wk_M 260).2.2.1 57 = .ok (.iadd, 1) := by decide +kernel
theorem wd_260_58 : decode (wk_M 260).2.2.1 58 = .ok (.iload 4, 2) := by decide +kernel
theorem wd_260_60 : decode (wk_M 260).2.2.1 60 = .ok (.isub, 1) := by decide +kernel
theorem wd_260_61 : decode (wk_M 260).2.2.1 61 = .ok (.iconst 1, 1) := by decide +kernel
theorem wd_260_62 : decode (wk_M 260).2.2.1 62 = .ok (.isub, 1) := by decide +kernel
theorem wd_260_63 : decode (wk_M 260).2.2.1 63 = .ok (.bipush 96, 2) := by decide +kernel
theorem wd_260_65 : decode (wk_M 260).2.2.1 65 = .ok (.bipush 6, 2) := by decide +kernel
theorem wd_260_67 : decode (wk_M 260).2.2.1 67 = .ok (.iload_n 2, 1) := by decide +kernel
theorem wd_260_68 : decode (wk_M 260).2.2.1 68 = .ok (.imul, 1) := by decide +kernel
theorem wd_260_69 : decode (wk_M 260).2.2.1 69 = .ok (.iadd, 1) := by decide +kernel
theorem wd_260_70 : decode (wk_M 260).2.2.1 70 = .ok (.iload 4, 2) := by decide +kernel
theorem wd_260_72 : decode (wk_M 260).2.2.1 72 = .ok (.iadd, 1) := by decide +kernel
theorem wd_260_73 : decode (wk_M 260).2.2.1 73 = .ok (.invokevirtual 500, 3) := by decide +kernel
theorem wd_260_76 : decode (wk_M 260).2.2.1 76 = .ok (.iinc 4 1, 3) := by decide +kernel
theorem wd_260_79 : decode (wk_M 260).2.2.1 79 = .ok (.goto (-52), 3) := by decide +kernel
theorem wd_260_82 : decode (wk_M 260).2.2.1 82 = .ok (.aload_n 0, 1) := by decide +kernel
theorem wd_260_83 : decode (wk_M 260).2.2.1 83 = .ok (.getfield 145, 3) := by decide +kernel
theorem wd_260_86 : decode (wk_M 260).2.2.1 86 = .ok (.iload_n 1, 1) := by decide +kernel
theorem wd_260_87 : decode (wk_M 260).2.2.1 87 = .ok (.iaload, 1) := by decide +kernel
theorem wd_260_88 : decode (wk_M 260).2.2.1 88 = .ok (.ifCond .ne 14, 3) := by decide +kernel
theorem wd_260_91 : decode (wk_M 260).2.2.1 91 = .ok (.aload_n 0, 1) := by decide +kernel
theorem wd_260_92 : decode (wk_M 260).2.2.1 92 = .ok (.bipush 60, 2) := by decide +kernel
theorem wd_260_94 : decode (wk_M 260).2.2.1 94 = .ok (.bipush 120, 2) := by decide +kernel
theorem wd_260_96 : decode (wk_M 260).2.2.1 96 = .ok (.iload_n 2, 1) := by decide +kernel
theorem wd_260_97 : decode (wk_M 260).2.2.1 97 = .ok (.iadd, 1) := by decide +kernel
theorem wd_260_98 : decode (wk_M 260).2.2.1 98 = .ok (.invokevirtual 500, 3) := by decide +kernel
theorem wd_260_101 : decode (wk_M 260).2.2.1 101 = .ok (.return_, 1) := by decide +kernel
theorem wd_260_102 : decode (wk_M 260).2.2.1 102 = .ok (.aload_n 0, 1) := by decide +kernel
theorem wd_260_103 : decode (wk_M 260).2.2.1 103 = .ok (.aload_n 0, 1) := by decide +kernel
theorem wd_260_104 : decode (wk_M 260).2.2.1 104 = .ok (.getfield 145, 3) := by decide +kernel
theorem wd_260_107 : decode (wk_M 260).2.2.1 107 = .ok (.iload_n 1, 1) := by decide +kernel
theorem wd_260_108 : decode (wk_M 260).2.2.1 108 = .ok (.iaload, 1) := by decide +kernel
theorem wd_260_109 : decode (wk_M 260).2.2.1 109 = .ok (.invokevirtual 506, 3) := by decide +kernel
theorem wd_260_112 : decode (wk_M 260).2.2.1 112 = .ok (.istore 4, 2) := by decide +kernel
theorem wd_260_114 : decode (wk_M 260).2.2.1 114 = .ok (.aload_n 0, 1) := by decide +kernel
theorem wd_260_115 : decode (wk_M 260).2.2.1 115 = .ok (.bipush 60, 2) := by decide +kernel
theorem wd_260_117 : decode (wk_M 260).2.2.1 117 = .ok (.sipush 181, 3) := by decide +kernel
theorem wd_260_120 : decode (wk_M 260).2.2.1 120 = .ok (.iload 4, 2) := by decide +kernel
theorem wd_260_122 : decode (wk_M 260).2.2.1 122 = .ok (.iadd, 1) := by decide +kernel
theorem wd_260_123 : decode (wk_M 260).2.2.1 123 = .ok (.invokevirtual 500, 3) := by decide +kernel
theorem wd_260_126 : decode (wk_M 260).2.2.1 126 = .ok (.aload_n 0, 1) := by decide +kernel
theorem wd_260_127 : decode (wk_M 260).2.2.1 127 = .ok (.sipush 193, 3) := by decide +kernel
theorem wd_260_130 : decode (wk_M 260).2.2.1 130 = .ok (.iload 4, 2) := by decide +kernel
theorem wd_260_132 : decode (wk_M 260).2.2.1 132 = .ok (.iadd, 1) := by decide +kernel
theorem wd_260_133 : decode (wk_M 260).2.2.1 133 = .ok (.bipush 120, 2) := by decide +kernel
theorem wd_260_135 : decode (wk_M 260).2.2.1 135 = .ok (.iload_n 2, 1) := by decide +kernel
theorem wd_260_136 : decode (wk_M 260).2.2.1 136 = .ok (.iadd, 1) := by decide +kernel
theorem wd_260_137 : decode (wk_M 260).2.2.1 137 = .ok (.invokevirtual 500, 3) := by decide +kernel
theorem wd_260_140 : decode (wk_M 260).2.2.1 140 = .ok (.aload_n 0, 1) := by decide +kernel
theorem wd_260_141 : decode (wk_M 260).2.2.1 141 = .ok (.sipush 205, 3) := by decide +kernel
theorem wd_260_144 : decode (wk_M 260).2.2.1 144 = .ok (.iload 4, 2) := by decide +kernel
theorem wd_260_146 : decode (wk_M 260).2.2.1 146 = .ok (.iadd, 1) := by decide +kernel
theorem wd_260_147 : decode (wk_M 260).2.2.1 147 = .ok (.bipush 124, 2) := by decide +kernel
theorem wd_260_149 : decode (wk_M 260).2.2.1 149 = .ok (.iload_n 2, 1) := by decide +kernel
theorem wd_260_150 : decode (wk_M 260).2.2.1 150 = .ok (.iadd, 1) := by decide +kernel
theorem wd_260_151 : decode (wk_M 260).2.2.1 151 = .ok (.invokevirtual 500, 3) := by decide +kernel
theorem wd_260_154 : decode (wk_M 260).2.2.1 154 = .ok (.return_, 1) := by decide +kernel
/-! Ref.make0 -/
theorem wm_259 : ae_m 259 = some (wk_M 259) := rfl
theorem wd_259_0 : decode (wk_M 259).2.2.1 0 = .ok (.aload_n 0, 1) := by decide +kernel
theorem wd_259_1 : decode (wk_M 259).2.2.1 1 = .ok (.iconst 0, 1) := by decide +kernel
theorem wd_259_2 : decode (wk_M 259).2.2.1 2 = .ok (.putfield 491, 3) := by decide +kernel
theorem wd_259_5 : decode (wk_M 259).2.2.1 5 = .ok (.aload_n 0, 1) := by decide +kernel
theorem wd_259_6 : decode (wk_M 259).2.2.1 6 = .ok (.iconst 0, 1) := by decide +kernel
theorem wd_259_7 : decode (wk_M 259).2.2.1 7 = .ok (.putfield 494, 3) := by decide +kernel
theorem wd_259_10 : decode (wk_M 259).2.2.1 10 = .ok (.aload_n 0, 1) := by decide +kernel
theorem wd_259_11 : decode (wk_M 259).2.2.1 11 = .ok (.iconst 0, 1) := by decide +kernel
theorem wd_259_12 : decode (wk_M 259).2.2.1 12 = .ok (.putfield 497, 3) := by decide +kernel
theorem wd_259_15 : decode (wk_M 259).2.2.1 15 = .ok (.iconst 0, 1) := by decide +kernel
theorem wd_259_16 : decode (wk_M 259).2.2.1 16 = .ok (.istore_n 2, 1) := by decide +kernel
theorem wd_259_17 : decode (wk_M 259).2.2.1 17 = .ok (.iconst 0, 1) := by decide +kernel
theorem wd_259_18 : decode (wk_M 259).2.2.1 18 = .ok (.istore_n 3, 1) := by decide +kernel
theorem wd_259_19 : decode (wk_M 259).2.2.1 19 = .ok (.iload_n 3, 1) := by decide +kernel
theorem wd_259_20 : decode (wk_M 259).2.2.1 20 = .ok (.aload_n 0, 1) := by decide +kernel
theorem wd_259_21 : decode (wk_M 259).2.2.1 21 = .ok (.getfield 133, 3) := by decide +kernel
theorem wd_259_24 : decode (wk_M 259).2.2.1 24 = .ok (.iconst 0, 1) := by decide +kernel
theorem wd_259_25 : decode (wk_M 259).2.2.1 25 = .ok (.iaload, 1) := by decide +kernel
theorem wd_259_26 : decode (wk_M 259).2.2.1 26 = .ok (.if_icmp .ge 31, 3) := by decide +kernel
theorem wd_259_29 : decode (wk_M 259).2.2.1 29 = .ok (.iload_n 2, 1) := by decide +kernel
theorem wd_259_30 : decode (wk_M 259).2.2.1 30 = .ok (.iload_n 1, 1) := by decide +kernel
theorem wd_259_31 : decode (wk_M 259).2.2.1 31 = .ok (.iload_n 3, 1) := by decide +kernel
theorem wd_259_32 : decode (wk_M 259).2.2.1 32 = .ok (.ishr, 1) := by decide +kernel
theorem wd_259_33 : decode (wk_M 259).2.2.1 33 = .ok (.iconst 1, 1) := by decide +kernel
theorem wd_259_34 : decode (wk_M 259).2.2.1 34 = .ok (.iand, 1) := by decide +kernel
theorem wd_259_35 : decode (wk_M 259).2.2.1 35 = .ok (.iconst 1, 1) := by decide +kernel
theorem wd_259_36 : decode (wk_M 259).2.2.1 36 = .ok (.if_icmp .ne 12, 3) := by decide +kernel
theorem wd_259_39 : decode (wk_M 259).2.2.1 39 = .ok (.aload_n 0, 1) := by decide +kernel
theorem wd_259_40 : decode (wk_M 259).2.2.1 40 = .ok (.getfield 139, 3) := by decide +kernel
theorem wd_259_43 : decode (wk_M 259).2.2.1 43 = .ok (.iload_n 3, 1) := by decide +kernel
theorem wd_259_44 : decode (wk_M 259).2.2.1 44 = .ok (.iaload, 1) := by decide +kernel
theorem wd_259_45 : decode (wk_M 259).2.2.1 45 = .ok (.goto 4, 3) := by decide +kernel
theorem wd_259_48 : decode (wk_M 259).2.2.1 48 = .ok (.iconst 0, 1) := by decide +kernel
theorem wd_259_49 : decode (wk_M 259).2.2.1 49 = .ok (.iadd, 1) := by decide +kernel
theorem wd_259_50 : decode (wk_M 259).2.2.1 50 = .ok (.istore_n 2, 1) := by decide +kernel
theorem wd_259_51 : decode (wk_M 259).2.2.1 51 = .ok (.iinc 3 1, 3) := by decide +kernel
theorem wd_259_54 : decode (wk_M 259).2.2.1 54 = .ok (.goto (-35), 3) := by decide +kernel
theorem wd_259_57 : decode (wk_M 259).2.2.1 57 = .ok (.iload_n 1, 1) := by decide +kernel
theorem wd_259_58 : decode (wk_M 259).2.2.1 58 = .ok (.i2l, 1) := by decide +kernel
theorem wd_259_59 : decode (wk_M 259).2.2.1 59 = .ok (.invokestatic 416, 3) := by decide +kernel
theorem wd_259_62 : decode (wk_M 259).2.2.1 62 = .ok (.iconst 4, 1) := by decide +kernel
theorem wd_259_63 : decode (wk_M 259).2.2.1 63 = .ok (.if_icmp .gt 9, 3) := by decide +kernel
theorem wd_259_66 : decode (wk_M 259).2.2.1 66 = .ok (.iload_n 2, 1) := by decide +kernel
theorem wd_259_67 : decode (wk_M 259).2.2.1 67 = .ok (.bipush 12, 2) := by decide +kernel
theorem wd_259_69 : decode (wk_M 259).2.2.1 69 = .ok (.if_icmp .le 5, 3) := by decide +kernel
theorem wd_259_72 : decode (wk_M 259).2.2.1 72 = .ok (.iconst 0, 1) := by decide +kernel
theorem wd_259_73 : decode (wk_M 259).2.2.1 73 = .ok (.ireturn, 1) := by decide +kernel
theorem wd_259_74 : decode (wk_M 259).2.2.1 74 = .ok (.iconst 0, 1) := by decide +kernel
theorem wd_259_75 : decode (wk_M 259).2.2.1 75 = .ok (.istore_n 3, 1) := by decide +kernel
theorem wd_259_76 : decode (wk_M 259).2.2.1 76 = .ok (.iconst 0, 1) := by decide +kernel
theorem wd_259_77 : decode (wk_M 259).2.2.1 77 = .ok (.istore 4, 2) := by decide +kernel
theorem wd_259_79 : decode (wk_M 259).2.2.1 79 = .ok (.iload 4, 2) := by decide +kernel
theorem wd_259_81 : decode (wk_M 259).2.2.1 81 = .ok (.iconst 3, 1) := by decide +kernel
theorem wd_259_82 : decode (wk_M 259).2.2.1 82 = .ok (.if_icmp .ge 80, 3) := by decide +kernel
theorem wd_259_85 : decode (wk_M 259).2.2.1 85 = .ok (.aload_n 0, 1) := by decide +kernel
theorem wd_259_86 : decode (wk_M 259).2.2.1 86 = .ok (.getfield 130, 3) := by decide +kernel
theorem wd_259_89 : decode (wk_M 259).2.2.1 89 = .ok (.iload 4, 2) := by decide +kernel
theorem wd_259_91 : decode (wk_M 259).2.2.1 91 = .ok (.iaload, 1) := by decide +kernel
theorem wd_259_92 : decode (wk_M 259).2.2.1 92 = .ok (.ifCond .ne 6, 3) := by decide +kernel
theorem wd_259_95 : decode (wk_M 259).2.2.1 95 = .ok (.goto 61, 3) := by decide +kernel
theorem wd_259_98 : decode (wk_M 259).2.2.1 98 = .ok (.aload_n 0, 1) := by decide +kernel
theorem wd_259_99 : decode (wk_M 259).2.2.1 99 = .ok (.iconst 0, 1) := by decide +kernel
theorem wd_259_100 : decode (wk_M 259).2.2.1 100 = .ok (.aload_n 0, 1) := by decide +kernel
theorem wd_259_101 : decode (wk_M 259).2.2.1 101 = .ok (.getfield 130, 3) := by decide +kernel
theorem wd_259_104 : decode (wk_M 259).2.2.1 104 = .ok (.iload 4, 2) := by decide +kernel
theorem wd_259_106 : decode (wk_M 259).2.2.1 106 = .ok (.iaload, 1) := by decide +kernel
theorem wd_259_107 : decode (wk_M 259).2.2.1 107 = .ok (.iadd, 1) := by decide +kernel
theorem wd_259_108 : decode (wk_M 259).2.2.1 108 = .ok (.iconst 1, 1) := by decide +kernel
theorem wd_259_109 : decode (wk_M 259).2.2.1 109 = .ok (.isub, 1) := by decide +kernel
theorem wd_259_110 : decode (wk_M 259).2.2.1 110 = .ok (.sipush 148, 3) := by decide +kernel
theorem wd_259_113 : decode (wk_M 259).2.2.1 113 = .ok (.iload_n 3, 1) := by decide +kernel
theorem wd_259_114 : decode (wk_M 259).2.2.1 114 = .ok (.iadd, 1) := by decide +kernel
theorem wd_259_115 : decode (wk_M 259).2.2.1 115 = .ok (.invokevirtual 500, 3) := by decide +kernel
theorem wd_259_118 : decode (wk_M 259).2.2.1 118 = .ok (.aload_n 0, 1) := by decide +kernel
theorem wd_259_119 : decode (wk_M 259).2.2.1 119 = .ok (.bipush 20, 2) := by decide +kernel
theorem wd_259_121 : decode (wk_M 259).2.2.1 121 = .ok (.aload_n 0, 1) := by decide +kernel
theorem wd_259_122 : decode (wk_M 259).2.2.1 122 = .ok (.getfield 130, 3) := by decide +kernel
theorem wd_259_125 : decode (wk_M 259).2.2.1 125 = .ok (.iload 4, 2) := by decide +kernel
theorem wd_259_127 : decode (wk_M 259).2.2.1 127 = .ok (.iaload, 1) := by decide +kernel
theorem wd_259_128 : decode (wk_M 259).2.2.1 128 = .ok (.iadd, 1) := by decide +kernel
theorem wd_259_129 : decode (wk_M 259).2.2.1 129 = .ok (.iconst 1, 1) := by decide +kernel
theorem wd_259_130 : decode (wk_M 259).2.2.1 130 = .ok (.isub, 1) := by decide +kernel
theorem wd_259_131 : decode (wk_M 259).2.2.1 131 = .ok (.sipush 152, 3) := by decide +kernel
theorem wd_259_134 : decode (wk_M 259).2.2.1 134 = .ok (.iload_n 3, 1) := by decide +kernel
theorem wd_259_135 : decode (wk_M 259).2.2.1 135 = .ok (.iadd, 1) := by decide +kernel
theorem wd_259_136 : decode (wk_M 259).2.2.1 136 = .ok (.invokevirtual 500, 3) := by decide +kernel
theorem wd_259_139 : decode (wk_M 259).2.2.1 139 = .ok (.aload_n 0, 1) := by decide +kernel
theorem wd_259_140 : decode (wk_M 259).2.2.1 140 = .ok (.bipush 61, 2) := by decide +kernel
theorem wd_259_142 : decode (wk_M 259).2.2.1 142 = .ok (.iload_n 3, 1) := by decide +kernel
theorem wd_259_143 : decode (wk_M 259).2.2.1 143 = .ok (.iadd, 1) := by decide +kernel
theorem wd_259_144 : decode (wk_M 259).2.2.1 144 = .ok (.sipush 156, 3) := by decide +kernel
theorem wd_259_147 : decode (wk_M 259).2.2.1 147 = .ok (.iload 4, 2) := by decide +kernel
theorem wd_259_149 : decode (wk_M 259).2.2.1 149 = .ok (.iadd, 1) := by decide +kernel
theorem wd_259_150 : decode (wk_M 259).2.2.1 150 = .ok (.invokevirtual 500, 3) := by decide +kernel
theorem wd_259_153 : decode (wk_M 259).2.2.1 153 = .ok (.iinc 3 1, 3) := by decide +kernel
theorem wd_259_156 : decode (wk_M 259).2.2.1 156 = .ok (.iinc 4 1, 3) := by decide +kernel
theorem wd_259_159 : decode (wk_M 259).2.2.1 159 = .ok (.goto (-80), 3) := by decide +kernel
theorem wd_259_162 : decode (wk_M 259).2.2.1 162 = .ok (.iconst 0, 1) := by decide +kernel
theorem wd_259_163 : decode (wk_M 259).2.2.1 163 = .ok (.istore 4, 2) := by decide +kernel
theorem wd_259_165 : decode (wk_M 259).2.2.1 165 = .ok (.iconst 0, 1) := by decide +kernel
theorem wd_259_166 : decode (wk_M 259).2.2.1 166 = .ok (.istore 5, 2) := by decide +kernel
theorem wd_259_168 : decode (wk_M 259).2.2.1 168 = .ok (.iload 5, 2) := by decide +kernel
theorem wd_259_170 : decode (wk_M 259).2.2.1 170 = .ok (.aload_n 0, 1) := by decide +kernel
theorem wd_259_171 : decode (wk_M 259).2.2.1 171 = .ok (.getfield 133, 3) := by decide +kernel
theorem wd_259_174 : decode (wk_M 259).2.2.1 174 = .ok (.iconst 0, 1) := by decide +kernel
theorem wd_259_175 : decode (wk_M 259).2.2.1 175 = .ok (.iaload, 1) := by decide +kernel
theorem wd_259_176 : decode (wk_M 259).2.2.1 176 = .ok (.if_icmp .ge 32, 3) := by decide +kernel
theorem wd_259_179 : decode (wk_M 259).2.2.1 179 = .ok (.iload_n 1, 1) := by decide +kernel
theorem wd_259_180 : decode (wk_M 259).2.2.1 180 = .ok (.iload 5, 2) := by decide +kernel
theorem wd_259_182 : decode (wk_M 259).2.2.1 182 = .ok (.ishr, 1) := by decide +kernel
theorem wd_259_183 : decode (wk_M 259).2.2.1 183 = .ok (.iconst 1, 1) := by decide +kernel
theorem wd_259_184 : decode (wk_M 259).2.2.1 184 = .ok (.iand, 1) := by decide +kernel
theorem wd_259_185 : decode (wk_M 259).2.2.1 185 = .ok (.ifCond .ne 6, 3) := by decide +kernel
theorem wd_259_188 : decode (wk_M 259).2.2.1 188 = .ok (.goto 14, 3) := by decide +kernel
theorem wd_259_191 : decode (wk_M 259).2.2.1 191 = .ok (.aload_n 0, 1) := by decide +kernel
theorem wd_259_192 : decode (wk_M 259).2.2.1 192 = .ok (.iload 5, 2) := by decide +kernel
theorem wd_259_194 : decode (wk_M 259).2.2.1 194 = .ok (.iload 4, 2) := by decide +kernel
theorem wd_259_196 : decode (wk_M 259).2.2.1 196 = .ok (.invokevirtual 503, 3) := by decide +kernel
theorem wd_259_199 : decode (wk_M 259).2.2.1 199 = .ok (.iinc 4 1, 3) := by decide +kernel
theorem wd_259_202 : decode (wk_M 259).2.2.1 202 = .ok (.iinc 5 1, 3) := by decide +kernel
theorem wd_259_205 : decode (wk_M 259).2.2.1 205 = .ok (.goto (-37), 3) := by decide +kernel
theorem wd_259_208 : decode (wk_M 259).2.2.1 208 = .ok (.iconst 0, 1) := by decide +kernel
theorem wd_259_209 : decode (wk_M 259).2.2.1 209 = .ok (.istore 4, 2) := by decide +kernel
theorem wd_259_211 : decode (wk_M 259).2.2.1 211 = .ok (.iconst 0, 1) := by decide +kernel
theorem wd_259_212 : decode (wk_M 259).2.2.1 212 = .ok (.istore 5, 2) := by decide +kernel
theorem wd_259_214 : decode (wk_M 259).2.2.1 214 = .ok (.iconst 0, 1) := by decide +kernel
theorem wd_259_215 : decode (wk_M 259).2.2.1 215 = .ok (.istore 6, 2) := by decide +kernel
theorem wd_259_217 : decode (wk_M 259).2.2.1 217 = .ok (.iload 6, 2) := by decide +kernel
theorem wd_259_219 : decode (wk_M 259).2.2.1 219 = .ok (.aload_n 0, 1) := by decide +kernel
theorem wd_259_220 : decode (wk_M 259).2.2.1 220 = .ok (.getfield 133, 3) := by decide +kernel
theorem wd_259_223 : decode (wk_M 259).2.2.1 223 = .ok (.iconst 0, 1) := by decide +kernel
theorem wd_259_224 : decode (wk_M 259).2.2.1 224 = .ok (.iaload, 1) := by decide +kernel
theorem wd_259_225 : decode (wk_M 259).2.2.1 225 = .ok (.if_icmp .ge 124, 3) := by decide +kernel
theorem wd_259_228 : decode (wk_M 259).2.2.1 228 = .ok (.iload_n 1, 1) := by decide +kernel
theorem wd_259_229 : decode (wk_M 259).2.2.1 229 = .ok (.iload 6, 2) := by decide +kernel
theorem wd_259_231 : decode (wk_M 259).2.2.1 231 = .ok (.ishr, 1) := by decide +kernel
theorem wd_259_232 : decode (wk_M 259).2.2.1 232 = .ok (.iconst 1, 1) := by decide +kernel
theorem wd_259_233 : decode (wk_M 259).2.2.1 233 = .ok (.iand, 1) := by decide +kernel
theorem wd_259_234 : decode (wk_M 259).2.2.1 234 = .ok (.ifCond .ne 6, 3) := by decide +kernel
theorem wd_259_237 : decode (wk_M 259).2.2.1 237 = .ok (.goto 106, 3) := by decide +kernel
theorem wd_259_240 : decode (wk_M 259).2.2.1 240 = .ok (.aload_n 0, 1) := by decide +kernel
theorem wd_259_241 : decode (wk_M 259).2.2.1 241 = .ok (.getfield 139, 3) := by decide +kernel
theorem wd_259_244 : decode (wk_M 259).2.2.1 244 = .ok (.iload 6, 2) := by decide +kernel
theorem wd_259_246 : decode (wk_M 259).2.2.1 246 = .ok (.iaload, 1) := by decide +kernel
theorem wd_259_247 : decode (wk_M 259).2.2.1 247 = .ok (.iconst 1, 1) := by decide +kernel
theorem wd_259_248 : decode (wk_M 259).2.2.1 248 = .ok (.isub, 1) := by decide +kernel
theorem wd_259_249 : decode (wk_M 259).2.2.1 249 = .ok (.istore 7, 2) := by decide +kernel
theorem wd_259_251 : decode (wk_M 259).2.2.1 251 = .ok (.iload 7, 2) := by decide +kernel
theorem wd_259_253 : decode (wk_M 259).2.2.1 253 = .ok (.ifCond .lt 65, 3) := by decide +kernel
theorem wd_259_256 : decode (wk_M 259).2.2.1 256 = .ok (.aload_n 0, 1) := by decide +kernel
theorem wd_259_257 : decode (wk_M 259).2.2.1 257 = .ok (.bipush 20, 2) := by decide +kernel
theorem wd_259_259 : decode (wk_M 259).2.2.1 259 = .ok (.aload_n 0, 1) := by decide +kernel
theorem wd_259_260 : decode (wk_M 259).2.2.1 260 = .ok (.getfield 142, 3) := by decide +kernel
theorem wd_259_263 : decode (wk_M 259).2.2.1 263 = .ok (.iload 6, 2) := by decide +kernel
theorem wd_259_265 : decode (wk_M 259).2.2.1 265 = .ok (.iaload, 1) := by decide +kernel
theorem wd_259_266 : decode (wk_M 259).2.2.1 266 = .ok (.iadd, 1) := by decide +kernel
theorem wd_259_267 : decode (wk_M 259).2.2.1 267 = .ok (.invokevirtual 506, 3) := by decide +kernel
theorem wd_259_270 : decode (wk_M 259).2.2.1 270 = .ok (.istore 8, 2) := by decide +kernel
theorem wd_259_272 : decode (wk_M 259).2.2.1 272 = .ok (.aload_n 0, 1) := by decide +kernel
theorem wd_259_273 : decode (wk_M 259).2.2.1 273 = .ok (.bipush 68, 2) := by decide +kernel
theorem wd_259_275 : decode (wk_M 259).2.2.1 275 = .ok (.bipush 6, 2) := by decide +kernel
theorem wd_259_277 : decode (wk_M 259).2.2.1 277 = .ok (.iload 4, 2) := by decide +kernel
theorem wd_259_279 : decode (wk_M 259).2.2.1 279 = .ok (.imul, 1) := by decide +kernel
theorem wd_259_280 : decode (wk_M 259).2.2.1 280 = .ok (.iadd, 1) := by decide +kernel
theorem wd_259_281 : decode (wk_M 259).2.2.1 281 = .ok (.iload 7, 2) := by decide +kernel
theorem wd_259_283 : decode (wk_M 259).2.2.1 283 = .ok (.iadd, 1) := by decide +kernel
theorem wd_259_284 : decode (wk_M 259).2.2.1 284 = .ok (.sipush 181, 3) := by decide +kernel
theorem wd_259_287 : decode (wk_M 259).2.2.1 287 = .ok (.iload 8, 2) := by decide +kernel
theorem wd_259_289 : decode (wk_M 259).2.2.1 289 = .ok (.iadd, 1) := by decide +kernel
theorem wd_259_290 : decode (wk_M 259).2.2.1 290 = .ok (.invokevirtual 500, 3) := by decide +kernel
theorem wd_259_293 : decode (wk_M 259).2.2.1 293 = .ok (.aload_n 0, 1) := by decide +kernel
theorem wd_259_294 : decode (wk_M 259).2.2.1 294 = .ok (.sipush 205, 3) := by decide +kernel
theorem wd_259_297 : decode (wk_M 259).2.2.1 297 = .ok (.iload 8, 2) := by decide +kernel
theorem wd_259_299 : decode (wk_M 259).2.2.1 299 = .ok (.iadd, 1) := by decide +kernel
theorem wd_259_300 : decode (wk_M 259).2.2.1 300 = .ok (.sipush 132, 3) := by decide +kernel
theorem wd_259_303 : decode (wk_M 259).2.2.1 303 = .ok (.iload 5, 2) := by decide +kernel
theorem wd_259_305 : decode (wk_M 259).2.2.1 305 = .ok (.iadd, 1) := by decide +kernel
theorem wd_259_306 : decode (wk_M 259).2.2.1 306 = .ok (.invokevirtual 500, 3) := by decide +kernel
theorem wd_259_309 : decode (wk_M 259).2.2.1 309 = .ok (.iinc 5 1, 3) := by decide +kernel
theorem wd_259_312 : decode (wk_M 259).2.2.1 312 = .ok (.iinc 7 (-1), 3) := by decide +kernel
theorem wd_259_315 : decode (wk_M 259).2.2.1 315 = .ok (.goto (-64), 3) := by decide +kernel
theorem wd_259_318 : decode (wk_M 259).2.2.1 318 = .ok (.aload_n 0, 1) := by decide +kernel
theorem wd_259_319 : decode (wk_M 259).2.2.1 319 = .ok (.bipush 65, 2) := by decide +kernel
theorem wd_259_321 : decode (wk_M 259).2.2.1 321 = .ok (.aload_n 0, 1) := by decide +kernel
theorem wd_259_322 : decode (wk_M 259).2.2.1 322 = .ok (.getfield 142, 3) := by decide +kernel
theorem wd_259_325 : decode (wk_M 259).2.2.1 325 = .ok (.iload 6, 2) := by decide +kernel
theorem wd_259_327 : decode (wk_M 259).2.2.1 327 = .ok (.iaload, 1) := by decide +kernel
theorem wd_259_328 : decode (wk_M 259).2.2.1 328 = .ok (.iadd, 1) := by decide +kernel
theorem wd_259_329 : decode (wk_M 259).2.2.1 329 = .ok (.iconst 1, 1) := by decide +kernel
theorem wd_259_330 : decode (wk_M 259).2.2.1 330 = .ok (.isub, 1) := by decide +kernel
theorem wd_259_331 : decode (wk_M 259).2.2.1 331 = .ok (.sipush 128, 3) := by decide +kernel
theorem wd_259_334 : decode (wk_M 259).2.2.1 334 = .ok (.iload 4, 2) := by decide +kernel
theorem wd_259_336 : decode (wk_M 259).2.2.1 336 = .ok (.iadd, 1) := by decide +kernel
theorem wd_259_337 : decode (wk_M 259).2.2.1 337 = .ok (.invokevirtual 500, 3) := by decide +kernel
theorem wd_259_340 : decode (wk_M 259).2.2.1 340 = .ok (.iinc 4 1, 3) := by decide +kernel
theorem wd_259_343 : decode (wk_M 259).2.2.1 343 = .ok (.iinc 6 1, 3) := by decide +kernel
theorem wd_259_346 : decode (wk_M 259).2.2.1 346 = .ok (.goto (-129), 3) := by decide +kernel
theorem wd_259_349 : decode (wk_M 259).2.2.1 349 = .ok (.aload_n 0, 1) := by decide +kernel
theorem wd_259_350 : decode (wk_M 259).2.2.1 350 = .ok (.getfield 497, 3) := by decide +kernel
theorem wd_259_353 : decode (wk_M 259).2.2.1 353 = .ok (.ifCond .ne 16, 3) := by decide +kernel
theorem wd_259_356 : decode (wk_M 259).2.2.1 356 = .ok (.aload_n 0, 1) := by decide +kernel
theorem wd_259_357 : decode (wk_M 259).2.2.1 357 = .ok (.getfield 491, 3) := by decide +kernel
theorem wd_259_360 : decode (wk_M 259).2.2.1 360 = .ok (.bipush 60, 2) := by decide +kernel
theorem wd_259_362 : decode (wk_M 259).2.2.1 362 = .ok (.if_icmp .gt 7, 3) := by decide +kernel
theorem wd_259_365 : decode (wk_M 259).2.2.1 365 = .ok (.iconst 1, 1) := by decide +kernel
theorem wd_259_366 : decode (wk_M 259).2.2.1 366 = .ok (.goto 4, 3) := by decide +kernel
theorem wd_259_369 : decode (wk_M 259).2.2.1 369 = .ok (.iconst 0, 1) := by decide +kernel
theorem wd_259_370 : decode (wk_M 259).2.2.1 370 = .ok (.ireturn, 1) := by decide +kernel
/-! Ref.plan -/
theorem wm_261 : ae_m 261 = some (wk_M 261) := rfl
theorem wd_261_0 : decode (wk_M 261).2.2.1 0 = .ok (.iconst 1, 1) := by decide +kernel
theorem wd_261_1 : decode (wk_M 261).2.2.1 1 = .ok (.aload_n 0, 1) := by decide +kernel
theorem wd_261_2 : decode (wk_M 261).2.2.1 2 = .ok (.getfield 133, 3) := by decide +kernel
theorem wd_261_5 : decode (wk_M 261).2.2.1 5 = .ok (.iconst 0, 1) := by decide +kernel
theorem wd_261_6 : decode (wk_M 261).2.2.1 6 = .ok (.iaload, 1) := by decide +kernel
theorem wd_261_7 : decode (wk_M 261).2.2.1 7 = .ok (.ishl, 1) := by decide +kernel
theorem wd_261_8 : decode (wk_M 261).2.2.1 8 = .ok (.iconst 1, 1) := by decide +kernel
theorem wd_261_9 : decode (wk_M 261).2.2.1 9 = .ok (.isub, 1) := by decide +kernel
theorem wd_261_10 : decode (wk_M 261).2.2.1 10 = .ok (.istore_n 1, 1) := by decide +kernel
theorem wd_261_11 : decode (wk_M 261).2.2.1 11 = .ok (.aload_n 0, 1) := by decide +kernel
theorem wd_261_12 : decode (wk_M 261).2.2.1 12 = .ok (.getfield 163, 3) := by decide +kernel
theorem wd_261_15 : decode (wk_M 261).2.2.1 15 = .ok (.iconst 0, 1) := by decide +kernel
theorem wd_261_16 : decode (wk_M 261).2.2.1 16 = .ok (.iconst 0, 1) := by decide +kernel
theorem wd_261_17 : decode (wk_M 261).2.2.1 17 = .ok (.iastore, 1) := by decide +kernel
theorem wd_261_18 : decode (wk_M 261).2.2.1 18 = .ok (.iconst 1, 1) := by decide +kernel
theorem wd_261_19 : decode (wk_M 261).2.2.1 19 = .ok (.istore_n 2, 1) := by decide +kernel
theorem wd_261_20 : decode (wk_M 261).2.2.1 20 = .ok (.iload_n 2, 1) := by decide +kernel
theorem wd_261_21 : decode (wk_M 261).2.2.1 21 = .ok (.iload_n 1, 1) := by decide +kernel
theorem wd_261_22 : decode (wk_M 261).2.2.1 22 = .ok (.if_icmp .gt 126, 3) := by decide +kernel
theorem wd_261_25 : decode (wk_M 261).2.2.1 25 = .ok (.aload_n 0, 1) := by decide +kernel
theorem wd_261_26 : decode (wk_M 261).2.2.1 26 = .ok (.getfield 169, 3) := by decide +kernel
theorem wd_261_29 : decode (wk_M 261).2.2.1 29 = .ok (.iload_n 2, 1) := by decide +kernel
theorem wd_261_30 : decode (wk_M 261).2.2.1 30 = .ok (.aload_n 0, 1) := by decide +kernel
theorem wd_261_31 : decode (wk_M 261).2.2.1 31 = .ok (.iload_n 2, 1) := by decide +kernel
theorem wd_261_32 : decode (wk_M 261).2.2.1 32 = .ok (.invokevirtual 509, 3) := by decide +kernel
theorem wd_261_35 : decode (wk_M 261).2.2.1 35 = .ok (.bastore, 1) := by decide +kernel
theorem wd_261_36 : decode (wk_M 261).2.2.1 36 = .ok (.aload_n 0, 1) := by decide +kernel
theorem wd_261_37 : decode (wk_M 261).2.2.1 37 = .ok (.getfield 163, 3) := by decide +kernel
theorem wd_261_40 : decode (wk_M 261).2.2.1 40 = .ok (.iload_n 2, 1) := by decide +kernel
theorem wd_261_41 : decode (wk_M 261).2.2.1 41 = .ok (.bipush 100, 2) := by decide +kernel
theorem wd_261_43 : decode (wk_M 261).2.2.1 43 = .ok (.iastore, 1) := by decide +kernel
theorem wd_261_44 : decode (wk_M 261).2.2.1 44 = .ok (.iload_n 2, 1) := by decide +kernel
theorem wd_261_45 : decode (wk_M 261).2.2.1 45 = .ok (.iload_n 2, 1) := by decide +kernel
theorem wd_261_46 : decode (wk_M 261).2.2.1 46 = .ok (.ineg, 1) := by decide +kernel
theorem wd_261_47 : decode (wk_M 261).2.2.1 47 = .ok (.iand, 1) := by decide +kernel
theorem wd_261_48 : decode (wk_M 261).2.2.1 48 = .ok (.istore_n 3, 1) := by decide +kernel
theorem wd_261_49 : decode (wk_M 261).2.2.1 49 = .ok (.iload_n 3, 1) := by decide +kernel
theorem wd_261_50 : decode (wk_M 261).2.2.1 50 = .ok (.istore 4, 2) := by decide +kernel
theorem wd_261_52 : decode (wk_M 261).2.2.1 52 = .ok (.iload 4, 2) := by decide +kernel
theorem wd_261_54 : decode (wk_M 261).2.2.1 54 = .ok (.iload_n 2, 1) := by decide +kernel
theorem wd_261_55 : decode (wk_M 261).2.2.1 55 = .ok (.if_icmp .gt 87, 3) := by decide +kernel
theorem wd_261_58 : decode (wk_M 261).2.2.1 58 = .ok (.iload 4, 2) := by decide +kernel
theorem wd_261_60 : decode (wk_M 261).2.2.1 60 = .ok (.iload_n 2, 1) := by decide +kernel
theorem wd_261_61 : decode (wk_M 261).2.2.1 61 = .ok (.iconst (-1), 1) := by decide +kernel
theorem wd_261_62 : decode (wk_M 261).2.2.1 62 = .ok (.ixor, 1) := by decide +kernel
theorem wd_261_63 : decode (wk_M 261).2.2.1 63 = .ok (.iand, 1) := by decide +kernel
theorem wd_261_64 : decode (wk_M 261).2.2.1 64 = .ok (.ifCond .ne 72, 3) := by decide +kernel
theorem wd_261_67 : decode (wk_M 261).2.2.1 67 = .ok (.iload 4, 2) := by decide +kernel
theorem wd_261_69 : decode (wk_M 261).2.2.1 69 = .ok (.iload_n 3, 1) := by decide +kernel
theorem wd_261_70 : decode (wk_M 261).2.2.1 70 = .ok (.iand, 1) := by decide +kernel
theorem wd_261_71 : decode (wk_M 261).2.2.1 71 = .ok (.ifCond .eq 65, 3) := by decide +kernel
theorem wd_261_74 : decode (wk_M 261).2.2.1 74 = .ok (.aload_n 0, 1) := by decide +kernel
theorem wd_261_75 : decode (wk_M 261).2.2.1 75 = .ok (.getfield 169, 3) := by decide +kernel
theorem wd_261_78 : decode (wk_M 261).2.2.1 78 = .ok (.iload 4, 2) := by decide +kernel
theorem wd_261_80 : decode (wk_M 261).2.2.1 80 = .ok (.baload, 1) := by decide +kernel
theorem wd_261_81 : decode (wk_M 261).2.2.1 81 = .ok (.ifCond .eq 55, 3) := by decide +kernel
theorem wd_261_84 : decode (wk_M 261).2.2.1 84 = .ok (.aload_n 0, 1) := by decide +kernel
theorem wd_261_85 : decode (wk_M 261).2.2.1 85 = .ok (.getfield 163, 3) := by decide +kernel
theorem wd_261_88 : decode (wk_M 261).2.2.1 88 = .ok (.iload_n 2, 1) := by decide +kernel
theorem wd_261_89 : decode (wk_M 261).2.2.1 89 = .ok (.iload 4, 2) := by decide +kernel
theorem wd_261_91 : decode (wk_M 261).2.2.1 91 = .ok (.iconst (-1), 1) := by decide +kernel
theorem wd_261_92 : decode (wk_M 261).2.2.1 92 = .ok (.ixor, 1) := by decide +kernel
theorem wd_261_93 : decode (wk_M 261).2.2.1 93 = .ok (.iand, 1) := by decide +kernel
theorem wd_261_94 : decode (wk_M 261).2.2.1 94 = .ok (.iaload, 1) := by decide +kernel
theorem wd_261_95 : decode (wk_M 261).2.2.1 95 = .ok (.iconst 1, 1) := by decide +kernel
theorem wd_261_96 : decode (wk_M 261).2.2.1 96 = .ok (.iadd, 1) := by decide +kernel
theorem wd_261_97 : decode (wk_M 261).2.2.1 97 = .ok (.aload_n 0, 1) := by decide +kernel
theorem wd_261_98 : decode (wk_M 261).2.2.1 98 = .ok (.getfield 163, 3) := by decide +kernel
theorem wd_261_101 : decode (wk_M 261).2.2.1 101 = .ok (.iload_n 2, 1) := by decide +kernel
theorem wd_261_102 : decode (wk_M 261).2.2.1 102 = .ok (.iaload, 1) := by decide +kernel
theorem wd_261_103 : decode (wk_M 261).2.2.1 103 = .ok (.if_icmp .lt 6, 3) := by decide +kernel
theorem wd_261_106 : decode (wk_M 261).2.2.1 106 = .ok (.goto 30, 3) := by decide +kernel
theorem wd_261_109 : decode (wk_M 261).2.2.1 109 = .ok (.aload_n 0, 1) := by decide +kernel
theorem wd_261_110 : decode (wk_M 261).2.2.1 110 = .ok (.getfield 163, 3) := by decide +kernel
theorem wd_261_113 : decode (wk_M 261).2.2.1 113 = .ok (.iload_n 2, 1) := by decide +kernel
theorem wd_261_114 : decode (wk_M 261).2.2.1 114 = .ok (.aload_n 0, 1) := by decide +kernel
theorem wd_261_115 : decode (wk_M 261).2.2.1 115 = .ok (.getfield 163, 3) := by decide +kernel
theorem wd_261_118 : decode (wk_M 261).2.2.1 118 = .ok (.iload_n 2, 1) := by decide +kernel
theorem wd_261_119 : decode (wk_M 261).2.2.1 119 = .ok (.iload 4, 2) := by decide +kernel
theorem wd_261_121 : decode (wk_M 261).2.2.1 121 = .ok (.iconst (-1), 1) := by decide +kernel
theorem wd_261_122 : decode (wk_M 261).2.2.1 122 = .ok (.ixor, 1) := by decide +kernel
theorem wd_261_123 : decode (wk_M 261).2.2.1 123 = .ok (.iand, 1) := by decide +kernel
theorem wd_261_124 : decode (wk_M 261).2.2.1 124 = .ok (.iaload, 1) := by decide +kernel
theorem wd_261_125 : decode (wk_M 261).2.2.1 125 = .ok (.iconst 1, 1) := by decide +kernel
theorem wd_261_126 : decode (wk_M 261).2.2.1 126 = .ok (.iadd, 1) := by decide +kernel
theorem wd_261_127 : decode (wk_M 261).2.2.1 127 = .ok (.iastore, 1) := by decide +kernel
theorem wd_261_128 : decode (wk_M 261).2.2.1 128 = .ok (.aload_n 0, 1) := by decide +kernel
theorem wd_261_129 : decode (wk_M 261).2.2.1 129 = .ok (.getfield 166, 3) := by decide +kernel
theorem wd_261_132 : decode (wk_M 261).2.2.1 132 = .ok (.iload_n 2, 1) := by decide +kernel
theorem wd_261_133 : decode (wk_M 261).2.2.1 133 = .ok (.iload 4, 2) := by decide +kernel
theorem wd_261_135 : decode (wk_M 261).2.2.1 135 = .ok (.iastore, 1) := by decide +kernel
theorem wd_261_136 : decode (wk_M 261).2.2.1 136 = .ok (.iinc 4 1, 3) := by decide +kernel
theorem wd_261_139 : decode (wk_M 261).2.2.1 139 = .ok (.goto (-87), 3) := by decide +kernel
theorem wd_261_142 : decode (wk_M 261).2.2.1 142 = .ok (.iinc 2 1, 3) := by decide +kernel
theorem wd_261_145 : decode (wk_M 261).2.2.1 145 = .ok (.goto (-125), 3) := by decide +kernel
theorem wd_261_148 : decode (wk_M 261).2.2.1 148 = .ok (.aload_n 0, 1) := by decide +kernel
theorem wd_261_149 : decode (wk_M 261).2.2.1 149 = .ok (.getfield 163, 3) := by decide +kernel
theorem wd_261_152 : decode (wk_M 261).2.2.1 152 = .ok (.iload_n 1, 1) := by decide +kernel
theorem wd_261_153 : decode (wk_M 261).2.2.1 153 = .ok (.iaload, 1) := by decide +kernel
theorem wd_261_154 : decode (wk_M 261).2.2.1 154 = .ok (.bipush 100, 2) := by decide +kernel
theorem wd_261_156 : decode (wk_M 261).2.2.1 156 = .ok (.if_icmp .lt 7, 3) := by decide +kernel
theorem wd_261_159 : decode (wk_M 261).2.2.1 159 = .ok (.iconst (-1), 1) := by decide +kernel
theorem wd_261_160 : decode (wk_M 261).2.2.1 160 = .ok (.goto 9, 3) := by decide +kernel
theorem wd_261_163 : decode (wk_M 261).2.2.1 163 = .ok (.aload_n 0, 1) := by decide +kernel
theorem wd_261_164 : decode (wk_M 261).2.2.1 164 = .ok (.getfield 163, 3) := by decide +kernel
theorem wd_261_167 : decode (wk_M 261).2.2.1 167 = .ok (.iload_n 1, 1) := by decide +kernel
theorem wd_261_168 : decode (wk_M 261).2.2.1 168 = .ok (.iaload, 1) := by decide +kernel
theorem wd_261_169 : decode (wk_M 261).2.2.1 169 = .ok (.ireturn, 1) := by decide +kernel
/-! Ref.part -/
theorem wm_263 : ae_m 263 = some (wk_M 263) := rfl
theorem wd_263_0 : decode (wk_M 263).2.2.1 0 = .ok (.aload_n 0, 1) := by decide +kernel
theorem wd_263_1 : decode (wk_M 263).2.2.1 1 = .ok (.invokevirtual 512, 3) := by decide +kernel
theorem wd_263_4 : decode (wk_M 263).2.2.1 4 = .ok (.istore_n 2, 1) := by decide +kernel
theorem wd_263_5 : decode (wk_M 263).2.2.1 5 = .ok (.iload_n 1, 1) := by decide +kernel
theorem wd_263_6 : decode (wk_M 263).2.2.1 6 = .ok (.iconst 0, 1) := by decide +kernel
theorem wd_263_7 : decode (wk_M 263).2.2.1 7 = .ok (.iload_n 2, 1) := by decide +kernel
theorem wd_263_8 : decode (wk_M 263).2.2.1 8 = .ok (.iconst 1, 1) := by decide +kernel
theorem wd_263_9 : decode (wk_M 263).2.2.1 9 = .ok (.isub, 1) := by decide +kernel
theorem wd_263_10 : decode (wk_M 263).2.2.1 10 = .ok (.invokestatic 207, 3) := by decide +kernel
theorem wd_263_13 : decode (wk_M 263).2.2.1 13 = .ok (.ifCond .ne 5, 3) := by decide +kernel
theorem wd_263_16 : decode (wk_M 263).2.2.1 16 = .ok (.iconst (-1), 1) := by decide +kernel
theorem wd_263_17 : decode (wk_M 263).2.2.1 17 = .ok (.ireturn, 1) := by decide +kernel
theorem wd_263_18 : decode (wk_M 263).2.2.1 18 = .ok (.iconst 1, 1) := by decide +kernel
theorem wd_263_19 : decode (wk_M 263).2.2.1 19 = .ok (.aload_n 0, 1) := by decide +kernel
theorem wd_263_20 : decode (wk_M 263).2.2.1 20 = .ok (.getfield 133, 3) := by decide +kernel
theorem wd_263_23 : decode (wk_M 263).2.2.1 23 = .ok (.iconst 0, 1) := by decide +kernel
theorem wd_263_24 : decode (wk_M 263).2.2.1 24 = .ok (.iaload, 1) := by decide +kernel
theorem wd_263_25 : decode (wk_M 263).2.2.1 25 = .ok (.ishl, 1) := by decide +kernel
theorem wd_263_26 : decode (wk_M 263).2.2.1 26 = .ok (.iconst 1, 1) := by decide +kernel
theorem wd_263_27 : decode (wk_M 263).2.2.1 27 = .ok (.isub, 1) := by decide +kernel
theorem wd_263_28 : decode (wk_M 263).2.2.1 28 = .ok (.istore_n 3, 1) := by decide +kernel
theorem wd_263_29 : decode (wk_M 263).2.2.1 29 = .ok (.iconst 0, 1) := by decide +kernel
theorem wd_263_30 : decode (wk_M 263).2.2.1 30 = .ok (.istore 4, 2) := by decide +kernel
theorem wd_263_32 : decode (wk_M 263).2.2.1 32 = .ok (.iload 4, 2) := by decide +kernel
theorem wd_263_34 : decode (wk_M 263).2.2.1 34 = .ok (.iload_n 1, 1) := by decide +kernel
theorem wd_263_35 : decode (wk_M 263).2.2.1 35 = .ok (.if_icmp .ge 20, 3) := by decide +kernel
theorem wd_263_38 : decode (wk_M 263).2.2.1 38 = .ok (.iload_n 3, 1) := by decide +kernel
theorem wd_263_39 : decode (wk_M 263).2.2.1 39 = .ok (.aload_n 0, 1) := by decide +kernel
theorem wd_263_40 : decode (wk_M 263).2.2.1 40 = .ok (.getfield 166, 3) := by decide +kernel
theorem wd_263_43 : decode (wk_M 263).2.2.1 43 = .ok (.iload_n 3, 1) := by decide +kernel
theorem wd_263_44 : decode (wk_M 263).2.2.1 44 = .ok (.iaload, 1) := by decide +kernel
theorem wd_263_45 : decode (wk_M 263).2.2.1 45 = .ok (.iconst (-1), 1) := by decide +kernel
theorem wd_263_46 : decode (wk_M 263).2.2.1 46 = .ok (.ixor, 1) := by decide +kernel
theorem wd_263_47 : decode (wk_M 263).2.2.1 47 = .ok (.iand, 1) := by decide +kernel
theorem wd_263_48 : decode (wk_M 263).2.2.1 48 = .ok (.istore_n 3, 1) := by decide +kernel
theorem wd_263_49 : decode (wk_M 263).2.2.1 49 = .ok (.iinc 4 1, 3) := by decide +kernel
theorem wd_263_52 : decode (wk_M 263).2.2.1 52 = .ok (.goto (-20), 3) := by decide +kernel
theorem wd_263_55 : decode (wk_M 263).2.2.1 55 = .ok (.aload_n 0, 1) := by decide +kernel
theorem wd_263_56 : decode (wk_M 263).2.2.1 56 = .ok (.getfield 166, 3) := by decide +kernel
theorem wd_263_59 : decode (wk_M 263).2.2.1 59 = .ok (.iload_n 3, 1) := by decide +kernel
theorem wd_263_60 : decode (wk_M 263).2.2.1 60 = .ok (.iaload, 1) := by decide +kernel
theorem wd_263_61 : decode (wk_M 263).2.2.1 61 = .ok (.ireturn, 1) := by decide +kernel
/-! Ref.dueLine -/
theorem wm_268 : ae_m 268 = some (wk_M 268) := rfl
theorem wd_268_0 : decode (wk_M 268).2.2.1 0 = .ok (.iconst 0, 1) := by decide +kernel
theorem wd_268_1 : decode (wk_M 268).2.2.1 1 = .ok (.istore_n 3, 1) := by decide +kernel
theorem wd_268_2 : decode (wk_M 268).2.2.1 2 = .ok (.iconst 0, 1) := by decide +kernel
theorem wd_268_3 : decode (wk_M 268).2.2.1 3 = .ok (.istore 4, 2) := by decide +kernel
theorem wd_268_5 : decode (wk_M 268).2.2.1 5 = .ok (.iconst 0, 1) := by decide +kernel
theorem wd_268_6 : decode (wk_M 268).2.2.1 6 = .ok (.istore 5, 2) := by decide +kernel
theorem wd_268_8 : decode (wk_M 268).2.2.1 8 = .ok (.iload 5, 2) := by decide +kernel
theorem wd_268_10 : decode (wk_M 268).2.2.1 10 = .ok (.bipush 12, 2) := by decide +kernel
theorem wd_268_12 : decode (wk_M 268).2.2.1 12 = .ok (.if_icmp .ge 35, 3) := by decide +kernel
theorem wd_268_15 : decode (wk_M 268).2.2.1 15 = .ok (.aload_n 0, 1) := by decide +kernel
theorem wd_268_16 : decode (wk_M 268).2.2.1 16 = .ok (.getfield 518, 3) := by decide +kernel
theorem wd_268_19 : decode (wk_M 268).2.2.1 19 = .ok (.bipush 60, 2) := by decide +kernel
theorem wd_268_21 : decode (wk_M 268).2.2.1 21 = .ok (.if_icmp .ge 26, 3) := by decide +kernel
theorem wd_268_24 : decode (wk_M 268).2.2.1 24 = .ok (.aload_n 0, 1) := by decide +kernel
theorem wd_268_25 : decode (wk_M 268).2.2.1 25 = .ok (.getfield 172, 3) := by decide +kernel
theorem wd_268_28 : decode (wk_M 268).2.2.1 28 = .ok (.bipush 12, 2) := by decide +kernel
theorem wd_268_30 : decode (wk_M 268).2.2.1 30 = .ok (.aload_n 0, 1) := by decide +kernel
theorem wd_268_31 : decode (wk_M 268).2.2.1 31 = .ok (.getfield 518, 3) := by decide +kernel
theorem wd_268_34 : decode (wk_M 268).2.2.1 34 = .ok (.imul, 1) := by decide +kernel
theorem wd_268_35 : decode (wk_M 268).2.2.1 35 = .ok (.iload 5, 2) := by decide +kernel
theorem wd_268_37 : decode (wk_M 268).2.2.1 37 = .ok (.iadd, 1) := by decide +kernel
theorem wd_268_38 : decode (wk_M 268).2.2.1 38 = .ok (.bipush 15, 2) := by decide +kernel
theorem wd_268_40 : decode (wk_M 268).2.2.1 40 = .ok (.iastore, 1) := by decide +kernel
theorem wd_268_41 : decode (wk_M 268).2.2.1 41 = .ok (.iinc 5 1, 3) := by decide +kernel
theorem wd_268_44 : decode (wk_M 268).2.2.1 44 = .ok (.goto (-36), 3) := by decide +kernel
theorem wd_268_47 : decode (wk_M 268).2.2.1 47 = .ok (.iconst 0, 1) := by decide +kernel
theorem wd_268_48 : decode (wk_M 268).2.2.1 48 = .ok (.istore 5, 2) := by decide +kernel
theorem wd_268_50 : decode (wk_M 268).2.2.1 50 = .ok (.iload 5, 2) := by decide +kernel
theorem wd_268_52 : decode (wk_M 268).2.2.1 52 = .ok (.aload_n 0, 1) := by decide +kernel
theorem wd_268_53 : decode (wk_M 268).2.2.1 53 = .ok (.getfield 133, 3) := by decide +kernel
theorem wd_268_56 : decode (wk_M 268).2.2.1 56 = .ok (.iconst 0, 1) := by decide +kernel
theorem wd_268_57 : decode (wk_M 268).2.2.1 57 = .ok (.iaload, 1) := by decide +kernel
theorem wd_268_58 : decode (wk_M 268).2.2.1 58 = .ok (.if_icmp .ge 175, 3) := by decide +kernel
theorem wd_268_61 : decode (wk_M 268).2.2.1 61 = .ok (.aload_n 0, 1) := by decide +kernel
theorem wd_268_62 : decode (wk_M 268).2.2.1 62 = .ok (.getfield 142, 3) := by decide +kernel
theorem wd_268_65 : decode (wk_M 268).2.2.1 65 = .ok (.iload 5, 2) := by decide +kernel
theorem wd_268_67 : decode (wk_M 268).2.2.1 67 = .ok (.iaload, 1) := by decide +kernel
theorem wd_268_68 : decode (wk_M 268).2.2.1 68 = .ok (.iload_n 2, 1) := by decide +kernel
theorem wd_268_69 : decode (wk_M 268).2.2.1 69 = .ok (.if_icmp .ne 7, 3) := by decide +kernel
theorem wd_268_72 : decode (wk_M 268).2.2.1 72 = .ok (.iconst 1, 1) := by decide +kernel
theorem wd_268_73 : decode (wk_M 268).2.2.1 73 = .ok (.goto 4, 3) := by decide +kernel
theorem wd_268_76 : decode (wk_M 268).2.2.1 76 = .ok (.iconst 0, 1) := by decide +kernel
theorem wd_268_77 : decode (wk_M 268).2.2.1 77 = .ok (.istore 6, 2) := by decide +kernel
theorem wd_268_79 : decode (wk_M 268).2.2.1 79 = .ok (.aload_n 0, 1) := by decide +kernel
theorem wd_268_80 : decode (wk_M 268).2.2.1 80 = .ok (.getfield 175, 3) := by decide +kernel
theorem wd_268_83 : decode (wk_M 268).2.2.1 83 = .ok (.iload 5, 2) := by decide +kernel
theorem wd_268_85 : decode (wk_M 268).2.2.1 85 = .ok (.iaload, 1) := by decide +kernel
theorem wd_268_86 : decode (wk_M 268).2.2.1 86 = .ok (.ifCond .ge 14, 3) := by decide +kernel
theorem wd_268_89 : decode (wk_M 268).2.2.1 89 = .ok (.aload_n 0, 1) := by decide +kernel
theorem wd_268_90 : decode (wk_M 268).2.2.1 90 = .ok (.getfield 175, 3) := by decide +kernel
theorem wd_268_93 : decode (wk_M 268).2.2.1 93 = .ok (.iload 5, 2) := by decide +kernel
theorem wd_268_95 : decode (wk_M 268).2.2.1 95 = .ok (.iaload, 1) := by decide +kernel
theorem wd_268_96 : decode (wk_M 268).2.2.1 96 = .ok (.ineg, 1) := by decide +kernel
theorem wd_268_97 : decode (wk_M 268).2.2.1 97 = .ok (.goto 10, 3) := by decide +kernel
theorem wd_268_100 : decode (wk_M 268).2.2.1 100 = .ok (.aload_n 0, 1) := by decide +kernel
theorem wd_268_101 : decode (wk_M 268).2.2.1 101 = .ok (.getfield 175, 3) := by decide +kernel
theorem wd_268_104 : decode (wk_M 268).2.2.1 104 = .ok (.iload 5, 2) := by decide +kernel
theorem wd_268_106 : decode (wk_M 268).2.2.1 106 = .ok (.iaload, 1) := by decide +kernel
theorem wd_268_107 : decode (wk_M 268).2.2.1 107 = .ok (.istore 7, 2) := by decide +kernel
theorem wd_268_109 : decode (wk_M 268).2.2.1 109 = .ok (.iload 6, 2) := by decide +kernel
theorem wd_268_111 : decode (wk_M 268).2.2.1 111 = .ok (.ifCond .eq 11, 3) := by decide +kernel
theorem wd_268_114 : decode (wk_M 268).2.2.1 114 = .ok (.aload_n 0, 1) := by decide +kernel
theorem wd_268_115 : decode (wk_M 268).2.2.1 115 = .ok (.getfield 175, 3) := by decide +kernel
theorem wd_268_118 : decode (wk_M 268).2.2.1 118 = .ok (.iload 5, 2) := by decide +kernel
theorem wd_268_120 : decode (wk_M 268).2.2.1 120 = .ok (.iconst 0, 1) := by decide +kernel
theorem wd_268_121 : decode (wk_M 268).2.2.1 121 = .ok (.iastore, 1) := by decide +kernel
theorem wd_268_122 : decode (wk_M 268).2.2.1 122 = .ok (.iload_n 1, 1) := by decide +kernel
theorem wd_268_123 : decode (wk_M 268).2.2.1 123 = .ok (.iload 5, 2) := by decide +kernel
theorem wd_268_125 : decode (wk_M 268).2.2.1 125 = .ok (.ishr, 1) := by decide +kernel
theorem wd_268_126 : decode (wk_M 268).2.2.1 126 = .ok (.iconst 1, 1) := by decide +kernel
theorem wd_268_127 : decode (wk_M 268).2.2.1 127 = .ok (.iand, 1) := by decide +kernel
theorem wd_268_128 : decode (wk_M 268).2.2.1 128 = .ok (.ifCond .ne 6, 3) := by decide +kernel
theorem wd_268_131 : decode (wk_M 268).2.2.1 131 = .ok (.goto 96, 3) := by decide +kernel
theorem wd_268_134 : decode (wk_M 268).2.2.1 134 = .ok (.aload_n 0, 1) := by decide +kernel
theorem wd_268_135 : decode (wk_M 268).2.2.1 135 = .ok (.getfield 139, 3) := by decide +kernel
theorem wd_268_138 : decode (wk_M 268).2.2.1 138 = .ok (.iload 5, 2) := by decide +kernel
theorem wd_268_140 : decode (wk_M 268).2.2.1 140 = .ok (.iaload, 1) := by decide +kernel
theorem wd_268_141 : decode (wk_M 268).2.2.1 141 = .ok (.iconst 1, 1) := by decide +kernel
theorem wd_268_142 : decode (wk_M 268).2.2.1 142 = .ok (.isub, 1) := by decide +kernel
theorem wd_268_143 : decode (wk_M 268).2.2.1 143 = .ok (.istore 8, 2) := by decide +kernel
theorem wd_268_145 : decode (wk_M 268).2.2.1 145 = .ok (.iload 8, 2) := by decide +kernel
theorem wd_268_147 : decode (wk_M 268).2.2.1 147 = .ok (.ifCond .lt 53, 3) := by decide +kernel
theorem wd_268_150 : decode (wk_M 268).2.2.1 150 = .ok (.iload 6, 2) := by decide +kernel
theorem wd_268_152 : decode (wk_M 268).2.2.1 152 = .ok (.ifCond .eq 35, 3) := by decide +kernel
theorem wd_268_155 : decode (wk_M 268).2.2.1 155 = .ok (.aload_n 0, 1) := by decide +kernel
theorem wd_268_156 : decode (wk_M 268).2.2.1 156 = .ok (.getfield 518, 3) := by decide +kernel
theorem wd_268_159 : decode (wk_M 268).2.2.1 159 = .ok (.bipush 60, 2) := by decide +kernel
theorem wd_268_161 : decode (wk_M 268).2.2.1 161 = .ok (.if_icmp .ge 26, 3) := by decide +kernel
theorem wd_268_164 : decode (wk_M 268).2.2.1 164 = .ok (.aload_n 0, 1) := by decide +kernel
theorem wd_268_165 : decode (wk_M 268).2.2.1 165 = .ok (.getfield 172, 3) := by decide +kernel
theorem wd_268_168 : decode (wk_M 268).2.2.1 168 = .ok (.bipush 12, 2) := by decide +kernel
theorem wd_268_170 : decode (wk_M 268).2.2.1 170 = .ok (.aload_n 0, 1) := by decide +kernel
theorem wd_268_171 : decode (wk_M 268).2.2.1 171 = .ok (.getfield 518, 3) := by decide +kernel
theorem wd_268_174 : decode (wk_M 268).2.2.1 174 = .ok (.imul, 1) := by decide +kernel
theorem wd_268_175 : decode (wk_M 268).2.2.1 175 = .ok (.iload 4, 2) := by decide +kernel
theorem wd_268_177 : decode (wk_M 268).2.2.1 177 = .ok (.iadd, 1) := by decide +kernel
theorem wd_268_178 : decode (wk_M 268).2.2.1 178 = .ok (.iload 8, 2) := by decide +kernel
theorem wd_268_180 : decode (wk_M 268).2.2.1 180 = .ok (.iadd, 1) := by decide +kernel
theorem wd_268_181 : decode (wk_M 268).2.2.1 181 = .ok (.iload 7, 2) := by decide +kernel
theorem wd_268_183 : decode (wk_M 268).2.2.1 183 = .ok (.bipush 10, 2) := by decide +kernel
theorem wd_268_185 : decode (wk_M 268).2.2.1 185 = .ok (.irem, 1) := by decide +kernel
theorem wd_268_186 : decode (wk_M 268).2.2.1 186 = .ok (.iastore, 1) := by decide +kernel
theorem wd_268_187 : decode (wk_M 268).2.2.1 187 = .ok (.iload 7, 2) := by decide +kernel
theorem wd_268_189 : decode (wk_M 268).2.2.1 189 = .ok (.bipush 10, 2) := by decide +kernel
theorem wd_268_191 : decode (wk_M 268).2.2.1 191 = .ok (.idiv, 1) := by decide +kernel
theorem wd_268_192 : decode (wk_M 268).2.2.1 192 = .ok (.istore 7, 2) := by decide +kernel
theorem wd_268_194 : decode (wk_M 268).2.2.1 194 = .ok (.iinc 8 (-1), 3) := by decide +kernel
theorem wd_268_197 : decode (wk_M 268).2.2.1 197 = .ok (.goto (-52), 3) := by decide +kernel
theorem wd_268_200 : decode (wk_M 268).2.2.1 200 = .ok (.iload 4, 2) := by decide +kernel
theorem wd_268_202 : decode (wk_M 268).2.2.1 202 = .ok (.aload_n 0, 1) := by decide +kernel
theorem wd_268_203 : decode (wk_M 268).2.2.1 203 = .ok (.getfield 139, 3) := by decide +kernel
theorem wd_268_206 : decode (wk_M 268).2.2.1 206 = .ok (.iload 5, 2) := by decide +kernel
theorem wd_268_208 : decode (wk_M 268).2.2.1 208 = .ok (.iaload, 1) := by decide +kernel
theorem wd_268_209 : decode (wk_M 268).2.2.1 209 = .ok (.iadd, 1) := by decide +kernel
theorem wd_268_210 : decode (wk_M 268).2.2.1 210 = .ok (.istore 4, 2) := by decide +kernel
theorem wd_268_212 : decode (wk_M 268).2.2.1 212 = .ok (.iload_n 3, 1) := by decide +kernel
theorem wd_268_213 : decode (wk_M 268).2.2.1 213 = .ok (.ifCond .ne 8, 3) := by decide +kernel
theorem wd_268_216 : decode (wk_M 268).2.2.1 216 = .ok (.iload 6, 2) := by decide +kernel
theorem wd_268_218 : decode (wk_M 268).2.2.1 218 = .ok (.ifCond .eq 7, 3) := by decide +kernel
theorem wd_268_221 : decode (wk_M 268).2.2.1 221 = .ok (.iconst 1, 1) := by decide +kernel
theorem wd_268_222 : decode (wk_M 268).2.2.1 222 = .ok (.goto 4, 3) := by decide +kernel
theorem wd_268_225 : decode (wk_M 268).2.2.1 225 = .ok (.iconst 0, 1) := by decide +kernel
theorem wd_268_226 : decode (wk_M 268).2.2.1 226 = .ok (.istore_n 3, 1) := by decide +kernel
theorem wd_268_227 : decode (wk_M 268).2.2.1 227 = .ok (.iinc 5 1, 3) := by decide +kernel
theorem wd_268_230 : decode (wk_M 268).2.2.1 230 = .ok (.goto (-180), 3) := by decide +kernel
theorem wd_268_233 : decode (wk_M 268).2.2.1 233 = .ok (.iload_n 3, 1) := by decide +kernel
theorem wd_268_234 : decode (wk_M 268).2.2.1 234 = .ok (.ifCond .eq 13, 3) := by decide +kernel
theorem wd_268_237 : decode (wk_M 268).2.2.1 237 = .ok (.aload_n 0, 1) := by decide +kernel
theorem wd_268_238 : decode (wk_M 268).2.2.1 238 = .ok (.dup, 1) := by decide +kernel
theorem wd_268_239 : decode (wk_M 268).2.2.1 239 = .ok (.getfield 518, 3) := by decide +kernel
theorem wd_268_242 : decode (wk_M 268).2.2.1 242 = .ok (.iconst 1, 1) := by decide +kernel
theorem wd_268_243 : decode (wk_M 268).2.2.1 243 = .ok (.iadd, 1) := by decide +kernel
theorem wd_268_244 : decode (wk_M 268).2.2.1 244 = .ok (.putfield 518, 3) := by decide +kernel
theorem wd_268_247 : decode (wk_M 268).2.2.1 247 = .ok (.return_, 1) := by decide +kernel
/-! PlugHall.job -/
theorem wm_163 : ae_m 163 = some (wk_M 163) := rfl
theorem wd_163_0 : decode (wk_M 163).2.2.1 0 = .ok (.aload_n 0, 1) := by decide +kernel
theorem wd_163_1 : decode (wk_M 163).2.2.1 1 = .ok (.getfield 86, 3) := by decide +kernel
theorem wd_163_4 : decode (wk_M 163).2.2.1 4 = .ok (.aload_n 0, 1) := by decide +kernel
theorem wd_163_5 : decode (wk_M 163).2.2.1 5 = .ok (.getfield 12, 3) := by decide +kernel
theorem wd_163_8 : decode (wk_M 163).2.2.1 8 = .ok (.invokevirtual 216, 3) := by decide +kernel
theorem wd_163_11 : decode (wk_M 163).2.2.1 11 = .ok (.istore_n 1, 1) := by decide +kernel
theorem wd_163_12 : decode (wk_M 163).2.2.1 12 = .ok (.aload_n 0, 1) := by decide +kernel
theorem wd_163_13 : decode (wk_M 163).2.2.1 13 = .ok (.getfield 12, 3) := by decide +kernel
theorem wd_163_16 : decode (wk_M 163).2.2.1 16 = .ok (.iconst 0, 1) := by decide +kernel
theorem wd_163_17 : decode (wk_M 163).2.2.1 17 = .ok (.putfield 89, 3) := by decide +kernel
theorem wd_163_20 : decode (wk_M 163).2.2.1 20 = .ok (.iload_n 1, 1) := by decide +kernel
theorem wd_163_21 : decode (wk_M 163).2.2.1 21 = .ok (.ifCond .ne 13, 3) := by decide +kernel
theorem wd_163_24 : decode (wk_M 163).2.2.1 24 = .ok (.iconst (-1), 1) := by decide +kernel
theorem wd_163_25 : decode (wk_M 163).2.2.1 25 = .ok (.aload_n 0, 1) := by decide +kernel
theorem wd_163_26 : decode (wk_M 163).2.2.1 26 = .ok (.getfield 12, 3) := by decide +kernel
theorem wd_163_29 : decode (wk_M 163).2.2.1 29 = .ok (.getfield 137, 3) := by decide +kernel
theorem wd_163_32 : decode (wk_M 163).2.2.1 32 = .ok (.isub, 1) := by decide +kernel
theorem wd_163_33 : decode (wk_M 163).2.2.1 33 = .ok (.ireturn, 1) := by decide +kernel
theorem wd_163_34 : decode (wk_M 163).2.2.1 34 = .ok (.aload_n 0, 1) := by decide +kernel
theorem wd_163_35 : decode (wk_M 163).2.2.1 35 = .ok (.getfield 86, 3) := by decide +kernel
theorem wd_163_38 : decode (wk_M 163).2.2.1 38 = .ok (.astore_n 2, 1) := by decide +kernel
theorem wd_163_39 : decode (wk_M 163).2.2.1 39 = .ok (.aload_n 0, 1) := by decide +kernel
theorem wd_163_40 : decode (wk_M 163).2.2.1 40 = .ok (.aload_n 0, 1) := by decide +kernel
theorem wd_163_41 : decode (wk_M 163).2.2.1 41 = .ok (.getfield 82, 3) := by decide +kernel
theorem wd_163_44 : decode (wk_M 163).2.2.1 44 = .ok (.putfield 86, 3) := by decide +kernel
theorem wd_163_47 : decode (wk_M 163).2.2.1 47 = .ok (.aload_n 0, 1) := by decide +kernel
theorem wd_163_48 : decode (wk_M 163).2.2.1 48 = .ok (.aload_n 2, 1) := by decide +kernel
theorem wd_163_49 : decode (wk_M 163).2.2.1 49 = .ok (.putfield 82, 3) := by decide +kernel
theorem wd_163_52 : decode (wk_M 163).2.2.1 52 = .ok (.aload_n 0, 1) := by decide +kernel
theorem wd_163_53 : decode (wk_M 163).2.2.1 53 = .ok (.getfield 51, 3) := by decide +kernel
theorem wd_163_56 : decode (wk_M 163).2.2.1 56 = .ok (.aload_n 0, 1) := by decide +kernel
theorem wd_163_57 : decode (wk_M 163).2.2.1 57 = .ok (.getfield 82, 3) := by decide +kernel
theorem wd_163_60 : decode (wk_M 163).2.2.1 60 = .ok (.invokevirtual 217, 3) := by decide +kernel
theorem wd_163_63 : decode (wk_M 163).2.2.1 63 = .ok (.aload_n 0, 1) := by decide +kernel
theorem wd_163_64 : decode (wk_M 163).2.2.1 64 = .ok (.getfield 82, 3) := by decide +kernel
theorem wd_163_67 : decode (wk_M 163).2.2.1 67 = .ok (.getfield 221, 3) := by decide +kernel
theorem wd_163_70 : decode (wk_M 163).2.2.1 70 = .ok (.ireturn, 1) := by decide +kernel
