/-! Boxes.digitOf -/
theorem wm_26 : ae_m 26 = some (wk_M 26) := rfl
theorem wd_26_0 : decode (wk_M 26).2.2.1 0 = .ok (.aload_n 0, 1) := by decide +kernel
theorem wd_26_1 : decode (wk_M 26).2.2.1 1 = .ok (.getfield 11, 3) := by decide +kernel
theorem wd_26_4 : decode (wk_M 26).2.2.1 4 = .ok (.iload_n 1, 1) := by decide +kernel
theorem wd_26_5 : decode (wk_M 26).2.2.1 5 = .ok (.iload_n 2, 1) := by decide +kernel
theorem wd_26_6 : decode (wk_M 26).2.2.1 6 = .ok (.iadd, 1) := by decide +kernel
theorem wd_26_7 : decode (wk_M 26).2.2.1 7 = .ok (.iconst 1, 1) := by decide +kernel
theorem wd_26_8 : decode (wk_M 26).2.2.1 8 = .ok (.isub, 1) := by decide +kernel
theorem wd_26_9 : decode (wk_M 26).2.2.1 9 = .ok (.baload, 1) := by decide +kernel
theorem wd_26_10 : decode (wk_M 26).2.2.1 10 = .ok (.bipush 15, 2) := by decide +kernel
theorem wd_26_12 : decode (wk_M 26).2.2.1 12 = .ok (.iand, 1) := by decide +kernel
theorem wd_26_13 : decode (wk_M 26).2.2.1 13 = .ok (.ireturn, 1) := by decide +kernel
/-! Boxes.rankOf -/
theorem wm_28 : ae_m 28 = some (wk_M 28) := rfl
theorem wd_28_0 : decode (wk_M 28).2.2.1 0 = .ok (.aload_n 0, 1) := by decide +kernel
theorem wd_28_1 : decode (wk_M 28).2.2.1 1 = .ok (.iload_n 1, 1) := by decide +kernel
theorem wd_28_2 : decode (wk_M 28).2.2.1 2 = .ok (.iload_n 2, 1) := by decide +kernel
theorem wd_28_3 : decode (wk_M 28).2.2.1 3 = .ok (.invokevirtual 77, 3) := by decide +kernel
theorem wd_28_6 : decode (wk_M 28).2.2.1 6 = .ok (.iconst 1, 1) := by decide +kernel
theorem wd_28_7 : decode (wk_M 28).2.2.1 7 = .ok (.iadd, 1) := by decide +kernel
theorem wd_28_8 : decode (wk_M 28).2.2.1 8 = .ok (.bipush 15, 2) := by decide +kernel
theorem wd_28_10 : decode (wk_M 28).2.2.1 10 = .ok (.iand, 1) := by decide +kernel
theorem wd_28_11 : decode (wk_M 28).2.2.1 11 = .ok (.ireturn, 1) := by decide +kernel
/-! Boxes.sortRow -/
theorem wm_30 : ae_m 30 = some (wk_M 30) := rfl
theorem wd_30_0 : decode (wk_M 30).2.2.1 0 = .ok (.aload_n 0, 1) := by decide +kernel
theorem wd_30_1 : decode (wk_M 30).2.2.1 1 = .ok (.getfield 31, 3) := by decide +kernel
theorem wd_30_4 : decode (wk_M 30).2.2.1 4 = .ok (.iconst 0, 1) := by decide +kernel
theorem wd_30_5 : decode (wk_M 30).2.2.1 5 = .ok (.invokestatic 83, 3) := by decide +kernel
theorem wd_30_8 : decode (wk_M 30).2.2.1 8 = .ok (.iconst 0, 1) := by decide +kernel
theorem wd_30_9 : decode (wk_M 30).2.2.1 9 = .ok (.istore_n 3, 1) := by decide +kernel
theorem wd_30_10 : decode (wk_M 30).2.2.1 10 = .ok (.iload_n 3, 1) := by decide +kernel
theorem wd_30_11 : decode (wk_M 30).2.2.1 11 = .ok (.iload_n 1, 1) := by decide +kernel
theorem wd_30_12 : decode (wk_M 30).2.2.1 12 = .ok (.if_icmp .ge 31, 3) := by decide +kernel
theorem wd_30_15 : decode (wk_M 30).2.2.1 15 = .ok (.aload_n 0, 1) := by decide +kernel
theorem wd_30_16 : decode (wk_M 30).2.2.1 16 = .ok (.getfield 31, 3) := by decide +kernel
theorem wd_30_19 : decode (wk_M 30).2.2.1 19 = .ok (.aload_n 0, 1) := by decide +kernel
theorem wd_30_20 : decode (wk_M 30).2.2.1 20 = .ok (.aload_n 0, 1) := by decide +kernel
theorem wd_30_21 : decode (wk_M 30).2.2.1 21 = .ok (.getfield 25, 3) := by decide +kernel
theorem wd_30_24 : decode (wk_M 30).2.2.1 24 = .ok (.iload_n 3, 1) := by decide +kernel
theorem wd_30_25 : decode (wk_M 30).2.2.1 25 = .ok (.iaload, 1) := by decide +kernel
theorem wd_30_26 : decode (wk_M 30).2.2.1 26 = .ok (.iload_n 2, 1) := by decide +kernel
theorem wd_30_27 : decode (wk_M 30).2.2.1 27 = .ok (.invokevirtual 89, 3) := by decide +kernel
theorem wd_30_30 : decode (wk_M 30).2.2.1 30 = .ok (.iconst 1, 1) := by decide +kernel
theorem wd_30_31 : decode (wk_M 30).2.2.1 31 = .ok (.iadd, 1) := by decide +kernel
theorem wd_30_32 : decode (wk_M 30).2.2.1 32 = .ok (.dup2, 1) := by decide +kernel
theorem wd_30_33 : decode (wk_M 30).2.2.1 33 = .ok (.iaload, 1) := by decide +kernel
theorem wd_30_34 : decode (wk_M 30).2.2.1 34 = .ok (.iconst 1, 1) := by decide +kernel
theorem wd_30_35 : decode (wk_M 30).2.2.1 35 = .ok (.iadd, 1) := by decide +kernel
theorem wd_30_36 : decode (wk_M 30).2.2.1 36 = .ok (.iastore, 1) := by decide +kernel
theorem wd_30_37 : decode (wk_M 30).2.2.1 37 = .ok (.iinc 3 1, 3) := by decide +kernel
theorem wd_30_40 : decode (wk_M 30).2.2.1 40 = .ok (.goto (-30), 3) := by decide +kernel
theorem wd_30_43 : decode (wk_M 30).2.2.1 43 = .ok (.iconst 1, 1) := by decide +kernel
theorem wd_30_44 : decode (wk_M 30).2.2.1 44 = .ok (.istore_n 3, 1) := by decide +kernel
theorem wd_30_45 : decode (wk_M 30).2.2.1 45 = .ok (.iload_n 3, 1) := by decide +kernel
theorem wd_30_46 : decode (wk_M 30).2.2.1 46 = .ok (.bipush 11, 2) := by decide +kernel
theorem wd_30_48 : decode (wk_M 30).2.2.1 48 = .ok (.if_icmp .gt 26, 3) := by decide +kernel
theorem wd_30_51 : decode (wk_M 30).2.2.1 51 = .ok (.aload_n 0, 1) := by decide +kernel
theorem wd_30_52 : decode (wk_M 30).2.2.1 52 = .ok (.getfield 31, 3) := by decide +kernel
theorem wd_30_55 : decode (wk_M 30).2.2.1 55 = .ok (.iload_n 3, 1) := by decide +kernel
theorem wd_30_56 : decode (wk_M 30).2.2.1 56 = .ok (.dup2, 1) := by decide +kernel
theorem wd_30_57 : decode (wk_M 30).2.2.1 57 = .ok (.iaload, 1) := by decide +kernel
theorem wd_30_58 : decode (wk_M 30).2.2.1 58 = .ok (.aload_n 0, 1) := by decide +kernel
theorem wd_30_59 : decode (wk_M 30).2.2.1 59 = .ok (.getfield 31, 3) := by decide +kernel
theorem wd_30_62 : decode (wk_M 30).2.2.1 62 = .ok (.iload_n 3, 1) := by decide +kernel
theorem wd_30_63 : decode (wk_M 30).2.2.1 63 = .ok (.iconst 1, 1) := by decide +kernel
theorem wd_30_64 : decode (wk_M 30).2.2.1 64 = .ok (.isub, 1) := by decide +kernel
theorem wd_30_65 : decode (wk_M 30).2.2.1 65 = .ok (.iaload, 1) := by decide +kernel
theorem wd_30_66 : decode (wk_M 30).2.2.1 66 = .ok (.iadd, 1) := by decide +kernel
theorem wd_30_67 : decode (wk_M 30).2.2.1 67 = .ok (.iastore, 1) := by decide +kernel
theorem wd_30_68 : decode (wk_M 30).2.2.1 68 = .ok (.iinc 3 1, 3) := by decide +kernel
theorem wd_30_71 : decode (wk_M 30).2.2.1 71 = .ok (.goto (-26), 3) := by decide +kernel
theorem wd_30_74 : decode (wk_M 30).2.2.1 74 = .ok (.iconst 0, 1) := by decide +kernel
theorem wd_30_75 : decode (wk_M 30).2.2.1 75 = .ok (.istore_n 3, 1) := by decide +kernel
theorem wd_30_76 : decode (wk_M 30).2.2.1 76 = .ok (.iload_n 3, 1) := by decide +kernel
theorem wd_30_77 : decode (wk_M 30).2.2.1 77 = .ok (.iload_n 1, 1) := by decide +kernel
theorem wd_30_78 : decode (wk_M 30).2.2.1 78 = .ok (.if_icmp .ge 51, 3) := by decide +kernel
theorem wd_30_81 : decode (wk_M 30).2.2.1 81 = .ok (.aload_n 0, 1) := by decide +kernel
theorem wd_30_82 : decode (wk_M 30).2.2.1 82 = .ok (.aload_n 0, 1) := by decide +kernel
theorem wd_30_83 : decode (wk_M 30).2.2.1 83 = .ok (.getfield 25, 3) := by decide +kernel
theorem wd_30_86 : decode (wk_M 30).2.2.1 86 = .ok (.iload_n 3, 1) := by decide +kernel
theorem wd_30_87 : decode (wk_M 30).2.2.1 87 = .ok (.iaload, 1) := by decide +kernel
theorem wd_30_88 : decode (wk_M 30).2.2.1 88 = .ok (.iload_n 2, 1) := by decide +kernel
theorem wd_30_89 : decode (wk_M 30).2.2.1 89 = .ok (.invokevirtual 89, 3) := by decide +kernel
theorem wd_30_92 : decode (wk_M 30).2.2.1 92 = .ok (.istore 4, 2) := by decide +kernel
theorem wd_30_94 : decode (wk_M 30).2.2.1 94 = .ok (.aload_n 0, 1) := by decide +kernel
theorem wd_30_95 : decode (wk_M 30).2.2.1 95 = .ok (.getfield 28, 3) := by decide +kernel
theorem wd_30_98 : decode (wk_M 30).2.2.1 98 = .ok (.aload_n 0, 1) := by decide +kernel
theorem wd_30_99 : decode (wk_M 30).2.2.1 99 = .ok (.getfield 31, 3) := by decide +kernel
theorem wd_30_102 : decode (wk_M 30).2.2.1 102 = .ok (.iload 4, 2) := by decide +kernel
theorem wd_30_104 : decode (wk_M 30).2.2.1 104 = .ok (.iaload, 1) := by decide +kernel
theorem wd_30_105 : decode (wk_M 30).2.2.1 105 = .ok (.aload_n 0, 1) := by decide +kernel
theorem wd_30_106 : decode (wk_M 30).2.2.1 106 = .ok (.getfield 25, 3) := by decide +kernel
theorem wd_30_109 : decode (wk_M 30).2.2.1 109 = .ok (.iload_n 3, 1) := by decide +kernel
theorem wd_30_110 : decode (wk_M 30).2.2.1 110 = .ok (.iaload, 1) := by decide +kernel
theorem wd_30_111 : decode (wk_M 30).2.2.1 111 = .ok (.iastore, 1) := by decide +kernel
theorem wd_30_112 : decode (wk_M 30).2.2.1 112 = .ok (.aload_n 0, 1) := by decide +kernel
theorem wd_30_113 : decode (wk_M 30).2.2.1 113 = .ok (.getfield 31, 3) := by decide +kernel
theorem wd_30_116 : decode (wk_M 30).2.2.1 116 = .ok (.iload 4, 2) := by decide +kernel
theorem wd_30_118 : decode (wk_M 30).2.2.1 118 = .ok (.dup2, 1) := by decide +kernel
theorem wd_30_119 : decode (wk_M 30).2.2.1 119 = .ok (.iaload, 1) := by decide +kernel
theorem wd_30_120 : decode (wk_M 30).2.2.1 120 = .ok (.iconst 1, 1) := by decide +kernel
theorem wd_30_121 : decode (wk_M 30).2.2.1 121 = .ok (.iadd, 1) := by decide +kernel
theorem wd_30_122 : decode (wk_M 30).2.2.1 122 = .ok (.iastore, 1) := by decide +kernel
theorem wd_30_123 : decode (wk_M 30).2.2.1 123 = .ok (.iinc 3 1, 3) := by decide +kernel
theorem wd_30_126 : decode (wk_M 30).2.2.1 126 = .ok (.goto (-50), 3) := by decide +kernel
theorem wd_30_129 : decode (wk_M 30).2.2.1 129 = .ok (.aload_n 0, 1) := by decide +kernel
theorem wd_30_130 : decode (wk_M 30).2.2.1 130 = .ok (.getfield 28, 3) := by decide +kernel
theorem wd_30_133 : decode (wk_M 30).2.2.1 133 = .ok (.iconst 0, 1) := by decide +kernel
theorem wd_30_134 : decode (wk_M 30).2.2.1 134 = .ok (.aload_n 0, 1) := by decide +kernel
theorem wd_30_135 : decode (wk_M 30).2.2.1 135 = .ok (.getfield 25, 3) := by decide +kernel
theorem wd_30_138 : decode (wk_M 30).2.2.1 138 = .ok (.iconst 0, 1) := by decide +kernel
theorem wd_30_139 : decode (wk_M 30).2.2.1 139 = .ok (.iload_n 1, 1) := by decide +kernel
theorem wd_30_140 : decode (wk_M 30).2.2.1 140 = .ok (.invokestatic 59, 3) := by decide +kernel
theorem wd_30_143 : decode (wk_M 30).2.2.1 143 = .ok (.return_, 1) := by decide +kernel
/-! Boxes.addTold -/
theorem wm_20 : ae_m 20 = some (wk_M 20) := rfl
theorem wd_20_0 : decode (wk_M 20).2.2.1 0 = .ok (.aload_n 0, 1) := by decide +kernel
theorem wd_20_1 : decode (wk_M 20).2.2.1 1 = .ok (.iload_n 1, 1) := by decide +kernel
theorem wd_20_2 : decode (wk_M 20).2.2.1 2 = .ok (.aload_n 0, 1) := by decide +kernel
theorem wd_20_3 : decode (wk_M 20).2.2.1 3 = .ok (.getfield 19, 3) := by decide +kernel
theorem wd_20_6 : decode (wk_M 20).2.2.1 6 = .ok (.iload_n 1, 1) := by decide +kernel
theorem wd_20_7 : decode (wk_M 20).2.2.1 7 = .ok (.iaload, 1) := by decide +kernel
theorem wd_20_8 : decode (wk_M 20).2.2.1 8 = .ok (.invokevirtual 38, 3) := by decide +kernel
theorem wd_20_11 : decode (wk_M 20).2.2.1 11 = .ok (.istore_n 3, 1) := by decide +kernel
theorem wd_20_12 : decode (wk_M 20).2.2.1 12 = .ok (.iconst 0, 1) := by decide +kernel
theorem wd_20_13 : decode (wk_M 20).2.2.1 13 = .ok (.istore 4, 2) := by decide +kernel
theorem wd_20_15 : decode (wk_M 20).2.2.1 15 = .ok (.iload 4, 2) := by decide +kernel
theorem wd_20_17 : decode (wk_M 20).2.2.1 17 = .ok (.bipush 20, 2) := by decide +kernel
theorem wd_20_19 : decode (wk_M 20).2.2.1 19 = .ok (.if_icmp .ge 26, 3) := by decide +kernel
theorem wd_20_22 : decode (wk_M 20).2.2.1 22 = .ok (.aload_n 0, 1) := by decide +kernel
theorem wd_20_23 : decode (wk_M 20).2.2.1 23 = .ok (.getfield 11, 3) := by decide +kernel
theorem wd_20_26 : decode (wk_M 20).2.2.1 26 = .ok (.iload_n 3, 1) := by decide +kernel
theorem wd_20_27 : decode (wk_M 20).2.2.1 27 = .ok (.iload 4, 2) := by decide +kernel
theorem wd_20_29 : decode (wk_M 20).2.2.1 29 = .ok (.iadd, 1) := by decide +kernel
theorem wd_20_30 : decode (wk_M 20).2.2.1 30 = .ok (.aload_n 2, 1) := by decide +kernel
theorem wd_20_31 : decode (wk_M 20).2.2.1 31 = .ok (.getfield 42, 3) := by decide +kernel
theorem wd_20_34 : decode (wk_M 20).2.2.1 34 = .ok (.iload 4, 2) := by decide +kernel
theorem wd_20_36 : decode (wk_M 20).2.2.1 36 = .ok (.iaload, 1) := by decide +kernel
theorem wd_20_37 : decode (wk_M 20).2.2.1 37 = .ok (.i2b, 1) := by decide +kernel
theorem wd_20_38 : decode (wk_M 20).2.2.1 38 = .ok (.bastore, 1) := by decide +kernel
theorem wd_20_39 : decode (wk_M 20).2.2.1 39 = .ok (.iinc 4 1, 3) := by decide +kernel
theorem wd_20_42 : decode (wk_M 20).2.2.1 42 = .ok (.goto (-27), 3) := by decide +kernel
theorem wd_20_45 : decode (wk_M 20).2.2.1 45 = .ok (.aload_n 0, 1) := by decide +kernel
theorem wd_20_46 : decode (wk_M 20).2.2.1 46 = .ok (.getfield 19, 3) := by decide +kernel
theorem wd_20_49 : decode (wk_M 20).2.2.1 49 = .ok (.iload_n 1, 1) := by decide +kernel
theorem wd_20_50 : decode (wk_M 20).2.2.1 50 = .ok (.dup2, 1) := by decide +kernel
theorem wd_20_51 : decode (wk_M 20).2.2.1 51 = .ok (.iaload, 1) := by decide +kernel
theorem wd_20_52 : decode (wk_M 20).2.2.1 52 = .ok (.iconst 1, 1) := by decide +kernel
theorem wd_20_53 : decode (wk_M 20).2.2.1 53 = .ok (.iadd, 1) := by decide +kernel
theorem wd_20_54 : decode (wk_M 20).2.2.1 54 = .ok (.iastore, 1) := by decide +kernel
theorem wd_20_55 : decode (wk_M 20).2.2.1 55 = .ok (.return_, 1) := by decide +kernel
/-! Boxes.cellOf -/
theorem wm_18 : ae_m 18 = some (wk_M 18) := rfl
theorem wd_18_0 : decode (wk_M 18).2.2.1 0 = .ok (.aload_n 0, 1) := by decide +kernel
theorem wd_18_1 : decode (wk_M 18).2.2.1 1 = .ok (.getfield 15, 3) := by decide +kernel
theorem wd_18_4 : decode (wk_M 18).2.2.1 4 = .ok (.iload_n 1, 1) := by decide +kernel
theorem wd_18_5 : decode (wk_M 18).2.2.1 5 = .ok (.bipush 40, 2) := by decide +kernel
theorem wd_18_7 : decode (wk_M 18).2.2.1 7 = .ok (.imul, 1) := by decide +kernel
theorem wd_18_8 : decode (wk_M 18).2.2.1 8 = .ok (.iload_n 2, 1) := by decide +kernel
theorem wd_18_9 : decode (wk_M 18).2.2.1 9 = .ok (.iadd, 1) := by decide +kernel
theorem wd_18_10 : decode (wk_M 18).2.2.1 10 = .ok (.iaload, 1) := by decide +kernel
theorem wd_18_11 : decode (wk_M 18).2.2.1 11 = .ok (.ireturn, 1) := by decide +kernel
/-! Tape.isCard -/
theorem wm_114 : ae_m 114 = some (wk_M 114) := rfl
theorem wd_114_0 : decode (wk_M 114).2.2.1 0 = .ok (.iconst 0, 1) := by decide +kernel
theorem wd_114_1 : decode (wk_M 114).2.2.1 1 = .ok (.istore_n 1, 1) := by decide +kernel
theorem wd_114_2 : decode (wk_M 114).2.2.1 2 = .ok (.iload_n 1, 1) := by decide +kernel
theorem wd_114_3 : decode (wk_M 114).2.2.1 3 = .ok (.aload_n 0, 1) := by decide +kernel
theorem wd_114_4 : decode (wk_M 114).2.2.1 4 = .ok (.getfield 15, 3) := by decide +kernel
theorem wd_114_7 : decode (wk_M 114).2.2.1 7 = .ok (.if_icmp .ge 33, 3) := by decide +kernel
theorem wd_114_10 : decode (wk_M 114).2.2.1 10 = .ok (.aload_n 0, 1) := by decide +kernel
theorem wd_114_11 : decode (wk_M 114).2.2.1 11 = .ok (.getfield 11, 3) := by decide +kernel
theorem wd_114_14 : decode (wk_M 114).2.2.1 14 = .ok (.iload_n 1, 1) := by decide +kernel
theorem wd_114_15 : decode (wk_M 114).2.2.1 15 = .ok (.iaload, 1) := by decide +kernel
theorem wd_114_16 : decode (wk_M 114).2.2.1 16 = .ok (.bipush (-17), 2) := by decide +kernel
theorem wd_114_18 : decode (wk_M 114).2.2.1 18 = .ok (.iand, 1) := by decide +kernel
theorem wd_114_19 : decode (wk_M 114).2.2.1 19 = .ok (.istore_n 2, 1) := by decide +kernel
theorem wd_114_20 : decode (wk_M 114).2.2.1 20 = .ok (.iload_n 2, 1) := by decide +kernel
theorem wd_114_21 : decode (wk_M 114).2.2.1 21 = .ok (.bipush 9, 2) := by decide +kernel
theorem wd_114_23 : decode (wk_M 114).2.2.1 23 = .ok (.if_icmp .le 11, 3) := by decide +kernel
theorem wd_114_26 : decode (wk_M 114).2.2.1 26 = .ok (.iload_n 2, 1) := by decide +kernel
theorem wd_114_27 : decode (wk_M 114).2.2.1 27 = .ok (.bipush 15, 2) := by decide +kernel
theorem wd_114_29 : decode (wk_M 114).2.2.1 29 = .ok (.if_icmp .eq 5, 3) := by decide +kernel
theorem wd_114_32 : decode (wk_M 114).2.2.1 32 = .ok (.iconst 0, 1) := by decide +kernel
theorem wd_114_33 : decode (wk_M 114).2.2.1 33 = .ok (.ireturn, 1) := by decide +kernel
theorem wd_114_34 : decode (wk_M 114).2.2.1 34 = .ok (.iinc 1 1, 3) := by decide +kernel
theorem wd_114_37 : decode (wk_M 114).2.2.1 37 = .ok (.goto (-35), 3) := by decide +kernel
theorem wd_114_40 : decode (wk_M 114).2.2.1 40 = .ok (.aload_n 0, 1) := by decide +kernel
theorem wd_114_41 : decode (wk_M 114).2.2.1 41 = .ok (.getfield 15, 3) := by decide +kernel
theorem wd_114_44 : decode (wk_M 114).2.2.1 44 = .ok (.bipush 20, 2) := by decide +kernel
theorem wd_114_46 : decode (wk_M 114).2.2.1 46 = .ok (.if_icmp .ne 7, 3) := by decide +kernel
theorem wd_114_49 : decode (wk_M 114).2.2.1 49 = .ok (.iconst 1, 1) := by decide +kernel
theorem wd_114_50 : decode (wk_M 114).2.2.1 50 = .ok (.goto 4, 3) := by decide +kernel
theorem wd_114_53 : decode (wk_M 114).2.2.1 53 = .ok (.iconst 0, 1) := by decide +kernel
theorem wd_114_54 : decode (wk_M 114).2.2.1 54 = .ok (.ireturn, 1) := by decide +kernel
/-! Ref.bits -/
theorem wm_232 : ae_m 232 = some (wk_M 232) := rfl
theorem wd_232_0 : decode (wk_M 232).2.2.1 0 = .ok (.iconst 0, 1) := by decide +kernel
theorem wd_232_1 : decode (wk_M 232).2.2.1 1 = .ok (.istore_n 2, 1) := by decide +kernel
theorem wd_232_2 : decode (wk_M 232).2.2.1 2 = .ok (.lload_n 0, 1) := by decide +kernel
theorem wd_232_3 : decode (wk_M 232).2.2.1 3 = .ok (.lstore_n 3, 1) := by decide +kernel
theorem wd_232_4 : decode (wk_M 232).2.2.1 4 = .ok (.lload_n 3, 1) := by decide +kernel
theorem wd_232_5 : decode (wk_M 232).2.2.1 5 = .ok (.lconst 0, 1) := by decide +kernel
theorem wd_232_6 : decode (wk_M 232).2.2.1 6 = .ok (.lcmp, 1) := by decide +kernel
theorem wd_232_7 : decode (wk_M 232).2.2.1 7 = .ok (.ifCond .eq 15, 3) := by decide +kernel
theorem wd_232_10 : decode (wk_M 232).2.2.1 10 = .ok (.iinc 2 1, 3) := by decide +kernel
theorem wd_232_13 : decode (wk_M 232).2.2.1 13 = .ok (.lload_n 3, 1) := by decide +kernel
theorem wd_232_14 : decode (wk_M 232).2.2.1 14 = .ok (.lload_n 3, 1) := by decide +kernel
theorem wd_232_15 : decode (wk_M 232).2.2.1 15 = .ok (.lconst 1, 1) := by decide +kernel
theorem wd_232_16 : decode (wk_M 232).2.2.1 16 = .ok (.lsub, 1) := by decide +kernel
theorem wd_232_17 : decode (wk_M 232).2.2.1 17 = .ok (.land, 1) := by decide +kernel
theorem wd_232_18 : decode (wk_M 232).2.2.1 18 = .ok (.lstore_n 3, 1) := by decide +kernel
theorem wd_232_19 : decode (wk_M 232).2.2.1 19 = .ok (.goto (-15), 3) := by decide +kernel
theorem wd_232_22 : decode (wk_M 232).2.2.1 22 = .ok (.iload_n 2, 1) := by decide +kernel
theorem wd_232_23 : decode (wk_M 232).2.2.1 23 = .ok (.ireturn, 1) := by decide +kernel
/-! Ref.joins -/
theorem wm_212 : ae_m 212 = some (wk_M 212) := rfl
theorem wd_212_0 : decode (wk_M 212).2.2.1 0 = .ok (.aload_n 0, 1) := by decide +kernel
theorem wd_212_1 : decode (wk_M 212).2.2.1 1 = .ok (.iload_n 1, 1) := by decide +kernel
theorem wd_212_2 : decode (wk_M 212).2.2.1 2 = .ok (.iaload, 1) := by decide +kernel
theorem wd_212_3 : decode (wk_M 212).2.2.1 3 = .ok (.aload_n 0, 1) := by decide +kernel
theorem wd_212_4 : decode (wk_M 212).2.2.1 4 = .ok (.iload_n 2, 1) := by decide +kernel
theorem wd_212_5 : decode (wk_M 212).2.2.1 5 = .ok (.iaload, 1) := by decide +kernel
theorem wd_212_6 : decode (wk_M 212).2.2.1 6 = .ok (.if_icmp .ne 5, 3) := by decide +kernel
theorem wd_212_9 : decode (wk_M 212).2.2.1 9 = .ok (.iconst 0, 1) := by decide +kernel
theorem wd_212_10 : decode (wk_M 212).2.2.1 10 = .ok (.ireturn, 1) := by decide +kernel
theorem wd_212_11 : decode (wk_M 212).2.2.1 11 = .ok (.aload_n 0, 1) := by decide +kernel
theorem wd_212_12 : decode (wk_M 212).2.2.1 12 = .ok (.iload_n 1, 1) := by decide +kernel
theorem wd_212_13 : decode (wk_M 212).2.2.1 13 = .ok (.iaload, 1) := by decide +kernel
theorem wd_212_14 : decode (wk_M 212).2.2.1 14 = .ok (.aload_n 0, 1) := by decide +kernel
theorem wd_212_15 : decode (wk_M 212).2.2.1 15 = .ok (.iload_n 2, 1) := by decide +kernel
theorem wd_212_16 : decode (wk_M 212).2.2.1 16 = .ok (.iaload, 1) := by decide +kernel
theorem wd_212_17 : decode (wk_M 212).2.2.1 17 = .ok (.if_icmp .ge 9, 3) := by decide +kernel
theorem wd_212_20 : decode (wk_M 212).2.2.1 20 = .ok (.aload_n 0, 1) := by decide +kernel
theorem wd_212_21 : decode (wk_M 212).2.2.1 21 = .ok (.iload_n 1, 1) := by decide +kernel
theorem wd_212_22 : decode (wk_M 212).2.2.1 22 = .ok (.iaload, 1) := by decide +kernel
theorem wd_212_23 : decode (wk_M 212).2.2.1 23 = .ok (.goto 6, 3) := by decide +kernel
theorem wd_212_26 : decode (wk_M 212).2.2.1 26 = .ok (.aload_n 0, 1) := by decide +kernel
theorem wd_212_27 : decode (wk_M 212).2.2.1 27 = .ok (.iload_n 2, 1) := by decide +kernel
theorem wd_212_28 : decode (wk_M 212).2.2.1 28 = .ok (.iaload, 1) := by decide +kernel
theorem wd_212_29 : decode (wk_M 212).2.2.1 29 = .ok (.istore_n 3, 1) := by decide +kernel
theorem wd_212_30 : decode (wk_M 212).2.2.1 30 = .ok (.aload_n 0, 1) := by decide +kernel
theorem wd_212_31 : decode (wk_M 212).2.2.1 31 = .ok (.iload_n 1, 1) := by decide +kernel
theorem wd_212_32 : decode (wk_M 212).2.2.1 32 = .ok (.iload_n 3, 1) := by decide +kernel
theorem wd_212_33 : decode (wk_M 212).2.2.1 33 = .ok (.iastore, 1) := by decide +kernel
theorem wd_212_34 : decode (wk_M 212).2.2.1 34 = .ok (.aload_n 0, 1) := by decide +kernel
theorem wd_212_35 : decode (wk_M 212).2.2.1 35 = .ok (.iload_n 2, 1) := by decide +kernel
theorem wd_212_36 : decode (wk_M 212).2.2.1 36 = .ok (.iload_n 3, 1) := by decide +kernel
theorem wd_212_37 : decode (wk_M 212).2.2.1 37 = .ok (.iastore, 1) := by decide +kernel
theorem wd_212_38 : decode (wk_M 212).2.2.1 38 = .ok (.iconst 1, 1) := by decide +kernel
theorem wd_212_39 : decode (wk_M 212).2.2.1 39 = .ok (.ireturn, 1) := by decide +kernel
/-! Ref.nets -/
theorem wm_211 : ae_m 211 = some (wk_M 211) := rfl
theorem wd_211_0 : decode (wk_M 211).2.2.1 0 = .ok (.iconst 0, 1) := by decide +kernel
theorem wd_211_1 : decode (wk_M 211).2.2.1 1 = .ok (.istore_n 3, 1) := by decide +kernel
theorem wd_211_2 : decode (wk_M 211).2.2.1 2 = .ok (.iload_n 3, 1) := by decide +kernel
theorem wd_211_3 : decode (wk_M 211).2.2.1 3 = .ok (.sipush 217, 3) := by decide +kernel
theorem wd_211_6 : decode (wk_M 211).2.2.1 6 = .ok (.if_icmp .ge 13, 3) := by decide +kernel
theorem wd_211_9 : decode (wk_M 211).2.2.1 9 = .ok (.aload_n 1, 1) := by decide +kernel
theorem wd_211_10 : decode (wk_M 211).2.2.1 10 = .ok (.iload_n 3, 1) := by decide +kernel
theorem wd_211_11 : decode (wk_M 211).2.2.1 11 = .ok (.iload_n 3, 1) := by decide +kernel
theorem wd_211_12 : decode (wk_M 211).2.2.1 12 = .ok (.iastore, 1) := by decide +kernel
theorem wd_211_13 : decode (wk_M 211).2.2.1 13 = .ok (.iinc 3 1, 3) := by decide +kernel
theorem wd_211_16 : decode (wk_M 211).2.2.1 16 = .ok (.goto (-14), 3) := by decide +kernel
theorem wd_211_19 : decode (wk_M 211).2.2.1 19 = .ok (.iconst 1, 1) := by decide +kernel
theorem wd_211_20 : decode (wk_M 211).2.2.1 20 = .ok (.istore_n 3, 1) := by decide +kernel
theorem wd_211_21 : decode (wk_M 211).2.2.1 21 = .ok (.iload_n 3, 1) := by decide +kernel
theorem wd_211_22 : decode (wk_M 211).2.2.1 22 = .ok (.ifCond .eq 122, 3) := by decide +kernel
theorem wd_211_25 : decode (wk_M 211).2.2.1 25 = .ok (.iconst 0, 1) := by decide +kernel
theorem wd_211_26 : decode (wk_M 211).2.2.1 26 = .ok (.istore_n 3, 1) := by decide +kernel
theorem wd_211_27 : decode (wk_M 211).2.2.1 27 = .ok (.iconst 0, 1) := by decide +kernel
theorem wd_211_28 : decode (wk_M 211).2.2.1 28 = .ok (.istore 4, 2) := by decide +kernel
theorem wd_211_30 : decode (wk_M 211).2.2.1 30 = .ok (.iload 4, 2) := by decide +kernel
theorem wd_211_32 : decode (wk_M 211).2.2.1 32 = .ok (.aload_n 0, 1) := by decide +kernel
theorem wd_211_33 : decode (wk_M 211).2.2.1 33 = .ok (.getfield 26, 3) := by decide +kernel
theorem wd_211_36 : decode (wk_M 211).2.2.1 36 = .ok (.iconst 0, 1) := by decide +kernel
theorem wd_211_37 : decode (wk_M 211).2.2.1 37 = .ok (.iaload, 1) := by decide +kernel
theorem wd_211_38 : decode (wk_M 211).2.2.1 38 = .ok (.if_icmp .ge 41, 3) := by decide +kernel
theorem wd_211_41 : decode (wk_M 211).2.2.1 41 = .ok (.iload 4, 2) := by decide +kernel
theorem wd_211_43 : decode (wk_M 211).2.2.1 43 = .ok (.aload_n 0, 1) := by decide +kernel
theorem wd_211_44 : decode (wk_M 211).2.2.1 44 = .ok (.getfield 353, 3) := by decide +kernel
theorem wd_211_47 : decode (wk_M 211).2.2.1 47 = .ok (.if_icmp .eq 26, 3) := by decide +kernel
theorem wd_211_50 : decode (wk_M 211).2.2.1 50 = .ok (.aload_n 1, 1) := by decide +kernel
theorem wd_211_51 : decode (wk_M 211).2.2.1 51 = .ok (.aload_n 0, 1) := by decide +kernel
theorem wd_211_52 : decode (wk_M 211).2.2.1 52 = .ok (.getfield 20, 3) := by decide +kernel
theorem wd_211_55 : decode (wk_M 211).2.2.1 55 = .ok (.iload 4, 2) := by decide +kernel
theorem wd_211_57 : decode (wk_M 211).2.2.1 57 = .ok (.iaload, 1) := by decide +kernel
theorem wd_211_58 : decode (wk_M 211).2.2.1 58 = .ok (.aload_n 0, 1) := by decide +kernel
theorem wd_211_59 : decode (wk_M 211).2.2.1 59 = .ok (.getfield 23, 3) := by decide +kernel
theorem wd_211_62 : decode (wk_M 211).2.2.1 62 = .ok (.iload 4, 2) := by decide +kernel
theorem wd_211_64 : decode (wk_M 211).2.2.1 64 = .ok (.iaload, 1) := by decide +kernel
theorem wd_211_65 : decode (wk_M 211).2.2.1 65 = .ok (.invokestatic 356, 3) := by decide +kernel
theorem wd_211_68 : decode (wk_M 211).2.2.1 68 = .ok (.ifCond .eq 5, 3) := by decide +kernel
theorem wd_211_71 : decode (wk_M 211).2.2.1 71 = .ok (.iconst 1, 1) := by decide +kernel
theorem wd_211_72 : decode (wk_M 211).2.2.1 72 = .ok (.istore_n 3, 1) := by decide +kernel
theorem wd_211_73 : decode (wk_M 211).2.2.1 73 = .ok (.iinc 4 1, 3) := by decide +kernel
theorem wd_211_76 : decode (wk_M 211).2.2.1 76 = .ok (.goto (-46), 3) := by decide +kernel
theorem wd_211_79 : decode (wk_M 211).2.2.1 79 = .ok (.iconst 0, 1) := by decide +kernel
theorem wd_211_80 : decode (wk_M 211).2.2.1 80 = .ok (.istore 4, 2) := by decide +kernel
theorem wd_211_82 : decode (wk_M 211).2.2.1 82 = .ok (.iload 4, 2) := by decide +kernel
theorem wd_211_84 : decode (wk_M 211).2.2.1 84 = .ok (.bipush 12, 2) := by decide +kernel
theorem wd_211_86 : decode (wk_M 211).2.2.1 86 = .ok (.if_icmp .ge 55, 3) := by decide +kernel
theorem wd_211_89 : decode (wk_M 211).2.2.1 89 = .ok (.aload_n 1, 1) := by decide +kernel
theorem wd_211_90 : decode (wk_M 211).2.2.1 90 = .ok (.sipush 181, 3) := by decide +kernel
theorem wd_211_93 : decode (wk_M 211).2.2.1 93 = .ok (.iload 4, 2) := by decide +kernel
theorem wd_211_95 : decode (wk_M 211).2.2.1 95 = .ok (.iadd, 1) := by decide +kernel
theorem wd_211_96 : decode (wk_M 211).2.2.1 96 = .ok (.iload_n 2, 1) := by decide +kernel
theorem wd_211_97 : decode (wk_M 211).2.2.1 97 = .ok (.ifCond .eq 24, 3) := by decide +kernel
theorem wd_211_100 : decode (wk_M 211).2.2.1 100 = .ok (.aload_n 0, 1) := by decide +kernel
theorem wd_211_101 : decode (wk_M 211).2.2.1 101 = .ok (.getfield 54, 3) := by decide +kernel
theorem wd_211_104 : decode (wk_M 211).2.2.1 104 = .ok (.iload 4, 2) := by decide +kernel
theorem wd_211_106 : decode (wk_M 211).2.2.1 106 = .ok (.iconst 3, 1) := by decide +kernel
theorem wd_211_107 : decode (wk_M 211).2.2.1 107 = .ok (.idiv, 1) := by decide +kernel
theorem wd_211_108 : decode (wk_M 211).2.2.1 108 = .ok (.baload, 1) := by decide +kernel
theorem wd_211_109 : decode (wk_M 211).2.2.1 109 = .ok (.ifCond .eq 12, 3) := by decide +kernel
theorem wd_211_112 : decode (wk_M 211).2.2.1 112 = .ok (.sipush 205, 3) := by decide +kernel
theorem wd_211_115 : decode (wk_M 211).2.2.1 115 = .ok (.iload 4, 2) := by decide +kernel
theorem wd_211_117 : decode (wk_M 211).2.2.1 117 = .ok (.iadd, 1) := by decide +kernel
theorem wd_211_118 : decode (wk_M 211).2.2.1 118 = .ok (.goto 9, 3) := by decide +kernel
theorem wd_211_121 : decode (wk_M 211).2.2.1 121 = .ok (.sipush 193, 3) := by decide +kernel
theorem wd_211_124 : decode (wk_M 211).2.2.1 124 = .ok (.iload 4, 2) := by decide +kernel
theorem wd_211_126 : decode (wk_M 211).2.2.1 126 = .ok (.iadd, 1) := by decide +kernel
theorem wd_211_127 : decode (wk_M 211).2.2.1 127 = .ok (.invokestatic 356, 3) := by decide +kernel
theorem wd_211_130 : decode (wk_M 211).2.2.1 130 = .ok (.ifCond .eq 5, 3) := by decide +kernel
theorem wd_211_133 : decode (wk_M 211).2.2.1 133 = .ok (.iconst 1, 1) := by decide +kernel
theorem wd_211_134 : decode (wk_M 211).2.2.1 134 = .ok (.istore_n 3, 1) := by decide +kernel
theorem wd_211_135 : decode (wk_M 211).2.2.1 135 = .ok (.iinc 4 1, 3) := by decide +kernel
theorem wd_211_138 : decode (wk_M 211).2.2.1 138 = .ok (.goto (-56), 3) := by decide +kernel
theorem wd_211_141 : decode (wk_M 211).2.2.1 141 = .ok (.goto (-120), 3) := by decide +kernel
theorem wd_211_144 : decode (wk_M 211).2.2.1 144 = .ok (.return_, 1) := by decide +kernel
/-! Ref.gather -/
theorem wm_213 : ae_m 213 = some (wk_M 213) := rfl
theorem wd_213_0 : decode (wk_M 213).2.2.1 0 = .ok (.iconst 0, 1) := by decide +kernel
theorem wd_213_1 : decode (wk_M 213).2.2.1 1 = .ok (.istore_n 3, 1) := by decide +kernel
theorem wd_213_2 : decode (wk_M 213).2.2.1 2 = .ok (.iload_n 3, 1) := by decide +kernel
theorem wd_213_3 : decode (wk_M 213).2.2.1 3 = .ok (.sipush 217, 3) := by decide +kernel
theorem wd_213_6 : decode (wk_M 213).2.2.1 6 = .ok (.if_icmp .ge 16, 3) := by decide +kernel
theorem wd_213_9 : decode (wk_M 213).2.2.1 9 = .ok (.aload_n 0, 1) := by decide +kernel
theorem wd_213_10 : decode (wk_M 213).2.2.1 10 = .ok (.getfield 51, 3) := by decide +kernel
theorem wd_213_13 : decode (wk_M 213).2.2.1 13 = .ok (.iload_n 3, 1) := by decide +kernel
theorem wd_213_14 : decode (wk_M 213).2.2.1 14 = .ok (.iconst 0, 1) := by decide +kernel
theorem wd_213_15 : decode (wk_M 213).2.2.1 15 = .ok (.iastore, 1) := by decide +kernel
theorem wd_213_16 : decode (wk_M 213).2.2.1 16 = .ok (.iinc 3 1, 3) := by decide +kernel
theorem wd_213_19 : decode (wk_M 213).2.2.1 19 = .ok (.goto (-17), 3) := by decide +kernel
theorem wd_213_22 : decode (wk_M 213).2.2.1 22 = .ok (.iconst 0, 1) := by decide +kernel
theorem wd_213_23 : decode (wk_M 213).2.2.1 23 = .ok (.istore_n 3, 1) := by decide +kernel
theorem wd_213_24 : decode (wk_M 213).2.2.1 24 = .ok (.iload_n 3, 1) := by decide +kernel
theorem wd_213_25 : decode (wk_M 213).2.2.1 25 = .ok (.bipush 96, 2) := by decide +kernel
theorem wd_213_27 : decode (wk_M 213).2.2.1 27 = .ok (.if_icmp .ge 70, 3) := by decide +kernel
theorem wd_213_30 : decode (wk_M 213).2.2.1 30 = .ok (.aload_n 0, 1) := by decide +kernel
theorem wd_213_31 : decode (wk_M 213).2.2.1 31 = .ok (.getfield 39, 3) := by decide +kernel
theorem wd_213_34 : decode (wk_M 213).2.2.1 34 = .ok (.iload_n 3, 1) := by decide +kernel
theorem wd_213_35 : decode (wk_M 213).2.2.1 35 = .ok (.iaload, 1) := by decide +kernel
theorem wd_213_36 : decode (wk_M 213).2.2.1 36 = .ok (.ifCond .lt 55, 3) := by decide +kernel
theorem wd_213_39 : decode (wk_M 213).2.2.1 39 = .ok (.iload_n 2, 1) := by decide +kernel
theorem wd_213_40 : decode (wk_M 213).2.2.1 40 = .ok (.ifCond .ne 17, 3) := by decide +kernel
theorem wd_213_43 : decode (wk_M 213).2.2.1 43 = .ok (.iload_n 3, 1) := by decide +kernel
theorem wd_213_44 : decode (wk_M 213).2.2.1 44 = .ok (.bipush 61, 2) := by decide +kernel
theorem wd_213_46 : decode (wk_M 213).2.2.1 46 = .ok (.bipush 64, 2) := by decide +kernel
theorem wd_213_48 : decode (wk_M 213).2.2.1 48 = .ok (.invokestatic 207, 3) := by decide +kernel
theorem wd_213_51 : decode (wk_M 213).2.2.1 51 = .ok (.ifCond .eq 6, 3) := by decide +kernel
theorem wd_213_54 : decode (wk_M 213).2.2.1 54 = .ok (.goto 37, 3) := by decide +kernel
theorem wd_213_57 : decode (wk_M 213).2.2.1 57 = .ok (.aload_n 1, 1) := by decide +kernel
theorem wd_213_58 : decode (wk_M 213).2.2.1 58 = .ok (.iload_n 3, 1) := by decide +kernel
theorem wd_213_59 : decode (wk_M 213).2.2.1 59 = .ok (.iaload, 1) := by decide +kernel
theorem wd_213_60 : decode (wk_M 213).2.2.1 60 = .ok (.istore 4, 2) := by decide +kernel
theorem wd_213_62 : decode (wk_M 213).2.2.1 62 = .ok (.aload_n 0, 1) := by decide +kernel
theorem wd_213_63 : decode (wk_M 213).2.2.1 63 = .ok (.getfield 51, 3) := by decide +kernel
theorem wd_213_66 : decode (wk_M 213).2.2.1 66 = .ok (.iload 4, 2) := by decide +kernel
theorem wd_213_68 : decode (wk_M 213).2.2.1 68 = .ok (.iaload, 1) := by decide +kernel
theorem wd_213_69 : decode (wk_M 213).2.2.1 69 = .ok (.ifCond .ne 11, 3) := by decide +kernel
theorem wd_213_72 : decode (wk_M 213).2.2.1 72 = .ok (.aload_n 0, 1) := by decide +kernel
theorem wd_213_73 : decode (wk_M 213).2.2.1 73 = .ok (.getfield 48, 3) := by decide +kernel
theorem wd_213_76 : decode (wk_M 213).2.2.1 76 = .ok (.iload 4, 2) := by decide +kernel
theorem wd_213_78 : decode (wk_M 213).2.2.1 78 = .ok (.iload_n 3, 1) := by decide +kernel
theorem wd_213_79 : decode (wk_M 213).2.2.1 79 = .ok (.iastore, 1) := by decide +kernel
theorem wd_213_80 : decode (wk_M 213).2.2.1 80 = .ok (.aload_n 0, 1) := by decide +kernel
theorem wd_213_81 : decode (wk_M 213).2.2.1 81 = .ok (.getfield 51, 3) := by decide +kernel
theorem wd_213_84 : decode (wk_M 213).2.2.1 84 = .ok (.iload 4, 2) := by decide +kernel
theorem wd_213_86 : decode (wk_M 213).2.2.1 86 = .ok (.dup2, 1) := by decide +kernel
theorem wd_213_87 : decode (wk_M 213).2.2.1 87 = .ok (.iaload, 1) := by decide +kernel
theorem wd_213_88 : decode (wk_M 213).2.2.1 88 = .ok (.iconst 1, 1) := by decide +kernel
theorem wd_213_89 : decode (wk_M 213).2.2.1 89 = .ok (.iadd, 1) := by decide +kernel
theorem wd_213_90 : decode (wk_M 213).2.2.1 90 = .ok (.iastore, 1) := by decide +kernel
theorem wd_213_91 : decode (wk_M 213).2.2.1 91 = .ok (.iinc 3 1, 3) := by decide +kernel
theorem wd_213_94 : decode (wk_M 213).2.2.1 94 = .ok (.goto (-70), 3) := by decide +kernel
theorem wd_213_97 : decode (wk_M 213).2.2.1 97 = .ok (.return_, 1) := by decide +kernel
/-! Ref.jam -/
theorem wm_220 : ae_m 220 = some (wk_M 220) := rfl
theorem wd_220_0 : decode (wk_M 220).2.2.1 0 = .ok (.aload_n 0, 1) := by decide +kernel
theorem wd_220_1 : decode (wk_M 220).2.2.1 1 = .ok (.getfield 84, 3) := by decide +kernel
theorem wd_220_4 : decode (wk_M 220).2.2.1 4 = .ok (.iconst 0, 1) := by decide +kernel
theorem wd_220_5 : decode (wk_M 220).2.2.1 5 = .ok (.iload_n 1, 1) := by decide +kernel
theorem wd_220_6 : decode (wk_M 220).2.2.1 6 = .ok (.iastore, 1) := by decide +kernel
theorem wd_220_7 : decode (wk_M 220).2.2.1 7 = .ok (.iload_n 1, 1) := by decide +kernel
theorem wd_220_8 : decode (wk_M 220).2.2.1 8 = .ok (.iconst 1, 1) := by decide +kernel
theorem wd_220_9 : decode (wk_M 220).2.2.1 9 = .ok (.iadd, 1) := by decide +kernel
theorem wd_220_10 : decode (wk_M 220).2.2.1 10 = .ok (.istore_n 2, 1) := by decide +kernel
theorem wd_220_11 : decode (wk_M 220).2.2.1 11 = .ok (.aload_n 0, 1) := by decide +kernel
theorem wd_220_12 : decode (wk_M 220).2.2.1 12 = .ok (.getfield 39, 3) := by decide +kernel
theorem wd_220_15 : decode (wk_M 220).2.2.1 15 = .ok (.iload_n 2, 1) := by decide +kernel
theorem wd_220_16 : decode (wk_M 220).2.2.1 16 = .ok (.iaload, 1) := by decide +kernel
theorem wd_220_17 : decode (wk_M 220).2.2.1 17 = .ok (.ifCond .lt 18, 3) := by decide +kernel
theorem wd_220_20 : decode (wk_M 220).2.2.1 20 = .ok (.aload_n 0, 1) := by decide +kernel
theorem wd_220_21 : decode (wk_M 220).2.2.1 21 = .ok (.getfield 45, 3) := by decide +kernel
theorem wd_220_24 : decode (wk_M 220).2.2.1 24 = .ok (.iload_n 2, 1) := by decide +kernel
theorem wd_220_25 : decode (wk_M 220).2.2.1 25 = .ok (.iaload, 1) := by decide +kernel
theorem wd_220_26 : decode (wk_M 220).2.2.1 26 = .ok (.aload_n 0, 1) := by decide +kernel
theorem wd_220_27 : decode (wk_M 220).2.2.1 27 = .ok (.getfield 45, 3) := by decide +kernel
theorem wd_220_30 : decode (wk_M 220).2.2.1 30 = .ok (.iload_n 1, 1) := by decide +kernel
theorem wd_220_31 : decode (wk_M 220).2.2.1 31 = .ok (.iaload, 1) := by decide +kernel
theorem wd_220_32 : decode (wk_M 220).2.2.1 32 = .ok (.if_icmp .eq 9, 3) := by decide +kernel
theorem wd_220_35 : decode (wk_M 220).2.2.1 35 = .ok (.iinc 2 1, 3) := by decide +kernel
theorem wd_220_38 : decode (wk_M 220).2.2.1 38 = .ok (.goto (-27), 3) := by decide +kernel
theorem wd_220_41 : decode (wk_M 220).2.2.1 41 = .ok (.aload_n 0, 1) := by decide +kernel
theorem wd_220_42 : decode (wk_M 220).2.2.1 42 = .ok (.getfield 87, 3) := by decide +kernel
theorem wd_220_45 : decode (wk_M 220).2.2.1 45 = .ok (.iconst 0, 1) := by decide +kernel
theorem wd_220_46 : decode (wk_M 220).2.2.1 46 = .ok (.iload_n 2, 1) := by decide +kernel
theorem wd_220_47 : decode (wk_M 220).2.2.1 47 = .ok (.iastore, 1) := by decide +kernel
theorem wd_220_48 : decode (wk_M 220).2.2.1 48 = .ok (.iconst 2, 1) := by decide +kernel
theorem wd_220_49 : decode (wk_M 220).2.2.1 49 = .ok (.ireturn, 1) := by decide +kernel
/-! Ref.isIn -/
theorem wm_188 : ae_m 188 = some (wk_M 188) := rfl
theorem wd_188_0 : decode (wk_M 188).2.2.1 0 = .ok (.iload_n 0, 1) := by decide +kernel
theorem wd_188_1 : decode (wk_M 188).2.2.1 1 = .ok (.iload_n 1, 1) := by decide +kernel
theorem wd_188_2 : decode (wk_M 188).2.2.1 2 = .ok (.if_icmp .lt 12, 3) := by decide +kernel
theorem wd_188_5 : decode (wk_M 188).2.2.1 5 = .ok (.iload_n 0, 1) := by decide +kernel
theorem wd_188_6 : decode (wk_M 188).2.2.1 6 = .ok (.iload_n 2, 1) := by decide +kernel
theorem wd_188_7 : decode (wk_M 188).2.2.1 7 = .ok (.if_icmp .gt 7, 3) := by decide +kernel
theorem wd_188_10 : decode (wk_M 188).2.2.1 10 = .ok (.iconst 1, 1) := by decide +kernel
theorem wd_188_11 : decode (wk_M 188).2.2.1 11 = .ok (.goto 4, 3) := by decide +kernel
theorem wd_188_14 : decode (wk_M 188).2.2.1 14 = .ok (.iconst 0, 1) := by decide +kernel
theorem wd_188_15 : decode (wk_M 188).2.2.1 15 = .ok (.ireturn, 1) := by decide +kernel
/-! java/util/Arrays.fill -/
theorem wm_285 : ae_m 285 = some (wk_M 285) := rfl
theorem wd_285_0 : decode (wk_M 285).2.2.1 0 = .ok (.iconst 0, 1) := by decide +kernel
theorem wd_285_1 : decode (wk_M 285).2.2.1 1 = .ok (.istore_n 2, 1) := by decide +kernel
theorem wd_285_2 : decode (wk_M 285).2.2.1 2 = .ok (.aload_n 0, 1) := by decide +kernel
theorem wd_285_3 : decode (wk_M 285).2.2.1 3 = .ok (.arraylength, 1) := by decide +kernel
theorem wd_285_4 : decode (wk_M 285).2.2.1 4 = .ok (.istore_n 3, 1) := by decide +kernel
theorem wd_285_5 : decode (wk_M 285).2.2.1 5 = .ok (.iload_n 2, 1) := by decide +kernel
theorem wd_285_6 : decode (wk_M 285).2.2.1 6 = .ok (.iload_n 3, 1) := by decide +kernel
theorem wd_285_7 : decode (wk_M 285).2.2.1 7 = .ok (.if_icmp .ge 13, 3) := by decide +kernel
theorem wd_285_10 : decode (wk_M 285).2.2.1 10 = .ok (.aload_n 0, 1) := by decide +kernel
theorem wd_285_11 : decode (wk_M 285).2.2.1 11 = .ok (.iload_n 2, 1) := by decide +kernel
theorem wd_285_12 : decode (wk_M 285).2.2.1 12 = .ok (.iload_n 1, 1) := by decide +kernel
theorem wd_285_13 : decode (wk_M 285).2.2.1 13 = .ok (.iastore, 1) := by decide +kernel
theorem wd_285_14 : decode (wk_M 285).2.2.1 14 = .ok (.iinc 2 1, 3) := by decide +kernel
theorem wd_285_17 : decode (wk_M 285).2.2.1 17 = .ok (.goto (-12), 3) := by decide +kernel
theorem wd_285_20 : decode (wk_M 285).2.2.1 20 = .ok (.return_, 1) := by decide +kernel
