/-! method 249 -/
theorem xm_249 : ae_m 249 = some (wk_M 249) := rfl
theorem xd_249_0 : decode (wk_M 249).2.2.1 0 = .ok (.aload_n 0, 1) := zd_by (by decide +kernel)
theorem xd_249_1 : decode (wk_M 249).2.2.1 1 = .ok (.getfield 236, 3) := zd_by (by decide +kernel)
theorem xd_249_4 : decode (wk_M 249).2.2.1 4 = .ok (.iconst 1, 1) := zd_by (by decide +kernel)
theorem xd_249_5 : decode (wk_M 249).2.2.1 5 = .ok (.if_icmp .ne 16, 3) := zd_by (by decide +kernel)
theorem xd_249_8 : decode (wk_M 249).2.2.1 8 = .ok (.aload_n 0, 1) := zd_by (by decide +kernel)
theorem xd_249_9 : decode (wk_M 249).2.2.1 9 = .ok (.getfield 239, 3) := zd_by (by decide +kernel)
theorem xd_249_12 : decode (wk_M 249).2.2.1 12 = .ok (.lload_n 1, 1) := zd_by (by decide +kernel)
theorem xd_249_13 : decode (wk_M 249).2.2.1 13 = .ok (.lcmp, 1) := zd_by (by decide +kernel)
theorem xd_249_14 : decode (wk_M 249).2.2.1 14 = .ok (.ifCond .ne 7, 3) := zd_by (by decide +kernel)
theorem xd_249_17 : decode (wk_M 249).2.2.1 17 = .ok (.iconst 1, 1) := zd_by (by decide +kernel)
theorem xd_249_18 : decode (wk_M 249).2.2.1 18 = .ok (.goto 4, 3) := zd_by (by decide +kernel)
theorem xd_249_21 : decode (wk_M 249).2.2.1 21 = .ok (.iconst 0, 1) := zd_by (by decide +kernel)
theorem xd_249_22 : decode (wk_M 249).2.2.1 22 = .ok (.ireturn, 1) := zd_by (by decide +kernel)
abbrev D_249 (y0 : Nat) (m : dc_M) (v : Int) (m' : dc_M) : Prop := ((((m 114 7) : Int) ≠ 1 ∧ (v = 0 ∧ m' = m)) ∨ (¬ (((m 114 7) : Int) ≠ 1) ∧ (((((sv_g (ae_lcmp (m 114 13).toNat y0)) : Int) ≠ 0 ∧ (v = 0 ∧ m' = m)) ∨ (¬ (((sv_g (ae_lcmp (m 114 13).toNat y0)) : Int) ≠ 0) ∧ (v = 1 ∧ m' = m))))))
theorem ds_249 (n : Nat) (y0 : Nat) {h : ae_H} {r : ae_R} (ok : dc_ok h) (iy0 : y0 < 18446744073709551616) (hr : ae_exe n 249 0 0 0 (ae_args [wk_r 114, wk_l y0] 0) [] h = some r) : ∃ v, D_249 y0 (dc_m h) v (dc_m r.2) ∧ r.1 = some (wk_i v) ∧ sv_I v ∧ dc_ok r.2 := by
  have q0 : ae_lk (ae_args [wk_r 114, wk_l y0] 0) 0 = some (wk_r 114) := rfl
  have q1 : ae_lk (ae_args [wk_r 114, wk_l y0] 0) 1 = some (wk_l y0) := rfl
  obtain ⟨n_1, e_2, hr_3⟩ := iv_aload_n xm_249 xd_249_0 q0 hr
  have f_4 := dc_fi (j := 7) ok (rfl : sv_ty 114 = some 12) dt_12 rfl
  obtain ⟨n_5, e_6, hr_7⟩ := iv_getf (j := 7) xm_249 xd_249_1 (by decide +kernel) ok (rfl : sv_ty 114 = some 12) dt_12 f_4.1 hr_3
  obtain ⟨n_8, e_9, hr_10⟩ := iv_iconst xm_249 xd_249_4 (by decide) hr_7
  rcases iv_icmp 21 xm_249 xd_249_5 (by decide) f_4.2 (by unfold sv_I; omega) hr_10 with ⟨c_11, n_12, e_13, hr_14⟩ | ⟨c_11, n_12, e_13, hr_14⟩
  · obtain ⟨n_15, e_16, hr_17⟩ := iv_iconst xm_249 xd_249_21 (by decide) hr_14
    have rr_18 := iv_ireturn xm_249 xd_249_22 hr_17
    subst rr_18
    exact ⟨_, Or.inl ⟨c_11, ⟨rfl, rfl⟩⟩, rfl, (by unfold sv_I; omega), ok⟩
  · obtain ⟨n_19, e_20, hr_21⟩ := iv_aload_n xm_249 xd_249_8 q0 hr_14
    have f_22 := dc_fl (j := 13) ok (rfl : sv_ty 114 = some 12) dt_12 rfl
    obtain ⟨n_23, e_24, hr_25⟩ := iv_getf (j := 13) xm_249 xd_249_9 (by decide +kernel) ok (rfl : sv_ty 114 = some 12) dt_12 f_22.1 hr_21
    obtain ⟨n_26, e_27, hr_28⟩ := iv_lload_n xm_249 xd_249_12 q1 hr_25
    obtain ⟨n_29, e_30, hr_31⟩ := iv_lcmp xm_249 xd_249_13 hr_28
    rcases iv_if 21 xm_249 xd_249_14 (by decide) (sv_g_I (ae_lcmp_lt _ _)) hr_31 with ⟨c_32, n_33, e_34, hr_35⟩ | ⟨c_32, n_33, e_34, hr_35⟩
    · obtain ⟨n_36, e_37, hr_38⟩ := iv_iconst xm_249 xd_249_21 (by decide) hr_35
      have rr_39 := iv_ireturn xm_249 xd_249_22 hr_38
      subst rr_39
      exact ⟨_, Or.inr ⟨c_11, Or.inl ⟨c_32, ⟨rfl, rfl⟩⟩⟩, rfl, (by unfold sv_I; omega), ok⟩
    · obtain ⟨n_40, e_41, hr_42⟩ := iv_iconst xm_249 xd_249_17 (by decide) hr_35
      obtain ⟨n_43, e_44, hr_45⟩ := iv_goto 22 xm_249 xd_249_18 (by decide) hr_42
      have rr_46 := iv_ireturn xm_249 xd_249_22 hr_45
      subst rr_46
      exact ⟨_, Or.inr ⟨c_11, Or.inr ⟨c_32, ⟨rfl, rfl⟩⟩⟩, rfl, (by unfold sv_I; omega), ok⟩
/-! method 250 -/
theorem xm_250 : ae_m 250 = some (wk_M 250) := rfl
theorem xd_250_0 : decode (wk_M 250).2.2.1 0 = .ok (.aload_n 0, 1) := zd_by (by decide +kernel)
theorem xd_250_1 : decode (wk_M 250).2.2.1 1 = .ok (.getfield 236, 3) := zd_by (by decide +kernel)
theorem xd_250_4 : decode (wk_M 250).2.2.1 4 = .ok (.iconst 1, 1) := zd_by (by decide +kernel)
theorem xd_250_5 : decode (wk_M 250).2.2.1 5 = .ok (.if_icmp .ne 62, 3) := zd_by (by decide +kernel)
theorem xd_250_8 : decode (wk_M 250).2.2.1 8 = .ok (.aload_n 0, 1) := zd_by (by decide +kernel)
theorem xd_250_9 : decode (wk_M 250).2.2.1 9 = .ok (.getfield 239, 3) := zd_by (by decide +kernel)
theorem xd_250_12 : decode (wk_M 250).2.2.1 12 = .ok (.ldc2_w 460, 3) := zd_by (by decide +kernel)
theorem xd_250_15 : decode (wk_M 250).2.2.1 15 = .ok (.lcmp, 1) := zd_by (by decide +kernel)
theorem xd_250_16 : decode (wk_M 250).2.2.1 16 = .ok (.ifCond .eq 51, 3) := zd_by (by decide +kernel)
theorem xd_250_19 : decode (wk_M 250).2.2.1 19 = .ok (.aload_n 0, 1) := zd_by (by decide +kernel)
theorem xd_250_20 : decode (wk_M 250).2.2.1 20 = .ok (.getfield 239, 3) := zd_by (by decide +kernel)
theorem xd_250_23 : decode (wk_M 250).2.2.1 23 = .ok (.ldc2_w 462, 3) := zd_by (by decide +kernel)
theorem xd_250_26 : decode (wk_M 250).2.2.1 26 = .ok (.lcmp, 1) := zd_by (by decide +kernel)
theorem xd_250_27 : decode (wk_M 250).2.2.1 27 = .ok (.ifCond .eq 40, 3) := zd_by (by decide +kernel)
theorem xd_250_30 : decode (wk_M 250).2.2.1 30 = .ok (.aload_n 0, 1) := zd_by (by decide +kernel)
theorem xd_250_31 : decode (wk_M 250).2.2.1 31 = .ok (.getfield 239, 3) := zd_by (by decide +kernel)
theorem xd_250_34 : decode (wk_M 250).2.2.1 34 = .ok (.ldc2_w 464, 3) := zd_by (by decide +kernel)
theorem xd_250_37 : decode (wk_M 250).2.2.1 37 = .ok (.lcmp, 1) := zd_by (by decide +kernel)
theorem xd_250_38 : decode (wk_M 250).2.2.1 38 = .ok (.ifCond .eq 29, 3) := zd_by (by decide +kernel)
theorem xd_250_41 : decode (wk_M 250).2.2.1 41 = .ok (.aload_n 0, 1) := zd_by (by decide +kernel)
theorem xd_250_42 : decode (wk_M 250).2.2.1 42 = .ok (.getfield 239, 3) := zd_by (by decide +kernel)
theorem xd_250_45 : decode (wk_M 250).2.2.1 45 = .ok (.ldc2_w 466, 3) := zd_by (by decide +kernel)
theorem xd_250_48 : decode (wk_M 250).2.2.1 48 = .ok (.lcmp, 1) := zd_by (by decide +kernel)
theorem xd_250_49 : decode (wk_M 250).2.2.1 49 = .ok (.ifCond .eq 18, 3) := zd_by (by decide +kernel)
theorem xd_250_52 : decode (wk_M 250).2.2.1 52 = .ok (.aload_n 0, 1) := zd_by (by decide +kernel)
theorem xd_250_53 : decode (wk_M 250).2.2.1 53 = .ok (.getfield 239, 3) := zd_by (by decide +kernel)
theorem xd_250_56 : decode (wk_M 250).2.2.1 56 = .ok (.ldc2_w 468, 3) := zd_by (by decide +kernel)
theorem xd_250_59 : decode (wk_M 250).2.2.1 59 = .ok (.lcmp, 1) := zd_by (by decide +kernel)
theorem xd_250_60 : decode (wk_M 250).2.2.1 60 = .ok (.ifCond .eq 7, 3) := zd_by (by decide +kernel)
theorem xd_250_63 : decode (wk_M 250).2.2.1 63 = .ok (.iconst 1, 1) := zd_by (by decide +kernel)
theorem xd_250_64 : decode (wk_M 250).2.2.1 64 = .ok (.goto 4, 3) := zd_by (by decide +kernel)
theorem xd_250_67 : decode (wk_M 250).2.2.1 67 = .ok (.iconst 0, 1) := zd_by (by decide +kernel)
theorem xd_250_68 : decode (wk_M 250).2.2.1 68 = .ok (.ireturn, 1) := zd_by (by decide +kernel)
abbrev D_250  (m : dc_M) (v : Int) (m' : dc_M) : Prop := ((((m 114 7) : Int) ≠ 1 ∧ (v = 0 ∧ m' = m)) ∨ (¬ (((m 114 7) : Int) ≠ 1) ∧ (((((sv_g (ae_lcmp (m 114 13).toNat 439854918756)) : Int) = 0 ∧ (v = 0 ∧ m' = m)) ∨ (¬ (((sv_g (ae_lcmp (m 114 13).toNat 439854918756)) : Int) = 0) ∧ (((((sv_g (ae_lcmp (m 114 13).toNat 422826041707)) : Int) = 0 ∧ (v = 0 ∧ m' = m)) ∨ (¬ (((sv_g (ae_lcmp (m 114 13).toNat 422826041707)) : Int) = 0) ∧ (((((sv_g (ae_lcmp (m 114 13).toNat 7566701)) : Int) = 0 ∧ (v = 0 ∧ m' = m)) ∨ (¬ (((sv_g (ae_lcmp (m 114 13).toNat 7566701)) : Int) = 0) ∧ (((((sv_g (ae_lcmp (m 114 13).toNat 427071729268)) : Int) = 0 ∧ (v = 0 ∧ m' = m)) ∨ (¬ (((sv_g (ae_lcmp (m 114 13).toNat 427071729268)) : Int) = 0) ∧ (((((sv_g (ae_lcmp (m 114 13).toNat 1870030194)) : Int) = 0 ∧ (v = 0 ∧ m' = m)) ∨ (¬ (((sv_g (ae_lcmp (m 114 13).toNat 1870030194)) : Int) = 0) ∧ (v = 1 ∧ m' = m))))))))))))))))))
theorem ds_250 (n : Nat)  {h : ae_H} {r : ae_R} (ok : dc_ok h)  (hr : ae_exe n 250 0 0 0 (ae_args [wk_r 114] 0) [] h = some r) : ∃ v, D_250  (dc_m h) v (dc_m r.2) ∧ r.1 = some (wk_i v) ∧ sv_I v ∧ dc_ok r.2 := by
  have q0 : ae_lk (ae_args [wk_r 114] 0) 0 = some (wk_r 114) := rfl
  obtain ⟨n_1, e_2, hr_3⟩ := iv_aload_n xm_250 xd_250_0 q0 hr
  have f_4 := dc_fi (j := 7) ok (rfl : sv_ty 114 = some 12) dt_12 rfl
  obtain ⟨n_5, e_6, hr_7⟩ := iv_getf (j := 7) xm_250 xd_250_1 (by decide +kernel) ok (rfl : sv_ty 114 = some 12) dt_12 f_4.1 hr_3
  obtain ⟨n_8, e_9, hr_10⟩ := iv_iconst xm_250 xd_250_4 (by decide) hr_7
  rcases iv_icmp 67 xm_250 xd_250_5 (by decide) f_4.2 (by unfold sv_I; omega) hr_10 with ⟨c_11, n_12, e_13, hr_14⟩ | ⟨c_11, n_12, e_13, hr_14⟩
  · obtain ⟨n_15, e_16, hr_17⟩ := iv_iconst xm_250 xd_250_67 (by decide) hr_14
    have rr_18 := iv_ireturn xm_250 xd_250_68 hr_17
    subst rr_18
    exact ⟨_, Or.inl ⟨c_11, ⟨rfl, rfl⟩⟩, rfl, (by unfold sv_I; omega), ok⟩
  · obtain ⟨n_19, e_20, hr_21⟩ := iv_aload_n xm_250 xd_250_8 q0 hr_14
    have f_22 := dc_fl (j := 13) ok (rfl : sv_ty 114 = some 12) dt_12 rfl
    obtain ⟨n_23, e_24, hr_25⟩ := iv_getf (j := 13) xm_250 xd_250_9 (by decide +kernel) ok (rfl : sv_ty 114 = some 12) dt_12 f_22.1 hr_21
    obtain ⟨n_26, e_27, hr_28⟩ := iv_ldc2 (v := 439854918756) (z := 0) xm_250 xd_250_12 (by decide +kernel) hr_25
    obtain ⟨n_29, e_30, hr_31⟩ := iv_lcmp xm_250 xd_250_15 hr_28
    rcases iv_if 67 xm_250 xd_250_16 (by decide) (sv_g_I (ae_lcmp_lt _ _)) hr_31 with ⟨c_32, n_33, e_34, hr_35⟩ | ⟨c_32, n_33, e_34, hr_35⟩
    · obtain ⟨n_36, e_37, hr_38⟩ := iv_iconst xm_250 xd_250_67 (by decide) hr_35
      have rr_39 := iv_ireturn xm_250 xd_250_68 hr_38
      subst rr_39
      exact ⟨_, Or.inr ⟨c_11, Or.inl ⟨c_32, ⟨rfl, rfl⟩⟩⟩, rfl, (by unfold sv_I; omega), ok⟩
    · obtain ⟨n_40, e_41, hr_42⟩ := iv_aload_n xm_250 xd_250_19 q0 hr_35
      have f_43 := dc_fl (j := 13) ok (rfl : sv_ty 114 = some 12) dt_12 rfl
      obtain ⟨n_44, e_45, hr_46⟩ := iv_getf (j := 13) xm_250 xd_250_20 (by decide +kernel) ok (rfl : sv_ty 114 = some 12) dt_12 f_43.1 hr_42
      obtain ⟨n_47, e_48, hr_49⟩ := iv_ldc2 (v := 422826041707) (z := 0) xm_250 xd_250_23 (by decide +kernel) hr_46
      obtain ⟨n_50, e_51, hr_52⟩ := iv_lcmp xm_250 xd_250_26 hr_49
      rcases iv_if 67 xm_250 xd_250_27 (by decide) (sv_g_I (ae_lcmp_lt _ _)) hr_52 with ⟨c_53, n_54, e_55, hr_56⟩ | ⟨c_53, n_54, e_55, hr_56⟩
      · obtain ⟨n_57, e_58, hr_59⟩ := iv_iconst xm_250 xd_250_67 (by decide) hr_56
        have rr_60 := iv_ireturn xm_250 xd_250_68 hr_59
        subst rr_60
        exact ⟨_, Or.inr ⟨c_11, Or.inr ⟨c_32, Or.inl ⟨c_53, ⟨rfl, rfl⟩⟩⟩⟩, rfl, (by unfold sv_I; omega), ok⟩
      · obtain ⟨n_61, e_62, hr_63⟩ := iv_aload_n xm_250 xd_250_30 q0 hr_56
        have f_64 := dc_fl (j := 13) ok (rfl : sv_ty 114 = some 12) dt_12 rfl
        obtain ⟨n_65, e_66, hr_67⟩ := iv_getf (j := 13) xm_250 xd_250_31 (by decide +kernel) ok (rfl : sv_ty 114 = some 12) dt_12 f_64.1 hr_63
        obtain ⟨n_68, e_69, hr_70⟩ := iv_ldc2 (v := 7566701) (z := 0) xm_250 xd_250_34 (by decide +kernel) hr_67
        obtain ⟨n_71, e_72, hr_73⟩ := iv_lcmp xm_250 xd_250_37 hr_70
        rcases iv_if 67 xm_250 xd_250_38 (by decide) (sv_g_I (ae_lcmp_lt _ _)) hr_73 with ⟨c_74, n_75, e_76, hr_77⟩ | ⟨c_74, n_75, e_76, hr_77⟩
        · obtain ⟨n_78, e_79, hr_80⟩ := iv_iconst xm_250 xd_250_67 (by decide) hr_77
          have rr_81 := iv_ireturn xm_250 xd_250_68 hr_80
          subst rr_81
          exact ⟨_, Or.inr ⟨c_11, Or.inr ⟨c_32, Or.inr ⟨c_53, Or.inl ⟨c_74, ⟨rfl, rfl⟩⟩⟩⟩⟩, rfl, (by unfold sv_I; omega), ok⟩
        · obtain ⟨n_82, e_83, hr_84⟩ := iv_aload_n xm_250 xd_250_41 q0 hr_77
          have f_85 := dc_fl (j := 13) ok (rfl : sv_ty 114 = some 12) dt_12 rfl
          obtain ⟨n_86, e_87, hr_88⟩ := iv_getf (j := 13) xm_250 xd_250_42 (by decide +kernel) ok (rfl : sv_ty 114 = some 12) dt_12 f_85.1 hr_84
          obtain ⟨n_89, e_90, hr_91⟩ := iv_ldc2 (v := 427071729268) (z := 0) xm_250 xd_250_45 (by decide +kernel) hr_88
          obtain ⟨n_92, e_93, hr_94⟩ := iv_lcmp xm_250 xd_250_48 hr_91
          rcases iv_if 67 xm_250 xd_250_49 (by decide) (sv_g_I (ae_lcmp_lt _ _)) hr_94 with ⟨c_95, n_96, e_97, hr_98⟩ | ⟨c_95, n_96, e_97, hr_98⟩
          · obtain ⟨n_99, e_100, hr_101⟩ := iv_iconst xm_250 xd_250_67 (by decide) hr_98
            have rr_102 := iv_ireturn xm_250 xd_250_68 hr_101
            subst rr_102
            exact ⟨_, Or.inr ⟨c_11, Or.inr ⟨c_32, Or.inr ⟨c_53, Or.inr ⟨c_74, Or.inl ⟨c_95, ⟨rfl, rfl⟩⟩⟩⟩⟩⟩, rfl, (by unfold sv_I; omega), ok⟩
          · obtain ⟨n_103, e_104, hr_105⟩ := iv_aload_n xm_250 xd_250_52 q0 hr_98
            have f_106 := dc_fl (j := 13) ok (rfl : sv_ty 114 = some 12) dt_12 rfl
            obtain ⟨n_107, e_108, hr_109⟩ := iv_getf (j := 13) xm_250 xd_250_53 (by decide +kernel) ok (rfl : sv_ty 114 = some 12) dt_12 f_106.1 hr_105
            obtain ⟨n_110, e_111, hr_112⟩ := iv_ldc2 (v := 1870030194) (z := 0) xm_250 xd_250_56 (by decide +kernel) hr_109
            obtain ⟨n_113, e_114, hr_115⟩ := iv_lcmp xm_250 xd_250_59 hr_112
            rcases iv_if 67 xm_250 xd_250_60 (by decide) (sv_g_I (ae_lcmp_lt _ _)) hr_115 with ⟨c_116, n_117, e_118, hr_119⟩ | ⟨c_116, n_117, e_118, hr_119⟩
            · obtain ⟨n_120, e_121, hr_122⟩ := iv_iconst xm_250 xd_250_67 (by decide) hr_119
              have rr_123 := iv_ireturn xm_250 xd_250_68 hr_122
              subst rr_123
              exact ⟨_, Or.inr ⟨c_11, Or.inr ⟨c_32, Or.inr ⟨c_53, Or.inr ⟨c_74, Or.inr ⟨c_95, Or.inl ⟨c_116, ⟨rfl, rfl⟩⟩⟩⟩⟩⟩⟩, rfl, (by unfold sv_I; omega), ok⟩
            · obtain ⟨n_124, e_125, hr_126⟩ := iv_iconst xm_250 xd_250_63 (by decide) hr_119
              obtain ⟨n_127, e_128, hr_129⟩ := iv_goto 68 xm_250 xd_250_64 (by decide) hr_126
              have rr_130 := iv_ireturn xm_250 xd_250_68 hr_129
              subst rr_130
              exact ⟨_, Or.inr ⟨c_11, Or.inr ⟨c_32, Or.inr ⟨c_53, Or.inr ⟨c_74, Or.inr ⟨c_95, Or.inr ⟨c_116, ⟨rfl, rfl⟩⟩⟩⟩⟩⟩⟩, rfl, (by unfold sv_I; omega), ok⟩
/-! method 251 -/
theorem xm_251 : ae_m 251 = some (wk_M 251) := rfl
theorem xd_251_0 : decode (wk_M 251).2.2.1 0 = .ok (.iconst 0, 1) := zd_by (by decide +kernel)
theorem xd_251_1 : decode (wk_M 251).2.2.1 1 = .ok (.istore_n 3, 1) := zd_by (by decide +kernel)
theorem xd_251_2 : decode (wk_M 251).2.2.1 2 = .ok (.iload_n 3, 1) := zd_by (by decide +kernel)
theorem xd_251_3 : decode (wk_M 251).2.2.1 3 = .ok (.aload_n 0, 1) := zd_by (by decide +kernel)
theorem xd_251_4 : decode (wk_M 251).2.2.1 4 = .ok (.getfield 121, 3) := zd_by (by decide +kernel)
theorem xd_251_7 : decode (wk_M 251).2.2.1 7 = .ok (.iconst 1, 1) := zd_by (by decide +kernel)
theorem xd_251_8 : decode (wk_M 251).2.2.1 8 = .ok (.iaload, 1) := zd_by (by decide +kernel)
theorem xd_251_9 : decode (wk_M 251).2.2.1 9 = .ok (.if_icmp .ge 25, 3) := zd_by (by decide +kernel)
theorem xd_251_12 : decode (wk_M 251).2.2.1 12 = .ok (.aload_n 0, 1) := zd_by (by decide +kernel)
theorem xd_251_13 : decode (wk_M 251).2.2.1 13 = .ok (.getfield 148, 3) := zd_by (by decide +kernel)
theorem xd_251_16 : decode (wk_M 251).2.2.1 16 = .ok (.bipush 6, 2) := zd_by (by decide +kernel)
theorem xd_251_18 : decode (wk_M 251).2.2.1 18 = .ok (.iload_n 3, 1) := zd_by (by decide +kernel)
theorem xd_251_19 : decode (wk_M 251).2.2.1 19 = .ok (.iadd, 1) := zd_by (by decide +kernel)
theorem xd_251_20 : decode (wk_M 251).2.2.1 20 = .ok (.laload, 1) := zd_by (by decide +kernel)
theorem xd_251_21 : decode (wk_M 251).2.2.1 21 = .ok (.lload_n 1, 1) := zd_by (by decide +kernel)
theorem xd_251_22 : decode (wk_M 251).2.2.1 22 = .ok (.lcmp, 1) := zd_by (by decide +kernel)
theorem xd_251_23 : decode (wk_M 251).2.2.1 23 = .ok (.ifCond .ne 5, 3) := zd_by (by decide +kernel)
theorem xd_251_26 : decode (wk_M 251).2.2.1 26 = .ok (.iload_n 3, 1) := zd_by (by decide +kernel)
theorem xd_251_27 : decode (wk_M 251).2.2.1 27 = .ok (.ireturn, 1) := zd_by (by decide +kernel)
theorem xd_251_28 : decode (wk_M 251).2.2.1 28 = .ok (.iinc 3 1, 3) := zd_by (by decide +kernel)
theorem xd_251_31 : decode (wk_M 251).2.2.1 31 = .ok (.goto (-29), 3) := zd_by (by decide +kernel)
theorem xd_251_34 : decode (wk_M 251).2.2.1 34 = .ok (.iconst (-1), 1) := zd_by (by decide +kernel)
theorem xd_251_35 : decode (wk_M 251).2.2.1 35 = .ok (.ireturn, 1) := zd_by (by decide +kernel)
def LM_251 (y0 : Nat) : Nat → Nat → Int → dc_M → Int → dc_M → Prop
  | 0, _, _, _, _, _ => False
  | c + 1, tag, l3, m, v, m' => match tag with
    | _ => (0 ≤ (1 : Int) ∧ (1 : Int) < 2) ∧ ((((l3 : Int) ≥ (m 151 1) ∧ (v = (-1) ∧ m' = m)) ∨ (¬ ((l3 : Int) ≥ (m 151 1)) ∧ ((0 ≤ ((dc_w (6 + l3)) : Int) ∧ ((dc_w (6 + l3)) : Int) < 12) ∧ (((((sv_g (ae_lcmp (m 160 (dc_w (6 + l3))).toNat y0)) : Int) ≠ 0 ∧ (LM_251 y0 c 2 (dc_w (l3 + 1)) m v m')) ∨ (¬ (((sv_g (ae_lcmp (m 160 (dc_w (6 + l3))).toNat y0)) : Int) ≠ 0) ∧ (v = l3 ∧ m' = m))))))))
theorem lm_251_2 {y0 : Nat} {c : Nat} {l3 : Int} {m : dc_M} {v : Int} {m' : dc_M} : LM_251 y0 (c + 1) 2 l3 m v m' ↔ (0 ≤ (1 : Int) ∧ (1 : Int) < 2) ∧ ((((l3 : Int) ≥ (m 151 1) ∧ (v = (-1) ∧ m' = m)) ∨ (¬ ((l3 : Int) ≥ (m 151 1)) ∧ ((0 ≤ ((dc_w (6 + l3)) : Int) ∧ ((dc_w (6 + l3)) : Int) < 12) ∧ (((((sv_g (ae_lcmp (m 160 (dc_w (6 + l3))).toNat y0)) : Int) ≠ 0 ∧ (LM_251 y0 c 2 (dc_w (l3 + 1)) m v m')) ∨ (¬ (((sv_g (ae_lcmp (m 160 (dc_w (6 + l3))).toNat y0)) : Int) ≠ 0) ∧ (v = l3 ∧ m' = m)))))))) := Iff.rfl
theorem dl_251 {y0 : Nat} (iy0 : y0 < 18446744073709551616) : ∀ N : Nat, (∀ (n : Nat) (lv : ae_L) (h : ae_H) (r : ae_R) (l3 : Int), n ≤ N → dc_ok h → sv_I l3 → ae_lk lv 0 = some (wk_r 114) → ae_lk lv 1 = some (wk_l y0) → ae_lk lv 3 = some (wk_i l3) → ae_exe n 251 2 0 0 lv [] h = some r → ∃ v, (∃ c, LM_251 y0 c 2 l3 (dc_m h) v (dc_m r.2)) ∧ r.1 = some (wk_i v) ∧ sv_I v ∧ dc_ok r.2) := by
  intro N
  induction N with
  | zero =>
    exact fun n lv h r l3 hn ok il3 q0 q1 q3 hr => by
      have e : n = 0 := by omega
      subst e
      cases hr
  | succ N ih =>
    have ih0 := ih
    intro n lv h r l3 hn ok il3 q0 q1 q3 hr
    obtain ⟨n_1, e_2, hr_3⟩ := iv_iload_n xm_251 xd_251_2 q3 hr
    obtain ⟨n_4, e_5, hr_6⟩ := iv_aload_n xm_251 xd_251_3 q0 hr_3
    have f_7 := dc_fr (j := 62) ok (rfl : sv_ty 114 = some 12) dt_12 rfl
    obtain ⟨n_8, e_9, hr_10⟩ := iv_getf (j := 62) xm_251 xd_251_4 (by decide +kernel) ok (rfl : sv_ty 114 = some 12) dt_12 f_7 hr_6
    obtain ⟨n_11, e_12, hr_13⟩ := iv_iconst xm_251 xd_251_7 (by decide) hr_10
    obtain ⟨q_14, qi_15, n_16, e_17, hr_18⟩ := iv_iald xm_251 xd_251_8 ok (rfl : sv_ty 151 = some 88) dt_88 (by decide) (by unfold sv_I; omega) hr_13
    rcases iv_icmp 34 xm_251 xd_251_9 (by decide) il3 qi_15 hr_18 with ⟨c_19, n_20, e_21, hr_22⟩ | ⟨c_19, n_20, e_21, hr_22⟩
    · obtain ⟨n_23, e_24, hr_25⟩ := iv_iconst xm_251 xd_251_34 (by decide) hr_22
      have rr_26 := iv_ireturn xm_251 xd_251_35 hr_25
      subst rr_26
      exact ⟨_, ⟨0 + 1, lm_251_2.mpr (⟨q_14, Or.inl ⟨c_19, ⟨rfl, rfl⟩⟩⟩)⟩, rfl, (by unfold sv_I; omega), ok⟩
    · obtain ⟨n_27, e_28, hr_29⟩ := iv_aload_n xm_251 xd_251_12 q0 hr_22
      have f_30 := dc_fr (j := 71) ok (rfl : sv_ty 114 = some 12) dt_12 rfl
      obtain ⟨n_31, e_32, hr_33⟩ := iv_getf (j := 71) xm_251 xd_251_13 (by decide +kernel) ok (rfl : sv_ty 114 = some 12) dt_12 f_30 hr_29
      obtain ⟨n_34, e_35, hr_36⟩ := iv_bipush xm_251 xd_251_16 (by decide) hr_33
      obtain ⟨n_37, e_38, hr_39⟩ := iv_iload_n xm_251 xd_251_18 q3 hr_36
      obtain ⟨n_40, e_41, hr_42⟩ := iw_iadd xm_251 xd_251_19 hr_39
      obtain ⟨q_43, qi_44, n_45, e_46, hr_47⟩ := iv_lald xm_251 xd_251_20 ok (rfl : sv_ty 160 = some 97) dt_97 (by decide) (dc_w_I _) hr_42
      obtain ⟨n_48, e_49, hr_50⟩ := iv_lload_n xm_251 xd_251_21 q1 hr_47
      obtain ⟨n_51, e_52, hr_53⟩ := iv_lcmp xm_251 xd_251_22 hr_50
      rcases iv_if 28 xm_251 xd_251_23 (by decide) (sv_g_I (ae_lcmp_lt _ _)) hr_53 with ⟨c_54, n_55, e_56, hr_57⟩ | ⟨c_54, n_55, e_56, hr_57⟩
      · obtain ⟨lv_59, sl_58, n_60, e_61, hr_62⟩ := iw_iinc xm_251 xd_251_28 (by decide +kernel) (by decide) q3 hr_57
        have l_63 := sl_58.2 0 _ q0 (by decide) (Or.inl rfl)
        have l_64 := sl_58.2 1 _ q1 (by decide) (Or.inr (by decide))
        have l_65 := sl_58.1
        obtain ⟨n_66, e_67, hr_68⟩ := iv_goto 2 xm_251 xd_251_31 (by decide) hr_62
        obtain ⟨v, ⟨c, hL⟩, e1, e2, e3⟩ := ih0 _ lv_59 h _ _ (by omega) ok (dc_w_I _) l_63 l_64 l_65 hr_68
        exact ⟨v, ⟨c + 1, lm_251_2.mpr (⟨q_14, Or.inr ⟨c_19, ⟨q_43, Or.inl ⟨c_54, hL⟩⟩⟩⟩)⟩, e1, e2, e3⟩
      · obtain ⟨n_69, e_70, hr_71⟩ := iv_iload_n xm_251 xd_251_26 q3 hr_57
        have rr_72 := iv_ireturn xm_251 xd_251_27 hr_71
        subst rr_72
        exact ⟨_, ⟨0 + 1, lm_251_2.mpr (⟨q_14, Or.inr ⟨c_19, ⟨q_43, Or.inr ⟨c_54, ⟨rfl, rfl⟩⟩⟩⟩⟩)⟩, rfl, il3, ok⟩
abbrev D_251 (y0 : Nat) (m : dc_M) (v : Int) (m' : dc_M) : Prop := ∃ c, LM_251 y0 c 2 0 m v m'
theorem ds_251 (n : Nat) (y0 : Nat) {h : ae_H} {r : ae_R} (ok : dc_ok h) (iy0 : y0 < 18446744073709551616) (hr : ae_exe n 251 0 0 0 (ae_args [wk_r 114, wk_l y0] 0) [] h = some r) : ∃ v, D_251 y0 (dc_m h) v (dc_m r.2) ∧ r.1 = some (wk_i v) ∧ sv_I v ∧ dc_ok r.2 := by
  have q0 : ae_lk (ae_args [wk_r 114, wk_l y0] 0) 0 = some (wk_r 114) := rfl
  have q1 : ae_lk (ae_args [wk_r 114, wk_l y0] 0) 1 = some (wk_l y0) := rfl
  obtain ⟨n_73, e_74, hr_75⟩ := iv_iconst xm_251 xd_251_0 (by decide) hr
  obtain ⟨lv_77, sl_76, n_78, e_79, hr_80⟩ := iv_istore_n xm_251 xd_251_1 (by decide +kernel) hr_75
  have l_81 := sl_76.2 0 _ q0 (by decide) (Or.inl rfl)
  have l_82 := sl_76.2 1 _ q1 (by decide) (Or.inr (by decide))
  have l_83 := sl_76.1
  obtain ⟨v, ⟨c, hL⟩, e1, e2, e3⟩ := (dl_251 iy0 _) _ lv_77 h _ _ (Nat.le_refl _) ok (by unfold sv_I; omega) l_81 l_82 l_83 hr_80
  exact ⟨v, ⟨_, hL⟩, e1, e2, e3⟩
/-! method 253 -/
theorem xm_253 : ae_m 253 = some (wk_M 253) := rfl
theorem xd_253_0 : decode (wk_M 253).2.2.1 0 = .ok (.aload_n 0, 1) := zd_by (by decide +kernel)
theorem xd_253_1 : decode (wk_M 253).2.2.1 1 = .ok (.invokevirtual 262, 3) := zd_by (by decide +kernel)
theorem xd_253_4 : decode (wk_M 253).2.2.1 4 = .ok (.aload_n 0, 1) := zd_by (by decide +kernel)
theorem xd_253_5 : decode (wk_M 253).2.2.1 5 = .ok (.invokevirtual 482, 3) := zd_by (by decide +kernel)
theorem xd_253_8 : decode (wk_M 253).2.2.1 8 = .ok (.ifCond .ne 13, 3) := zd_by (by decide +kernel)
theorem xd_253_11 : decode (wk_M 253).2.2.1 11 = .ok (.aload_n 0, 1) := zd_by (by decide +kernel)
theorem xd_253_12 : decode (wk_M 253).2.2.1 12 = .ok (.iconst 1, 1) := zd_by (by decide +kernel)
theorem xd_253_13 : decode (wk_M 253).2.2.1 13 = .ok (.aload_n 0, 1) := zd_by (by decide +kernel)
theorem xd_253_14 : decode (wk_M 253).2.2.1 14 = .ok (.getfield 230, 3) := zd_by (by decide +kernel)
theorem xd_253_17 : decode (wk_M 253).2.2.1 17 = .ok (.invokevirtual 258, 3) := zd_by (by decide +kernel)
theorem xd_253_20 : decode (wk_M 253).2.2.1 20 = .ok (.ireturn, 1) := zd_by (by decide +kernel)
theorem xd_253_21 : decode (wk_M 253).2.2.1 21 = .ok (.aload_n 0, 1) := zd_by (by decide +kernel)
theorem xd_253_22 : decode (wk_M 253).2.2.1 22 = .ok (.aload_n 0, 1) := zd_by (by decide +kernel)
theorem xd_253_23 : decode (wk_M 253).2.2.1 23 = .ok (.getfield 239, 3) := zd_by (by decide +kernel)
theorem xd_253_26 : decode (wk_M 253).2.2.1 26 = .ok (.invokevirtual 485, 3) := zd_by (by decide +kernel)
theorem xd_253_29 : decode (wk_M 253).2.2.1 29 = .ok (.ifCond .lt 13, 3) := zd_by (by decide +kernel)
theorem xd_253_32 : decode (wk_M 253).2.2.1 32 = .ok (.aload_n 0, 1) := zd_by (by decide +kernel)
theorem xd_253_33 : decode (wk_M 253).2.2.1 33 = .ok (.iconst 3, 1) := zd_by (by decide +kernel)
theorem xd_253_34 : decode (wk_M 253).2.2.1 34 = .ok (.aload_n 0, 1) := zd_by (by decide +kernel)
theorem xd_253_35 : decode (wk_M 253).2.2.1 35 = .ok (.getfield 230, 3) := zd_by (by decide +kernel)
theorem xd_253_38 : decode (wk_M 253).2.2.1 38 = .ok (.invokevirtual 258, 3) := zd_by (by decide +kernel)
theorem xd_253_41 : decode (wk_M 253).2.2.1 41 = .ok (.ireturn, 1) := zd_by (by decide +kernel)
theorem xd_253_42 : decode (wk_M 253).2.2.1 42 = .ok (.bipush 6, 2) := zd_by (by decide +kernel)
theorem xd_253_44 : decode (wk_M 253).2.2.1 44 = .ok (.aload_n 0, 1) := zd_by (by decide +kernel)
theorem xd_253_45 : decode (wk_M 253).2.2.1 45 = .ok (.getfield 121, 3) := zd_by (by decide +kernel)
theorem xd_253_48 : decode (wk_M 253).2.2.1 48 = .ok (.iconst 1, 1) := zd_by (by decide +kernel)
theorem xd_253_49 : decode (wk_M 253).2.2.1 49 = .ok (.iaload, 1) := zd_by (by decide +kernel)
theorem xd_253_50 : decode (wk_M 253).2.2.1 50 = .ok (.iadd, 1) := zd_by (by decide +kernel)
theorem xd_253_51 : decode (wk_M 253).2.2.1 51 = .ok (.istore_n 1, 1) := zd_by (by decide +kernel)
theorem xd_253_52 : decode (wk_M 253).2.2.1 52 = .ok (.aload_n 0, 1) := zd_by (by decide +kernel)
theorem xd_253_53 : decode (wk_M 253).2.2.1 53 = .ok (.getfield 239, 3) := zd_by (by decide +kernel)
theorem xd_253_56 : decode (wk_M 253).2.2.1 56 = .ok (.lstore_n 2, 1) := zd_by (by decide +kernel)
theorem xd_253_57 : decode (wk_M 253).2.2.1 57 = .ok (.aload_n 0, 1) := zd_by (by decide +kernel)
theorem xd_253_58 : decode (wk_M 253).2.2.1 58 = .ok (.invokevirtual 262, 3) := zd_by (by decide +kernel)
theorem xd_253_61 : decode (wk_M 253).2.2.1 61 = .ok (.aload_n 0, 1) := zd_by (by decide +kernel)
theorem xd_253_62 : decode (wk_M 253).2.2.1 62 = .ok (.iconst 1, 1) := zd_by (by decide +kernel)
theorem xd_253_63 : decode (wk_M 253).2.2.1 63 = .ok (.bipush 20, 2) := zd_by (by decide +kernel)
theorem xd_253_65 : decode (wk_M 253).2.2.1 65 = .ok (.invokevirtual 330, 3) := zd_by (by decide +kernel)
theorem xd_253_68 : decode (wk_M 253).2.2.1 68 = .ok (.ifCond .ne 5, 3) := zd_by (by decide +kernel)
theorem xd_253_71 : decode (wk_M 253).2.2.1 71 = .ok (.iconst 0, 1) := zd_by (by decide +kernel)
theorem xd_253_72 : decode (wk_M 253).2.2.1 72 = .ok (.ireturn, 1) := zd_by (by decide +kernel)
theorem xd_253_73 : decode (wk_M 253).2.2.1 73 = .ok (.aload_n 0, 1) := zd_by (by decide +kernel)
theorem xd_253_74 : decode (wk_M 253).2.2.1 74 = .ok (.getfield 124, 3) := zd_by (by decide +kernel)
theorem xd_253_77 : decode (wk_M 253).2.2.1 77 = .ok (.iload_n 1, 1) := zd_by (by decide +kernel)
theorem xd_253_78 : decode (wk_M 253).2.2.1 78 = .ok (.aload_n 0, 1) := zd_by (by decide +kernel)
theorem xd_253_79 : decode (wk_M 253).2.2.1 79 = .ok (.getfield 265, 3) := zd_by (by decide +kernel)
theorem xd_253_82 : decode (wk_M 253).2.2.1 82 = .ok (.iastore, 1) := zd_by (by decide +kernel)
theorem xd_253_83 : decode (wk_M 253).2.2.1 83 = .ok (.aload_n 0, 1) := zd_by (by decide +kernel)
theorem xd_253_84 : decode (wk_M 253).2.2.1 84 = .ok (.aload_n 0, 1) := zd_by (by decide +kernel)
theorem xd_253_85 : decode (wk_M 253).2.2.1 85 = .ok (.getfield 265, 3) := zd_by (by decide +kernel)
theorem xd_253_88 : decode (wk_M 253).2.2.1 88 = .ok (.aload_n 0, 1) := zd_by (by decide +kernel)
theorem xd_253_89 : decode (wk_M 253).2.2.1 89 = .ok (.getfield 265, 3) := zd_by (by decide +kernel)
theorem xd_253_92 : decode (wk_M 253).2.2.1 92 = .ok (.iconst 5, 1) := zd_by (by decide +kernel)
theorem xd_253_93 : decode (wk_M 253).2.2.1 93 = .ok (.iadd, 1) := zd_by (by decide +kernel)
theorem xd_253_94 : decode (wk_M 253).2.2.1 94 = .ok (.bipush 20, 2) := zd_by (by decide +kernel)
theorem xd_253_96 : decode (wk_M 253).2.2.1 96 = .ok (.if_icmp .ge 12, 3) := zd_by (by decide +kernel)
theorem xd_253_99 : decode (wk_M 253).2.2.1 99 = .ok (.aload_n 0, 1) := zd_by (by decide +kernel)
theorem xd_253_100 : decode (wk_M 253).2.2.1 100 = .ok (.getfield 265, 3) := zd_by (by decide +kernel)
theorem xd_253_103 : decode (wk_M 253).2.2.1 103 = .ok (.iconst 5, 1) := zd_by (by decide +kernel)
theorem xd_253_104 : decode (wk_M 253).2.2.1 104 = .ok (.iadd, 1) := zd_by (by decide +kernel)
theorem xd_253_105 : decode (wk_M 253).2.2.1 105 = .ok (.goto 5, 3) := zd_by (by decide +kernel)
theorem xd_253_108 : decode (wk_M 253).2.2.1 108 = .ok (.bipush 20, 2) := zd_by (by decide +kernel)
theorem xd_253_110 : decode (wk_M 253).2.2.1 110 = .ok (.invokevirtual 330, 3) := zd_by (by decide +kernel)
theorem xd_253_113 : decode (wk_M 253).2.2.1 113 = .ok (.ifCond .ne 5, 3) := zd_by (by decide +kernel)
theorem xd_253_116 : decode (wk_M 253).2.2.1 116 = .ok (.iconst 0, 1) := zd_by (by decide +kernel)
theorem xd_253_117 : decode (wk_M 253).2.2.1 117 = .ok (.ireturn, 1) := zd_by (by decide +kernel)
theorem xd_253_118 : decode (wk_M 253).2.2.1 118 = .ok (.aload_n 0, 1) := zd_by (by decide +kernel)
theorem xd_253_119 : decode (wk_M 253).2.2.1 119 = .ok (.getfield 127, 3) := zd_by (by decide +kernel)
theorem xd_253_122 : decode (wk_M 253).2.2.1 122 = .ok (.iload_n 1, 1) := zd_by (by decide +kernel)
theorem xd_253_123 : decode (wk_M 253).2.2.1 123 = .ok (.aload_n 0, 1) := zd_by (by decide +kernel)
theorem xd_253_124 : decode (wk_M 253).2.2.1 124 = .ok (.getfield 265, 3) := zd_by (by decide +kernel)
theorem xd_253_127 : decode (wk_M 253).2.2.1 127 = .ok (.iastore, 1) := zd_by (by decide +kernel)
theorem xd_253_128 : decode (wk_M 253).2.2.1 128 = .ok (.aload_n 0, 1) := zd_by (by decide +kernel)
theorem xd_253_129 : decode (wk_M 253).2.2.1 129 = .ok (.getfield 148, 3) := zd_by (by decide +kernel)
theorem xd_253_132 : decode (wk_M 253).2.2.1 132 = .ok (.iload_n 1, 1) := zd_by (by decide +kernel)
theorem xd_253_133 : decode (wk_M 253).2.2.1 133 = .ok (.lload_n 2, 1) := zd_by (by decide +kernel)
theorem xd_253_134 : decode (wk_M 253).2.2.1 134 = .ok (.lastore, 1) := zd_by (by decide +kernel)
theorem xd_253_135 : decode (wk_M 253).2.2.1 135 = .ok (.aload_n 0, 1) := zd_by (by decide +kernel)
theorem xd_253_136 : decode (wk_M 253).2.2.1 136 = .ok (.getfield 121, 3) := zd_by (by decide +kernel)
theorem xd_253_139 : decode (wk_M 253).2.2.1 139 = .ok (.iconst 1, 1) := zd_by (by decide +kernel)
theorem xd_253_140 : decode (wk_M 253).2.2.1 140 = .ok (.dup2, 1) := zd_by (by decide +kernel)
theorem xd_253_141 : decode (wk_M 253).2.2.1 141 = .ok (.iaload, 1) := zd_by (by decide +kernel)
theorem xd_253_142 : decode (wk_M 253).2.2.1 142 = .ok (.iconst 1, 1) := zd_by (by decide +kernel)
theorem xd_253_143 : decode (wk_M 253).2.2.1 143 = .ok (.iadd, 1) := zd_by (by decide +kernel)
theorem xd_253_144 : decode (wk_M 253).2.2.1 144 = .ok (.iastore, 1) := zd_by (by decide +kernel)
theorem xd_253_145 : decode (wk_M 253).2.2.1 145 = .ok (.iconst 1, 1) := zd_by (by decide +kernel)
theorem xd_253_146 : decode (wk_M 253).2.2.1 146 = .ok (.ireturn, 1) := zd_by (by decide +kernel)
abbrev D_253  (m : dc_M) (v : Int) (m' : dc_M) : Prop := ∃ v_6 m_11, D_198 m v_6 m_11 ∧ (∃ v_22 m_27, D_250 m_11 v_22 m_27 ∧ ((((v_22 : Int) ≠ 0 ∧ (∃ v_49 m_54, D_251 ((m_27 114 13).toNat) m_27 v_49 m_54 ∧ ((((v_49 : Int) < 0 ∧ ((0 ≤ (1 : Int) ∧ (1 : Int) < 2) ∧ (∃ v_112 m_117, D_198 m_54 v_112 m_117 ∧ (∃ v_134 m_139, D_201 1 20 m_117 v_134 m_139 ∧ ((((v_134 : Int) ≠ 0 ∧ ((0 ≤ ((dc_w (6 + (m_54 151 1))) : Int) ∧ ((dc_w (6 + (m_54 151 1))) : Int) < 12) ∧ ∃ m_170, m_170 = dc_up m_139 152 (dc_w (6 + (m_54 151 1))) (m_139 114 14) ∧ (((((dc_w ((m_170 114 14) + 5)) : Int) ≥ 20 ∧ (∃ v_209 m_214, D_201 ((m_170 114 14)) 20 m_170 v_209 m_214 ∧ ((((v_209 : Int) ≠ 0 ∧ ((0 ≤ ((dc_w (6 + (m_54 151 1))) : Int) ∧ ((dc_w (6 + (m_54 151 1))) : Int) < 12) ∧ ∃ m_245, m_245 = dc_up m_214 153 (dc_w (6 + (m_54 151 1))) (m_214 114 14) ∧ ((0 ≤ ((dc_w (6 + (m_54 151 1))) : Int) ∧ ((dc_w (6 + (m_54 151 1))) : Int) < 12) ∧ ∃ m_266, m_266 = dc_up m_245 160 (dc_w (6 + (m_54 151 1))) (((m_54 114 13).toNat : Nat) : Int) ∧ ((0 ≤ (1 : Int) ∧ (1 : Int) < 2) ∧ ((0 ≤ (1 : Int) ∧ (1 : Int) < 2) ∧ ∃ m_298, m_298 = dc_up m_266 151 1 (dc_w ((m_266 151 1) + 1)) ∧ (v = 1 ∧ m' = m_298)))))) ∨ (¬ ((v_209 : Int) ≠ 0) ∧ (v = 0 ∧ m' = m_214)))))) ∨ (¬ (((dc_w ((m_170 114 14) + 5)) : Int) ≥ 20) ∧ (∃ v_328 m_333, D_201 ((m_170 114 14)) ((dc_w ((m_170 114 14) + 5))) m_170 v_328 m_333 ∧ ((((v_328 : Int) ≠ 0 ∧ ((0 ≤ ((dc_w (6 + (m_54 151 1))) : Int) ∧ ((dc_w (6 + (m_54 151 1))) : Int) < 12) ∧ ∃ m_364, m_364 = dc_up m_333 153 (dc_w (6 + (m_54 151 1))) (m_333 114 14) ∧ ((0 ≤ ((dc_w (6 + (m_54 151 1))) : Int) ∧ ((dc_w (6 + (m_54 151 1))) : Int) < 12) ∧ ∃ m_385, m_385 = dc_up m_364 160 (dc_w (6 + (m_54 151 1))) (((m_54 114 13).toNat : Nat) : Int) ∧ ((0 ≤ (1 : Int) ∧ (1 : Int) < 2) ∧ ((0 ≤ (1 : Int) ∧ (1 : Int) < 2) ∧ ∃ m_417, m_417 = dc_up m_385 151 1 (dc_w ((m_385 151 1) + 1)) ∧ (v = 1 ∧ m' = m_417)))))) ∨ (¬ ((v_328 : Int) ≠ 0) ∧ (v = 0 ∧ m' = m_333)))))))))) ∨ (¬ ((v_134 : Int) ≠ 0) ∧ (v = 0 ∧ m' = m_139)))))))) ∨ (¬ ((v_49 : Int) < 0) ∧ (∃ v_448 m_453, D_199 3 ((m_54 114 8)) m_54 v_448 m_453 ∧ (v = v_448 ∧ m' = m_453))))))) ∨ (¬ ((v_22 : Int) ≠ 0) ∧ (∃ v_475 m_480, D_199 1 ((m_27 114 8)) m_27 v_475 m_480 ∧ (v = v_475 ∧ m' = m_480))))))
theorem ds_253 (n : Nat)  {h : ae_H} {r : ae_R} (ok : dc_ok h)  (hr : ae_exe n 253 0 0 0 (ae_args [wk_r 114] 0) [] h = some r) : ∃ v, D_253  (dc_m h) v (dc_m r.2) ∧ r.1 = some (wk_i v) ∧ sv_I v ∧ dc_ok r.2 := by
  have q0 : ae_lk (ae_args [wk_r 114] 0) 0 = some (wk_r 114) := rfl
  obtain ⟨n_1, e_2, hr_3⟩ := iv_aload_n xm_253 xd_253_0 q0 hr
  obtain ⟨n_13, r_4, e_14, hc_5, hr_15⟩ := iv_call (Or.inr ⟨rfl, rfl⟩) xm_253 xd_253_1 (by decide +kernel) xm_198 rfl (by decide +kernel) hr_3
  obtain ⟨v_6, d_7, er_8, iv_9, ok_10⟩ := ds_198 _  ok hc_5
  obtain ⟨_, h_12⟩ := r_4
  have er_8 : _ = none := er_8
  subst er_8
  have hr_16 : ae_exe n_13 253 (1 + 3) 0 0 (ae_args [wk_r 114] 0) _ h_12 = some r := hr_15
  obtain ⟨n_17, e_18, hr_19⟩ := iv_aload_n xm_253 xd_253_4 q0 hr_16
  obtain ⟨n_29, r_20, e_30, hc_21, hr_31⟩ := iv_call (Or.inr ⟨rfl, rfl⟩) xm_253 xd_253_5 (by decide +kernel) xm_250 rfl (by decide +kernel) hr_19
  obtain ⟨v_22, d_23, er_24, iv_25, ok_26⟩ := ds_250 _  ok_10 hc_21
  obtain ⟨_, h_28⟩ := r_20
  have er_24 : _ = some (wk_i v_22) := er_24
  subst er_24
  have hr_32 : ae_exe n_29 253 (5 + 3) 0 0 (ae_args [wk_r 114] 0) _ h_28 = some r := hr_31
  rcases iv_if 21 xm_253 xd_253_8 (by decide) iv_25 hr_32 with ⟨c_33, n_34, e_35, hr_36⟩ | ⟨c_33, n_34, e_35, hr_36⟩
  · obtain ⟨n_37, e_38, hr_39⟩ := iv_aload_n xm_253 xd_253_21 q0 hr_36
    obtain ⟨n_40, e_41, hr_42⟩ := iv_aload_n xm_253 xd_253_22 q0 hr_39
    have f_43 := dc_fl (j := 13) ok_26 (rfl : sv_ty 114 = some 12) dt_12 rfl
    obtain ⟨n_44, e_45, hr_46⟩ := iv_getf (j := 13) xm_253 xd_253_23 (by decide +kernel) ok_26 (rfl : sv_ty 114 = some 12) dt_12 f_43.1 hr_42
    obtain ⟨n_56, r_47, e_57, hc_48, hr_58⟩ := iv_call (Or.inr ⟨rfl, rfl⟩) xm_253 xd_253_26 (by decide +kernel) xm_251 rfl (by decide +kernel) hr_46
    obtain ⟨v_49, d_50, er_51, iv_52, ok_53⟩ := ds_251 _ _ ok_26 f_43.2 hc_48
    obtain ⟨_, h_55⟩ := r_47
    have er_51 : _ = some (wk_i v_49) := er_51
    subst er_51
    have hr_59 : ae_exe n_56 253 (26 + 3) 0 0 (ae_args [wk_r 114] 0) _ h_55 = some r := hr_58
    rcases iv_if 42 xm_253 xd_253_29 (by decide) iv_52 hr_59 with ⟨c_60, n_61, e_62, hr_63⟩ | ⟨c_60, n_61, e_62, hr_63⟩
    · obtain ⟨n_64, e_65, hr_66⟩ := iv_bipush xm_253 xd_253_42 (by decide) hr_63
      obtain ⟨n_67, e_68, hr_69⟩ := iv_aload_n xm_253 xd_253_44 q0 hr_66
      have f_70 := dc_fr (j := 62) ok_53 (rfl : sv_ty 114 = some 12) dt_12 rfl
      obtain ⟨n_71, e_72, hr_73⟩ := iv_getf (j := 62) xm_253 xd_253_45 (by decide +kernel) ok_53 (rfl : sv_ty 114 = some 12) dt_12 f_70 hr_69
      obtain ⟨n_74, e_75, hr_76⟩ := iv_iconst xm_253 xd_253_48 (by decide) hr_73
      obtain ⟨q_77, qi_78, n_79, e_80, hr_81⟩ := iv_iald xm_253 xd_253_49 ok_53 (rfl : sv_ty 151 = some 88) dt_88 (by decide) (by unfold sv_I; omega) hr_76
      obtain ⟨n_82, e_83, hr_84⟩ := iw_iadd xm_253 xd_253_50 hr_81
      obtain ⟨lv_86, sl_85, n_87, e_88, hr_89⟩ := iv_istore_n xm_253 xd_253_51 (by decide +kernel) hr_84
      have l_90 := sl_85.2 0 _ q0 (by decide) (Or.inl rfl)
      have l_91 := sl_85.1
      obtain ⟨n_92, e_93, hr_94⟩ := iv_aload_n xm_253 xd_253_52 l_90 hr_89
      have f_95 := dc_fl (j := 13) ok_53 (rfl : sv_ty 114 = some 12) dt_12 rfl
      obtain ⟨n_96, e_97, hr_98⟩ := iv_getf (j := 13) xm_253 xd_253_53 (by decide +kernel) ok_53 (rfl : sv_ty 114 = some 12) dt_12 f_95.1 hr_94
      obtain ⟨lv_100, sl_99, n_101, e_102, hr_103⟩ := iv_lstore_n xm_253 xd_253_56 (by decide +kernel) hr_98
      have l_104 := sl_99.2 0 _ l_90 (by decide) (by decide) (Or.inl rfl)
      have l_105 := sl_99.2 1 _ l_91 (by decide) (by decide) (Or.inl rfl)
      have l_106 := sl_99.1
      obtain ⟨n_107, e_108, hr_109⟩ := iv_aload_n xm_253 xd_253_57 l_104 hr_103
      obtain ⟨n_119, r_110, e_120, hc_111, hr_121⟩ := iv_call (Or.inr ⟨rfl, rfl⟩) xm_253 xd_253_58 (by decide +kernel) xm_198 rfl (by decide +kernel) hr_109
      obtain ⟨v_112, d_113, er_114, iv_115, ok_116⟩ := ds_198 _  ok_53 hc_111
      obtain ⟨_, h_118⟩ := r_110
      have er_114 : _ = none := er_114
      subst er_114
      have hr_122 : ae_exe n_119 253 (58 + 3) 0 0 lv_100 _ h_118 = some r := hr_121
      obtain ⟨n_123, e_124, hr_125⟩ := iv_aload_n xm_253 xd_253_61 l_104 hr_122
      obtain ⟨n_126, e_127, hr_128⟩ := iv_iconst xm_253 xd_253_62 (by decide) hr_125
      obtain ⟨n_129, e_130, hr_131⟩ := iv_bipush xm_253 xd_253_63 (by decide) hr_128
      obtain ⟨n_141, r_132, e_142, hc_133, hr_143⟩ := iv_call (Or.inr ⟨rfl, rfl⟩) xm_253 xd_253_65 (by decide +kernel) xm_201 rfl (by decide +kernel) hr_131
      obtain ⟨v_134, d_135, er_136, iv_137, ok_138⟩ := ds_201 _ _ _ ok_116 (by unfold sv_I; omega) (by unfold sv_I; omega) hc_133
      obtain ⟨_, h_140⟩ := r_132
      have er_136 : _ = some (wk_i v_134) := er_136
      subst er_136
      have hr_144 : ae_exe n_141 253 (65 + 3) 0 0 lv_100 _ h_140 = some r := hr_143
      rcases iv_if 73 xm_253 xd_253_68 (by decide) iv_137 hr_144 with ⟨c_145, n_146, e_147, hr_148⟩ | ⟨c_145, n_146, e_147, hr_148⟩
      · obtain ⟨n_149, e_150, hr_151⟩ := iv_aload_n xm_253 xd_253_73 l_104 hr_148
        have f_152 := dc_fr (j := 63) ok_138 (rfl : sv_ty 114 = some 12) dt_12 rfl
        obtain ⟨n_153, e_154, hr_155⟩ := iv_getf (j := 63) xm_253 xd_253_74 (by decide +kernel) ok_138 (rfl : sv_ty 114 = some 12) dt_12 f_152 hr_151
        obtain ⟨n_156, e_157, hr_158⟩ := iv_iload_n xm_253 xd_253_77 l_105 hr_155
        obtain ⟨n_159, e_160, hr_161⟩ := iv_aload_n xm_253 xd_253_78 l_104 hr_158
        have f_162 := dc_fi (j := 14) ok_138 (rfl : sv_ty 114 = some 12) dt_12 rfl
        obtain ⟨n_163, e_164, hr_165⟩ := iv_getf (j := 14) xm_253 xd_253_79 (by decide +kernel) ok_138 (rfl : sv_ty 114 = some 12) dt_12 f_162.1 hr_161
        obtain ⟨q_166, h_167, ok_168, em_169, n_171, e_172, hr_173⟩ := iv_iast xm_253 xd_253_82 ok_138 (rfl : sv_ty 152 = some 89) dt_89 (by decide) (dc_w_I _) f_162.2 hr_165
        obtain ⟨n_174, e_175, hr_176⟩ := iv_aload_n xm_253 xd_253_83 l_104 hr_173
        obtain ⟨n_177, e_178, hr_179⟩ := iv_aload_n xm_253 xd_253_84 l_104 hr_176
        have f_180 := dc_fi (j := 14) ok_168 (rfl : sv_ty 114 = some 12) dt_12 rfl
        obtain ⟨n_181, e_182, hr_183⟩ := iv_getf (j := 14) xm_253 xd_253_85 (by decide +kernel) ok_168 (rfl : sv_ty 114 = some 12) dt_12 f_180.1 hr_179
        obtain ⟨n_184, e_185, hr_186⟩ := iv_aload_n xm_253 xd_253_88 l_104 hr_183
        have f_187 := dc_fi (j := 14) ok_168 (rfl : sv_ty 114 = some 12) dt_12 rfl
        obtain ⟨n_188, e_189, hr_190⟩ := iv_getf (j := 14) xm_253 xd_253_89 (by decide +kernel) ok_168 (rfl : sv_ty 114 = some 12) dt_12 f_187.1 hr_186
        obtain ⟨n_191, e_192, hr_193⟩ := iv_iconst xm_253 xd_253_92 (by decide) hr_190
        obtain ⟨n_194, e_195, hr_196⟩ := iw_iadd xm_253 xd_253_93 hr_193
        obtain ⟨n_197, e_198, hr_199⟩ := iv_bipush xm_253 xd_253_94 (by decide) hr_196
        rcases iv_icmp 108 xm_253 xd_253_96 (by decide) (dc_w_I _) (by unfold sv_I; omega) hr_199 with ⟨c_200, n_201, e_202, hr_203⟩ | ⟨c_200, n_201, e_202, hr_203⟩
        · obtain ⟨n_204, e_205, hr_206⟩ := iv_bipush xm_253 xd_253_108 (by decide) hr_203
          obtain ⟨n_216, r_207, e_217, hc_208, hr_218⟩ := iv_call (Or.inr ⟨rfl, rfl⟩) xm_253 xd_253_110 (by decide +kernel) xm_201 rfl (by decide +kernel) hr_206
          obtain ⟨v_209, d_210, er_211, iv_212, ok_213⟩ := ds_201 _ _ _ ok_168 f_180.2 (by unfold sv_I; omega) hc_208
          obtain ⟨_, h_215⟩ := r_207
          have er_211 : _ = some (wk_i v_209) := er_211
          subst er_211
          have hr_219 : ae_exe n_216 253 (110 + 3) 0 0 lv_100 _ h_215 = some r := hr_218
          rcases iv_if 118 xm_253 xd_253_113 (by decide) iv_212 hr_219 with ⟨c_220, n_221, e_222, hr_223⟩ | ⟨c_220, n_221, e_222, hr_223⟩
          · obtain ⟨n_224, e_225, hr_226⟩ := iv_aload_n xm_253 xd_253_118 l_104 hr_223
            have f_227 := dc_fr (j := 64) ok_213 (rfl : sv_ty 114 = some 12) dt_12 rfl
            obtain ⟨n_228, e_229, hr_230⟩ := iv_getf (j := 64) xm_253 xd_253_119 (by decide +kernel) ok_213 (rfl : sv_ty 114 = some 12) dt_12 f_227 hr_226
            obtain ⟨n_231, e_232, hr_233⟩ := iv_iload_n xm_253 xd_253_122 l_105 hr_230
            obtain ⟨n_234, e_235, hr_236⟩ := iv_aload_n xm_253 xd_253_123 l_104 hr_233
            have f_237 := dc_fi (j := 14) ok_213 (rfl : sv_ty 114 = some 12) dt_12 rfl
            obtain ⟨n_238, e_239, hr_240⟩ := iv_getf (j := 14) xm_253 xd_253_124 (by decide +kernel) ok_213 (rfl : sv_ty 114 = some 12) dt_12 f_237.1 hr_236
            obtain ⟨q_241, h_242, ok_243, em_244, n_246, e_247, hr_248⟩ := iv_iast xm_253 xd_253_127 ok_213 (rfl : sv_ty 153 = some 90) dt_90 (by decide) (dc_w_I _) f_237.2 hr_240
            obtain ⟨n_249, e_250, hr_251⟩ := iv_aload_n xm_253 xd_253_128 l_104 hr_248
            have f_252 := dc_fr (j := 71) ok_243 (rfl : sv_ty 114 = some 12) dt_12 rfl
            obtain ⟨n_253, e_254, hr_255⟩ := iv_getf (j := 71) xm_253 xd_253_129 (by decide +kernel) ok_243 (rfl : sv_ty 114 = some 12) dt_12 f_252 hr_251
            obtain ⟨n_256, e_257, hr_258⟩ := iv_iload_n xm_253 xd_253_132 l_105 hr_255
            obtain ⟨n_259, e_260, hr_261⟩ := iv_lload_n xm_253 xd_253_133 l_106 hr_258
            obtain ⟨q_262, h_263, ok_264, em_265, n_267, e_268, hr_269⟩ := iv_last xm_253 xd_253_134 ok_243 (rfl : sv_ty 160 = some 97) dt_97 (by decide) (dc_w_I _) f_95.2 hr_261
            obtain ⟨n_270, e_271, hr_272⟩ := iv_aload_n xm_253 xd_253_135 l_104 hr_269
            have f_273 := dc_fr (j := 62) ok_264 (rfl : sv_ty 114 = some 12) dt_12 rfl
            obtain ⟨n_274, e_275, hr_276⟩ := iv_getf (j := 62) xm_253 xd_253_136 (by decide +kernel) ok_264 (rfl : sv_ty 114 = some 12) dt_12 f_273 hr_272
            obtain ⟨n_277, e_278, hr_279⟩ := iv_iconst xm_253 xd_253_139 (by decide) hr_276
            obtain ⟨n_280, e_281, hr_282⟩ := iv_dup2 xm_253 xd_253_140 rfl rfl hr_279
            obtain ⟨q_283, qi_284, n_285, e_286, hr_287⟩ := iv_iald xm_253 xd_253_141 ok_264 (rfl : sv_ty 151 = some 88) dt_88 (by decide) (by unfold sv_I; omega) hr_282
            obtain ⟨n_288, e_289, hr_290⟩ := iv_iconst xm_253 xd_253_142 (by decide) hr_287
            obtain ⟨n_291, e_292, hr_293⟩ := iw_iadd xm_253 xd_253_143 hr_290
            obtain ⟨q_294, h_295, ok_296, em_297, n_299, e_300, hr_301⟩ := iv_iast xm_253 xd_253_144 ok_264 (rfl : sv_ty 151 = some 88) dt_88 (by decide) (by unfold sv_I; omega) (dc_w_I _) hr_293
            obtain ⟨n_302, e_303, hr_304⟩ := iv_iconst xm_253 xd_253_145 (by decide) hr_301
            have rr_305 := iv_ireturn xm_253 xd_253_146 hr_304
            subst rr_305
            exact ⟨_, ⟨_, _, d_7, ⟨_, _, d_23, Or.inl ⟨c_33, ⟨_, _, d_50, Or.inl ⟨c_60, ⟨q_77, ⟨_, _, d_113, ⟨_, _, d_135, Or.inl ⟨c_145, ⟨q_166, _, em_169, Or.inl ⟨c_200, ⟨_, _, d_210, Or.inl ⟨c_220, ⟨q_241, _, em_244, ⟨q_262, _, em_265, ⟨q_283, ⟨q_294, _, em_297, ⟨rfl, rfl⟩⟩⟩⟩⟩⟩⟩⟩⟩⟩⟩⟩⟩⟩⟩⟩⟩⟩, rfl, (by unfold sv_I; omega), ok_296⟩
          · obtain ⟨n_306, e_307, hr_308⟩ := iv_iconst xm_253 xd_253_116 (by decide) hr_223
            have rr_309 := iv_ireturn xm_253 xd_253_117 hr_308
            subst rr_309
            exact ⟨_, ⟨_, _, d_7, ⟨_, _, d_23, Or.inl ⟨c_33, ⟨_, _, d_50, Or.inl ⟨c_60, ⟨q_77, ⟨_, _, d_113, ⟨_, _, d_135, Or.inl ⟨c_145, ⟨q_166, _, em_169, Or.inl ⟨c_200, ⟨_, _, d_210, Or.inr ⟨c_220, ⟨rfl, rfl⟩⟩⟩⟩⟩⟩⟩⟩⟩⟩⟩⟩⟩⟩, rfl, (by unfold sv_I; omega), ok_213⟩
        · obtain ⟨n_310, e_311, hr_312⟩ := iv_aload_n xm_253 xd_253_99 l_104 hr_203
          have f_313 := dc_fi (j := 14) ok_168 (rfl : sv_ty 114 = some 12) dt_12 rfl
          obtain ⟨n_314, e_315, hr_316⟩ := iv_getf (j := 14) xm_253 xd_253_100 (by decide +kernel) ok_168 (rfl : sv_ty 114 = some 12) dt_12 f_313.1 hr_312
          obtain ⟨n_317, e_318, hr_319⟩ := iv_iconst xm_253 xd_253_103 (by decide) hr_316
          obtain ⟨n_320, e_321, hr_322⟩ := iw_iadd xm_253 xd_253_104 hr_319
          obtain ⟨n_323, e_324, hr_325⟩ := iv_goto 110 xm_253 xd_253_105 (by decide) hr_322
          obtain ⟨n_335, r_326, e_336, hc_327, hr_337⟩ := iv_call (Or.inr ⟨rfl, rfl⟩) xm_253 xd_253_110 (by decide +kernel) xm_201 rfl (by decide +kernel) hr_325
          obtain ⟨v_328, d_329, er_330, iv_331, ok_332⟩ := ds_201 _ _ _ ok_168 f_180.2 (dc_w_I _) hc_327
          obtain ⟨_, h_334⟩ := r_326
          have er_330 : _ = some (wk_i v_328) := er_330
          subst er_330
          have hr_338 : ae_exe n_335 253 (110 + 3) 0 0 lv_100 _ h_334 = some r := hr_337
          rcases iv_if 118 xm_253 xd_253_113 (by decide) iv_331 hr_338 with ⟨c_339, n_340, e_341, hr_342⟩ | ⟨c_339, n_340, e_341, hr_342⟩
          · obtain ⟨n_343, e_344, hr_345⟩ := iv_aload_n xm_253 xd_253_118 l_104 hr_342
            have f_346 := dc_fr (j := 64) ok_332 (rfl : sv_ty 114 = some 12) dt_12 rfl
            obtain ⟨n_347, e_348, hr_349⟩ := iv_getf (j := 64) xm_253 xd_253_119 (by decide +kernel) ok_332 (rfl : sv_ty 114 = some 12) dt_12 f_346 hr_345
            obtain ⟨n_350, e_351, hr_352⟩ := iv_iload_n xm_253 xd_253_122 l_105 hr_349
            obtain ⟨n_353, e_354, hr_355⟩ := iv_aload_n xm_253 xd_253_123 l_104 hr_352
            have f_356 := dc_fi (j := 14) ok_332 (rfl : sv_ty 114 = some 12) dt_12 rfl
            obtain ⟨n_357, e_358, hr_359⟩ := iv_getf (j := 14) xm_253 xd_253_124 (by decide +kernel) ok_332 (rfl : sv_ty 114 = some 12) dt_12 f_356.1 hr_355
            obtain ⟨q_360, h_361, ok_362, em_363, n_365, e_366, hr_367⟩ := iv_iast xm_253 xd_253_127 ok_332 (rfl : sv_ty 153 = some 90) dt_90 (by decide) (dc_w_I _) f_356.2 hr_359
            obtain ⟨n_368, e_369, hr_370⟩ := iv_aload_n xm_253 xd_253_128 l_104 hr_367
            have f_371 := dc_fr (j := 71) ok_362 (rfl : sv_ty 114 = some 12) dt_12 rfl
            obtain ⟨n_372, e_373, hr_374⟩ := iv_getf (j := 71) xm_253 xd_253_129 (by decide +kernel) ok_362 (rfl : sv_ty 114 = some 12) dt_12 f_371 hr_370
            obtain ⟨n_375, e_376, hr_377⟩ := iv_iload_n xm_253 xd_253_132 l_105 hr_374
            obtain ⟨n_378, e_379, hr_380⟩ := iv_lload_n xm_253 xd_253_133 l_106 hr_377
            obtain ⟨q_381, h_382, ok_383, em_384, n_386, e_387, hr_388⟩ := iv_last xm_253 xd_253_134 ok_362 (rfl : sv_ty 160 = some 97) dt_97 (by decide) (dc_w_I _) f_95.2 hr_380
            obtain ⟨n_389, e_390, hr_391⟩ := iv_aload_n xm_253 xd_253_135 l_104 hr_388
            have f_392 := dc_fr (j := 62) ok_383 (rfl : sv_ty 114 = some 12) dt_12 rfl
            obtain ⟨n_393, e_394, hr_395⟩ := iv_getf (j := 62) xm_253 xd_253_136 (by decide +kernel) ok_383 (rfl : sv_ty 114 = some 12) dt_12 f_392 hr_391
            obtain ⟨n_396, e_397, hr_398⟩ := iv_iconst xm_253 xd_253_139 (by decide) hr_395
            obtain ⟨n_399, e_400, hr_401⟩ := iv_dup2 xm_253 xd_253_140 rfl rfl hr_398
            obtain ⟨q_402, qi_403, n_404, e_405, hr_406⟩ := iv_iald xm_253 xd_253_141 ok_383 (rfl : sv_ty 151 = some 88) dt_88 (by decide) (by unfold sv_I; omega) hr_401
            obtain ⟨n_407, e_408, hr_409⟩ := iv_iconst xm_253 xd_253_142 (by decide) hr_406
            obtain ⟨n_410, e_411, hr_412⟩ := iw_iadd xm_253 xd_253_143 hr_409
            obtain ⟨q_413, h_414, ok_415, em_416, n_418, e_419, hr_420⟩ := iv_iast xm_253 xd_253_144 ok_383 (rfl : sv_ty 151 = some 88) dt_88 (by decide) (by unfold sv_I; omega) (dc_w_I _) hr_412
            obtain ⟨n_421, e_422, hr_423⟩ := iv_iconst xm_253 xd_253_145 (by decide) hr_420
            have rr_424 := iv_ireturn xm_253 xd_253_146 hr_423
            subst rr_424
            exact ⟨_, ⟨_, _, d_7, ⟨_, _, d_23, Or.inl ⟨c_33, ⟨_, _, d_50, Or.inl ⟨c_60, ⟨q_77, ⟨_, _, d_113, ⟨_, _, d_135, Or.inl ⟨c_145, ⟨q_166, _, em_169, Or.inr ⟨c_200, ⟨_, _, d_329, Or.inl ⟨c_339, ⟨q_360, _, em_363, ⟨q_381, _, em_384, ⟨q_402, ⟨q_413, _, em_416, ⟨rfl, rfl⟩⟩⟩⟩⟩⟩⟩⟩⟩⟩⟩⟩⟩⟩⟩⟩⟩⟩, rfl, (by unfold sv_I; omega), ok_415⟩
          · obtain ⟨n_425, e_426, hr_427⟩ := iv_iconst xm_253 xd_253_116 (by decide) hr_342
            have rr_428 := iv_ireturn xm_253 xd_253_117 hr_427
            subst rr_428
            exact ⟨_, ⟨_, _, d_7, ⟨_, _, d_23, Or.inl ⟨c_33, ⟨_, _, d_50, Or.inl ⟨c_60, ⟨q_77, ⟨_, _, d_113, ⟨_, _, d_135, Or.inl ⟨c_145, ⟨q_166, _, em_169, Or.inr ⟨c_200, ⟨_, _, d_329, Or.inr ⟨c_339, ⟨rfl, rfl⟩⟩⟩⟩⟩⟩⟩⟩⟩⟩⟩⟩⟩⟩, rfl, (by unfold sv_I; omega), ok_332⟩
      · obtain ⟨n_429, e_430, hr_431⟩ := iv_iconst xm_253 xd_253_71 (by decide) hr_148
        have rr_432 := iv_ireturn xm_253 xd_253_72 hr_431
        subst rr_432
        exact ⟨_, ⟨_, _, d_7, ⟨_, _, d_23, Or.inl ⟨c_33, ⟨_, _, d_50, Or.inl ⟨c_60, ⟨q_77, ⟨_, _, d_113, ⟨_, _, d_135, Or.inr ⟨c_145, ⟨rfl, rfl⟩⟩⟩⟩⟩⟩⟩⟩⟩⟩, rfl, (by unfold sv_I; omega), ok_138⟩
    · obtain ⟨n_433, e_434, hr_435⟩ := iv_aload_n xm_253 xd_253_32 q0 hr_63
      obtain ⟨n_436, e_437, hr_438⟩ := iv_iconst xm_253 xd_253_33 (by decide) hr_435
      obtain ⟨n_439, e_440, hr_441⟩ := iv_aload_n xm_253 xd_253_34 q0 hr_438
      have f_442 := dc_fi (j := 8) ok_53 (rfl : sv_ty 114 = some 12) dt_12 rfl
      obtain ⟨n_443, e_444, hr_445⟩ := iv_getf (j := 8) xm_253 xd_253_35 (by decide +kernel) ok_53 (rfl : sv_ty 114 = some 12) dt_12 f_442.1 hr_441
      obtain ⟨n_455, r_446, e_456, hc_447, hr_457⟩ := iv_call (Or.inr ⟨rfl, rfl⟩) xm_253 xd_253_38 (by decide +kernel) xm_199 rfl (by decide +kernel) hr_445
      obtain ⟨v_448, d_449, er_450, iv_451, ok_452⟩ := ds_199 _ _ _ ok_53 (by unfold sv_I; omega) f_442.2 hc_447
      obtain ⟨_, h_454⟩ := r_446
      have er_450 : _ = some (wk_i v_448) := er_450
      subst er_450
      have hr_458 : ae_exe n_455 253 (38 + 3) 0 0 (ae_args [wk_r 114] 0) _ h_454 = some r := hr_457
      have rr_459 := iv_ireturn xm_253 xd_253_41 hr_458
      subst rr_459
      exact ⟨_, ⟨_, _, d_7, ⟨_, _, d_23, Or.inl ⟨c_33, ⟨_, _, d_50, Or.inr ⟨c_60, ⟨_, _, d_449, ⟨rfl, rfl⟩⟩⟩⟩⟩⟩⟩, rfl, iv_451, ok_452⟩
  · obtain ⟨n_460, e_461, hr_462⟩ := iv_aload_n xm_253 xd_253_11 q0 hr_36
    obtain ⟨n_463, e_464, hr_465⟩ := iv_iconst xm_253 xd_253_12 (by decide) hr_462
    obtain ⟨n_466, e_467, hr_468⟩ := iv_aload_n xm_253 xd_253_13 q0 hr_465
    have f_469 := dc_fi (j := 8) ok_26 (rfl : sv_ty 114 = some 12) dt_12 rfl
    obtain ⟨n_470, e_471, hr_472⟩ := iv_getf (j := 8) xm_253 xd_253_14 (by decide +kernel) ok_26 (rfl : sv_ty 114 = some 12) dt_12 f_469.1 hr_468
    obtain ⟨n_482, r_473, e_483, hc_474, hr_484⟩ := iv_call (Or.inr ⟨rfl, rfl⟩) xm_253 xd_253_17 (by decide +kernel) xm_199 rfl (by decide +kernel) hr_472
    obtain ⟨v_475, d_476, er_477, iv_478, ok_479⟩ := ds_199 _ _ _ ok_26 (by unfold sv_I; omega) f_469.2 hc_474
    obtain ⟨_, h_481⟩ := r_473
    have er_477 : _ = some (wk_i v_475) := er_477
    subst er_477
    have hr_485 : ae_exe n_482 253 (17 + 3) 0 0 (ae_args [wk_r 114] 0) _ h_481 = some r := hr_484
    have rr_486 := iv_ireturn xm_253 xd_253_20 hr_485
    subst rr_486
    exact ⟨_, ⟨_, _, d_7, ⟨_, _, d_23, Or.inr ⟨c_33, ⟨_, _, d_476, ⟨rfl, rfl⟩⟩⟩⟩⟩, rfl, iv_478, ok_479⟩
/-! method 254 -/
theorem xm_254 : ae_m 254 = some (wk_M 254) := rfl
theorem xd_254_0 : decode (wk_M 254).2.2.1 0 = .ok (.aload_n 0, 1) := zd_by (by decide +kernel)
theorem xd_254_1 : decode (wk_M 254).2.2.1 1 = .ok (.invokevirtual 262, 3) := zd_by (by decide +kernel)
theorem xd_254_4 : decode (wk_M 254).2.2.1 4 = .ok (.aload_n 0, 1) := zd_by (by decide +kernel)
theorem xd_254_5 : decode (wk_M 254).2.2.1 5 = .ok (.iconst 1, 1) := zd_by (by decide +kernel)
theorem xd_254_6 : decode (wk_M 254).2.2.1 6 = .ok (.bipush 20, 2) := zd_by (by decide +kernel)
theorem xd_254_8 : decode (wk_M 254).2.2.1 8 = .ok (.invokevirtual 330, 3) := zd_by (by decide +kernel)
theorem xd_254_11 : decode (wk_M 254).2.2.1 11 = .ok (.ifCond .ne 5, 3) := zd_by (by decide +kernel)
theorem xd_254_14 : decode (wk_M 254).2.2.1 14 = .ok (.iconst 0, 1) := zd_by (by decide +kernel)
theorem xd_254_15 : decode (wk_M 254).2.2.1 15 = .ok (.ireturn, 1) := zd_by (by decide +kernel)
theorem xd_254_16 : decode (wk_M 254).2.2.1 16 = .ok (.aload_n 0, 1) := zd_by (by decide +kernel)
theorem xd_254_17 : decode (wk_M 254).2.2.1 17 = .ok (.getfield 265, 3) := zd_by (by decide +kernel)
theorem xd_254_20 : decode (wk_M 254).2.2.1 20 = .ok (.istore_n 1, 1) := zd_by (by decide +kernel)
theorem xd_254_21 : decode (wk_M 254).2.2.1 21 = .ok (.aload_n 0, 1) := zd_by (by decide +kernel)
theorem xd_254_22 : decode (wk_M 254).2.2.1 22 = .ok (.getfield 230, 3) := zd_by (by decide +kernel)
theorem xd_254_25 : decode (wk_M 254).2.2.1 25 = .ok (.istore_n 2, 1) := zd_by (by decide +kernel)
theorem xd_254_26 : decode (wk_M 254).2.2.1 26 = .ok (.aload_n 0, 1) := zd_by (by decide +kernel)
theorem xd_254_27 : decode (wk_M 254).2.2.1 27 = .ok (.iconst 1, 1) := zd_by (by decide +kernel)
theorem xd_254_28 : decode (wk_M 254).2.2.1 28 = .ok (.iconst 3, 1) := zd_by (by decide +kernel)
theorem xd_254_29 : decode (wk_M 254).2.2.1 29 = .ok (.invokevirtual 330, 3) := zd_by (by decide +kernel)
theorem xd_254_32 : decode (wk_M 254).2.2.1 32 = .ok (.ifCond .ne 5, 3) := zd_by (by decide +kernel)
theorem xd_254_35 : decode (wk_M 254).2.2.1 35 = .ok (.iconst 0, 1) := zd_by (by decide +kernel)
theorem xd_254_36 : decode (wk_M 254).2.2.1 36 = .ok (.ireturn, 1) := zd_by (by decide +kernel)
theorem xd_254_37 : decode (wk_M 254).2.2.1 37 = .ok (.aload_n 0, 1) := zd_by (by decide +kernel)
theorem xd_254_38 : decode (wk_M 254).2.2.1 38 = .ok (.getfield 130, 3) := zd_by (by decide +kernel)
theorem xd_254_41 : decode (wk_M 254).2.2.1 41 = .ok (.iconst 2, 1) := zd_by (by decide +kernel)
theorem xd_254_42 : decode (wk_M 254).2.2.1 42 = .ok (.aload_n 0, 1) := zd_by (by decide +kernel)
theorem xd_254_43 : decode (wk_M 254).2.2.1 43 = .ok (.getfield 265, 3) := zd_by (by decide +kernel)
theorem xd_254_46 : decode (wk_M 254).2.2.1 46 = .ok (.iadd, 1) := zd_by (by decide +kernel)
theorem xd_254_47 : decode (wk_M 254).2.2.1 47 = .ok (.iaload, 1) := zd_by (by decide +kernel)
theorem xd_254_48 : decode (wk_M 254).2.2.1 48 = .ok (.ifCond .le 10, 3) := zd_by (by decide +kernel)
theorem xd_254_51 : decode (wk_M 254).2.2.1 51 = .ok (.aload_n 0, 1) := zd_by (by decide +kernel)
theorem xd_254_52 : decode (wk_M 254).2.2.1 52 = .ok (.iconst 3, 1) := zd_by (by decide +kernel)
theorem xd_254_53 : decode (wk_M 254).2.2.1 53 = .ok (.iload_n 2, 1) := zd_by (by decide +kernel)
theorem xd_254_54 : decode (wk_M 254).2.2.1 54 = .ok (.invokevirtual 258, 3) := zd_by (by decide +kernel)
theorem xd_254_57 : decode (wk_M 254).2.2.1 57 = .ok (.ireturn, 1) := zd_by (by decide +kernel)
theorem xd_254_58 : decode (wk_M 254).2.2.1 58 = .ok (.aload_n 0, 1) := zd_by (by decide +kernel)
theorem xd_254_59 : decode (wk_M 254).2.2.1 59 = .ok (.getfield 130, 3) := zd_by (by decide +kernel)
theorem xd_254_62 : decode (wk_M 254).2.2.1 62 = .ok (.iconst 2, 1) := zd_by (by decide +kernel)
theorem xd_254_63 : decode (wk_M 254).2.2.1 63 = .ok (.aload_n 0, 1) := zd_by (by decide +kernel)
theorem xd_254_64 : decode (wk_M 254).2.2.1 64 = .ok (.getfield 265, 3) := zd_by (by decide +kernel)
theorem xd_254_67 : decode (wk_M 254).2.2.1 67 = .ok (.iadd, 1) := zd_by (by decide +kernel)
theorem xd_254_68 : decode (wk_M 254).2.2.1 68 = .ok (.iload_n 1, 1) := zd_by (by decide +kernel)
theorem xd_254_69 : decode (wk_M 254).2.2.1 69 = .ok (.iastore, 1) := zd_by (by decide +kernel)
theorem xd_254_70 : decode (wk_M 254).2.2.1 70 = .ok (.iconst 1, 1) := zd_by (by decide +kernel)
theorem xd_254_71 : decode (wk_M 254).2.2.1 71 = .ok (.ireturn, 1) := zd_by (by decide +kernel)
abbrev D_254  (m : dc_M) (v : Int) (m' : dc_M) : Prop := ∃ v_6 m_11, D_198 m v_6 m_11 ∧ (∃ v_28 m_33, D_201 1 20 m_11 v_28 m_33 ∧ ((((v_28 : Int) ≠ 0 ∧ (∃ v_83 m_88, D_201 1 3 m_33 v_83 m_88 ∧ ((((v_83 : Int) ≠ 0 ∧ ((0 ≤ ((dc_w (2 + (m_88 114 14))) : Int) ∧ ((dc_w (2 + (m_88 114 14))) : Int) < 6) ∧ (((((m_88 154 (dc_w (2 + (m_88 114 14)))) : Int) ≤ 0 ∧ ((0 ≤ ((dc_w (2 + (m_88 114 14))) : Int) ∧ ((dc_w (2 + (m_88 114 14))) : Int) < 6) ∧ ∃ m_154, m_154 = dc_up m_88 154 (dc_w (2 + (m_88 114 14))) (m_33 114 14) ∧ (v = 1 ∧ m' = m_154))) ∨ (¬ (((m_88 154 (dc_w (2 + (m_88 114 14)))) : Int) ≤ 0) ∧ (∃ v_173 m_178, D_199 3 ((m_33 114 8)) m_88 v_173 m_178 ∧ (v = v_173 ∧ m' = m_178))))))) ∨ (¬ ((v_83 : Int) ≠ 0) ∧ (v = 0 ∧ m' = m_88)))))) ∨ (¬ ((v_28 : Int) ≠ 0) ∧ (v = 0 ∧ m' = m_33)))))
theorem ds_254 (n : Nat)  {h : ae_H} {r : ae_R} (ok : dc_ok h)  (hr : ae_exe n 254 0 0 0 (ae_args [wk_r 114] 0) [] h = some r) : ∃ v, D_254  (dc_m h) v (dc_m r.2) ∧ r.1 = some (wk_i v) ∧ sv_I v ∧ dc_ok r.2 := by
  have q0 : ae_lk (ae_args [wk_r 114] 0) 0 = some (wk_r 114) := rfl
  obtain ⟨n_1, e_2, hr_3⟩ := iv_aload_n xm_254 xd_254_0 q0 hr
  obtain ⟨n_13, r_4, e_14, hc_5, hr_15⟩ := iv_call (Or.inr ⟨rfl, rfl⟩) xm_254 xd_254_1 (by decide +kernel) xm_198 rfl (by decide +kernel) hr_3
  obtain ⟨v_6, d_7, er_8, iv_9, ok_10⟩ := ds_198 _  ok hc_5
  obtain ⟨_, h_12⟩ := r_4
  have er_8 : _ = none := er_8
  subst er_8
  have hr_16 : ae_exe n_13 254 (1 + 3) 0 0 (ae_args [wk_r 114] 0) _ h_12 = some r := hr_15
  obtain ⟨n_17, e_18, hr_19⟩ := iv_aload_n xm_254 xd_254_4 q0 hr_16
  obtain ⟨n_20, e_21, hr_22⟩ := iv_iconst xm_254 xd_254_5 (by decide) hr_19
  obtain ⟨n_23, e_24, hr_25⟩ := iv_bipush xm_254 xd_254_6 (by decide) hr_22
  obtain ⟨n_35, r_26, e_36, hc_27, hr_37⟩ := iv_call (Or.inr ⟨rfl, rfl⟩) xm_254 xd_254_8 (by decide +kernel) xm_201 rfl (by decide +kernel) hr_25
  obtain ⟨v_28, d_29, er_30, iv_31, ok_32⟩ := ds_201 _ _ _ ok_10 (by unfold sv_I; omega) (by unfold sv_I; omega) hc_27
  obtain ⟨_, h_34⟩ := r_26
  have er_30 : _ = some (wk_i v_28) := er_30
  subst er_30
  have hr_38 : ae_exe n_35 254 (8 + 3) 0 0 (ae_args [wk_r 114] 0) _ h_34 = some r := hr_37
  rcases iv_if 16 xm_254 xd_254_11 (by decide) iv_31 hr_38 with ⟨c_39, n_40, e_41, hr_42⟩ | ⟨c_39, n_40, e_41, hr_42⟩
  · obtain ⟨n_43, e_44, hr_45⟩ := iv_aload_n xm_254 xd_254_16 q0 hr_42
    have f_46 := dc_fi (j := 14) ok_32 (rfl : sv_ty 114 = some 12) dt_12 rfl
    obtain ⟨n_47, e_48, hr_49⟩ := iv_getf (j := 14) xm_254 xd_254_17 (by decide +kernel) ok_32 (rfl : sv_ty 114 = some 12) dt_12 f_46.1 hr_45
    obtain ⟨lv_51, sl_50, n_52, e_53, hr_54⟩ := iv_istore_n xm_254 xd_254_20 (by decide +kernel) hr_49
    have l_55 := sl_50.2 0 _ q0 (by decide) (Or.inl rfl)
    have l_56 := sl_50.1
    obtain ⟨n_57, e_58, hr_59⟩ := iv_aload_n xm_254 xd_254_21 l_55 hr_54
    have f_60 := dc_fi (j := 8) ok_32 (rfl : sv_ty 114 = some 12) dt_12 rfl
    obtain ⟨n_61, e_62, hr_63⟩ := iv_getf (j := 8) xm_254 xd_254_22 (by decide +kernel) ok_32 (rfl : sv_ty 114 = some 12) dt_12 f_60.1 hr_59
    obtain ⟨lv_65, sl_64, n_66, e_67, hr_68⟩ := iv_istore_n xm_254 xd_254_25 (by decide +kernel) hr_63
    have l_69 := sl_64.2 0 _ l_55 (by decide) (Or.inl rfl)
    have l_70 := sl_64.2 1 _ l_56 (by decide) (Or.inl rfl)
    have l_71 := sl_64.1
    obtain ⟨n_72, e_73, hr_74⟩ := iv_aload_n xm_254 xd_254_26 l_69 hr_68
    obtain ⟨n_75, e_76, hr_77⟩ := iv_iconst xm_254 xd_254_27 (by decide) hr_74
    obtain ⟨n_78, e_79, hr_80⟩ := iv_iconst xm_254 xd_254_28 (by decide) hr_77
    obtain ⟨n_90, r_81, e_91, hc_82, hr_92⟩ := iv_call (Or.inr ⟨rfl, rfl⟩) xm_254 xd_254_29 (by decide +kernel) xm_201 rfl (by decide +kernel) hr_80
    obtain ⟨v_83, d_84, er_85, iv_86, ok_87⟩ := ds_201 _ _ _ ok_32 (by unfold sv_I; omega) (by unfold sv_I; omega) hc_82
    obtain ⟨_, h_89⟩ := r_81
    have er_85 : _ = some (wk_i v_83) := er_85
    subst er_85
    have hr_93 : ae_exe n_90 254 (29 + 3) 0 0 lv_65 _ h_89 = some r := hr_92
    rcases iv_if 37 xm_254 xd_254_32 (by decide) iv_86 hr_93 with ⟨c_94, n_95, e_96, hr_97⟩ | ⟨c_94, n_95, e_96, hr_97⟩
    · obtain ⟨n_98, e_99, hr_100⟩ := iv_aload_n xm_254 xd_254_37 l_69 hr_97
      have f_101 := dc_fr (j := 65) ok_87 (rfl : sv_ty 114 = some 12) dt_12 rfl
      obtain ⟨n_102, e_103, hr_104⟩ := iv_getf (j := 65) xm_254 xd_254_38 (by decide +kernel) ok_87 (rfl : sv_ty 114 = some 12) dt_12 f_101 hr_100
      obtain ⟨n_105, e_106, hr_107⟩ := iv_iconst xm_254 xd_254_41 (by decide) hr_104
      obtain ⟨n_108, e_109, hr_110⟩ := iv_aload_n xm_254 xd_254_42 l_69 hr_107
      have f_111 := dc_fi (j := 14) ok_87 (rfl : sv_ty 114 = some 12) dt_12 rfl
      obtain ⟨n_112, e_113, hr_114⟩ := iv_getf (j := 14) xm_254 xd_254_43 (by decide +kernel) ok_87 (rfl : sv_ty 114 = some 12) dt_12 f_111.1 hr_110
      obtain ⟨n_115, e_116, hr_117⟩ := iw_iadd xm_254 xd_254_46 hr_114
      obtain ⟨q_118, qi_119, n_120, e_121, hr_122⟩ := iv_iald xm_254 xd_254_47 ok_87 (rfl : sv_ty 154 = some 91) dt_91 (by decide) (dc_w_I _) hr_117
      rcases iv_if 58 xm_254 xd_254_48 (by decide) qi_119 hr_122 with ⟨c_123, n_124, e_125, hr_126⟩ | ⟨c_123, n_124, e_125, hr_126⟩
      · obtain ⟨n_127, e_128, hr_129⟩ := iv_aload_n xm_254 xd_254_58 l_69 hr_126
        have f_130 := dc_fr (j := 65) ok_87 (rfl : sv_ty 114 = some 12) dt_12 rfl
        obtain ⟨n_131, e_132, hr_133⟩ := iv_getf (j := 65) xm_254 xd_254_59 (by decide +kernel) ok_87 (rfl : sv_ty 114 = some 12) dt_12 f_130 hr_129
        obtain ⟨n_134, e_135, hr_136⟩ := iv_iconst xm_254 xd_254_62 (by decide) hr_133
        obtain ⟨n_137, e_138, hr_139⟩ := iv_aload_n xm_254 xd_254_63 l_69 hr_136
        have f_140 := dc_fi (j := 14) ok_87 (rfl : sv_ty 114 = some 12) dt_12 rfl
        obtain ⟨n_141, e_142, hr_143⟩ := iv_getf (j := 14) xm_254 xd_254_64 (by decide +kernel) ok_87 (rfl : sv_ty 114 = some 12) dt_12 f_140.1 hr_139
        obtain ⟨n_144, e_145, hr_146⟩ := iw_iadd xm_254 xd_254_67 hr_143
        obtain ⟨n_147, e_148, hr_149⟩ := iv_iload_n xm_254 xd_254_68 l_70 hr_146
        obtain ⟨q_150, h_151, ok_152, em_153, n_155, e_156, hr_157⟩ := iv_iast xm_254 xd_254_69 ok_87 (rfl : sv_ty 154 = some 91) dt_91 (by decide) (dc_w_I _) f_46.2 hr_149
        obtain ⟨n_158, e_159, hr_160⟩ := iv_iconst xm_254 xd_254_70 (by decide) hr_157
        have rr_161 := iv_ireturn xm_254 xd_254_71 hr_160
        subst rr_161
        exact ⟨_, ⟨_, _, d_7, ⟨_, _, d_29, Or.inl ⟨c_39, ⟨_, _, d_84, Or.inl ⟨c_94, ⟨q_118, Or.inl ⟨c_123, ⟨q_150, _, em_153, ⟨rfl, rfl⟩⟩⟩⟩⟩⟩⟩⟩⟩, rfl, (by unfold sv_I; omega), ok_152⟩
      · obtain ⟨n_162, e_163, hr_164⟩ := iv_aload_n xm_254 xd_254_51 l_69 hr_126
        obtain ⟨n_165, e_166, hr_167⟩ := iv_iconst xm_254 xd_254_52 (by decide) hr_164
        obtain ⟨n_168, e_169, hr_170⟩ := iv_iload_n xm_254 xd_254_53 l_71 hr_167
        obtain ⟨n_180, r_171, e_181, hc_172, hr_182⟩ := iv_call (Or.inr ⟨rfl, rfl⟩) xm_254 xd_254_54 (by decide +kernel) xm_199 rfl (by decide +kernel) hr_170
        obtain ⟨v_173, d_174, er_175, iv_176, ok_177⟩ := ds_199 _ _ _ ok_87 (by unfold sv_I; omega) f_60.2 hc_172
        obtain ⟨_, h_179⟩ := r_171
        have er_175 : _ = some (wk_i v_173) := er_175
        subst er_175
        have hr_183 : ae_exe n_180 254 (54 + 3) 0 0 lv_65 _ h_179 = some r := hr_182
        have rr_184 := iv_ireturn xm_254 xd_254_57 hr_183
        subst rr_184
        exact ⟨_, ⟨_, _, d_7, ⟨_, _, d_29, Or.inl ⟨c_39, ⟨_, _, d_84, Or.inl ⟨c_94, ⟨q_118, Or.inr ⟨c_123, ⟨_, _, d_174, ⟨rfl, rfl⟩⟩⟩⟩⟩⟩⟩⟩⟩, rfl, iv_176, ok_177⟩
    · obtain ⟨n_185, e_186, hr_187⟩ := iv_iconst xm_254 xd_254_35 (by decide) hr_97
      have rr_188 := iv_ireturn xm_254 xd_254_36 hr_187
      subst rr_188
      exact ⟨_, ⟨_, _, d_7, ⟨_, _, d_29, Or.inl ⟨c_39, ⟨_, _, d_84, Or.inr ⟨c_94, ⟨rfl, rfl⟩⟩⟩⟩⟩⟩, rfl, (by unfold sv_I; omega), ok_87⟩
  · obtain ⟨n_189, e_190, hr_191⟩ := iv_iconst xm_254 xd_254_14 (by decide) hr_42
    have rr_192 := iv_ireturn xm_254 xd_254_15 hr_191
    subst rr_192
    exact ⟨_, ⟨_, _, d_7, ⟨_, _, d_29, Or.inr ⟨c_39, ⟨rfl, rfl⟩⟩⟩⟩, rfl, (by unfold sv_I; omega), ok_32⟩
/-! method 255 -/
theorem xm_255 : ae_m 255 = some (wk_M 255) := rfl
theorem xd_255_0 : decode (wk_M 255).2.2.1 0 = .ok (.aload_n 0, 1) := zd_by (by decide +kernel)
theorem xd_255_1 : decode (wk_M 255).2.2.1 1 = .ok (.ldc2_w 464, 3) := zd_by (by decide +kernel)
theorem xd_255_4 : decode (wk_M 255).2.2.1 4 = .ok (.invokevirtual 470, 3) := zd_by (by decide +kernel)
theorem xd_255_7 : decode (wk_M 255).2.2.1 7 = .ok (.istore_n 1, 1) := zd_by (by decide +kernel)
theorem xd_255_8 : decode (wk_M 255).2.2.1 8 = .ok (.bipush 8, 2) := zd_by (by decide +kernel)
theorem xd_255_10 : decode (wk_M 255).2.2.1 10 = .ok (.aload_n 0, 1) := zd_by (by decide +kernel)
theorem xd_255_11 : decode (wk_M 255).2.2.1 11 = .ok (.getfield 133, 3) := zd_by (by decide +kernel)
theorem xd_255_14 : decode (wk_M 255).2.2.1 14 = .ok (.iconst 1, 1) := zd_by (by decide +kernel)
theorem xd_255_15 : decode (wk_M 255).2.2.1 15 = .ok (.iaload, 1) := zd_by (by decide +kernel)
theorem xd_255_16 : decode (wk_M 255).2.2.1 16 = .ok (.iadd, 1) := zd_by (by decide +kernel)
theorem xd_255_17 : decode (wk_M 255).2.2.1 17 = .ok (.istore_n 2, 1) := zd_by (by decide +kernel)
theorem xd_255_18 : decode (wk_M 255).2.2.1 18 = .ok (.aload_n 0, 1) := zd_by (by decide +kernel)
theorem xd_255_19 : decode (wk_M 255).2.2.1 19 = .ok (.getfield 136, 3) := zd_by (by decide +kernel)
theorem xd_255_22 : decode (wk_M 255).2.2.1 22 = .ok (.iload_n 2, 1) := zd_by (by decide +kernel)
theorem xd_255_23 : decode (wk_M 255).2.2.1 23 = .ok (.iconst (-1), 1) := zd_by (by decide +kernel)
theorem xd_255_24 : decode (wk_M 255).2.2.1 24 = .ok (.iastore, 1) := zd_by (by decide +kernel)
theorem xd_255_25 : decode (wk_M 255).2.2.1 25 = .ok (.aload_n 0, 1) := zd_by (by decide +kernel)
theorem xd_255_26 : decode (wk_M 255).2.2.1 26 = .ok (.getfield 145, 3) := zd_by (by decide +kernel)
theorem xd_255_29 : decode (wk_M 255).2.2.1 29 = .ok (.iload_n 2, 1) := zd_by (by decide +kernel)
theorem xd_255_30 : decode (wk_M 255).2.2.1 30 = .ok (.iconst 0, 1) := zd_by (by decide +kernel)
theorem xd_255_31 : decode (wk_M 255).2.2.1 31 = .ok (.iastore, 1) := zd_by (by decide +kernel)
theorem xd_255_32 : decode (wk_M 255).2.2.1 32 = .ok (.aload_n 0, 1) := zd_by (by decide +kernel)
theorem xd_255_33 : decode (wk_M 255).2.2.1 33 = .ok (.invokevirtual 262, 3) := zd_by (by decide +kernel)
theorem xd_255_36 : decode (wk_M 255).2.2.1 36 = .ok (.iload_n 1, 1) := zd_by (by decide +kernel)
theorem xd_255_37 : decode (wk_M 255).2.2.1 37 = .ok (.ifCond .eq 57, 3) := zd_by (by decide +kernel)
theorem xd_255_40 : decode (wk_M 255).2.2.1 40 = .ok (.aload_n 0, 1) := zd_by (by decide +kernel)
theorem xd_255_41 : decode (wk_M 255).2.2.1 41 = .ok (.invokevirtual 482, 3) := zd_by (by decide +kernel)
theorem xd_255_44 : decode (wk_M 255).2.2.1 44 = .ok (.ifCond .ne 13, 3) := zd_by (by decide +kernel)
theorem xd_255_47 : decode (wk_M 255).2.2.1 47 = .ok (.aload_n 0, 1) := zd_by (by decide +kernel)
theorem xd_255_48 : decode (wk_M 255).2.2.1 48 = .ok (.iconst 1, 1) := zd_by (by decide +kernel)
theorem xd_255_49 : decode (wk_M 255).2.2.1 49 = .ok (.aload_n 0, 1) := zd_by (by decide +kernel)
theorem xd_255_50 : decode (wk_M 255).2.2.1 50 = .ok (.getfield 230, 3) := zd_by (by decide +kernel)
theorem xd_255_53 : decode (wk_M 255).2.2.1 53 = .ok (.invokevirtual 258, 3) := zd_by (by decide +kernel)
theorem xd_255_56 : decode (wk_M 255).2.2.1 56 = .ok (.ireturn, 1) := zd_by (by decide +kernel)
theorem xd_255_57 : decode (wk_M 255).2.2.1 57 = .ok (.aload_n 0, 1) := zd_by (by decide +kernel)
theorem xd_255_58 : decode (wk_M 255).2.2.1 58 = .ok (.getfield 136, 3) := zd_by (by decide +kernel)
theorem xd_255_61 : decode (wk_M 255).2.2.1 61 = .ok (.iload_n 2, 1) := zd_by (by decide +kernel)
theorem xd_255_62 : decode (wk_M 255).2.2.1 62 = .ok (.aload_n 0, 1) := zd_by (by decide +kernel)
theorem xd_255_63 : decode (wk_M 255).2.2.1 63 = .ok (.aload_n 0, 1) := zd_by (by decide +kernel)
theorem xd_255_64 : decode (wk_M 255).2.2.1 64 = .ok (.getfield 239, 3) := zd_by (by decide +kernel)
theorem xd_255_67 : decode (wk_M 255).2.2.1 67 = .ok (.invokevirtual 485, 3) := zd_by (by decide +kernel)
theorem xd_255_70 : decode (wk_M 255).2.2.1 70 = .ok (.iastore, 1) := zd_by (by decide +kernel)
theorem xd_255_71 : decode (wk_M 255).2.2.1 71 = .ok (.aload_n 0, 1) := zd_by (by decide +kernel)
theorem xd_255_72 : decode (wk_M 255).2.2.1 72 = .ok (.getfield 136, 3) := zd_by (by decide +kernel)
theorem xd_255_75 : decode (wk_M 255).2.2.1 75 = .ok (.iload_n 2, 1) := zd_by (by decide +kernel)
theorem xd_255_76 : decode (wk_M 255).2.2.1 76 = .ok (.iaload, 1) := zd_by (by decide +kernel)
theorem xd_255_77 : decode (wk_M 255).2.2.1 77 = .ok (.ifCond .ge 13, 3) := zd_by (by decide +kernel)
theorem xd_255_80 : decode (wk_M 255).2.2.1 80 = .ok (.aload_n 0, 1) := zd_by (by decide +kernel)
theorem xd_255_81 : decode (wk_M 255).2.2.1 81 = .ok (.iconst 3, 1) := zd_by (by decide +kernel)
theorem xd_255_82 : decode (wk_M 255).2.2.1 82 = .ok (.aload_n 0, 1) := zd_by (by decide +kernel)
theorem xd_255_83 : decode (wk_M 255).2.2.1 83 = .ok (.getfield 230, 3) := zd_by (by decide +kernel)
theorem xd_255_86 : decode (wk_M 255).2.2.1 86 = .ok (.invokevirtual 258, 3) := zd_by (by decide +kernel)
theorem xd_255_89 : decode (wk_M 255).2.2.1 89 = .ok (.ireturn, 1) := zd_by (by decide +kernel)
theorem xd_255_90 : decode (wk_M 255).2.2.1 90 = .ok (.aload_n 0, 1) := zd_by (by decide +kernel)
theorem xd_255_91 : decode (wk_M 255).2.2.1 91 = .ok (.invokevirtual 262, 3) := zd_by (by decide +kernel)
theorem xd_255_94 : decode (wk_M 255).2.2.1 94 = .ok (.aload_n 0, 1) := zd_by (by decide +kernel)
theorem xd_255_95 : decode (wk_M 255).2.2.1 95 = .ok (.iconst 1, 1) := zd_by (by decide +kernel)
theorem xd_255_96 : decode (wk_M 255).2.2.1 96 = .ok (.bipush 6, 2) := zd_by (by decide +kernel)
theorem xd_255_98 : decode (wk_M 255).2.2.1 98 = .ok (.invokevirtual 330, 3) := zd_by (by decide +kernel)
theorem xd_255_101 : decode (wk_M 255).2.2.1 101 = .ok (.ifCond .ne 5, 3) := zd_by (by decide +kernel)
theorem xd_255_104 : decode (wk_M 255).2.2.1 104 = .ok (.iconst 0, 1) := zd_by (by decide +kernel)
theorem xd_255_105 : decode (wk_M 255).2.2.1 105 = .ok (.ireturn, 1) := zd_by (by decide +kernel)
theorem xd_255_106 : decode (wk_M 255).2.2.1 106 = .ok (.aload_n 0, 1) := zd_by (by decide +kernel)
theorem xd_255_107 : decode (wk_M 255).2.2.1 107 = .ok (.getfield 139, 3) := zd_by (by decide +kernel)
theorem xd_255_110 : decode (wk_M 255).2.2.1 110 = .ok (.iload_n 2, 1) := zd_by (by decide +kernel)
theorem xd_255_111 : decode (wk_M 255).2.2.1 111 = .ok (.aload_n 0, 1) := zd_by (by decide +kernel)
theorem xd_255_112 : decode (wk_M 255).2.2.1 112 = .ok (.getfield 265, 3) := zd_by (by decide +kernel)
theorem xd_255_115 : decode (wk_M 255).2.2.1 115 = .ok (.iastore, 1) := zd_by (by decide +kernel)
theorem xd_255_116 : decode (wk_M 255).2.2.1 116 = .ok (.aload_n 0, 1) := zd_by (by decide +kernel)
theorem xd_255_117 : decode (wk_M 255).2.2.1 117 = .ok (.iconst 1, 1) := zd_by (by decide +kernel)
theorem xd_255_118 : decode (wk_M 255).2.2.1 118 = .ok (.iconst 3, 1) := zd_by (by decide +kernel)
theorem xd_255_119 : decode (wk_M 255).2.2.1 119 = .ok (.invokevirtual 330, 3) := zd_by (by decide +kernel)
theorem xd_255_122 : decode (wk_M 255).2.2.1 122 = .ok (.ifCond .ne 5, 3) := zd_by (by decide +kernel)
theorem xd_255_125 : decode (wk_M 255).2.2.1 125 = .ok (.iconst 0, 1) := zd_by (by decide +kernel)
theorem xd_255_126 : decode (wk_M 255).2.2.1 126 = .ok (.ireturn, 1) := zd_by (by decide +kernel)
theorem xd_255_127 : decode (wk_M 255).2.2.1 127 = .ok (.aload_n 0, 1) := zd_by (by decide +kernel)
theorem xd_255_128 : decode (wk_M 255).2.2.1 128 = .ok (.getfield 142, 3) := zd_by (by decide +kernel)
theorem xd_255_131 : decode (wk_M 255).2.2.1 131 = .ok (.iload_n 2, 1) := zd_by (by decide +kernel)
theorem xd_255_132 : decode (wk_M 255).2.2.1 132 = .ok (.aload_n 0, 1) := zd_by (by decide +kernel)
theorem xd_255_133 : decode (wk_M 255).2.2.1 133 = .ok (.getfield 265, 3) := zd_by (by decide +kernel)
theorem xd_255_136 : decode (wk_M 255).2.2.1 136 = .ok (.iastore, 1) := zd_by (by decide +kernel)
theorem xd_255_137 : decode (wk_M 255).2.2.1 137 = .ok (.iload_n 1, 1) := zd_by (by decide +kernel)
theorem xd_255_138 : decode (wk_M 255).2.2.1 138 = .ok (.ifCond .eq 39, 3) := zd_by (by decide +kernel)
theorem xd_255_141 : decode (wk_M 255).2.2.1 141 = .ok (.aload_n 0, 1) := zd_by (by decide +kernel)
theorem xd_255_142 : decode (wk_M 255).2.2.1 142 = .ok (.ldc2_w 468, 3) := zd_by (by decide +kernel)
theorem xd_255_145 : decode (wk_M 255).2.2.1 145 = .ok (.invokevirtual 470, 3) := zd_by (by decide +kernel)
theorem xd_255_148 : decode (wk_M 255).2.2.1 148 = .ok (.ifCond .eq 29, 3) := zd_by (by decide +kernel)
theorem xd_255_151 : decode (wk_M 255).2.2.1 151 = .ok (.aload_n 0, 1) := zd_by (by decide +kernel)
theorem xd_255_152 : decode (wk_M 255).2.2.1 152 = .ok (.invokevirtual 262, 3) := zd_by (by decide +kernel)
theorem xd_255_155 : decode (wk_M 255).2.2.1 155 = .ok (.aload_n 0, 1) := zd_by (by decide +kernel)
theorem xd_255_156 : decode (wk_M 255).2.2.1 156 = .ok (.iconst 1, 1) := zd_by (by decide +kernel)
theorem xd_255_157 : decode (wk_M 255).2.2.1 157 = .ok (.bipush 20, 2) := zd_by (by decide +kernel)
theorem xd_255_159 : decode (wk_M 255).2.2.1 159 = .ok (.invokevirtual 330, 3) := zd_by (by decide +kernel)
theorem xd_255_162 : decode (wk_M 255).2.2.1 162 = .ok (.ifCond .ne 5, 3) := zd_by (by decide +kernel)
theorem xd_255_165 : decode (wk_M 255).2.2.1 165 = .ok (.iconst 0, 1) := zd_by (by decide +kernel)
theorem xd_255_166 : decode (wk_M 255).2.2.1 166 = .ok (.ireturn, 1) := zd_by (by decide +kernel)
theorem xd_255_167 : decode (wk_M 255).2.2.1 167 = .ok (.aload_n 0, 1) := zd_by (by decide +kernel)
theorem xd_255_168 : decode (wk_M 255).2.2.1 168 = .ok (.getfield 145, 3) := zd_by (by decide +kernel)
theorem xd_255_171 : decode (wk_M 255).2.2.1 171 = .ok (.iload_n 2, 1) := zd_by (by decide +kernel)
theorem xd_255_172 : decode (wk_M 255).2.2.1 172 = .ok (.aload_n 0, 1) := zd_by (by decide +kernel)
theorem xd_255_173 : decode (wk_M 255).2.2.1 173 = .ok (.getfield 265, 3) := zd_by (by decide +kernel)
theorem xd_255_176 : decode (wk_M 255).2.2.1 176 = .ok (.iastore, 1) := zd_by (by decide +kernel)
theorem xd_255_177 : decode (wk_M 255).2.2.1 177 = .ok (.aload_n 0, 1) := zd_by (by decide +kernel)
theorem xd_255_178 : decode (wk_M 255).2.2.1 178 = .ok (.getfield 133, 3) := zd_by (by decide +kernel)
theorem xd_255_181 : decode (wk_M 255).2.2.1 181 = .ok (.iconst 1, 1) := zd_by (by decide +kernel)
theorem xd_255_182 : decode (wk_M 255).2.2.1 182 = .ok (.dup2, 1) := zd_by (by decide +kernel)
theorem xd_255_183 : decode (wk_M 255).2.2.1 183 = .ok (.iaload, 1) := zd_by (by decide +kernel)
theorem xd_255_184 : decode (wk_M 255).2.2.1 184 = .ok (.iconst 1, 1) := zd_by (by decide +kernel)
theorem xd_255_185 : decode (wk_M 255).2.2.1 185 = .ok (.iadd, 1) := zd_by (by decide +kernel)
theorem xd_255_186 : decode (wk_M 255).2.2.1 186 = .ok (.iastore, 1) := zd_by (by decide +kernel)
theorem xd_255_187 : decode (wk_M 255).2.2.1 187 = .ok (.iconst 1, 1) := zd_by (by decide +kernel)
theorem xd_255_188 : decode (wk_M 255).2.2.1 188 = .ok (.ireturn, 1) := zd_by (by decide +kernel)
abbrev D_255  (m : dc_M) (v : Int) (m' : dc_M) : Prop := ∃ v_9 m_14, D_249 7566701 m v_9 m_14 ∧ ((0 ≤ (1 : Int) ∧ (1 : Int) < 2) ∧ ((0 ≤ ((dc_w (8 + (m_14 155 1))) : Int) ∧ ((dc_w (8 + (m_14 155 1))) : Int) < 16) ∧ ∃ m_73, m_73 = dc_up m_14 156 (dc_w (8 + (m_14 155 1))) (-1) ∧ ((0 ≤ ((dc_w (8 + (m_14 155 1))) : Int) ∧ ((dc_w (8 + (m_14 155 1))) : Int) < 16) ∧ ∃ m_94, m_94 = dc_up m_73 159 (dc_w (8 + (m_14 155 1))) 0 ∧ (∃ v_103 m_108, D_198 m_94 v_103 m_108 ∧ ((((v_9 : Int) = 0 ∧ (∃ v_132 m_137, D_201 1 6 m_108 v_132 m_137 ∧ ((((v_132 : Int) ≠ 0 ∧ ((0 ≤ ((dc_w (8 + (m_14 155 1))) : Int) ∧ ((dc_w (8 + (m_14 155 1))) : Int) < 16) ∧ ∃ m_168, m_168 = dc_up m_137 157 (dc_w (8 + (m_14 155 1))) (m_137 114 14) ∧ (∃ v_183 m_188, D_201 1 3 m_168 v_183 m_188 ∧ ((((v_183 : Int) ≠ 0 ∧ ((0 ≤ ((dc_w (8 + (m_14 155 1))) : Int) ∧ ((dc_w (8 + (m_14 155 1))) : Int) < 16) ∧ ∃ m_219, m_219 = dc_up m_188 158 (dc_w (8 + (m_14 155 1))) (m_188 114 14) ∧ ((((v_9 : Int) = 0 ∧ ((0 ≤ (1 : Int) ∧ (1 : Int) < 2) ∧ ((0 ≤ (1 : Int) ∧ (1 : Int) < 2) ∧ ∃ m_258, m_258 = dc_up m_219 155 1 (dc_w ((m_219 155 1) + 1)) ∧ (v = 1 ∧ m' = m_258)))) ∨ (¬ ((v_9 : Int) = 0) ∧ (∃ v_274 m_279, D_249 1870030194 m_219 v_274 m_279 ∧ ((((v_274 : Int) = 0 ∧ ((0 ≤ (1 : Int) ∧ (1 : Int) < 2) ∧ ((0 ≤ (1 : Int) ∧ (1 : Int) < 2) ∧ ∃ m_317, m_317 = dc_up m_279 155 1 (dc_w ((m_279 155 1) + 1)) ∧ (v = 1 ∧ m' = m_317)))) ∨ (¬ ((v_274 : Int) = 0) ∧ (∃ v_330 m_335, D_198 m_279 v_330 m_335 ∧ (∃ v_352 m_357, D_201 1 20 m_335 v_352 m_357 ∧ ((((v_352 : Int) ≠ 0 ∧ ((0 ≤ ((dc_w (8 + (m_14 155 1))) : Int) ∧ ((dc_w (8 + (m_14 155 1))) : Int) < 16) ∧ ∃ m_388, m_388 = dc_up m_357 159 (dc_w (8 + (m_14 155 1))) (m_357 114 14) ∧ ((0 ≤ (1 : Int) ∧ (1 : Int) < 2) ∧ ((0 ≤ (1 : Int) ∧ (1 : Int) < 2) ∧ ∃ m_420, m_420 = dc_up m_388 155 1 (dc_w ((m_388 155 1) + 1)) ∧ (v = 1 ∧ m' = m_420))))) ∨ (¬ ((v_352 : Int) ≠ 0) ∧ (v = 0 ∧ m' = m_357))))))))))))))) ∨ (¬ ((v_183 : Int) ≠ 0) ∧ (v = 0 ∧ m' = m_188))))))) ∨ (¬ ((v_132 : Int) ≠ 0) ∧ (v = 0 ∧ m' = m_137)))))) ∨ (¬ ((v_9 : Int) = 0) ∧ (∃ v_445 m_450, D_250 m_108 v_445 m_450 ∧ ((((v_445 : Int) ≠ 0 ∧ (∃ v_482 m_487, D_251 ((m_450 114 13).toNat) m_450 v_482 m_487 ∧ ((0 ≤ ((dc_w (8 + (m_14 155 1))) : Int) ∧ ((dc_w (8 + (m_14 155 1))) : Int) < 16) ∧ ∃ m_497, m_497 = dc_up m_487 156 (dc_w (8 + (m_14 155 1))) v_482 ∧ ((0 ≤ ((dc_w (8 + (m_14 155 1))) : Int) ∧ ((dc_w (8 + (m_14 155 1))) : Int) < 16) ∧ (((((m_497 156 (dc_w (8 + (m_14 155 1)))) : Int) ≥ 0 ∧ (∃ v_525 m_530, D_198 m_497 v_525 m_530 ∧ (∃ v_547 m_552, D_201 1 6 m_530 v_547 m_552 ∧ ((((v_547 : Int) ≠ 0 ∧ ((0 ≤ ((dc_w (8 + (m_14 155 1))) : Int) ∧ ((dc_w (8 + (m_14 155 1))) : Int) < 16) ∧ ∃ m_583, m_583 = dc_up m_552 157 (dc_w (8 + (m_14 155 1))) (m_552 114 14) ∧ (∃ v_598 m_603, D_201 1 3 m_583 v_598 m_603 ∧ ((((v_598 : Int) ≠ 0 ∧ ((0 ≤ ((dc_w (8 + (m_14 155 1))) : Int) ∧ ((dc_w (8 + (m_14 155 1))) : Int) < 16) ∧ ∃ m_634, m_634 = dc_up m_603 158 (dc_w (8 + (m_14 155 1))) (m_603 114 14) ∧ ((((v_9 : Int) = 0 ∧ ((0 ≤ (1 : Int) ∧ (1 : Int) < 2) ∧ ((0 ≤ (1 : Int) ∧ (1 : Int) < 2) ∧ ∃ m_673, m_673 = dc_up m_634 155 1 (dc_w ((m_634 155 1) + 1)) ∧ (v = 1 ∧ m' = m_673)))) ∨ (¬ ((v_9 : Int) = 0) ∧ (∃ v_689 m_694, D_249 1870030194 m_634 v_689 m_694 ∧ ((((v_689 : Int) = 0 ∧ ((0 ≤ (1 : Int) ∧ (1 : Int) < 2) ∧ ((0 ≤ (1 : Int) ∧ (1 : Int) < 2) ∧ ∃ m_732, m_732 = dc_up m_694 155 1 (dc_w ((m_694 155 1) + 1)) ∧ (v = 1 ∧ m' = m_732)))) ∨ (¬ ((v_689 : Int) = 0) ∧ (∃ v_745 m_750, D_198 m_694 v_745 m_750 ∧ (∃ v_767 m_772, D_201 1 20 m_750 v_767 m_772 ∧ ((((v_767 : Int) ≠ 0 ∧ ((0 ≤ ((dc_w (8 + (m_14 155 1))) : Int) ∧ ((dc_w (8 + (m_14 155 1))) : Int) < 16) ∧ ∃ m_803, m_803 = dc_up m_772 159 (dc_w (8 + (m_14 155 1))) (m_772 114 14) ∧ ((0 ≤ (1 : Int) ∧ (1 : Int) < 2) ∧ ((0 ≤ (1 : Int) ∧ (1 : Int) < 2) ∧ ∃ m_835, m_835 = dc_up m_803 155 1 (dc_w ((m_803 155 1) + 1)) ∧ (v = 1 ∧ m' = m_835))))) ∨ (¬ ((v_767 : Int) ≠ 0) ∧ (v = 0 ∧ m' = m_772))))))))))))))) ∨ (¬ ((v_598 : Int) ≠ 0) ∧ (v = 0 ∧ m' = m_603))))))) ∨ (¬ ((v_547 : Int) ≠ 0) ∧ (v = 0 ∧ m' = m_552))))))) ∨ (¬ (((m_497 156 (dc_w (8 + (m_14 155 1)))) : Int) ≥ 0) ∧ (∃ v_870 m_875, D_199 3 ((m_497 114 8)) m_497 v_870 m_875 ∧ (v = v_870 ∧ m' = m_875))))))))) ∨ (¬ ((v_445 : Int) ≠ 0) ∧ (∃ v_897 m_902, D_199 1 ((m_450 114 8)) m_450 v_897 m_902 ∧ (v = v_897 ∧ m' = m_902)))))))))))))
theorem ds_255 (n : Nat)  {h : ae_H} {r : ae_R} (ok : dc_ok h)  (hr : ae_exe n 255 0 0 0 (ae_args [wk_r 114] 0) [] h = some r) : ∃ v, D_255  (dc_m h) v (dc_m r.2) ∧ r.1 = some (wk_i v) ∧ sv_I v ∧ dc_ok r.2 := by
  have q0 : ae_lk (ae_args [wk_r 114] 0) 0 = some (wk_r 114) := rfl
  obtain ⟨n_1, e_2, hr_3⟩ := iv_aload_n xm_255 xd_255_0 q0 hr
  obtain ⟨n_4, e_5, hr_6⟩ := iv_ldc2 (v := 7566701) (z := 0) xm_255 xd_255_1 (by decide +kernel) hr_3
  obtain ⟨n_16, r_7, e_17, hc_8, hr_18⟩ := iv_call (Or.inr ⟨rfl, rfl⟩) xm_255 xd_255_4 (by decide +kernel) xm_249 rfl (by decide +kernel) hr_6
  obtain ⟨v_9, d_10, er_11, iv_12, ok_13⟩ := ds_249 _ _ ok (by decide) hc_8
  obtain ⟨_, h_15⟩ := r_7
  have er_11 : _ = some (wk_i v_9) := er_11
  subst er_11
  have hr_19 : ae_exe n_16 255 (4 + 3) 0 0 (ae_args [wk_r 114] 0) _ h_15 = some r := hr_18
  obtain ⟨lv_21, sl_20, n_22, e_23, hr_24⟩ := iv_istore_n xm_255 xd_255_7 (by decide +kernel) hr_19
  have l_25 := sl_20.2 0 _ q0 (by decide) (Or.inl rfl)
  have l_26 := sl_20.1
  obtain ⟨n_27, e_28, hr_29⟩ := iv_bipush xm_255 xd_255_8 (by decide) hr_24
  obtain ⟨n_30, e_31, hr_32⟩ := iv_aload_n xm_255 xd_255_10 l_25 hr_29
  have f_33 := dc_fr (j := 66) ok_13 (rfl : sv_ty 114 = some 12) dt_12 rfl
  obtain ⟨n_34, e_35, hr_36⟩ := iv_getf (j := 66) xm_255 xd_255_11 (by decide +kernel) ok_13 (rfl : sv_ty 114 = some 12) dt_12 f_33 hr_32
  obtain ⟨n_37, e_38, hr_39⟩ := iv_iconst xm_255 xd_255_14 (by decide) hr_36
  obtain ⟨q_40, qi_41, n_42, e_43, hr_44⟩ := iv_iald xm_255 xd_255_15 ok_13 (rfl : sv_ty 155 = some 92) dt_92 (by decide) (by unfold sv_I; omega) hr_39
  obtain ⟨n_45, e_46, hr_47⟩ := iw_iadd xm_255 xd_255_16 hr_44
  obtain ⟨lv_49, sl_48, n_50, e_51, hr_52⟩ := iv_istore_n xm_255 xd_255_17 (by decide +kernel) hr_47
  have l_53 := sl_48.2 0 _ l_25 (by decide) (Or.inl rfl)
  have l_54 := sl_48.2 1 _ l_26 (by decide) (Or.inl rfl)
  have l_55 := sl_48.1
  obtain ⟨n_56, e_57, hr_58⟩ := iv_aload_n xm_255 xd_255_18 l_53 hr_52
  have f_59 := dc_fr (j := 67) ok_13 (rfl : sv_ty 114 = some 12) dt_12 rfl
  obtain ⟨n_60, e_61, hr_62⟩ := iv_getf (j := 67) xm_255 xd_255_19 (by decide +kernel) ok_13 (rfl : sv_ty 114 = some 12) dt_12 f_59 hr_58
  obtain ⟨n_63, e_64, hr_65⟩ := iv_iload_n xm_255 xd_255_22 l_55 hr_62
  obtain ⟨n_66, e_67, hr_68⟩ := iv_iconst xm_255 xd_255_23 (by decide) hr_65
  obtain ⟨q_69, h_70, ok_71, em_72, n_74, e_75, hr_76⟩ := iv_iast xm_255 xd_255_24 ok_13 (rfl : sv_ty 156 = some 93) dt_93 (by decide) (dc_w_I _) (by unfold sv_I; omega) hr_68
  obtain ⟨n_77, e_78, hr_79⟩ := iv_aload_n xm_255 xd_255_25 l_53 hr_76
  have f_80 := dc_fr (j := 70) ok_71 (rfl : sv_ty 114 = some 12) dt_12 rfl
  obtain ⟨n_81, e_82, hr_83⟩ := iv_getf (j := 70) xm_255 xd_255_26 (by decide +kernel) ok_71 (rfl : sv_ty 114 = some 12) dt_12 f_80 hr_79
  obtain ⟨n_84, e_85, hr_86⟩ := iv_iload_n xm_255 xd_255_29 l_55 hr_83
  obtain ⟨n_87, e_88, hr_89⟩ := iv_iconst xm_255 xd_255_30 (by decide) hr_86
  obtain ⟨q_90, h_91, ok_92, em_93, n_95, e_96, hr_97⟩ := iv_iast xm_255 xd_255_31 ok_71 (rfl : sv_ty 159 = some 96) dt_96 (by decide) (dc_w_I _) (by unfold sv_I; omega) hr_89
  obtain ⟨n_98, e_99, hr_100⟩ := iv_aload_n xm_255 xd_255_32 l_53 hr_97
  obtain ⟨n_110, r_101, e_111, hc_102, hr_112⟩ := iv_call (Or.inr ⟨rfl, rfl⟩) xm_255 xd_255_33 (by decide +kernel) xm_198 rfl (by decide +kernel) hr_100
  obtain ⟨v_103, d_104, er_105, iv_106, ok_107⟩ := ds_198 _  ok_92 hc_102
  obtain ⟨_, h_109⟩ := r_101
  have er_105 : _ = none := er_105
  subst er_105
  have hr_113 : ae_exe n_110 255 (33 + 3) 0 0 lv_49 _ h_109 = some r := hr_112
  obtain ⟨n_114, e_115, hr_116⟩ := iv_iload_n xm_255 xd_255_36 l_54 hr_113
  rcases iv_if 94 xm_255 xd_255_37 (by decide) iv_12 hr_116 with ⟨c_117, n_118, e_119, hr_120⟩ | ⟨c_117, n_118, e_119, hr_120⟩
  · obtain ⟨n_121, e_122, hr_123⟩ := iv_aload_n xm_255 xd_255_94 l_53 hr_120
    obtain ⟨n_124, e_125, hr_126⟩ := iv_iconst xm_255 xd_255_95 (by decide) hr_123
    obtain ⟨n_127, e_128, hr_129⟩ := iv_bipush xm_255 xd_255_96 (by decide) hr_126
    obtain ⟨n_139, r_130, e_140, hc_131, hr_141⟩ := iv_call (Or.inr ⟨rfl, rfl⟩) xm_255 xd_255_98 (by decide +kernel) xm_201 rfl (by decide +kernel) hr_129
    obtain ⟨v_132, d_133, er_134, iv_135, ok_136⟩ := ds_201 _ _ _ ok_107 (by unfold sv_I; omega) (by unfold sv_I; omega) hc_131
    obtain ⟨_, h_138⟩ := r_130
    have er_134 : _ = some (wk_i v_132) := er_134
    subst er_134
    have hr_142 : ae_exe n_139 255 (98 + 3) 0 0 lv_49 _ h_138 = some r := hr_141
    rcases iv_if 106 xm_255 xd_255_101 (by decide) iv_135 hr_142 with ⟨c_143, n_144, e_145, hr_146⟩ | ⟨c_143, n_144, e_145, hr_146⟩
    · obtain ⟨n_147, e_148, hr_149⟩ := iv_aload_n xm_255 xd_255_106 l_53 hr_146
      have f_150 := dc_fr (j := 68) ok_136 (rfl : sv_ty 114 = some 12) dt_12 rfl
      obtain ⟨n_151, e_152, hr_153⟩ := iv_getf (j := 68) xm_255 xd_255_107 (by decide +kernel) ok_136 (rfl : sv_ty 114 = some 12) dt_12 f_150 hr_149
      obtain ⟨n_154, e_155, hr_156⟩ := iv_iload_n xm_255 xd_255_110 l_55 hr_153
      obtain ⟨n_157, e_158, hr_159⟩ := iv_aload_n xm_255 xd_255_111 l_53 hr_156
      have f_160 := dc_fi (j := 14) ok_136 (rfl : sv_ty 114 = some 12) dt_12 rfl
      obtain ⟨n_161, e_162, hr_163⟩ := iv_getf (j := 14) xm_255 xd_255_112 (by decide +kernel) ok_136 (rfl : sv_ty 114 = some 12) dt_12 f_160.1 hr_159
      obtain ⟨q_164, h_165, ok_166, em_167, n_169, e_170, hr_171⟩ := iv_iast xm_255 xd_255_115 ok_136 (rfl : sv_ty 157 = some 94) dt_94 (by decide) (dc_w_I _) f_160.2 hr_163
      obtain ⟨n_172, e_173, hr_174⟩ := iv_aload_n xm_255 xd_255_116 l_53 hr_171
      obtain ⟨n_175, e_176, hr_177⟩ := iv_iconst xm_255 xd_255_117 (by decide) hr_174
      obtain ⟨n_178, e_179, hr_180⟩ := iv_iconst xm_255 xd_255_118 (by decide) hr_177
      obtain ⟨n_190, r_181, e_191, hc_182, hr_192⟩ := iv_call (Or.inr ⟨rfl, rfl⟩) xm_255 xd_255_119 (by decide +kernel) xm_201 rfl (by decide +kernel) hr_180
      obtain ⟨v_183, d_184, er_185, iv_186, ok_187⟩ := ds_201 _ _ _ ok_166 (by unfold sv_I; omega) (by unfold sv_I; omega) hc_182
      obtain ⟨_, h_189⟩ := r_181
      have er_185 : _ = some (wk_i v_183) := er_185
      subst er_185
      have hr_193 : ae_exe n_190 255 (119 + 3) 0 0 lv_49 _ h_189 = some r := hr_192
      rcases iv_if 127 xm_255 xd_255_122 (by decide) iv_186 hr_193 with ⟨c_194, n_195, e_196, hr_197⟩ | ⟨c_194, n_195, e_196, hr_197⟩
      · obtain ⟨n_198, e_199, hr_200⟩ := iv_aload_n xm_255 xd_255_127 l_53 hr_197
        have f_201 := dc_fr (j := 69) ok_187 (rfl : sv_ty 114 = some 12) dt_12 rfl
        obtain ⟨n_202, e_203, hr_204⟩ := iv_getf (j := 69) xm_255 xd_255_128 (by decide +kernel) ok_187 (rfl : sv_ty 114 = some 12) dt_12 f_201 hr_200
        obtain ⟨n_205, e_206, hr_207⟩ := iv_iload_n xm_255 xd_255_131 l_55 hr_204
        obtain ⟨n_208, e_209, hr_210⟩ := iv_aload_n xm_255 xd_255_132 l_53 hr_207
        have f_211 := dc_fi (j := 14) ok_187 (rfl : sv_ty 114 = some 12) dt_12 rfl
        obtain ⟨n_212, e_213, hr_214⟩ := iv_getf (j := 14) xm_255 xd_255_133 (by decide +kernel) ok_187 (rfl : sv_ty 114 = some 12) dt_12 f_211.1 hr_210
        obtain ⟨q_215, h_216, ok_217, em_218, n_220, e_221, hr_222⟩ := iv_iast xm_255 xd_255_136 ok_187 (rfl : sv_ty 158 = some 95) dt_95 (by decide) (dc_w_I _) f_211.2 hr_214
        obtain ⟨n_223, e_224, hr_225⟩ := iv_iload_n xm_255 xd_255_137 l_54 hr_222
        rcases iv_if 177 xm_255 xd_255_138 (by decide) iv_12 hr_225 with ⟨c_226, n_227, e_228, hr_229⟩ | ⟨c_226, n_227, e_228, hr_229⟩
        · obtain ⟨n_230, e_231, hr_232⟩ := iv_aload_n xm_255 xd_255_177 l_53 hr_229
          have f_233 := dc_fr (j := 66) ok_217 (rfl : sv_ty 114 = some 12) dt_12 rfl
          obtain ⟨n_234, e_235, hr_236⟩ := iv_getf (j := 66) xm_255 xd_255_178 (by decide +kernel) ok_217 (rfl : sv_ty 114 = some 12) dt_12 f_233 hr_232
          obtain ⟨n_237, e_238, hr_239⟩ := iv_iconst xm_255 xd_255_181 (by decide) hr_236
          obtain ⟨n_240, e_241, hr_242⟩ := iv_dup2 xm_255 xd_255_182 rfl rfl hr_239
          obtain ⟨q_243, qi_244, n_245, e_246, hr_247⟩ := iv_iald xm_255 xd_255_183 ok_217 (rfl : sv_ty 155 = some 92) dt_92 (by decide) (by unfold sv_I; omega) hr_242
          obtain ⟨n_248, e_249, hr_250⟩ := iv_iconst xm_255 xd_255_184 (by decide) hr_247
          obtain ⟨n_251, e_252, hr_253⟩ := iw_iadd xm_255 xd_255_185 hr_250
          obtain ⟨q_254, h_255, ok_256, em_257, n_259, e_260, hr_261⟩ := iv_iast xm_255 xd_255_186 ok_217 (rfl : sv_ty 155 = some 92) dt_92 (by decide) (by unfold sv_I; omega) (dc_w_I _) hr_253
          obtain ⟨n_262, e_263, hr_264⟩ := iv_iconst xm_255 xd_255_187 (by decide) hr_261
          have rr_265 := iv_ireturn xm_255 xd_255_188 hr_264
          subst rr_265
          exact ⟨_, ⟨_, _, d_10, ⟨q_40, ⟨q_69, _, em_72, ⟨q_90, _, em_93, ⟨_, _, d_104, Or.inl ⟨c_117, ⟨_, _, d_133, Or.inl ⟨c_143, ⟨q_164, _, em_167, ⟨_, _, d_184, Or.inl ⟨c_194, ⟨q_215, _, em_218, Or.inl ⟨c_226, ⟨q_243, ⟨q_254, _, em_257, ⟨rfl, rfl⟩⟩⟩⟩⟩⟩⟩⟩⟩⟩⟩⟩⟩⟩⟩⟩, rfl, (by unfold sv_I; omega), ok_256⟩
        · obtain ⟨n_266, e_267, hr_268⟩ := iv_aload_n xm_255 xd_255_141 l_53 hr_229
          obtain ⟨n_269, e_270, hr_271⟩ := iv_ldc2 (v := 1870030194) (z := 0) xm_255 xd_255_142 (by decide +kernel) hr_268
          obtain ⟨n_281, r_272, e_282, hc_273, hr_283⟩ := iv_call (Or.inr ⟨rfl, rfl⟩) xm_255 xd_255_145 (by decide +kernel) xm_249 rfl (by decide +kernel) hr_271
          obtain ⟨v_274, d_275, er_276, iv_277, ok_278⟩ := ds_249 _ _ ok_217 (by decide) hc_273
          obtain ⟨_, h_280⟩ := r_272
          have er_276 : _ = some (wk_i v_274) := er_276
          subst er_276
          have hr_284 : ae_exe n_281 255 (145 + 3) 0 0 lv_49 _ h_280 = some r := hr_283
          rcases iv_if 177 xm_255 xd_255_148 (by decide) iv_277 hr_284 with ⟨c_285, n_286, e_287, hr_288⟩ | ⟨c_285, n_286, e_287, hr_288⟩
          · obtain ⟨n_289, e_290, hr_291⟩ := iv_aload_n xm_255 xd_255_177 l_53 hr_288
            have f_292 := dc_fr (j := 66) ok_278 (rfl : sv_ty 114 = some 12) dt_12 rfl
            obtain ⟨n_293, e_294, hr_295⟩ := iv_getf (j := 66) xm_255 xd_255_178 (by decide +kernel) ok_278 (rfl : sv_ty 114 = some 12) dt_12 f_292 hr_291
            obtain ⟨n_296, e_297, hr_298⟩ := iv_iconst xm_255 xd_255_181 (by decide) hr_295
            obtain ⟨n_299, e_300, hr_301⟩ := iv_dup2 xm_255 xd_255_182 rfl rfl hr_298
            obtain ⟨q_302, qi_303, n_304, e_305, hr_306⟩ := iv_iald xm_255 xd_255_183 ok_278 (rfl : sv_ty 155 = some 92) dt_92 (by decide) (by unfold sv_I; omega) hr_301
            obtain ⟨n_307, e_308, hr_309⟩ := iv_iconst xm_255 xd_255_184 (by decide) hr_306
            obtain ⟨n_310, e_311, hr_312⟩ := iw_iadd xm_255 xd_255_185 hr_309
            obtain ⟨q_313, h_314, ok_315, em_316, n_318, e_319, hr_320⟩ := iv_iast xm_255 xd_255_186 ok_278 (rfl : sv_ty 155 = some 92) dt_92 (by decide) (by unfold sv_I; omega) (dc_w_I _) hr_312
            obtain ⟨n_321, e_322, hr_323⟩ := iv_iconst xm_255 xd_255_187 (by decide) hr_320
            have rr_324 := iv_ireturn xm_255 xd_255_188 hr_323
            subst rr_324
            exact ⟨_, ⟨_, _, d_10, ⟨q_40, ⟨q_69, _, em_72, ⟨q_90, _, em_93, ⟨_, _, d_104, Or.inl ⟨c_117, ⟨_, _, d_133, Or.inl ⟨c_143, ⟨q_164, _, em_167, ⟨_, _, d_184, Or.inl ⟨c_194, ⟨q_215, _, em_218, Or.inr ⟨c_226, ⟨_, _, d_275, Or.inl ⟨c_285, ⟨q_302, ⟨q_313, _, em_316, ⟨rfl, rfl⟩⟩⟩⟩⟩⟩⟩⟩⟩⟩⟩⟩⟩⟩⟩⟩⟩⟩, rfl, (by unfold sv_I; omega), ok_315⟩
          · obtain ⟨n_325, e_326, hr_327⟩ := iv_aload_n xm_255 xd_255_151 l_53 hr_288
            obtain ⟨n_337, r_328, e_338, hc_329, hr_339⟩ := iv_call (Or.inr ⟨rfl, rfl⟩) xm_255 xd_255_152 (by decide +kernel) xm_198 rfl (by decide +kernel) hr_327
            obtain ⟨v_330, d_331, er_332, iv_333, ok_334⟩ := ds_198 _  ok_278 hc_329
            obtain ⟨_, h_336⟩ := r_328
            have er_332 : _ = none := er_332
            subst er_332
            have hr_340 : ae_exe n_337 255 (152 + 3) 0 0 lv_49 _ h_336 = some r := hr_339
            obtain ⟨n_341, e_342, hr_343⟩ := iv_aload_n xm_255 xd_255_155 l_53 hr_340
            obtain ⟨n_344, e_345, hr_346⟩ := iv_iconst xm_255 xd_255_156 (by decide) hr_343
            obtain ⟨n_347, e_348, hr_349⟩ := iv_bipush xm_255 xd_255_157 (by decide) hr_346
            obtain ⟨n_359, r_350, e_360, hc_351, hr_361⟩ := iv_call (Or.inr ⟨rfl, rfl⟩) xm_255 xd_255_159 (by decide +kernel) xm_201 rfl (by decide +kernel) hr_349
            obtain ⟨v_352, d_353, er_354, iv_355, ok_356⟩ := ds_201 _ _ _ ok_334 (by unfold sv_I; omega) (by unfold sv_I; omega) hc_351
            obtain ⟨_, h_358⟩ := r_350
            have er_354 : _ = some (wk_i v_352) := er_354
            subst er_354
            have hr_362 : ae_exe n_359 255 (159 + 3) 0 0 lv_49 _ h_358 = some r := hr_361
            rcases iv_if 167 xm_255 xd_255_162 (by decide) iv_355 hr_362 with ⟨c_363, n_364, e_365, hr_366⟩ | ⟨c_363, n_364, e_365, hr_366⟩
            · obtain ⟨n_367, e_368, hr_369⟩ := iv_aload_n xm_255 xd_255_167 l_53 hr_366
              have f_370 := dc_fr (j := 70) ok_356 (rfl : sv_ty 114 = some 12) dt_12 rfl
              obtain ⟨n_371, e_372, hr_373⟩ := iv_getf (j := 70) xm_255 xd_255_168 (by decide +kernel) ok_356 (rfl : sv_ty 114 = some 12) dt_12 f_370 hr_369
              obtain ⟨n_374, e_375, hr_376⟩ := iv_iload_n xm_255 xd_255_171 l_55 hr_373
              obtain ⟨n_377, e_378, hr_379⟩ := iv_aload_n xm_255 xd_255_172 l_53 hr_376
              have f_380 := dc_fi (j := 14) ok_356 (rfl : sv_ty 114 = some 12) dt_12 rfl
              obtain ⟨n_381, e_382, hr_383⟩ := iv_getf (j := 14) xm_255 xd_255_173 (by decide +kernel) ok_356 (rfl : sv_ty 114 = some 12) dt_12 f_380.1 hr_379
              obtain ⟨q_384, h_385, ok_386, em_387, n_389, e_390, hr_391⟩ := iv_iast xm_255 xd_255_176 ok_356 (rfl : sv_ty 159 = some 96) dt_96 (by decide) (dc_w_I _) f_380.2 hr_383
              obtain ⟨n_392, e_393, hr_394⟩ := iv_aload_n xm_255 xd_255_177 l_53 hr_391
              have f_395 := dc_fr (j := 66) ok_386 (rfl : sv_ty 114 = some 12) dt_12 rfl
              obtain ⟨n_396, e_397, hr_398⟩ := iv_getf (j := 66) xm_255 xd_255_178 (by decide +kernel) ok_386 (rfl : sv_ty 114 = some 12) dt_12 f_395 hr_394
              obtain ⟨n_399, e_400, hr_401⟩ := iv_iconst xm_255 xd_255_181 (by decide) hr_398
              obtain ⟨n_402, e_403, hr_404⟩ := iv_dup2 xm_255 xd_255_182 rfl rfl hr_401
              obtain ⟨q_405, qi_406, n_407, e_408, hr_409⟩ := iv_iald xm_255 xd_255_183 ok_386 (rfl : sv_ty 155 = some 92) dt_92 (by decide) (by unfold sv_I; omega) hr_404
              obtain ⟨n_410, e_411, hr_412⟩ := iv_iconst xm_255 xd_255_184 (by decide) hr_409
              obtain ⟨n_413, e_414, hr_415⟩ := iw_iadd xm_255 xd_255_185 hr_412
              obtain ⟨q_416, h_417, ok_418, em_419, n_421, e_422, hr_423⟩ := iv_iast xm_255 xd_255_186 ok_386 (rfl : sv_ty 155 = some 92) dt_92 (by decide) (by unfold sv_I; omega) (dc_w_I _) hr_415
              obtain ⟨n_424, e_425, hr_426⟩ := iv_iconst xm_255 xd_255_187 (by decide) hr_423
              have rr_427 := iv_ireturn xm_255 xd_255_188 hr_426
              subst rr_427
              exact ⟨_, ⟨_, _, d_10, ⟨q_40, ⟨q_69, _, em_72, ⟨q_90, _, em_93, ⟨_, _, d_104, Or.inl ⟨c_117, ⟨_, _, d_133, Or.inl ⟨c_143, ⟨q_164, _, em_167, ⟨_, _, d_184, Or.inl ⟨c_194, ⟨q_215, _, em_218, Or.inr ⟨c_226, ⟨_, _, d_275, Or.inr ⟨c_285, ⟨_, _, d_331, ⟨_, _, d_353, Or.inl ⟨c_363, ⟨q_384, _, em_387, ⟨q_405, ⟨q_416, _, em_419, ⟨rfl, rfl⟩⟩⟩⟩⟩⟩⟩⟩⟩⟩⟩⟩⟩⟩⟩⟩⟩⟩⟩⟩⟩⟩, rfl, (by unfold sv_I; omega), ok_418⟩
            · obtain ⟨n_428, e_429, hr_430⟩ := iv_iconst xm_255 xd_255_165 (by decide) hr_366
              have rr_431 := iv_ireturn xm_255 xd_255_166 hr_430
              subst rr_431
              exact ⟨_, ⟨_, _, d_10, ⟨q_40, ⟨q_69, _, em_72, ⟨q_90, _, em_93, ⟨_, _, d_104, Or.inl ⟨c_117, ⟨_, _, d_133, Or.inl ⟨c_143, ⟨q_164, _, em_167, ⟨_, _, d_184, Or.inl ⟨c_194, ⟨q_215, _, em_218, Or.inr ⟨c_226, ⟨_, _, d_275, Or.inr ⟨c_285, ⟨_, _, d_331, ⟨_, _, d_353, Or.inr ⟨c_363, ⟨rfl, rfl⟩⟩⟩⟩⟩⟩⟩⟩⟩⟩⟩⟩⟩⟩⟩⟩⟩⟩⟩, rfl, (by unfold sv_I; omega), ok_356⟩
      · obtain ⟨n_432, e_433, hr_434⟩ := iv_iconst xm_255 xd_255_125 (by decide) hr_197
        have rr_435 := iv_ireturn xm_255 xd_255_126 hr_434
        subst rr_435
        exact ⟨_, ⟨_, _, d_10, ⟨q_40, ⟨q_69, _, em_72, ⟨q_90, _, em_93, ⟨_, _, d_104, Or.inl ⟨c_117, ⟨_, _, d_133, Or.inl ⟨c_143, ⟨q_164, _, em_167, ⟨_, _, d_184, Or.inr ⟨c_194, ⟨rfl, rfl⟩⟩⟩⟩⟩⟩⟩⟩⟩⟩⟩⟩, rfl, (by unfold sv_I; omega), ok_187⟩
    · obtain ⟨n_436, e_437, hr_438⟩ := iv_iconst xm_255 xd_255_104 (by decide) hr_146
      have rr_439 := iv_ireturn xm_255 xd_255_105 hr_438
      subst rr_439
      exact ⟨_, ⟨_, _, d_10, ⟨q_40, ⟨q_69, _, em_72, ⟨q_90, _, em_93, ⟨_, _, d_104, Or.inl ⟨c_117, ⟨_, _, d_133, Or.inr ⟨c_143, ⟨rfl, rfl⟩⟩⟩⟩⟩⟩⟩⟩⟩, rfl, (by unfold sv_I; omega), ok_136⟩
  · obtain ⟨n_440, e_441, hr_442⟩ := iv_aload_n xm_255 xd_255_40 l_53 hr_120
    obtain ⟨n_452, r_443, e_453, hc_444, hr_454⟩ := iv_call (Or.inr ⟨rfl, rfl⟩) xm_255 xd_255_41 (by decide +kernel) xm_250 rfl (by decide +kernel) hr_442
    obtain ⟨v_445, d_446, er_447, iv_448, ok_449⟩ := ds_250 _  ok_107 hc_444
    obtain ⟨_, h_451⟩ := r_443
    have er_447 : _ = some (wk_i v_445) := er_447
    subst er_447
    have hr_455 : ae_exe n_452 255 (41 + 3) 0 0 lv_49 _ h_451 = some r := hr_454
    rcases iv_if 57 xm_255 xd_255_44 (by decide) iv_448 hr_455 with ⟨c_456, n_457, e_458, hr_459⟩ | ⟨c_456, n_457, e_458, hr_459⟩
    · obtain ⟨n_460, e_461, hr_462⟩ := iv_aload_n xm_255 xd_255_57 l_53 hr_459
      have f_463 := dc_fr (j := 67) ok_449 (rfl : sv_ty 114 = some 12) dt_12 rfl
      obtain ⟨n_464, e_465, hr_466⟩ := iv_getf (j := 67) xm_255 xd_255_58 (by decide +kernel) ok_449 (rfl : sv_ty 114 = some 12) dt_12 f_463 hr_462
      obtain ⟨n_467, e_468, hr_469⟩ := iv_iload_n xm_255 xd_255_61 l_55 hr_466
      obtain ⟨n_470, e_471, hr_472⟩ := iv_aload_n xm_255 xd_255_62 l_53 hr_469
      obtain ⟨n_473, e_474, hr_475⟩ := iv_aload_n xm_255 xd_255_63 l_53 hr_472
      have f_476 := dc_fl (j := 13) ok_449 (rfl : sv_ty 114 = some 12) dt_12 rfl
      obtain ⟨n_477, e_478, hr_479⟩ := iv_getf (j := 13) xm_255 xd_255_64 (by decide +kernel) ok_449 (rfl : sv_ty 114 = some 12) dt_12 f_476.1 hr_475
      obtain ⟨n_489, r_480, e_490, hc_481, hr_491⟩ := iv_call (Or.inr ⟨rfl, rfl⟩) xm_255 xd_255_67 (by decide +kernel) xm_251 rfl (by decide +kernel) hr_479
      obtain ⟨v_482, d_483, er_484, iv_485, ok_486⟩ := ds_251 _ _ ok_449 f_476.2 hc_481
      obtain ⟨_, h_488⟩ := r_480
      have er_484 : _ = some (wk_i v_482) := er_484
      subst er_484
      have hr_492 : ae_exe n_489 255 (67 + 3) 0 0 lv_49 _ h_488 = some r := hr_491
      obtain ⟨q_493, h_494, ok_495, em_496, n_498, e_499, hr_500⟩ := iv_iast xm_255 xd_255_70 ok_486 (rfl : sv_ty 156 = some 93) dt_93 (by decide) (dc_w_I _) iv_485 hr_492
      obtain ⟨n_501, e_502, hr_503⟩ := iv_aload_n xm_255 xd_255_71 l_53 hr_500
      have f_504 := dc_fr (j := 67) ok_495 (rfl : sv_ty 114 = some 12) dt_12 rfl
      obtain ⟨n_505, e_506, hr_507⟩ := iv_getf (j := 67) xm_255 xd_255_72 (by decide +kernel) ok_495 (rfl : sv_ty 114 = some 12) dt_12 f_504 hr_503
      obtain ⟨n_508, e_509, hr_510⟩ := iv_iload_n xm_255 xd_255_75 l_55 hr_507
      obtain ⟨q_511, qi_512, n_513, e_514, hr_515⟩ := iv_iald xm_255 xd_255_76 ok_495 (rfl : sv_ty 156 = some 93) dt_93 (by decide) (dc_w_I _) hr_510
      rcases iv_if 90 xm_255 xd_255_77 (by decide) qi_512 hr_515 with ⟨c_516, n_517, e_518, hr_519⟩ | ⟨c_516, n_517, e_518, hr_519⟩
      · obtain ⟨n_520, e_521, hr_522⟩ := iv_aload_n xm_255 xd_255_90 l_53 hr_519
        obtain ⟨n_532, r_523, e_533, hc_524, hr_534⟩ := iv_call (Or.inr ⟨rfl, rfl⟩) xm_255 xd_255_91 (by decide +kernel) xm_198 rfl (by decide +kernel) hr_522
        obtain ⟨v_525, d_526, er_527, iv_528, ok_529⟩ := ds_198 _  ok_495 hc_524
        obtain ⟨_, h_531⟩ := r_523
        have er_527 : _ = none := er_527
        subst er_527
        have hr_535 : ae_exe n_532 255 (91 + 3) 0 0 lv_49 _ h_531 = some r := hr_534
        obtain ⟨n_536, e_537, hr_538⟩ := iv_aload_n xm_255 xd_255_94 l_53 hr_535
        obtain ⟨n_539, e_540, hr_541⟩ := iv_iconst xm_255 xd_255_95 (by decide) hr_538
        obtain ⟨n_542, e_543, hr_544⟩ := iv_bipush xm_255 xd_255_96 (by decide) hr_541
        obtain ⟨n_554, r_545, e_555, hc_546, hr_556⟩ := iv_call (Or.inr ⟨rfl, rfl⟩) xm_255 xd_255_98 (by decide +kernel) xm_201 rfl (by decide +kernel) hr_544
        obtain ⟨v_547, d_548, er_549, iv_550, ok_551⟩ := ds_201 _ _ _ ok_529 (by unfold sv_I; omega) (by unfold sv_I; omega) hc_546
        obtain ⟨_, h_553⟩ := r_545
        have er_549 : _ = some (wk_i v_547) := er_549
        subst er_549
        have hr_557 : ae_exe n_554 255 (98 + 3) 0 0 lv_49 _ h_553 = some r := hr_556
        rcases iv_if 106 xm_255 xd_255_101 (by decide) iv_550 hr_557 with ⟨c_558, n_559, e_560, hr_561⟩ | ⟨c_558, n_559, e_560, hr_561⟩
        · obtain ⟨n_562, e_563, hr_564⟩ := iv_aload_n xm_255 xd_255_106 l_53 hr_561
          have f_565 := dc_fr (j := 68) ok_551 (rfl : sv_ty 114 = some 12) dt_12 rfl
          obtain ⟨n_566, e_567, hr_568⟩ := iv_getf (j := 68) xm_255 xd_255_107 (by decide +kernel) ok_551 (rfl : sv_ty 114 = some 12) dt_12 f_565 hr_564
          obtain ⟨n_569, e_570, hr_571⟩ := iv_iload_n xm_255 xd_255_110 l_55 hr_568
          obtain ⟨n_572, e_573, hr_574⟩ := iv_aload_n xm_255 xd_255_111 l_53 hr_571
          have f_575 := dc_fi (j := 14) ok_551 (rfl : sv_ty 114 = some 12) dt_12 rfl
          obtain ⟨n_576, e_577, hr_578⟩ := iv_getf (j := 14) xm_255 xd_255_112 (by decide +kernel) ok_551 (rfl : sv_ty 114 = some 12) dt_12 f_575.1 hr_574
          obtain ⟨q_579, h_580, ok_581, em_582, n_584, e_585, hr_586⟩ := iv_iast xm_255 xd_255_115 ok_551 (rfl : sv_ty 157 = some 94) dt_94 (by decide) (dc_w_I _) f_575.2 hr_578
          obtain ⟨n_587, e_588, hr_589⟩ := iv_aload_n xm_255 xd_255_116 l_53 hr_586
          obtain ⟨n_590, e_591, hr_592⟩ := iv_iconst xm_255 xd_255_117 (by decide) hr_589
          obtain ⟨n_593, e_594, hr_595⟩ := iv_iconst xm_255 xd_255_118 (by decide) hr_592
          obtain ⟨n_605, r_596, e_606, hc_597, hr_607⟩ := iv_call (Or.inr ⟨rfl, rfl⟩) xm_255 xd_255_119 (by decide +kernel) xm_201 rfl (by decide +kernel) hr_595
          obtain ⟨v_598, d_599, er_600, iv_601, ok_602⟩ := ds_201 _ _ _ ok_581 (by unfold sv_I; omega) (by unfold sv_I; omega) hc_597
          obtain ⟨_, h_604⟩ := r_596
          have er_600 : _ = some (wk_i v_598) := er_600
          subst er_600
          have hr_608 : ae_exe n_605 255 (119 + 3) 0 0 lv_49 _ h_604 = some r := hr_607
          rcases iv_if 127 xm_255 xd_255_122 (by decide) iv_601 hr_608 with ⟨c_609, n_610, e_611, hr_612⟩ | ⟨c_609, n_610, e_611, hr_612⟩
          · obtain ⟨n_613, e_614, hr_615⟩ := iv_aload_n xm_255 xd_255_127 l_53 hr_612
            have f_616 := dc_fr (j := 69) ok_602 (rfl : sv_ty 114 = some 12) dt_12 rfl
            obtain ⟨n_617, e_618, hr_619⟩ := iv_getf (j := 69) xm_255 xd_255_128 (by decide +kernel) ok_602 (rfl : sv_ty 114 = some 12) dt_12 f_616 hr_615
            obtain ⟨n_620, e_621, hr_622⟩ := iv_iload_n xm_255 xd_255_131 l_55 hr_619
            obtain ⟨n_623, e_624, hr_625⟩ := iv_aload_n xm_255 xd_255_132 l_53 hr_622
            have f_626 := dc_fi (j := 14) ok_602 (rfl : sv_ty 114 = some 12) dt_12 rfl
            obtain ⟨n_627, e_628, hr_629⟩ := iv_getf (j := 14) xm_255 xd_255_133 (by decide +kernel) ok_602 (rfl : sv_ty 114 = some 12) dt_12 f_626.1 hr_625
            obtain ⟨q_630, h_631, ok_632, em_633, n_635, e_636, hr_637⟩ := iv_iast xm_255 xd_255_136 ok_602 (rfl : sv_ty 158 = some 95) dt_95 (by decide) (dc_w_I _) f_626.2 hr_629
            obtain ⟨n_638, e_639, hr_640⟩ := iv_iload_n xm_255 xd_255_137 l_54 hr_637
            rcases iv_if 177 xm_255 xd_255_138 (by decide) iv_12 hr_640 with ⟨c_641, n_642, e_643, hr_644⟩ | ⟨c_641, n_642, e_643, hr_644⟩
            · obtain ⟨n_645, e_646, hr_647⟩ := iv_aload_n xm_255 xd_255_177 l_53 hr_644
              have f_648 := dc_fr (j := 66) ok_632 (rfl : sv_ty 114 = some 12) dt_12 rfl
              obtain ⟨n_649, e_650, hr_651⟩ := iv_getf (j := 66) xm_255 xd_255_178 (by decide +kernel) ok_632 (rfl : sv_ty 114 = some 12) dt_12 f_648 hr_647
              obtain ⟨n_652, e_653, hr_654⟩ := iv_iconst xm_255 xd_255_181 (by decide) hr_651
              obtain ⟨n_655, e_656, hr_657⟩ := iv_dup2 xm_255 xd_255_182 rfl rfl hr_654
              obtain ⟨q_658, qi_659, n_660, e_661, hr_662⟩ := iv_iald xm_255 xd_255_183 ok_632 (rfl : sv_ty 155 = some 92) dt_92 (by decide) (by unfold sv_I; omega) hr_657
              obtain ⟨n_663, e_664, hr_665⟩ := iv_iconst xm_255 xd_255_184 (by decide) hr_662
              obtain ⟨n_666, e_667, hr_668⟩ := iw_iadd xm_255 xd_255_185 hr_665
              obtain ⟨q_669, h_670, ok_671, em_672, n_674, e_675, hr_676⟩ := iv_iast xm_255 xd_255_186 ok_632 (rfl : sv_ty 155 = some 92) dt_92 (by decide) (by unfold sv_I; omega) (dc_w_I _) hr_668
              obtain ⟨n_677, e_678, hr_679⟩ := iv_iconst xm_255 xd_255_187 (by decide) hr_676
              have rr_680 := iv_ireturn xm_255 xd_255_188 hr_679
              subst rr_680
              exact ⟨_, ⟨_, _, d_10, ⟨q_40, ⟨q_69, _, em_72, ⟨q_90, _, em_93, ⟨_, _, d_104, Or.inr ⟨c_117, ⟨_, _, d_446, Or.inl ⟨c_456, ⟨_, _, d_483, ⟨q_493, _, em_496, ⟨q_511, Or.inl ⟨c_516, ⟨_, _, d_526, ⟨_, _, d_548, Or.inl ⟨c_558, ⟨q_579, _, em_582, ⟨_, _, d_599, Or.inl ⟨c_609, ⟨q_630, _, em_633, Or.inl ⟨c_641, ⟨q_658, ⟨q_669, _, em_672, ⟨rfl, rfl⟩⟩⟩⟩⟩⟩⟩⟩⟩⟩⟩⟩⟩⟩⟩⟩⟩⟩⟩⟩⟩⟩⟩, rfl, (by unfold sv_I; omega), ok_671⟩
            · obtain ⟨n_681, e_682, hr_683⟩ := iv_aload_n xm_255 xd_255_141 l_53 hr_644
              obtain ⟨n_684, e_685, hr_686⟩ := iv_ldc2 (v := 1870030194) (z := 0) xm_255 xd_255_142 (by decide +kernel) hr_683
              obtain ⟨n_696, r_687, e_697, hc_688, hr_698⟩ := iv_call (Or.inr ⟨rfl, rfl⟩) xm_255 xd_255_145 (by decide +kernel) xm_249 rfl (by decide +kernel) hr_686
              obtain ⟨v_689, d_690, er_691, iv_692, ok_693⟩ := ds_249 _ _ ok_632 (by decide) hc_688
              obtain ⟨_, h_695⟩ := r_687
              have er_691 : _ = some (wk_i v_689) := er_691
              subst er_691
              have hr_699 : ae_exe n_696 255 (145 + 3) 0 0 lv_49 _ h_695 = some r := hr_698
              rcases iv_if 177 xm_255 xd_255_148 (by decide) iv_692 hr_699 with ⟨c_700, n_701, e_702, hr_703⟩ | ⟨c_700, n_701, e_702, hr_703⟩
              · obtain ⟨n_704, e_705, hr_706⟩ := iv_aload_n xm_255 xd_255_177 l_53 hr_703
                have f_707 := dc_fr (j := 66) ok_693 (rfl : sv_ty 114 = some 12) dt_12 rfl
                obtain ⟨n_708, e_709, hr_710⟩ := iv_getf (j := 66) xm_255 xd_255_178 (by decide +kernel) ok_693 (rfl : sv_ty 114 = some 12) dt_12 f_707 hr_706
                obtain ⟨n_711, e_712, hr_713⟩ := iv_iconst xm_255 xd_255_181 (by decide) hr_710
                obtain ⟨n_714, e_715, hr_716⟩ := iv_dup2 xm_255 xd_255_182 rfl rfl hr_713
                obtain ⟨q_717, qi_718, n_719, e_720, hr_721⟩ := iv_iald xm_255 xd_255_183 ok_693 (rfl : sv_ty 155 = some 92) dt_92 (by decide) (by unfold sv_I; omega) hr_716
                obtain ⟨n_722, e_723, hr_724⟩ := iv_iconst xm_255 xd_255_184 (by decide) hr_721
                obtain ⟨n_725, e_726, hr_727⟩ := iw_iadd xm_255 xd_255_185 hr_724
                obtain ⟨q_728, h_729, ok_730, em_731, n_733, e_734, hr_735⟩ := iv_iast xm_255 xd_255_186 ok_693 (rfl : sv_ty 155 = some 92) dt_92 (by decide) (by unfold sv_I; omega) (dc_w_I _) hr_727
                obtain ⟨n_736, e_737, hr_738⟩ := iv_iconst xm_255 xd_255_187 (by decide) hr_735
                have rr_739 := iv_ireturn xm_255 xd_255_188 hr_738
                subst rr_739
                exact ⟨_, ⟨_, _, d_10, ⟨q_40, ⟨q_69, _, em_72, ⟨q_90, _, em_93, ⟨_, _, d_104, Or.inr ⟨c_117, ⟨_, _, d_446, Or.inl ⟨c_456, ⟨_, _, d_483, ⟨q_493, _, em_496, ⟨q_511, Or.inl ⟨c_516, ⟨_, _, d_526, ⟨_, _, d_548, Or.inl ⟨c_558, ⟨q_579, _, em_582, ⟨_, _, d_599, Or.inl ⟨c_609, ⟨q_630, _, em_633, Or.inr ⟨c_641, ⟨_, _, d_690, Or.inl ⟨c_700, ⟨q_717, ⟨q_728, _, em_731, ⟨rfl, rfl⟩⟩⟩⟩⟩⟩⟩⟩⟩⟩⟩⟩⟩⟩⟩⟩⟩⟩⟩⟩⟩⟩⟩⟩⟩, rfl, (by unfold sv_I; omega), ok_730⟩
              · obtain ⟨n_740, e_741, hr_742⟩ := iv_aload_n xm_255 xd_255_151 l_53 hr_703
                obtain ⟨n_752, r_743, e_753, hc_744, hr_754⟩ := iv_call (Or.inr ⟨rfl, rfl⟩) xm_255 xd_255_152 (by decide +kernel) xm_198 rfl (by decide +kernel) hr_742
                obtain ⟨v_745, d_746, er_747, iv_748, ok_749⟩ := ds_198 _  ok_693 hc_744
                obtain ⟨_, h_751⟩ := r_743
                have er_747 : _ = none := er_747
                subst er_747
                have hr_755 : ae_exe n_752 255 (152 + 3) 0 0 lv_49 _ h_751 = some r := hr_754
                obtain ⟨n_756, e_757, hr_758⟩ := iv_aload_n xm_255 xd_255_155 l_53 hr_755
                obtain ⟨n_759, e_760, hr_761⟩ := iv_iconst xm_255 xd_255_156 (by decide) hr_758
                obtain ⟨n_762, e_763, hr_764⟩ := iv_bipush xm_255 xd_255_157 (by decide) hr_761
                obtain ⟨n_774, r_765, e_775, hc_766, hr_776⟩ := iv_call (Or.inr ⟨rfl, rfl⟩) xm_255 xd_255_159 (by decide +kernel) xm_201 rfl (by decide +kernel) hr_764
                obtain ⟨v_767, d_768, er_769, iv_770, ok_771⟩ := ds_201 _ _ _ ok_749 (by unfold sv_I; omega) (by unfold sv_I; omega) hc_766
                obtain ⟨_, h_773⟩ := r_765
                have er_769 : _ = some (wk_i v_767) := er_769
                subst er_769
                have hr_777 : ae_exe n_774 255 (159 + 3) 0 0 lv_49 _ h_773 = some r := hr_776
                rcases iv_if 167 xm_255 xd_255_162 (by decide) iv_770 hr_777 with ⟨c_778, n_779, e_780, hr_781⟩ | ⟨c_778, n_779, e_780, hr_781⟩
                · obtain ⟨n_782, e_783, hr_784⟩ := iv_aload_n xm_255 xd_255_167 l_53 hr_781
                  have f_785 := dc_fr (j := 70) ok_771 (rfl : sv_ty 114 = some 12) dt_12 rfl
                  obtain ⟨n_786, e_787, hr_788⟩ := iv_getf (j := 70) xm_255 xd_255_168 (by decide +kernel) ok_771 (rfl : sv_ty 114 = some 12) dt_12 f_785 hr_784
                  obtain ⟨n_789, e_790, hr_791⟩ := iv_iload_n xm_255 xd_255_171 l_55 hr_788
                  obtain ⟨n_792, e_793, hr_794⟩ := iv_aload_n xm_255 xd_255_172 l_53 hr_791
                  have f_795 := dc_fi (j := 14) ok_771 (rfl : sv_ty 114 = some 12) dt_12 rfl
                  obtain ⟨n_796, e_797, hr_798⟩ := iv_getf (j := 14) xm_255 xd_255_173 (by decide +kernel) ok_771 (rfl : sv_ty 114 = some 12) dt_12 f_795.1 hr_794
                  obtain ⟨q_799, h_800, ok_801, em_802, n_804, e_805, hr_806⟩ := iv_iast xm_255 xd_255_176 ok_771 (rfl : sv_ty 159 = some 96) dt_96 (by decide) (dc_w_I _) f_795.2 hr_798
                  obtain ⟨n_807, e_808, hr_809⟩ := iv_aload_n xm_255 xd_255_177 l_53 hr_806
                  have f_810 := dc_fr (j := 66) ok_801 (rfl : sv_ty 114 = some 12) dt_12 rfl
                  obtain ⟨n_811, e_812, hr_813⟩ := iv_getf (j := 66) xm_255 xd_255_178 (by decide +kernel) ok_801 (rfl : sv_ty 114 = some 12) dt_12 f_810 hr_809
                  obtain ⟨n_814, e_815, hr_816⟩ := iv_iconst xm_255 xd_255_181 (by decide) hr_813
                  obtain ⟨n_817, e_818, hr_819⟩ := iv_dup2 xm_255 xd_255_182 rfl rfl hr_816
                  obtain ⟨q_820, qi_821, n_822, e_823, hr_824⟩ := iv_iald xm_255 xd_255_183 ok_801 (rfl : sv_ty 155 = some 92) dt_92 (by decide) (by unfold sv_I; omega) hr_819
                  obtain ⟨n_825, e_826, hr_827⟩ := iv_iconst xm_255 xd_255_184 (by decide) hr_824
                  obtain ⟨n_828, e_829, hr_830⟩ := iw_iadd xm_255 xd_255_185 hr_827
                  obtain ⟨q_831, h_832, ok_833, em_834, n_836, e_837, hr_838⟩ := iv_iast xm_255 xd_255_186 ok_801 (rfl : sv_ty 155 = some 92) dt_92 (by decide) (by unfold sv_I; omega) (dc_w_I _) hr_830
                  obtain ⟨n_839, e_840, hr_841⟩ := iv_iconst xm_255 xd_255_187 (by decide) hr_838
                  have rr_842 := iv_ireturn xm_255 xd_255_188 hr_841
                  subst rr_842
                  exact ⟨_, ⟨_, _, d_10, ⟨q_40, ⟨q_69, _, em_72, ⟨q_90, _, em_93, ⟨_, _, d_104, Or.inr ⟨c_117, ⟨_, _, d_446, Or.inl ⟨c_456, ⟨_, _, d_483, ⟨q_493, _, em_496, ⟨q_511, Or.inl ⟨c_516, ⟨_, _, d_526, ⟨_, _, d_548, Or.inl ⟨c_558, ⟨q_579, _, em_582, ⟨_, _, d_599, Or.inl ⟨c_609, ⟨q_630, _, em_633, Or.inr ⟨c_641, ⟨_, _, d_690, Or.inr ⟨c_700, ⟨_, _, d_746, ⟨_, _, d_768, Or.inl ⟨c_778, ⟨q_799, _, em_802, ⟨q_820, ⟨q_831, _, em_834, ⟨rfl, rfl⟩⟩⟩⟩⟩⟩⟩⟩⟩⟩⟩⟩⟩⟩⟩⟩⟩⟩⟩⟩⟩⟩⟩⟩⟩⟩⟩⟩⟩, rfl, (by unfold sv_I; omega), ok_833⟩
                · obtain ⟨n_843, e_844, hr_845⟩ := iv_iconst xm_255 xd_255_165 (by decide) hr_781
                  have rr_846 := iv_ireturn xm_255 xd_255_166 hr_845
                  subst rr_846
                  exact ⟨_, ⟨_, _, d_10, ⟨q_40, ⟨q_69, _, em_72, ⟨q_90, _, em_93, ⟨_, _, d_104, Or.inr ⟨c_117, ⟨_, _, d_446, Or.inl ⟨c_456, ⟨_, _, d_483, ⟨q_493, _, em_496, ⟨q_511, Or.inl ⟨c_516, ⟨_, _, d_526, ⟨_, _, d_548, Or.inl ⟨c_558, ⟨q_579, _, em_582, ⟨_, _, d_599, Or.inl ⟨c_609, ⟨q_630, _, em_633, Or.inr ⟨c_641, ⟨_, _, d_690, Or.inr ⟨c_700, ⟨_, _, d_746, ⟨_, _, d_768, Or.inr ⟨c_778, ⟨rfl, rfl⟩⟩⟩⟩⟩⟩⟩⟩⟩⟩⟩⟩⟩⟩⟩⟩⟩⟩⟩⟩⟩⟩⟩⟩⟩⟩, rfl, (by unfold sv_I; omega), ok_771⟩
          · obtain ⟨n_847, e_848, hr_849⟩ := iv_iconst xm_255 xd_255_125 (by decide) hr_612
            have rr_850 := iv_ireturn xm_255 xd_255_126 hr_849
            subst rr_850
            exact ⟨_, ⟨_, _, d_10, ⟨q_40, ⟨q_69, _, em_72, ⟨q_90, _, em_93, ⟨_, _, d_104, Or.inr ⟨c_117, ⟨_, _, d_446, Or.inl ⟨c_456, ⟨_, _, d_483, ⟨q_493, _, em_496, ⟨q_511, Or.inl ⟨c_516, ⟨_, _, d_526, ⟨_, _, d_548, Or.inl ⟨c_558, ⟨q_579, _, em_582, ⟨_, _, d_599, Or.inr ⟨c_609, ⟨rfl, rfl⟩⟩⟩⟩⟩⟩⟩⟩⟩⟩⟩⟩⟩⟩⟩⟩⟩⟩⟩, rfl, (by unfold sv_I; omega), ok_602⟩
        · obtain ⟨n_851, e_852, hr_853⟩ := iv_iconst xm_255 xd_255_104 (by decide) hr_561
          have rr_854 := iv_ireturn xm_255 xd_255_105 hr_853
          subst rr_854
          exact ⟨_, ⟨_, _, d_10, ⟨q_40, ⟨q_69, _, em_72, ⟨q_90, _, em_93, ⟨_, _, d_104, Or.inr ⟨c_117, ⟨_, _, d_446, Or.inl ⟨c_456, ⟨_, _, d_483, ⟨q_493, _, em_496, ⟨q_511, Or.inl ⟨c_516, ⟨_, _, d_526, ⟨_, _, d_548, Or.inr ⟨c_558, ⟨rfl, rfl⟩⟩⟩⟩⟩⟩⟩⟩⟩⟩⟩⟩⟩⟩⟩⟩, rfl, (by unfold sv_I; omega), ok_551⟩
      · obtain ⟨n_855, e_856, hr_857⟩ := iv_aload_n xm_255 xd_255_80 l_53 hr_519
        obtain ⟨n_858, e_859, hr_860⟩ := iv_iconst xm_255 xd_255_81 (by decide) hr_857
        obtain ⟨n_861, e_862, hr_863⟩ := iv_aload_n xm_255 xd_255_82 l_53 hr_860
        have f_864 := dc_fi (j := 8) ok_495 (rfl : sv_ty 114 = some 12) dt_12 rfl
        obtain ⟨n_865, e_866, hr_867⟩ := iv_getf (j := 8) xm_255 xd_255_83 (by decide +kernel) ok_495 (rfl : sv_ty 114 = some 12) dt_12 f_864.1 hr_863
        obtain ⟨n_877, r_868, e_878, hc_869, hr_879⟩ := iv_call (Or.inr ⟨rfl, rfl⟩) xm_255 xd_255_86 (by decide +kernel) xm_199 rfl (by decide +kernel) hr_867
        obtain ⟨v_870, d_871, er_872, iv_873, ok_874⟩ := ds_199 _ _ _ ok_495 (by unfold sv_I; omega) f_864.2 hc_869
        obtain ⟨_, h_876⟩ := r_868
        have er_872 : _ = some (wk_i v_870) := er_872
        subst er_872
        have hr_880 : ae_exe n_877 255 (86 + 3) 0 0 lv_49 _ h_876 = some r := hr_879
        have rr_881 := iv_ireturn xm_255 xd_255_89 hr_880
        subst rr_881
        exact ⟨_, ⟨_, _, d_10, ⟨q_40, ⟨q_69, _, em_72, ⟨q_90, _, em_93, ⟨_, _, d_104, Or.inr ⟨c_117, ⟨_, _, d_446, Or.inl ⟨c_456, ⟨_, _, d_483, ⟨q_493, _, em_496, ⟨q_511, Or.inr ⟨c_516, ⟨_, _, d_871, ⟨rfl, rfl⟩⟩⟩⟩⟩⟩⟩⟩⟩⟩⟩⟩⟩⟩, rfl, iv_873, ok_874⟩
    · obtain ⟨n_882, e_883, hr_884⟩ := iv_aload_n xm_255 xd_255_47 l_53 hr_459
      obtain ⟨n_885, e_886, hr_887⟩ := iv_iconst xm_255 xd_255_48 (by decide) hr_884
      obtain ⟨n_888, e_889, hr_890⟩ := iv_aload_n xm_255 xd_255_49 l_53 hr_887
      have f_891 := dc_fi (j := 8) ok_449 (rfl : sv_ty 114 = some 12) dt_12 rfl
      obtain ⟨n_892, e_893, hr_894⟩ := iv_getf (j := 8) xm_255 xd_255_50 (by decide +kernel) ok_449 (rfl : sv_ty 114 = some 12) dt_12 f_891.1 hr_890
      obtain ⟨n_904, r_895, e_905, hc_896, hr_906⟩ := iv_call (Or.inr ⟨rfl, rfl⟩) xm_255 xd_255_53 (by decide +kernel) xm_199 rfl (by decide +kernel) hr_894
      obtain ⟨v_897, d_898, er_899, iv_900, ok_901⟩ := ds_199 _ _ _ ok_449 (by unfold sv_I; omega) f_891.2 hc_896
      obtain ⟨_, h_903⟩ := r_895
      have er_899 : _ = some (wk_i v_897) := er_899
      subst er_899
      have hr_907 : ae_exe n_904 255 (53 + 3) 0 0 lv_49 _ h_903 = some r := hr_906
      have rr_908 := iv_ireturn xm_255 xd_255_56 hr_907
      subst rr_908
      exact ⟨_, ⟨_, _, d_10, ⟨q_40, ⟨q_69, _, em_72, ⟨q_90, _, em_93, ⟨_, _, d_104, Or.inr ⟨c_117, ⟨_, _, d_446, Or.inr ⟨c_456, ⟨_, _, d_898, ⟨rfl, rfl⟩⟩⟩⟩⟩⟩⟩⟩⟩⟩, rfl, iv_900, ok_901⟩
/-! method 252 -/
theorem xm_252 : ae_m 252 = some (wk_M 252) := rfl
theorem xd_252_0 : decode (wk_M 252).2.2.1 0 = .ok (.aload_n 0, 1) := zd_by (by decide +kernel)
theorem xd_252_1 : decode (wk_M 252).2.2.1 1 = .ok (.getfield 236, 3) := zd_by (by decide +kernel)
theorem xd_252_4 : decode (wk_M 252).2.2.1 4 = .ok (.ifCond .eq 160, 3) := zd_by (by decide +kernel)
theorem xd_252_7 : decode (wk_M 252).2.2.1 7 = .ok (.aload_n 0, 1) := zd_by (by decide +kernel)
theorem xd_252_8 : decode (wk_M 252).2.2.1 8 = .ok (.ldc2_w 464, 3) := zd_by (by decide +kernel)
theorem xd_252_11 : decode (wk_M 252).2.2.1 11 = .ok (.invokevirtual 470, 3) := zd_by (by decide +kernel)
theorem xd_252_14 : decode (wk_M 252).2.2.1 14 = .ok (.ifCond .ne 13, 3) := zd_by (by decide +kernel)
theorem xd_252_17 : decode (wk_M 252).2.2.1 17 = .ok (.aload_n 0, 1) := zd_by (by decide +kernel)
theorem xd_252_18 : decode (wk_M 252).2.2.1 18 = .ok (.ldc2_w 466, 3) := zd_by (by decide +kernel)
theorem xd_252_21 : decode (wk_M 252).2.2.1 21 = .ok (.invokevirtual 470, 3) := zd_by (by decide +kernel)
theorem xd_252_24 : decode (wk_M 252).2.2.1 24 = .ok (.ifCond .eq 7, 3) := zd_by (by decide +kernel)
theorem xd_252_27 : decode (wk_M 252).2.2.1 27 = .ok (.iconst 1, 1) := zd_by (by decide +kernel)
theorem xd_252_28 : decode (wk_M 252).2.2.1 28 = .ok (.goto 4, 3) := zd_by (by decide +kernel)
theorem xd_252_31 : decode (wk_M 252).2.2.1 31 = .ok (.iconst 0, 1) := zd_by (by decide +kernel)
theorem xd_252_32 : decode (wk_M 252).2.2.1 32 = .ok (.istore_n 1, 1) := zd_by (by decide +kernel)
theorem xd_252_33 : decode (wk_M 252).2.2.1 33 = .ok (.iload_n 1, 1) := zd_by (by decide +kernel)
theorem xd_252_34 : decode (wk_M 252).2.2.1 34 = .ok (.ifCond .ne 33, 3) := zd_by (by decide +kernel)
theorem xd_252_37 : decode (wk_M 252).2.2.1 37 = .ok (.aload_n 0, 1) := zd_by (by decide +kernel)
theorem xd_252_38 : decode (wk_M 252).2.2.1 38 = .ok (.ldc2_w 460, 3) := zd_by (by decide +kernel)
theorem xd_252_41 : decode (wk_M 252).2.2.1 41 = .ok (.invokevirtual 470, 3) := zd_by (by decide +kernel)
theorem xd_252_44 : decode (wk_M 252).2.2.1 44 = .ok (.ifCond .ne 23, 3) := zd_by (by decide +kernel)
theorem xd_252_47 : decode (wk_M 252).2.2.1 47 = .ok (.aload_n 0, 1) := zd_by (by decide +kernel)
theorem xd_252_48 : decode (wk_M 252).2.2.1 48 = .ok (.ldc2_w 462, 3) := zd_by (by decide +kernel)
theorem xd_252_51 : decode (wk_M 252).2.2.1 51 = .ok (.invokevirtual 470, 3) := zd_by (by decide +kernel)
theorem xd_252_54 : decode (wk_M 252).2.2.1 54 = .ok (.ifCond .ne 13, 3) := zd_by (by decide +kernel)
theorem xd_252_57 : decode (wk_M 252).2.2.1 57 = .ok (.aload_n 0, 1) := zd_by (by decide +kernel)
theorem xd_252_58 : decode (wk_M 252).2.2.1 58 = .ok (.iconst 1, 1) := zd_by (by decide +kernel)
theorem xd_252_59 : decode (wk_M 252).2.2.1 59 = .ok (.aload_n 0, 1) := zd_by (by decide +kernel)
theorem xd_252_60 : decode (wk_M 252).2.2.1 60 = .ok (.getfield 230, 3) := zd_by (by decide +kernel)
theorem xd_252_63 : decode (wk_M 252).2.2.1 63 = .ok (.invokevirtual 258, 3) := zd_by (by decide +kernel)
theorem xd_252_66 : decode (wk_M 252).2.2.1 66 = .ok (.ireturn, 1) := zd_by (by decide +kernel)
theorem xd_252_67 : decode (wk_M 252).2.2.1 67 = .ok (.iload_n 1, 1) := zd_by (by decide +kernel)
theorem xd_252_68 : decode (wk_M 252).2.2.1 68 = .ok (.ifCond .eq 14, 3) := zd_by (by decide +kernel)
theorem xd_252_71 : decode (wk_M 252).2.2.1 71 = .ok (.aload_n 0, 1) := zd_by (by decide +kernel)
theorem xd_252_72 : decode (wk_M 252).2.2.1 72 = .ok (.getfield 133, 3) := zd_by (by decide +kernel)
theorem xd_252_75 : decode (wk_M 252).2.2.1 75 = .ok (.iconst 1, 1) := zd_by (by decide +kernel)
theorem xd_252_76 : decode (wk_M 252).2.2.1 76 = .ok (.iaload, 1) := zd_by (by decide +kernel)
theorem xd_252_77 : decode (wk_M 252).2.2.1 77 = .ok (.bipush 8, 2) := zd_by (by decide +kernel)
theorem xd_252_79 : decode (wk_M 252).2.2.1 79 = .ok (.if_icmp .eq 24, 3) := zd_by (by decide +kernel)
theorem xd_252_82 : decode (wk_M 252).2.2.1 82 = .ok (.aload_n 0, 1) := zd_by (by decide +kernel)
theorem xd_252_83 : decode (wk_M 252).2.2.1 83 = .ok (.ldc2_w 460, 3) := zd_by (by decide +kernel)
theorem xd_252_86 : decode (wk_M 252).2.2.1 86 = .ok (.invokevirtual 470, 3) := zd_by (by decide +kernel)
theorem xd_252_89 : decode (wk_M 252).2.2.1 89 = .ok (.ifCond .eq 24, 3) := zd_by (by decide +kernel)
theorem xd_252_92 : decode (wk_M 252).2.2.1 92 = .ok (.aload_n 0, 1) := zd_by (by decide +kernel)
theorem xd_252_93 : decode (wk_M 252).2.2.1 93 = .ok (.getfield 121, 3) := zd_by (by decide +kernel)
theorem xd_252_96 : decode (wk_M 252).2.2.1 96 = .ok (.iconst 1, 1) := zd_by (by decide +kernel)
theorem xd_252_97 : decode (wk_M 252).2.2.1 97 = .ok (.iaload, 1) := zd_by (by decide +kernel)
theorem xd_252_98 : decode (wk_M 252).2.2.1 98 = .ok (.bipush 6, 2) := zd_by (by decide +kernel)
theorem xd_252_100 : decode (wk_M 252).2.2.1 100 = .ok (.if_icmp .ne 13, 3) := zd_by (by decide +kernel)
theorem xd_252_103 : decode (wk_M 252).2.2.1 103 = .ok (.aload_n 0, 1) := zd_by (by decide +kernel)
theorem xd_252_104 : decode (wk_M 252).2.2.1 104 = .ok (.iconst 4, 1) := zd_by (by decide +kernel)
theorem xd_252_105 : decode (wk_M 252).2.2.1 105 = .ok (.aload_n 0, 1) := zd_by (by decide +kernel)
theorem xd_252_106 : decode (wk_M 252).2.2.1 106 = .ok (.getfield 230, 3) := zd_by (by decide +kernel)
theorem xd_252_109 : decode (wk_M 252).2.2.1 109 = .ok (.invokevirtual 258, 3) := zd_by (by decide +kernel)
theorem xd_252_112 : decode (wk_M 252).2.2.1 112 = .ok (.ireturn, 1) := zd_by (by decide +kernel)
theorem xd_252_113 : decode (wk_M 252).2.2.1 113 = .ok (.iload_n 1, 1) := zd_by (by decide +kernel)
theorem xd_252_114 : decode (wk_M 252).2.2.1 114 = .ok (.ifCond .eq 10, 3) := zd_by (by decide +kernel)
theorem xd_252_117 : decode (wk_M 252).2.2.1 117 = .ok (.aload_n 0, 1) := zd_by (by decide +kernel)
theorem xd_252_118 : decode (wk_M 252).2.2.1 118 = .ok (.invokevirtual 473, 3) := zd_by (by decide +kernel)
theorem xd_252_121 : decode (wk_M 252).2.2.1 121 = .ok (.goto 24, 3) := zd_by (by decide +kernel)
theorem xd_252_124 : decode (wk_M 252).2.2.1 124 = .ok (.aload_n 0, 1) := zd_by (by decide +kernel)
theorem xd_252_125 : decode (wk_M 252).2.2.1 125 = .ok (.ldc2_w 460, 3) := zd_by (by decide +kernel)
theorem xd_252_128 : decode (wk_M 252).2.2.1 128 = .ok (.invokevirtual 470, 3) := zd_by (by decide +kernel)
theorem xd_252_131 : decode (wk_M 252).2.2.1 131 = .ok (.ifCond .eq 10, 3) := zd_by (by decide +kernel)
theorem xd_252_134 : decode (wk_M 252).2.2.1 134 = .ok (.aload_n 0, 1) := zd_by (by decide +kernel)
theorem xd_252_135 : decode (wk_M 252).2.2.1 135 = .ok (.invokevirtual 476, 3) := zd_by (by decide +kernel)
theorem xd_252_138 : decode (wk_M 252).2.2.1 138 = .ok (.goto 7, 3) := zd_by (by decide +kernel)
theorem xd_252_141 : decode (wk_M 252).2.2.1 141 = .ok (.aload_n 0, 1) := zd_by (by decide +kernel)
theorem xd_252_142 : decode (wk_M 252).2.2.1 142 = .ok (.invokevirtual 479, 3) := zd_by (by decide +kernel)
theorem xd_252_145 : decode (wk_M 252).2.2.1 145 = .ok (.istore_n 2, 1) := zd_by (by decide +kernel)
theorem xd_252_146 : decode (wk_M 252).2.2.1 146 = .ok (.iload_n 2, 1) := zd_by (by decide +kernel)
theorem xd_252_147 : decode (wk_M 252).2.2.1 147 = .ok (.ifCond .eq 12, 3) := zd_by (by decide +kernel)
theorem xd_252_150 : decode (wk_M 252).2.2.1 150 = .ok (.aload_n 0, 1) := zd_by (by decide +kernel)
theorem xd_252_151 : decode (wk_M 252).2.2.1 151 = .ok (.bipush 59, 2) := zd_by (by decide +kernel)
theorem xd_252_153 : decode (wk_M 252).2.2.1 153 = .ok (.invokevirtual 333, 3) := zd_by (by decide +kernel)
theorem xd_252_156 : decode (wk_M 252).2.2.1 156 = .ok (.ifCond .ne 5, 3) := zd_by (by decide +kernel)
theorem xd_252_159 : decode (wk_M 252).2.2.1 159 = .ok (.iconst 0, 1) := zd_by (by decide +kernel)
theorem xd_252_160 : decode (wk_M 252).2.2.1 160 = .ok (.ireturn, 1) := zd_by (by decide +kernel)
theorem xd_252_161 : decode (wk_M 252).2.2.1 161 = .ok (.goto (-161), 3) := zd_by (by decide +kernel)
theorem xd_252_164 : decode (wk_M 252).2.2.1 164 = .ok (.iconst 1, 1) := zd_by (by decide +kernel)
theorem xd_252_165 : decode (wk_M 252).2.2.1 165 = .ok (.ireturn, 1) := zd_by (by decide +kernel)
def LM_252  : Nat → Nat → dc_M → Int → dc_M → Prop
  | 0, _, _, _, _ => False
  | c + 1, tag, m, v, m' => match tag with
    | _ => ((((m 114 7) : Int) = 0 ∧ (v = 1 ∧ m' = m)) ∨ (¬ (((m 114 7) : Int) = 0) ∧ (∃ v_24 m_29, D_249 7566701 m v_24 m_29 ∧ ((((v_24 : Int) ≠ 0 ∧ ((0 ≤ (1 : Int) ∧ (1 : Int) < 2) ∧ (((((m_29 155 1) : Int) = 8 ∧ (∃ v_103 m_108, D_199 4 ((m_29 114 8)) m_29 v_103 m_108 ∧ (v = v_103 ∧ m' = m_108))) ∨ (¬ (((m_29 155 1) : Int) = 8) ∧ (∃ v_123 m_128, D_249 439854918756 m_29 v_123 m_128 ∧ ((((v_123 : Int) = 0 ∧ (∃ v_150 m_155, D_255 m_128 v_150 m_155 ∧ ((((v_150 : Int) = 0 ∧ (v = 0 ∧ m' = m_155)) ∨ (¬ ((v_150 : Int) = 0) ∧ (∃ v_191 m_196, D_200 59 m_155 v_191 m_196 ∧ ((((v_191 : Int) ≠ 0 ∧ (LM_252  c 0 m_196 v m')) ∨ (¬ ((v_191 : Int) ≠ 0) ∧ (v = 0 ∧ m' = m_196)))))))))) ∨ (¬ ((v_123 : Int) = 0) ∧ ((0 ≤ (1 : Int) ∧ (1 : Int) < 2) ∧ (((((m_128 151 1) : Int) ≠ 6 ∧ (∃ v_247 m_252, D_255 m_128 v_247 m_252 ∧ ((((v_247 : Int) = 0 ∧ (v = 0 ∧ m' = m_252)) ∨ (¬ ((v_247 : Int) = 0) ∧ (∃ v_288 m_293, D_200 59 m_252 v_288 m_293 ∧ ((((v_288 : Int) ≠ 0 ∧ (LM_252  c 0 m_293 v m')) ∨ (¬ ((v_288 : Int) ≠ 0) ∧ (v = 0 ∧ m' = m_293)))))))))) ∨ (¬ (((m_128 151 1) : Int) ≠ 6) ∧ (∃ v_325 m_330, D_199 4 ((m_128 114 8)) m_128 v_325 m_330 ∧ (v = v_325 ∧ m' = m_330))))))))))))))) ∨ (¬ ((v_24 : Int) ≠ 0) ∧ (∃ v_345 m_350, D_249 427071729268 m_29 v_345 m_350 ∧ ((((v_345 : Int) = 0 ∧ (∃ v_385 m_390, D_249 439854918756 m_350 v_385 m_390 ∧ ((((v_385 : Int) ≠ 0 ∧ (∃ v_415 m_420, D_249 439854918756 m_390 v_415 m_420 ∧ ((((v_415 : Int) = 0 ∧ (∃ v_445 m_450, D_249 439854918756 m_420 v_445 m_450 ∧ ((((v_445 : Int) = 0 ∧ (∃ v_465 m_470, D_254 m_450 v_465 m_470 ∧ ((((v_465 : Int) = 0 ∧ (v = 0 ∧ m' = m_470)) ∨ (¬ ((v_465 : Int) = 0) ∧ (∃ v_503 m_508, D_200 59 m_470 v_503 m_508 ∧ ((((v_503 : Int) ≠ 0 ∧ (LM_252  c 0 m_508 v m')) ∨ (¬ ((v_503 : Int) ≠ 0) ∧ (v = 0 ∧ m' = m_508)))))))))) ∨ (¬ ((v_445 : Int) = 0) ∧ (∃ v_530 m_535, D_253 m_450 v_530 m_535 ∧ ((((v_530 : Int) = 0 ∧ (v = 0 ∧ m' = m_535)) ∨ (¬ ((v_530 : Int) = 0) ∧ (∃ v_571 m_576, D_200 59 m_535 v_571 m_576 ∧ ((((v_571 : Int) ≠ 0 ∧ (LM_252  c 0 m_576 v m')) ∨ (¬ ((v_571 : Int) ≠ 0) ∧ (v = 0 ∧ m' = m_576)))))))))))))) ∨ (¬ ((v_415 : Int) = 0) ∧ ((0 ≤ (1 : Int) ∧ (1 : Int) < 2) ∧ (((((m_420 151 1) : Int) ≠ 6 ∧ (∃ v_630 m_635, D_249 439854918756 m_420 v_630 m_635 ∧ ((((v_630 : Int) = 0 ∧ (∃ v_650 m_655, D_254 m_635 v_650 m_655 ∧ ((((v_650 : Int) = 0 ∧ (v = 0 ∧ m' = m_655)) ∨ (¬ ((v_650 : Int) = 0) ∧ (∃ v_688 m_693, D_200 59 m_655 v_688 m_693 ∧ ((((v_688 : Int) ≠ 0 ∧ (LM_252  c 0 m_693 v m')) ∨ (¬ ((v_688 : Int) ≠ 0) ∧ (v = 0 ∧ m' = m_693)))))))))) ∨ (¬ ((v_630 : Int) = 0) ∧ (∃ v_715 m_720, D_253 m_635 v_715 m_720 ∧ ((((v_715 : Int) = 0 ∧ (v = 0 ∧ m' = m_720)) ∨ (¬ ((v_715 : Int) = 0) ∧ (∃ v_756 m_761, D_200 59 m_720 v_756 m_761 ∧ ((((v_756 : Int) ≠ 0 ∧ (LM_252  c 0 m_761 v m')) ∨ (¬ ((v_756 : Int) ≠ 0) ∧ (v = 0 ∧ m' = m_761)))))))))))))) ∨ (¬ (((m_420 151 1) : Int) ≠ 6) ∧ (∃ v_793 m_798, D_199 4 ((m_420 114 8)) m_420 v_793 m_798 ∧ (v = v_793 ∧ m' = m_798))))))))))) ∨ (¬ ((v_385 : Int) ≠ 0) ∧ (∃ v_813 m_818, D_249 422826041707 m_390 v_813 m_818 ∧ ((((v_813 : Int) ≠ 0 ∧ (∃ v_843 m_848, D_249 439854918756 m_818 v_843 m_848 ∧ ((((v_843 : Int) = 0 ∧ (∃ v_873 m_878, D_249 439854918756 m_848 v_873 m_878 ∧ ((((v_873 : Int) = 0 ∧ (∃ v_893 m_898, D_254 m_878 v_893 m_898 ∧ ((((v_893 : Int) = 0 ∧ (v = 0 ∧ m' = m_898)) ∨ (¬ ((v_893 : Int) = 0) ∧ (∃ v_931 m_936, D_200 59 m_898 v_931 m_936 ∧ ((((v_931 : Int) ≠ 0 ∧ (LM_252  c 0 m_936 v m')) ∨ (¬ ((v_931 : Int) ≠ 0) ∧ (v = 0 ∧ m' = m_936)))))))))) ∨ (¬ ((v_873 : Int) = 0) ∧ (∃ v_958 m_963, D_253 m_878 v_958 m_963 ∧ ((((v_958 : Int) = 0 ∧ (v = 0 ∧ m' = m_963)) ∨ (¬ ((v_958 : Int) = 0) ∧ (∃ v_999 m_1004, D_200 59 m_963 v_999 m_1004 ∧ ((((v_999 : Int) ≠ 0 ∧ (LM_252  c 0 m_1004 v m')) ∨ (¬ ((v_999 : Int) ≠ 0) ∧ (v = 0 ∧ m' = m_1004)))))))))))))) ∨ (¬ ((v_843 : Int) = 0) ∧ ((0 ≤ (1 : Int) ∧ (1 : Int) < 2) ∧ (((((m_848 151 1) : Int) ≠ 6 ∧ (∃ v_1058 m_1063, D_249 439854918756 m_848 v_1058 m_1063 ∧ ((((v_1058 : Int) = 0 ∧ (∃ v_1078 m_1083, D_254 m_1063 v_1078 m_1083 ∧ ((((v_1078 : Int) = 0 ∧ (v = 0 ∧ m' = m_1083)) ∨ (¬ ((v_1078 : Int) = 0) ∧ (∃ v_1116 m_1121, D_200 59 m_1083 v_1116 m_1121 ∧ ((((v_1116 : Int) ≠ 0 ∧ (LM_252  c 0 m_1121 v m')) ∨ (¬ ((v_1116 : Int) ≠ 0) ∧ (v = 0 ∧ m' = m_1121)))))))))) ∨ (¬ ((v_1058 : Int) = 0) ∧ (∃ v_1143 m_1148, D_253 m_1063 v_1143 m_1148 ∧ ((((v_1143 : Int) = 0 ∧ (v = 0 ∧ m' = m_1148)) ∨ (¬ ((v_1143 : Int) = 0) ∧ (∃ v_1184 m_1189, D_200 59 m_1148 v_1184 m_1189 ∧ ((((v_1184 : Int) ≠ 0 ∧ (LM_252  c 0 m_1189 v m')) ∨ (¬ ((v_1184 : Int) ≠ 0) ∧ (v = 0 ∧ m' = m_1189)))))))))))))) ∨ (¬ (((m_848 151 1) : Int) ≠ 6) ∧ (∃ v_1221 m_1226, D_199 4 ((m_848 114 8)) m_848 v_1221 m_1226 ∧ (v = v_1221 ∧ m' = m_1226))))))))))) ∨ (¬ ((v_813 : Int) ≠ 0) ∧ (∃ v_1248 m_1253, D_199 1 ((m_818 114 8)) m_818 v_1248 m_1253 ∧ (v = v_1248 ∧ m' = m_1253))))))))))) ∨ (¬ ((v_345 : Int) = 0) ∧ ((0 ≤ (1 : Int) ∧ (1 : Int) < 2) ∧ (((((m_350 155 1) : Int) = 8 ∧ (∃ v_1324 m_1329, D_199 4 ((m_350 114 8)) m_350 v_1324 m_1329 ∧ (v = v_1324 ∧ m' = m_1329))) ∨ (¬ (((m_350 155 1) : Int) = 8) ∧ (∃ v_1344 m_1349, D_249 439854918756 m_350 v_1344 m_1349 ∧ ((((v_1344 : Int) = 0 ∧ (∃ v_1371 m_1376, D_255 m_1349 v_1371 m_1376 ∧ ((((v_1371 : Int) = 0 ∧ (v = 0 ∧ m' = m_1376)) ∨ (¬ ((v_1371 : Int) = 0) ∧ (∃ v_1412 m_1417, D_200 59 m_1376 v_1412 m_1417 ∧ ((((v_1412 : Int) ≠ 0 ∧ (LM_252  c 0 m_1417 v m')) ∨ (¬ ((v_1412 : Int) ≠ 0) ∧ (v = 0 ∧ m' = m_1417)))))))))) ∨ (¬ ((v_1344 : Int) = 0) ∧ ((0 ≤ (1 : Int) ∧ (1 : Int) < 2) ∧ (((((m_1349 151 1) : Int) ≠ 6 ∧ (∃ v_1468 m_1473, D_255 m_1349 v_1468 m_1473 ∧ ((((v_1468 : Int) = 0 ∧ (v = 0 ∧ m' = m_1473)) ∨ (¬ ((v_1468 : Int) = 0) ∧ (∃ v_1509 m_1514, D_200 59 m_1473 v_1509 m_1514 ∧ ((((v_1509 : Int) ≠ 0 ∧ (LM_252  c 0 m_1514 v m')) ∨ (¬ ((v_1509 : Int) ≠ 0) ∧ (v = 0 ∧ m' = m_1514)))))))))) ∨ (¬ (((m_1349 151 1) : Int) ≠ 6) ∧ (∃ v_1546 m_1551, D_199 4 ((m_1349 114 8)) m_1349 v_1546 m_1551 ∧ (v = v_1546 ∧ m' = m_1551))))))))))))))))))))))))
theorem lm_252_0  {c : Nat} {m : dc_M} {v : Int} {m' : dc_M} : LM_252  (c + 1) 0 m v m' ↔ ((((m 114 7) : Int) = 0 ∧ (v = 1 ∧ m' = m)) ∨ (¬ (((m 114 7) : Int) = 0) ∧ (∃ v_24 m_29, D_249 7566701 m v_24 m_29 ∧ ((((v_24 : Int) ≠ 0 ∧ ((0 ≤ (1 : Int) ∧ (1 : Int) < 2) ∧ (((((m_29 155 1) : Int) = 8 ∧ (∃ v_103 m_108, D_199 4 ((m_29 114 8)) m_29 v_103 m_108 ∧ (v = v_103 ∧ m' = m_108))) ∨ (¬ (((m_29 155 1) : Int) = 8) ∧ (∃ v_123 m_128, D_249 439854918756 m_29 v_123 m_128 ∧ ((((v_123 : Int) = 0 ∧ (∃ v_150 m_155, D_255 m_128 v_150 m_155 ∧ ((((v_150 : Int) = 0 ∧ (v = 0 ∧ m' = m_155)) ∨ (¬ ((v_150 : Int) = 0) ∧ (∃ v_191 m_196, D_200 59 m_155 v_191 m_196 ∧ ((((v_191 : Int) ≠ 0 ∧ (LM_252  c 0 m_196 v m')) ∨ (¬ ((v_191 : Int) ≠ 0) ∧ (v = 0 ∧ m' = m_196)))))))))) ∨ (¬ ((v_123 : Int) = 0) ∧ ((0 ≤ (1 : Int) ∧ (1 : Int) < 2) ∧ (((((m_128 151 1) : Int) ≠ 6 ∧ (∃ v_247 m_252, D_255 m_128 v_247 m_252 ∧ ((((v_247 : Int) = 0 ∧ (v = 0 ∧ m' = m_252)) ∨ (¬ ((v_247 : Int) = 0) ∧ (∃ v_288 m_293, D_200 59 m_252 v_288 m_293 ∧ ((((v_288 : Int) ≠ 0 ∧ (LM_252  c 0 m_293 v m')) ∨ (¬ ((v_288 : Int) ≠ 0) ∧ (v = 0 ∧ m' = m_293)))))))))) ∨ (¬ (((m_128 151 1) : Int) ≠ 6) ∧ (∃ v_325 m_330, D_199 4 ((m_128 114 8)) m_128 v_325 m_330 ∧ (v = v_325 ∧ m' = m_330))))))))))))))) ∨ (¬ ((v_24 : Int) ≠ 0) ∧ (∃ v_345 m_350, D_249 427071729268 m_29 v_345 m_350 ∧ ((((v_345 : Int) = 0 ∧ (∃ v_385 m_390, D_249 439854918756 m_350 v_385 m_390 ∧ ((((v_385 : Int) ≠ 0 ∧ (∃ v_415 m_420, D_249 439854918756 m_390 v_415 m_420 ∧ ((((v_415 : Int) = 0 ∧ (∃ v_445 m_450, D_249 439854918756 m_420 v_445 m_450 ∧ ((((v_445 : Int) = 0 ∧ (∃ v_465 m_470, D_254 m_450 v_465 m_470 ∧ ((((v_465 : Int) = 0 ∧ (v = 0 ∧ m' = m_470)) ∨ (¬ ((v_465 : Int) = 0) ∧ (∃ v_503 m_508, D_200 59 m_470 v_503 m_508 ∧ ((((v_503 : Int) ≠ 0 ∧ (LM_252  c 0 m_508 v m')) ∨ (¬ ((v_503 : Int) ≠ 0) ∧ (v = 0 ∧ m' = m_508)))))))))) ∨ (¬ ((v_445 : Int) = 0) ∧ (∃ v_530 m_535, D_253 m_450 v_530 m_535 ∧ ((((v_530 : Int) = 0 ∧ (v = 0 ∧ m' = m_535)) ∨ (¬ ((v_530 : Int) = 0) ∧ (∃ v_571 m_576, D_200 59 m_535 v_571 m_576 ∧ ((((v_571 : Int) ≠ 0 ∧ (LM_252  c 0 m_576 v m')) ∨ (¬ ((v_571 : Int) ≠ 0) ∧ (v = 0 ∧ m' = m_576)))))))))))))) ∨ (¬ ((v_415 : Int) = 0) ∧ ((0 ≤ (1 : Int) ∧ (1 : Int) < 2) ∧ (((((m_420 151 1) : Int) ≠ 6 ∧ (∃ v_630 m_635, D_249 439854918756 m_420 v_630 m_635 ∧ ((((v_630 : Int) = 0 ∧ (∃ v_650 m_655, D_254 m_635 v_650 m_655 ∧ ((((v_650 : Int) = 0 ∧ (v = 0 ∧ m' = m_655)) ∨ (¬ ((v_650 : Int) = 0) ∧ (∃ v_688 m_693, D_200 59 m_655 v_688 m_693 ∧ ((((v_688 : Int) ≠ 0 ∧ (LM_252  c 0 m_693 v m')) ∨ (¬ ((v_688 : Int) ≠ 0) ∧ (v = 0 ∧ m' = m_693)))))))))) ∨ (¬ ((v_630 : Int) = 0) ∧ (∃ v_715 m_720, D_253 m_635 v_715 m_720 ∧ ((((v_715 : Int) = 0 ∧ (v = 0 ∧ m' = m_720)) ∨ (¬ ((v_715 : Int) = 0) ∧ (∃ v_756 m_761, D_200 59 m_720 v_756 m_761 ∧ ((((v_756 : Int) ≠ 0 ∧ (LM_252  c 0 m_761 v m')) ∨ (¬ ((v_756 : Int) ≠ 0) ∧ (v = 0 ∧ m' = m_761)))))))))))))) ∨ (¬ (((m_420 151 1) : Int) ≠ 6) ∧ (∃ v_793 m_798, D_199 4 ((m_420 114 8)) m_420 v_793 m_798 ∧ (v = v_793 ∧ m' = m_798))))))))))) ∨ (¬ ((v_385 : Int) ≠ 0) ∧ (∃ v_813 m_818, D_249 422826041707 m_390 v_813 m_818 ∧ ((((v_813 : Int) ≠ 0 ∧ (∃ v_843 m_848, D_249 439854918756 m_818 v_843 m_848 ∧ ((((v_843 : Int) = 0 ∧ (∃ v_873 m_878, D_249 439854918756 m_848 v_873 m_878 ∧ ((((v_873 : Int) = 0 ∧ (∃ v_893 m_898, D_254 m_878 v_893 m_898 ∧ ((((v_893 : Int) = 0 ∧ (v = 0 ∧ m' = m_898)) ∨ (¬ ((v_893 : Int) = 0) ∧ (∃ v_931 m_936, D_200 59 m_898 v_931 m_936 ∧ ((((v_931 : Int) ≠ 0 ∧ (LM_252  c 0 m_936 v m')) ∨ (¬ ((v_931 : Int) ≠ 0) ∧ (v = 0 ∧ m' = m_936)))))))))) ∨ (¬ ((v_873 : Int) = 0) ∧ (∃ v_958 m_963, D_253 m_878 v_958 m_963 ∧ ((((v_958 : Int) = 0 ∧ (v = 0 ∧ m' = m_963)) ∨ (¬ ((v_958 : Int) = 0) ∧ (∃ v_999 m_1004, D_200 59 m_963 v_999 m_1004 ∧ ((((v_999 : Int) ≠ 0 ∧ (LM_252  c 0 m_1004 v m')) ∨ (¬ ((v_999 : Int) ≠ 0) ∧ (v = 0 ∧ m' = m_1004)))))))))))))) ∨ (¬ ((v_843 : Int) = 0) ∧ ((0 ≤ (1 : Int) ∧ (1 : Int) < 2) ∧ (((((m_848 151 1) : Int) ≠ 6 ∧ (∃ v_1058 m_1063, D_249 439854918756 m_848 v_1058 m_1063 ∧ ((((v_1058 : Int) = 0 ∧ (∃ v_1078 m_1083, D_254 m_1063 v_1078 m_1083 ∧ ((((v_1078 : Int) = 0 ∧ (v = 0 ∧ m' = m_1083)) ∨ (¬ ((v_1078 : Int) = 0) ∧ (∃ v_1116 m_1121, D_200 59 m_1083 v_1116 m_1121 ∧ ((((v_1116 : Int) ≠ 0 ∧ (LM_252  c 0 m_1121 v m')) ∨ (¬ ((v_1116 : Int) ≠ 0) ∧ (v = 0 ∧ m' = m_1121)))))))))) ∨ (¬ ((v_1058 : Int) = 0) ∧ (∃ v_1143 m_1148, D_253 m_1063 v_1143 m_1148 ∧ ((((v_1143 : Int) = 0 ∧ (v = 0 ∧ m' = m_1148)) ∨ (¬ ((v_1143 : Int) = 0) ∧ (∃ v_1184 m_1189, D_200 59 m_1148 v_1184 m_1189 ∧ ((((v_1184 : Int) ≠ 0 ∧ (LM_252  c 0 m_1189 v m')) ∨ (¬ ((v_1184 : Int) ≠ 0) ∧ (v = 0 ∧ m' = m_1189)))))))))))))) ∨ (¬ (((m_848 151 1) : Int) ≠ 6) ∧ (∃ v_1221 m_1226, D_199 4 ((m_848 114 8)) m_848 v_1221 m_1226 ∧ (v = v_1221 ∧ m' = m_1226))))))))))) ∨ (¬ ((v_813 : Int) ≠ 0) ∧ (∃ v_1248 m_1253, D_199 1 ((m_818 114 8)) m_818 v_1248 m_1253 ∧ (v = v_1248 ∧ m' = m_1253))))))))))) ∨ (¬ ((v_345 : Int) = 0) ∧ ((0 ≤ (1 : Int) ∧ (1 : Int) < 2) ∧ (((((m_350 155 1) : Int) = 8 ∧ (∃ v_1324 m_1329, D_199 4 ((m_350 114 8)) m_350 v_1324 m_1329 ∧ (v = v_1324 ∧ m' = m_1329))) ∨ (¬ (((m_350 155 1) : Int) = 8) ∧ (∃ v_1344 m_1349, D_249 439854918756 m_350 v_1344 m_1349 ∧ ((((v_1344 : Int) = 0 ∧ (∃ v_1371 m_1376, D_255 m_1349 v_1371 m_1376 ∧ ((((v_1371 : Int) = 0 ∧ (v = 0 ∧ m' = m_1376)) ∨ (¬ ((v_1371 : Int) = 0) ∧ (∃ v_1412 m_1417, D_200 59 m_1376 v_1412 m_1417 ∧ ((((v_1412 : Int) ≠ 0 ∧ (LM_252  c 0 m_1417 v m')) ∨ (¬ ((v_1412 : Int) ≠ 0) ∧ (v = 0 ∧ m' = m_1417)))))))))) ∨ (¬ ((v_1344 : Int) = 0) ∧ ((0 ≤ (1 : Int) ∧ (1 : Int) < 2) ∧ (((((m_1349 151 1) : Int) ≠ 6 ∧ (∃ v_1468 m_1473, D_255 m_1349 v_1468 m_1473 ∧ ((((v_1468 : Int) = 0 ∧ (v = 0 ∧ m' = m_1473)) ∨ (¬ ((v_1468 : Int) = 0) ∧ (∃ v_1509 m_1514, D_200 59 m_1473 v_1509 m_1514 ∧ ((((v_1509 : Int) ≠ 0 ∧ (LM_252  c 0 m_1514 v m')) ∨ (¬ ((v_1509 : Int) ≠ 0) ∧ (v = 0 ∧ m' = m_1514)))))))))) ∨ (¬ (((m_1349 151 1) : Int) ≠ 6) ∧ (∃ v_1546 m_1551, D_199 4 ((m_1349 114 8)) m_1349 v_1546 m_1551 ∧ (v = v_1546 ∧ m' = m_1551)))))))))))))))))))))))) := Iff.rfl
theorem dl_252   : ∀ N : Nat, (∀ (n : Nat) (lv : ae_L) (h : ae_H) (r : ae_R), n ≤ N → dc_ok h → ae_lk lv 0 = some (wk_r 114) → ae_exe n 252 0 0 0 lv [] h = some r → ∃ v, (∃ c, LM_252  c 0 (dc_m h) v (dc_m r.2)) ∧ r.1 = some (wk_i v) ∧ sv_I v ∧ dc_ok r.2) := by
  intro N
  induction N with
  | zero =>
    exact fun n lv h r hn ok q0 hr => by
      have e : n = 0 := by omega
      subst e
      cases hr
  | succ N ih =>
    have ih0 := ih
    intro n lv h r hn ok q0 hr
    obtain ⟨n_1, e_2, hr_3⟩ := iv_aload_n xm_252 xd_252_0 q0 hr
    have f_4 := dc_fi (j := 7) ok (rfl : sv_ty 114 = some 12) dt_12 rfl
    obtain ⟨n_5, e_6, hr_7⟩ := iv_getf (j := 7) xm_252 xd_252_1 (by decide +kernel) ok (rfl : sv_ty 114 = some 12) dt_12 f_4.1 hr_3
    rcases iv_if 164 xm_252 xd_252_4 (by decide) f_4.2 hr_7 with ⟨c_8, n_9, e_10, hr_11⟩ | ⟨c_8, n_9, e_10, hr_11⟩
    · obtain ⟨n_12, e_13, hr_14⟩ := iv_iconst xm_252 xd_252_164 (by decide) hr_11
      have rr_15 := iv_ireturn xm_252 xd_252_165 hr_14
      subst rr_15
      exact ⟨_, ⟨0 + 1, lm_252_0.mpr (Or.inl ⟨c_8, ⟨rfl, rfl⟩⟩)⟩, rfl, (by unfold sv_I; omega), ok⟩
    · obtain ⟨n_16, e_17, hr_18⟩ := iv_aload_n xm_252 xd_252_7 q0 hr_11
      obtain ⟨n_19, e_20, hr_21⟩ := iv_ldc2 (v := 7566701) (z := 0) xm_252 xd_252_8 (by decide +kernel) hr_18
      obtain ⟨n_31, r_22, e_32, hc_23, hr_33⟩ := iv_call (Or.inr ⟨rfl, rfl⟩) xm_252 xd_252_11 (by decide +kernel) xm_249 rfl (by decide +kernel) hr_21
      obtain ⟨v_24, d_25, er_26, iv_27, ok_28⟩ := ds_249 _ _ ok (by decide) hc_23
      obtain ⟨_, h_30⟩ := r_22
      have er_26 : _ = some (wk_i v_24) := er_26
      subst er_26
      have hr_34 : ae_exe n_31 252 (11 + 3) 0 0 lv _ h_30 = some r := hr_33
      rcases iv_if 27 xm_252 xd_252_14 (by decide) iv_27 hr_34 with ⟨c_35, n_36, e_37, hr_38⟩ | ⟨c_35, n_36, e_37, hr_38⟩
      · obtain ⟨n_39, e_40, hr_41⟩ := iv_iconst xm_252 xd_252_27 (by decide) hr_38
        obtain ⟨n_42, e_43, hr_44⟩ := iv_goto 32 xm_252 xd_252_28 (by decide) hr_41
        obtain ⟨lv_46, sl_45, n_47, e_48, hr_49⟩ := iv_istore_n xm_252 xd_252_32 (by decide +kernel) hr_44
        have l_50 := sl_45.2 0 _ q0 (by decide) (Or.inl rfl)
        have l_51 := sl_45.1
        obtain ⟨n_52, e_53, hr_54⟩ := iv_iload_n xm_252 xd_252_33 l_51 hr_49
        rcases iv_if 67 xm_252 xd_252_34 (by decide) (by unfold sv_I; omega) hr_54 with ⟨c_55, n_56, e_57, hr_58⟩ | ⟨c_55, n_56, e_57, hr_58⟩
        rotate_left
        · exact absurd (show ¬ ((1 : Int) ≠ 0) from c_55) (by decide)
        obtain ⟨n_59, e_60, hr_61⟩ := iv_iload_n xm_252 xd_252_67 l_51 hr_58
        rcases iv_if 82 xm_252 xd_252_68 (by decide) (by unfold sv_I; omega) hr_61 with ⟨c_62, n_63, e_64, hr_65⟩ | ⟨c_62, n_63, e_64, hr_65⟩
        · exact absurd (show (1 : Int) = 0 from c_62) (by decide)
        obtain ⟨n_66, e_67, hr_68⟩ := iv_aload_n xm_252 xd_252_71 l_50 hr_65
        have f_69 := dc_fr (j := 66) ok_28 (rfl : sv_ty 114 = some 12) dt_12 rfl
        obtain ⟨n_70, e_71, hr_72⟩ := iv_getf (j := 66) xm_252 xd_252_72 (by decide +kernel) ok_28 (rfl : sv_ty 114 = some 12) dt_12 f_69 hr_68
        obtain ⟨n_73, e_74, hr_75⟩ := iv_iconst xm_252 xd_252_75 (by decide) hr_72
        obtain ⟨q_76, qi_77, n_78, e_79, hr_80⟩ := iv_iald xm_252 xd_252_76 ok_28 (rfl : sv_ty 155 = some 92) dt_92 (by decide) (by unfold sv_I; omega) hr_75
        obtain ⟨n_81, e_82, hr_83⟩ := iv_bipush xm_252 xd_252_77 (by decide) hr_80
        rcases iv_icmp 103 xm_252 xd_252_79 (by decide) qi_77 (by unfold sv_I; omega) hr_83 with ⟨c_84, n_85, e_86, hr_87⟩ | ⟨c_84, n_85, e_86, hr_87⟩
        · obtain ⟨n_88, e_89, hr_90⟩ := iv_aload_n xm_252 xd_252_103 l_50 hr_87
          obtain ⟨n_91, e_92, hr_93⟩ := iv_iconst xm_252 xd_252_104 (by decide) hr_90
          obtain ⟨n_94, e_95, hr_96⟩ := iv_aload_n xm_252 xd_252_105 l_50 hr_93
          have f_97 := dc_fi (j := 8) ok_28 (rfl : sv_ty 114 = some 12) dt_12 rfl
          obtain ⟨n_98, e_99, hr_100⟩ := iv_getf (j := 8) xm_252 xd_252_106 (by decide +kernel) ok_28 (rfl : sv_ty 114 = some 12) dt_12 f_97.1 hr_96
          obtain ⟨n_110, r_101, e_111, hc_102, hr_112⟩ := iv_call (Or.inr ⟨rfl, rfl⟩) xm_252 xd_252_109 (by decide +kernel) xm_199 rfl (by decide +kernel) hr_100
          obtain ⟨v_103, d_104, er_105, iv_106, ok_107⟩ := ds_199 _ _ _ ok_28 (by unfold sv_I; omega) f_97.2 hc_102
          obtain ⟨_, h_109⟩ := r_101
          have er_105 : _ = some (wk_i v_103) := er_105
          subst er_105
          have hr_113 : ae_exe n_110 252 (109 + 3) 0 0 lv_46 _ h_109 = some r := hr_112
          have rr_114 := iv_ireturn xm_252 xd_252_112 hr_113
          subst rr_114
          exact ⟨_, ⟨0 + 1, lm_252_0.mpr (Or.inr ⟨c_8, ⟨_, _, d_25, Or.inl ⟨c_35, ⟨q_76, Or.inl ⟨c_84, ⟨_, _, d_104, ⟨rfl, rfl⟩⟩⟩⟩⟩⟩⟩)⟩, rfl, iv_106, ok_107⟩
        · obtain ⟨n_115, e_116, hr_117⟩ := iv_aload_n xm_252 xd_252_82 l_50 hr_87
          obtain ⟨n_118, e_119, hr_120⟩ := iv_ldc2 (v := 439854918756) (z := 0) xm_252 xd_252_83 (by decide +kernel) hr_117
          obtain ⟨n_130, r_121, e_131, hc_122, hr_132⟩ := iv_call (Or.inr ⟨rfl, rfl⟩) xm_252 xd_252_86 (by decide +kernel) xm_249 rfl (by decide +kernel) hr_120
          obtain ⟨v_123, d_124, er_125, iv_126, ok_127⟩ := ds_249 _ _ ok_28 (by decide) hc_122
          obtain ⟨_, h_129⟩ := r_121
          have er_125 : _ = some (wk_i v_123) := er_125
          subst er_125
          have hr_133 : ae_exe n_130 252 (86 + 3) 0 0 lv_46 _ h_129 = some r := hr_132
          rcases iv_if 113 xm_252 xd_252_89 (by decide) iv_126 hr_133 with ⟨c_134, n_135, e_136, hr_137⟩ | ⟨c_134, n_135, e_136, hr_137⟩
          · obtain ⟨n_138, e_139, hr_140⟩ := iv_iload_n xm_252 xd_252_113 l_51 hr_137
            rcases iv_if 124 xm_252 xd_252_114 (by decide) (by unfold sv_I; omega) hr_140 with ⟨c_141, n_142, e_143, hr_144⟩ | ⟨c_141, n_142, e_143, hr_144⟩
            · exact absurd (show (1 : Int) = 0 from c_141) (by decide)
            obtain ⟨n_145, e_146, hr_147⟩ := iv_aload_n xm_252 xd_252_117 l_50 hr_144
            obtain ⟨n_157, r_148, e_158, hc_149, hr_159⟩ := iv_call (Or.inr ⟨rfl, rfl⟩) xm_252 xd_252_118 (by decide +kernel) xm_255 rfl (by decide +kernel) hr_147
            obtain ⟨v_150, d_151, er_152, iv_153, ok_154⟩ := ds_255 _  ok_127 hc_149
            obtain ⟨_, h_156⟩ := r_148
            have er_152 : _ = some (wk_i v_150) := er_152
            subst er_152
            have hr_160 : ae_exe n_157 252 (118 + 3) 0 0 lv_46 _ h_156 = some r := hr_159
            obtain ⟨n_161, e_162, hr_163⟩ := iv_goto 145 xm_252 xd_252_121 (by decide) hr_160
            obtain ⟨lv_165, sl_164, n_166, e_167, hr_168⟩ := iv_istore_n xm_252 xd_252_145 (by decide +kernel) hr_163
            have l_169 := sl_164.2 0 _ l_50 (by decide) (Or.inl rfl)
            have l_170 := sl_164.2 1 _ l_51 (by decide) (Or.inl rfl)
            have l_171 := sl_164.1
            obtain ⟨n_172, e_173, hr_174⟩ := iv_iload_n xm_252 xd_252_146 l_171 hr_168
            rcases iv_if 159 xm_252 xd_252_147 (by decide) iv_153 hr_174 with ⟨c_175, n_176, e_177, hr_178⟩ | ⟨c_175, n_176, e_177, hr_178⟩
            · obtain ⟨n_179, e_180, hr_181⟩ := iv_iconst xm_252 xd_252_159 (by decide) hr_178
              have rr_182 := iv_ireturn xm_252 xd_252_160 hr_181
              subst rr_182
              exact ⟨_, ⟨0 + 1, lm_252_0.mpr (Or.inr ⟨c_8, ⟨_, _, d_25, Or.inl ⟨c_35, ⟨q_76, Or.inr ⟨c_84, ⟨_, _, d_124, Or.inl ⟨c_134, ⟨_, _, d_151, Or.inl ⟨c_175, ⟨rfl, rfl⟩⟩⟩⟩⟩⟩⟩⟩⟩⟩)⟩, rfl, (by unfold sv_I; omega), ok_154⟩
            · obtain ⟨n_183, e_184, hr_185⟩ := iv_aload_n xm_252 xd_252_150 l_169 hr_178
              obtain ⟨n_186, e_187, hr_188⟩ := iv_bipush xm_252 xd_252_151 (by decide) hr_185
              obtain ⟨n_198, r_189, e_199, hc_190, hr_200⟩ := iv_call (Or.inr ⟨rfl, rfl⟩) xm_252 xd_252_153 (by decide +kernel) xm_200 rfl (by decide +kernel) hr_188
              obtain ⟨v_191, d_192, er_193, iv_194, ok_195⟩ := ds_200 _ _ ok_154 (by unfold sv_I; omega) hc_190
              obtain ⟨_, h_197⟩ := r_189
              have er_193 : _ = some (wk_i v_191) := er_193
              subst er_193
              have hr_201 : ae_exe n_198 252 (153 + 3) 0 0 lv_165 _ h_197 = some r := hr_200
              rcases iv_if 161 xm_252 xd_252_156 (by decide) iv_194 hr_201 with ⟨c_202, n_203, e_204, hr_205⟩ | ⟨c_202, n_203, e_204, hr_205⟩
              · obtain ⟨n_206, e_207, hr_208⟩ := iv_goto 0 xm_252 xd_252_161 (by decide) hr_205
                obtain ⟨v, ⟨c, hL⟩, e1, e2, e3⟩ := ih0 _ lv_165 h_197 _  (by omega) ok_195  l_169 hr_208
                exact ⟨v, ⟨c + 1, lm_252_0.mpr (Or.inr ⟨c_8, ⟨_, _, d_25, Or.inl ⟨c_35, ⟨q_76, Or.inr ⟨c_84, ⟨_, _, d_124, Or.inl ⟨c_134, ⟨_, _, d_151, Or.inr ⟨c_175, ⟨_, _, d_192, Or.inl ⟨c_202, hL⟩⟩⟩⟩⟩⟩⟩⟩⟩⟩⟩)⟩, e1, e2, e3⟩
              · obtain ⟨n_209, e_210, hr_211⟩ := iv_iconst xm_252 xd_252_159 (by decide) hr_205
                have rr_212 := iv_ireturn xm_252 xd_252_160 hr_211
                subst rr_212
                exact ⟨_, ⟨0 + 1, lm_252_0.mpr (Or.inr ⟨c_8, ⟨_, _, d_25, Or.inl ⟨c_35, ⟨q_76, Or.inr ⟨c_84, ⟨_, _, d_124, Or.inl ⟨c_134, ⟨_, _, d_151, Or.inr ⟨c_175, ⟨_, _, d_192, Or.inr ⟨c_202, ⟨rfl, rfl⟩⟩⟩⟩⟩⟩⟩⟩⟩⟩⟩⟩)⟩, rfl, (by unfold sv_I; omega), ok_195⟩
          · obtain ⟨n_213, e_214, hr_215⟩ := iv_aload_n xm_252 xd_252_92 l_50 hr_137
            have f_216 := dc_fr (j := 62) ok_127 (rfl : sv_ty 114 = some 12) dt_12 rfl
            obtain ⟨n_217, e_218, hr_219⟩ := iv_getf (j := 62) xm_252 xd_252_93 (by decide +kernel) ok_127 (rfl : sv_ty 114 = some 12) dt_12 f_216 hr_215
            obtain ⟨n_220, e_221, hr_222⟩ := iv_iconst xm_252 xd_252_96 (by decide) hr_219
            obtain ⟨q_223, qi_224, n_225, e_226, hr_227⟩ := iv_iald xm_252 xd_252_97 ok_127 (rfl : sv_ty 151 = some 88) dt_88 (by decide) (by unfold sv_I; omega) hr_222
            obtain ⟨n_228, e_229, hr_230⟩ := iv_bipush xm_252 xd_252_98 (by decide) hr_227
            rcases iv_icmp 113 xm_252 xd_252_100 (by decide) qi_224 (by unfold sv_I; omega) hr_230 with ⟨c_231, n_232, e_233, hr_234⟩ | ⟨c_231, n_232, e_233, hr_234⟩
            · obtain ⟨n_235, e_236, hr_237⟩ := iv_iload_n xm_252 xd_252_113 l_51 hr_234
              rcases iv_if 124 xm_252 xd_252_114 (by decide) (by unfold sv_I; omega) hr_237 with ⟨c_238, n_239, e_240, hr_241⟩ | ⟨c_238, n_239, e_240, hr_241⟩
              · exact absurd (show (1 : Int) = 0 from c_238) (by decide)
              obtain ⟨n_242, e_243, hr_244⟩ := iv_aload_n xm_252 xd_252_117 l_50 hr_241
              obtain ⟨n_254, r_245, e_255, hc_246, hr_256⟩ := iv_call (Or.inr ⟨rfl, rfl⟩) xm_252 xd_252_118 (by decide +kernel) xm_255 rfl (by decide +kernel) hr_244
              obtain ⟨v_247, d_248, er_249, iv_250, ok_251⟩ := ds_255 _  ok_127 hc_246
              obtain ⟨_, h_253⟩ := r_245
              have er_249 : _ = some (wk_i v_247) := er_249
              subst er_249
              have hr_257 : ae_exe n_254 252 (118 + 3) 0 0 lv_46 _ h_253 = some r := hr_256
              obtain ⟨n_258, e_259, hr_260⟩ := iv_goto 145 xm_252 xd_252_121 (by decide) hr_257
              obtain ⟨lv_262, sl_261, n_263, e_264, hr_265⟩ := iv_istore_n xm_252 xd_252_145 (by decide +kernel) hr_260
              have l_266 := sl_261.2 0 _ l_50 (by decide) (Or.inl rfl)
              have l_267 := sl_261.2 1 _ l_51 (by decide) (Or.inl rfl)
              have l_268 := sl_261.1
              obtain ⟨n_269, e_270, hr_271⟩ := iv_iload_n xm_252 xd_252_146 l_268 hr_265
              rcases iv_if 159 xm_252 xd_252_147 (by decide) iv_250 hr_271 with ⟨c_272, n_273, e_274, hr_275⟩ | ⟨c_272, n_273, e_274, hr_275⟩
              · obtain ⟨n_276, e_277, hr_278⟩ := iv_iconst xm_252 xd_252_159 (by decide) hr_275
                have rr_279 := iv_ireturn xm_252 xd_252_160 hr_278
                subst rr_279
                exact ⟨_, ⟨0 + 1, lm_252_0.mpr (Or.inr ⟨c_8, ⟨_, _, d_25, Or.inl ⟨c_35, ⟨q_76, Or.inr ⟨c_84, ⟨_, _, d_124, Or.inr ⟨c_134, ⟨q_223, Or.inl ⟨c_231, ⟨_, _, d_248, Or.inl ⟨c_272, ⟨rfl, rfl⟩⟩⟩⟩⟩⟩⟩⟩⟩⟩⟩⟩)⟩, rfl, (by unfold sv_I; omega), ok_251⟩
              · obtain ⟨n_280, e_281, hr_282⟩ := iv_aload_n xm_252 xd_252_150 l_266 hr_275
                obtain ⟨n_283, e_284, hr_285⟩ := iv_bipush xm_252 xd_252_151 (by decide) hr_282
                obtain ⟨n_295, r_286, e_296, hc_287, hr_297⟩ := iv_call (Or.inr ⟨rfl, rfl⟩) xm_252 xd_252_153 (by decide +kernel) xm_200 rfl (by decide +kernel) hr_285
                obtain ⟨v_288, d_289, er_290, iv_291, ok_292⟩ := ds_200 _ _ ok_251 (by unfold sv_I; omega) hc_287
                obtain ⟨_, h_294⟩ := r_286
                have er_290 : _ = some (wk_i v_288) := er_290
                subst er_290
                have hr_298 : ae_exe n_295 252 (153 + 3) 0 0 lv_262 _ h_294 = some r := hr_297
                rcases iv_if 161 xm_252 xd_252_156 (by decide) iv_291 hr_298 with ⟨c_299, n_300, e_301, hr_302⟩ | ⟨c_299, n_300, e_301, hr_302⟩
                · obtain ⟨n_303, e_304, hr_305⟩ := iv_goto 0 xm_252 xd_252_161 (by decide) hr_302
                  obtain ⟨v, ⟨c, hL⟩, e1, e2, e3⟩ := ih0 _ lv_262 h_294 _  (by omega) ok_292  l_266 hr_305
                  exact ⟨v, ⟨c + 1, lm_252_0.mpr (Or.inr ⟨c_8, ⟨_, _, d_25, Or.inl ⟨c_35, ⟨q_76, Or.inr ⟨c_84, ⟨_, _, d_124, Or.inr ⟨c_134, ⟨q_223, Or.inl ⟨c_231, ⟨_, _, d_248, Or.inr ⟨c_272, ⟨_, _, d_289, Or.inl ⟨c_299, hL⟩⟩⟩⟩⟩⟩⟩⟩⟩⟩⟩⟩⟩)⟩, e1, e2, e3⟩
                · obtain ⟨n_306, e_307, hr_308⟩ := iv_iconst xm_252 xd_252_159 (by decide) hr_302
                  have rr_309 := iv_ireturn xm_252 xd_252_160 hr_308
                  subst rr_309
                  exact ⟨_, ⟨0 + 1, lm_252_0.mpr (Or.inr ⟨c_8, ⟨_, _, d_25, Or.inl ⟨c_35, ⟨q_76, Or.inr ⟨c_84, ⟨_, _, d_124, Or.inr ⟨c_134, ⟨q_223, Or.inl ⟨c_231, ⟨_, _, d_248, Or.inr ⟨c_272, ⟨_, _, d_289, Or.inr ⟨c_299, ⟨rfl, rfl⟩⟩⟩⟩⟩⟩⟩⟩⟩⟩⟩⟩⟩⟩)⟩, rfl, (by unfold sv_I; omega), ok_292⟩
            · obtain ⟨n_310, e_311, hr_312⟩ := iv_aload_n xm_252 xd_252_103 l_50 hr_234
              obtain ⟨n_313, e_314, hr_315⟩ := iv_iconst xm_252 xd_252_104 (by decide) hr_312
              obtain ⟨n_316, e_317, hr_318⟩ := iv_aload_n xm_252 xd_252_105 l_50 hr_315
              have f_319 := dc_fi (j := 8) ok_127 (rfl : sv_ty 114 = some 12) dt_12 rfl
              obtain ⟨n_320, e_321, hr_322⟩ := iv_getf (j := 8) xm_252 xd_252_106 (by decide +kernel) ok_127 (rfl : sv_ty 114 = some 12) dt_12 f_319.1 hr_318
              obtain ⟨n_332, r_323, e_333, hc_324, hr_334⟩ := iv_call (Or.inr ⟨rfl, rfl⟩) xm_252 xd_252_109 (by decide +kernel) xm_199 rfl (by decide +kernel) hr_322
              obtain ⟨v_325, d_326, er_327, iv_328, ok_329⟩ := ds_199 _ _ _ ok_127 (by unfold sv_I; omega) f_319.2 hc_324
              obtain ⟨_, h_331⟩ := r_323
              have er_327 : _ = some (wk_i v_325) := er_327
              subst er_327
              have hr_335 : ae_exe n_332 252 (109 + 3) 0 0 lv_46 _ h_331 = some r := hr_334
              have rr_336 := iv_ireturn xm_252 xd_252_112 hr_335
              subst rr_336
              exact ⟨_, ⟨0 + 1, lm_252_0.mpr (Or.inr ⟨c_8, ⟨_, _, d_25, Or.inl ⟨c_35, ⟨q_76, Or.inr ⟨c_84, ⟨_, _, d_124, Or.inr ⟨c_134, ⟨q_223, Or.inr ⟨c_231, ⟨_, _, d_326, ⟨rfl, rfl⟩⟩⟩⟩⟩⟩⟩⟩⟩⟩⟩)⟩, rfl, iv_328, ok_329⟩
      · obtain ⟨n_337, e_338, hr_339⟩ := iv_aload_n xm_252 xd_252_17 q0 hr_38
        obtain ⟨n_340, e_341, hr_342⟩ := iv_ldc2 (v := 427071729268) (z := 0) xm_252 xd_252_18 (by decide +kernel) hr_339
        obtain ⟨n_352, r_343, e_353, hc_344, hr_354⟩ := iv_call (Or.inr ⟨rfl, rfl⟩) xm_252 xd_252_21 (by decide +kernel) xm_249 rfl (by decide +kernel) hr_342
        obtain ⟨v_345, d_346, er_347, iv_348, ok_349⟩ := ds_249 _ _ ok_28 (by decide) hc_344
        obtain ⟨_, h_351⟩ := r_343
        have er_347 : _ = some (wk_i v_345) := er_347
        subst er_347
        have hr_355 : ae_exe n_352 252 (21 + 3) 0 0 lv _ h_351 = some r := hr_354
        rcases iv_if 31 xm_252 xd_252_24 (by decide) iv_348 hr_355 with ⟨c_356, n_357, e_358, hr_359⟩ | ⟨c_356, n_357, e_358, hr_359⟩
        · obtain ⟨n_360, e_361, hr_362⟩ := iv_iconst xm_252 xd_252_31 (by decide) hr_359
          obtain ⟨lv_364, sl_363, n_365, e_366, hr_367⟩ := iv_istore_n xm_252 xd_252_32 (by decide +kernel) hr_362
          have l_368 := sl_363.2 0 _ q0 (by decide) (Or.inl rfl)
          have l_369 := sl_363.1
          obtain ⟨n_370, e_371, hr_372⟩ := iv_iload_n xm_252 xd_252_33 l_369 hr_367
          rcases iv_if 67 xm_252 xd_252_34 (by decide) (by unfold sv_I; omega) hr_372 with ⟨c_373, n_374, e_375, hr_376⟩ | ⟨c_373, n_374, e_375, hr_376⟩
          · exact absurd (show (0 : Int) ≠ 0 from c_373) (by decide)
          obtain ⟨n_377, e_378, hr_379⟩ := iv_aload_n xm_252 xd_252_37 l_368 hr_376
          obtain ⟨n_380, e_381, hr_382⟩ := iv_ldc2 (v := 439854918756) (z := 0) xm_252 xd_252_38 (by decide +kernel) hr_379
          obtain ⟨n_392, r_383, e_393, hc_384, hr_394⟩ := iv_call (Or.inr ⟨rfl, rfl⟩) xm_252 xd_252_41 (by decide +kernel) xm_249 rfl (by decide +kernel) hr_382
          obtain ⟨v_385, d_386, er_387, iv_388, ok_389⟩ := ds_249 _ _ ok_349 (by decide) hc_384
          obtain ⟨_, h_391⟩ := r_383
          have er_387 : _ = some (wk_i v_385) := er_387
          subst er_387
          have hr_395 : ae_exe n_392 252 (41 + 3) 0 0 lv_364 _ h_391 = some r := hr_394
          rcases iv_if 67 xm_252 xd_252_44 (by decide) iv_388 hr_395 with ⟨c_396, n_397, e_398, hr_399⟩ | ⟨c_396, n_397, e_398, hr_399⟩
          · obtain ⟨n_400, e_401, hr_402⟩ := iv_iload_n xm_252 xd_252_67 l_369 hr_399
            rcases iv_if 82 xm_252 xd_252_68 (by decide) (by unfold sv_I; omega) hr_402 with ⟨c_403, n_404, e_405, hr_406⟩ | ⟨c_403, n_404, e_405, hr_406⟩
            rotate_left
            · exact absurd (show ¬ ((0 : Int) = 0) from c_403) (by decide)
            obtain ⟨n_407, e_408, hr_409⟩ := iv_aload_n xm_252 xd_252_82 l_368 hr_406
            obtain ⟨n_410, e_411, hr_412⟩ := iv_ldc2 (v := 439854918756) (z := 0) xm_252 xd_252_83 (by decide +kernel) hr_409
            obtain ⟨n_422, r_413, e_423, hc_414, hr_424⟩ := iv_call (Or.inr ⟨rfl, rfl⟩) xm_252 xd_252_86 (by decide +kernel) xm_249 rfl (by decide +kernel) hr_412
            obtain ⟨v_415, d_416, er_417, iv_418, ok_419⟩ := ds_249 _ _ ok_389 (by decide) hc_414
            obtain ⟨_, h_421⟩ := r_413
            have er_417 : _ = some (wk_i v_415) := er_417
            subst er_417
            have hr_425 : ae_exe n_422 252 (86 + 3) 0 0 lv_364 _ h_421 = some r := hr_424
            rcases iv_if 113 xm_252 xd_252_89 (by decide) iv_418 hr_425 with ⟨c_426, n_427, e_428, hr_429⟩ | ⟨c_426, n_427, e_428, hr_429⟩
            · obtain ⟨n_430, e_431, hr_432⟩ := iv_iload_n xm_252 xd_252_113 l_369 hr_429
              rcases iv_if 124 xm_252 xd_252_114 (by decide) (by unfold sv_I; omega) hr_432 with ⟨c_433, n_434, e_435, hr_436⟩ | ⟨c_433, n_434, e_435, hr_436⟩
              rotate_left
              · exact absurd (show ¬ ((0 : Int) = 0) from c_433) (by decide)
              obtain ⟨n_437, e_438, hr_439⟩ := iv_aload_n xm_252 xd_252_124 l_368 hr_436
              obtain ⟨n_440, e_441, hr_442⟩ := iv_ldc2 (v := 439854918756) (z := 0) xm_252 xd_252_125 (by decide +kernel) hr_439
              obtain ⟨n_452, r_443, e_453, hc_444, hr_454⟩ := iv_call (Or.inr ⟨rfl, rfl⟩) xm_252 xd_252_128 (by decide +kernel) xm_249 rfl (by decide +kernel) hr_442
              obtain ⟨v_445, d_446, er_447, iv_448, ok_449⟩ := ds_249 _ _ ok_419 (by decide) hc_444
              obtain ⟨_, h_451⟩ := r_443
              have er_447 : _ = some (wk_i v_445) := er_447
              subst er_447
              have hr_455 : ae_exe n_452 252 (128 + 3) 0 0 lv_364 _ h_451 = some r := hr_454
              rcases iv_if 141 xm_252 xd_252_131 (by decide) iv_448 hr_455 with ⟨c_456, n_457, e_458, hr_459⟩ | ⟨c_456, n_457, e_458, hr_459⟩
              · obtain ⟨n_460, e_461, hr_462⟩ := iv_aload_n xm_252 xd_252_141 l_368 hr_459
                obtain ⟨n_472, r_463, e_473, hc_464, hr_474⟩ := iv_call (Or.inr ⟨rfl, rfl⟩) xm_252 xd_252_142 (by decide +kernel) xm_254 rfl (by decide +kernel) hr_462
                obtain ⟨v_465, d_466, er_467, iv_468, ok_469⟩ := ds_254 _  ok_449 hc_464
                obtain ⟨_, h_471⟩ := r_463
                have er_467 : _ = some (wk_i v_465) := er_467
                subst er_467
                have hr_475 : ae_exe n_472 252 (142 + 3) 0 0 lv_364 _ h_471 = some r := hr_474
                obtain ⟨lv_477, sl_476, n_478, e_479, hr_480⟩ := iv_istore_n xm_252 xd_252_145 (by decide +kernel) hr_475
                have l_481 := sl_476.2 0 _ l_368 (by decide) (Or.inl rfl)
                have l_482 := sl_476.2 1 _ l_369 (by decide) (Or.inl rfl)
                have l_483 := sl_476.1
                obtain ⟨n_484, e_485, hr_486⟩ := iv_iload_n xm_252 xd_252_146 l_483 hr_480
                rcases iv_if 159 xm_252 xd_252_147 (by decide) iv_468 hr_486 with ⟨c_487, n_488, e_489, hr_490⟩ | ⟨c_487, n_488, e_489, hr_490⟩
                · obtain ⟨n_491, e_492, hr_493⟩ := iv_iconst xm_252 xd_252_159 (by decide) hr_490
                  have rr_494 := iv_ireturn xm_252 xd_252_160 hr_493
                  subst rr_494
                  exact ⟨_, ⟨0 + 1, lm_252_0.mpr (Or.inr ⟨c_8, ⟨_, _, d_25, Or.inr ⟨c_35, ⟨_, _, d_346, Or.inl ⟨c_356, ⟨_, _, d_386, Or.inl ⟨c_396, ⟨_, _, d_416, Or.inl ⟨c_426, ⟨_, _, d_446, Or.inl ⟨c_456, ⟨_, _, d_466, Or.inl ⟨c_487, ⟨rfl, rfl⟩⟩⟩⟩⟩⟩⟩⟩⟩⟩⟩⟩⟩⟩)⟩, rfl, (by unfold sv_I; omega), ok_469⟩
                · obtain ⟨n_495, e_496, hr_497⟩ := iv_aload_n xm_252 xd_252_150 l_481 hr_490
                  obtain ⟨n_498, e_499, hr_500⟩ := iv_bipush xm_252 xd_252_151 (by decide) hr_497
                  obtain ⟨n_510, r_501, e_511, hc_502, hr_512⟩ := iv_call (Or.inr ⟨rfl, rfl⟩) xm_252 xd_252_153 (by decide +kernel) xm_200 rfl (by decide +kernel) hr_500
                  obtain ⟨v_503, d_504, er_505, iv_506, ok_507⟩ := ds_200 _ _ ok_469 (by unfold sv_I; omega) hc_502
                  obtain ⟨_, h_509⟩ := r_501
                  have er_505 : _ = some (wk_i v_503) := er_505
                  subst er_505
                  have hr_513 : ae_exe n_510 252 (153 + 3) 0 0 lv_477 _ h_509 = some r := hr_512
                  rcases iv_if 161 xm_252 xd_252_156 (by decide) iv_506 hr_513 with ⟨c_514, n_515, e_516, hr_517⟩ | ⟨c_514, n_515, e_516, hr_517⟩
                  · obtain ⟨n_518, e_519, hr_520⟩ := iv_goto 0 xm_252 xd_252_161 (by decide) hr_517
                    obtain ⟨v, ⟨c, hL⟩, e1, e2, e3⟩ := ih0 _ lv_477 h_509 _  (by omega) ok_507  l_481 hr_520
                    exact ⟨v, ⟨c + 1, lm_252_0.mpr (Or.inr ⟨c_8, ⟨_, _, d_25, Or.inr ⟨c_35, ⟨_, _, d_346, Or.inl ⟨c_356, ⟨_, _, d_386, Or.inl ⟨c_396, ⟨_, _, d_416, Or.inl ⟨c_426, ⟨_, _, d_446, Or.inl ⟨c_456, ⟨_, _, d_466, Or.inr ⟨c_487, ⟨_, _, d_504, Or.inl ⟨c_514, hL⟩⟩⟩⟩⟩⟩⟩⟩⟩⟩⟩⟩⟩⟩⟩)⟩, e1, e2, e3⟩
                  · obtain ⟨n_521, e_522, hr_523⟩ := iv_iconst xm_252 xd_252_159 (by decide) hr_517
                    have rr_524 := iv_ireturn xm_252 xd_252_160 hr_523
                    subst rr_524
                    exact ⟨_, ⟨0 + 1, lm_252_0.mpr (Or.inr ⟨c_8, ⟨_, _, d_25, Or.inr ⟨c_35, ⟨_, _, d_346, Or.inl ⟨c_356, ⟨_, _, d_386, Or.inl ⟨c_396, ⟨_, _, d_416, Or.inl ⟨c_426, ⟨_, _, d_446, Or.inl ⟨c_456, ⟨_, _, d_466, Or.inr ⟨c_487, ⟨_, _, d_504, Or.inr ⟨c_514, ⟨rfl, rfl⟩⟩⟩⟩⟩⟩⟩⟩⟩⟩⟩⟩⟩⟩⟩⟩)⟩, rfl, (by unfold sv_I; omega), ok_507⟩
              · obtain ⟨n_525, e_526, hr_527⟩ := iv_aload_n xm_252 xd_252_134 l_368 hr_459
                obtain ⟨n_537, r_528, e_538, hc_529, hr_539⟩ := iv_call (Or.inr ⟨rfl, rfl⟩) xm_252 xd_252_135 (by decide +kernel) xm_253 rfl (by decide +kernel) hr_527
                obtain ⟨v_530, d_531, er_532, iv_533, ok_534⟩ := ds_253 _  ok_449 hc_529
                obtain ⟨_, h_536⟩ := r_528
                have er_532 : _ = some (wk_i v_530) := er_532
                subst er_532
                have hr_540 : ae_exe n_537 252 (135 + 3) 0 0 lv_364 _ h_536 = some r := hr_539
                obtain ⟨n_541, e_542, hr_543⟩ := iv_goto 145 xm_252 xd_252_138 (by decide) hr_540
                obtain ⟨lv_545, sl_544, n_546, e_547, hr_548⟩ := iv_istore_n xm_252 xd_252_145 (by decide +kernel) hr_543
                have l_549 := sl_544.2 0 _ l_368 (by decide) (Or.inl rfl)
                have l_550 := sl_544.2 1 _ l_369 (by decide) (Or.inl rfl)
                have l_551 := sl_544.1
                obtain ⟨n_552, e_553, hr_554⟩ := iv_iload_n xm_252 xd_252_146 l_551 hr_548
                rcases iv_if 159 xm_252 xd_252_147 (by decide) iv_533 hr_554 with ⟨c_555, n_556, e_557, hr_558⟩ | ⟨c_555, n_556, e_557, hr_558⟩
                · obtain ⟨n_559, e_560, hr_561⟩ := iv_iconst xm_252 xd_252_159 (by decide) hr_558
                  have rr_562 := iv_ireturn xm_252 xd_252_160 hr_561
                  subst rr_562
                  exact ⟨_, ⟨0 + 1, lm_252_0.mpr (Or.inr ⟨c_8, ⟨_, _, d_25, Or.inr ⟨c_35, ⟨_, _, d_346, Or.inl ⟨c_356, ⟨_, _, d_386, Or.inl ⟨c_396, ⟨_, _, d_416, Or.inl ⟨c_426, ⟨_, _, d_446, Or.inr ⟨c_456, ⟨_, _, d_531, Or.inl ⟨c_555, ⟨rfl, rfl⟩⟩⟩⟩⟩⟩⟩⟩⟩⟩⟩⟩⟩⟩)⟩, rfl, (by unfold sv_I; omega), ok_534⟩
                · obtain ⟨n_563, e_564, hr_565⟩ := iv_aload_n xm_252 xd_252_150 l_549 hr_558
                  obtain ⟨n_566, e_567, hr_568⟩ := iv_bipush xm_252 xd_252_151 (by decide) hr_565
                  obtain ⟨n_578, r_569, e_579, hc_570, hr_580⟩ := iv_call (Or.inr ⟨rfl, rfl⟩) xm_252 xd_252_153 (by decide +kernel) xm_200 rfl (by decide +kernel) hr_568
                  obtain ⟨v_571, d_572, er_573, iv_574, ok_575⟩ := ds_200 _ _ ok_534 (by unfold sv_I; omega) hc_570
                  obtain ⟨_, h_577⟩ := r_569
                  have er_573 : _ = some (wk_i v_571) := er_573
                  subst er_573
                  have hr_581 : ae_exe n_578 252 (153 + 3) 0 0 lv_545 _ h_577 = some r := hr_580
                  rcases iv_if 161 xm_252 xd_252_156 (by decide) iv_574 hr_581 with ⟨c_582, n_583, e_584, hr_585⟩ | ⟨c_582, n_583, e_584, hr_585⟩
                  · obtain ⟨n_586, e_587, hr_588⟩ := iv_goto 0 xm_252 xd_252_161 (by decide) hr_585
                    obtain ⟨v, ⟨c, hL⟩, e1, e2, e3⟩ := ih0 _ lv_545 h_577 _  (by omega) ok_575  l_549 hr_588
                    exact ⟨v, ⟨c + 1, lm_252_0.mpr (Or.inr ⟨c_8, ⟨_, _, d_25, Or.inr ⟨c_35, ⟨_, _, d_346, Or.inl ⟨c_356, ⟨_, _, d_386, Or.inl ⟨c_396, ⟨_, _, d_416, Or.inl ⟨c_426, ⟨_, _, d_446, Or.inr ⟨c_456, ⟨_, _, d_531, Or.inr ⟨c_555, ⟨_, _, d_572, Or.inl ⟨c_582, hL⟩⟩⟩⟩⟩⟩⟩⟩⟩⟩⟩⟩⟩⟩⟩)⟩, e1, e2, e3⟩
                  · obtain ⟨n_589, e_590, hr_591⟩ := iv_iconst xm_252 xd_252_159 (by decide) hr_585
                    have rr_592 := iv_ireturn xm_252 xd_252_160 hr_591
                    subst rr_592
                    exact ⟨_, ⟨0 + 1, lm_252_0.mpr (Or.inr ⟨c_8, ⟨_, _, d_25, Or.inr ⟨c_35, ⟨_, _, d_346, Or.inl ⟨c_356, ⟨_, _, d_386, Or.inl ⟨c_396, ⟨_, _, d_416, Or.inl ⟨c_426, ⟨_, _, d_446, Or.inr ⟨c_456, ⟨_, _, d_531, Or.inr ⟨c_555, ⟨_, _, d_572, Or.inr ⟨c_582, ⟨rfl, rfl⟩⟩⟩⟩⟩⟩⟩⟩⟩⟩⟩⟩⟩⟩⟩⟩)⟩, rfl, (by unfold sv_I; omega), ok_575⟩
            · obtain ⟨n_593, e_594, hr_595⟩ := iv_aload_n xm_252 xd_252_92 l_368 hr_429
              have f_596 := dc_fr (j := 62) ok_419 (rfl : sv_ty 114 = some 12) dt_12 rfl
              obtain ⟨n_597, e_598, hr_599⟩ := iv_getf (j := 62) xm_252 xd_252_93 (by decide +kernel) ok_419 (rfl : sv_ty 114 = some 12) dt_12 f_596 hr_595
              obtain ⟨n_600, e_601, hr_602⟩ := iv_iconst xm_252 xd_252_96 (by decide) hr_599
              obtain ⟨q_603, qi_604, n_605, e_606, hr_607⟩ := iv_iald xm_252 xd_252_97 ok_419 (rfl : sv_ty 151 = some 88) dt_88 (by decide) (by unfold sv_I; omega) hr_602
              obtain ⟨n_608, e_609, hr_610⟩ := iv_bipush xm_252 xd_252_98 (by decide) hr_607
              rcases iv_icmp 113 xm_252 xd_252_100 (by decide) qi_604 (by unfold sv_I; omega) hr_610 with ⟨c_611, n_612, e_613, hr_614⟩ | ⟨c_611, n_612, e_613, hr_614⟩
              · obtain ⟨n_615, e_616, hr_617⟩ := iv_iload_n xm_252 xd_252_113 l_369 hr_614
                rcases iv_if 124 xm_252 xd_252_114 (by decide) (by unfold sv_I; omega) hr_617 with ⟨c_618, n_619, e_620, hr_621⟩ | ⟨c_618, n_619, e_620, hr_621⟩
                rotate_left
                · exact absurd (show ¬ ((0 : Int) = 0) from c_618) (by decide)
                obtain ⟨n_622, e_623, hr_624⟩ := iv_aload_n xm_252 xd_252_124 l_368 hr_621
                obtain ⟨n_625, e_626, hr_627⟩ := iv_ldc2 (v := 439854918756) (z := 0) xm_252 xd_252_125 (by decide +kernel) hr_624
                obtain ⟨n_637, r_628, e_638, hc_629, hr_639⟩ := iv_call (Or.inr ⟨rfl, rfl⟩) xm_252 xd_252_128 (by decide +kernel) xm_249 rfl (by decide +kernel) hr_627
                obtain ⟨v_630, d_631, er_632, iv_633, ok_634⟩ := ds_249 _ _ ok_419 (by decide) hc_629
                obtain ⟨_, h_636⟩ := r_628
                have er_632 : _ = some (wk_i v_630) := er_632
                subst er_632
                have hr_640 : ae_exe n_637 252 (128 + 3) 0 0 lv_364 _ h_636 = some r := hr_639
                rcases iv_if 141 xm_252 xd_252_131 (by decide) iv_633 hr_640 with ⟨c_641, n_642, e_643, hr_644⟩ | ⟨c_641, n_642, e_643, hr_644⟩
                · obtain ⟨n_645, e_646, hr_647⟩ := iv_aload_n xm_252 xd_252_141 l_368 hr_644
                  obtain ⟨n_657, r_648, e_658, hc_649, hr_659⟩ := iv_call (Or.inr ⟨rfl, rfl⟩) xm_252 xd_252_142 (by decide +kernel) xm_254 rfl (by decide +kernel) hr_647
                  obtain ⟨v_650, d_651, er_652, iv_653, ok_654⟩ := ds_254 _  ok_634 hc_649
                  obtain ⟨_, h_656⟩ := r_648
                  have er_652 : _ = some (wk_i v_650) := er_652
                  subst er_652
                  have hr_660 : ae_exe n_657 252 (142 + 3) 0 0 lv_364 _ h_656 = some r := hr_659
                  obtain ⟨lv_662, sl_661, n_663, e_664, hr_665⟩ := iv_istore_n xm_252 xd_252_145 (by decide +kernel) hr_660
                  have l_666 := sl_661.2 0 _ l_368 (by decide) (Or.inl rfl)
                  have l_667 := sl_661.2 1 _ l_369 (by decide) (Or.inl rfl)
                  have l_668 := sl_661.1
                  obtain ⟨n_669, e_670, hr_671⟩ := iv_iload_n xm_252 xd_252_146 l_668 hr_665
                  rcases iv_if 159 xm_252 xd_252_147 (by decide) iv_653 hr_671 with ⟨c_672, n_673, e_674, hr_675⟩ | ⟨c_672, n_673, e_674, hr_675⟩
                  · obtain ⟨n_676, e_677, hr_678⟩ := iv_iconst xm_252 xd_252_159 (by decide) hr_675
                    have rr_679 := iv_ireturn xm_252 xd_252_160 hr_678
                    subst rr_679
                    exact ⟨_, ⟨0 + 1, lm_252_0.mpr (Or.inr ⟨c_8, ⟨_, _, d_25, Or.inr ⟨c_35, ⟨_, _, d_346, Or.inl ⟨c_356, ⟨_, _, d_386, Or.inl ⟨c_396, ⟨_, _, d_416, Or.inr ⟨c_426, ⟨q_603, Or.inl ⟨c_611, ⟨_, _, d_631, Or.inl ⟨c_641, ⟨_, _, d_651, Or.inl ⟨c_672, ⟨rfl, rfl⟩⟩⟩⟩⟩⟩⟩⟩⟩⟩⟩⟩⟩⟩⟩⟩)⟩, rfl, (by unfold sv_I; omega), ok_654⟩
                  · obtain ⟨n_680, e_681, hr_682⟩ := iv_aload_n xm_252 xd_252_150 l_666 hr_675
                    obtain ⟨n_683, e_684, hr_685⟩ := iv_bipush xm_252 xd_252_151 (by decide) hr_682
                    obtain ⟨n_695, r_686, e_696, hc_687, hr_697⟩ := iv_call (Or.inr ⟨rfl, rfl⟩) xm_252 xd_252_153 (by decide +kernel) xm_200 rfl (by decide +kernel) hr_685
                    obtain ⟨v_688, d_689, er_690, iv_691, ok_692⟩ := ds_200 _ _ ok_654 (by unfold sv_I; omega) hc_687
                    obtain ⟨_, h_694⟩ := r_686
                    have er_690 : _ = some (wk_i v_688) := er_690
                    subst er_690
                    have hr_698 : ae_exe n_695 252 (153 + 3) 0 0 lv_662 _ h_694 = some r := hr_697
                    rcases iv_if 161 xm_252 xd_252_156 (by decide) iv_691 hr_698 with ⟨c_699, n_700, e_701, hr_702⟩ | ⟨c_699, n_700, e_701, hr_702⟩
                    · obtain ⟨n_703, e_704, hr_705⟩ := iv_goto 0 xm_252 xd_252_161 (by decide) hr_702
                      obtain ⟨v, ⟨c, hL⟩, e1, e2, e3⟩ := ih0 _ lv_662 h_694 _  (by omega) ok_692  l_666 hr_705
                      exact ⟨v, ⟨c + 1, lm_252_0.mpr (Or.inr ⟨c_8, ⟨_, _, d_25, Or.inr ⟨c_35, ⟨_, _, d_346, Or.inl ⟨c_356, ⟨_, _, d_386, Or.inl ⟨c_396, ⟨_, _, d_416, Or.inr ⟨c_426, ⟨q_603, Or.inl ⟨c_611, ⟨_, _, d_631, Or.inl ⟨c_641, ⟨_, _, d_651, Or.inr ⟨c_672, ⟨_, _, d_689, Or.inl ⟨c_699, hL⟩⟩⟩⟩⟩⟩⟩⟩⟩⟩⟩⟩⟩⟩⟩⟩⟩)⟩, e1, e2, e3⟩
                    · obtain ⟨n_706, e_707, hr_708⟩ := iv_iconst xm_252 xd_252_159 (by decide) hr_702
                      have rr_709 := iv_ireturn xm_252 xd_252_160 hr_708
                      subst rr_709
                      exact ⟨_, ⟨0 + 1, lm_252_0.mpr (Or.inr ⟨c_8, ⟨_, _, d_25, Or.inr ⟨c_35, ⟨_, _, d_346, Or.inl ⟨c_356, ⟨_, _, d_386, Or.inl ⟨c_396, ⟨_, _, d_416, Or.inr ⟨c_426, ⟨q_603, Or.inl ⟨c_611, ⟨_, _, d_631, Or.inl ⟨c_641, ⟨_, _, d_651, Or.inr ⟨c_672, ⟨_, _, d_689, Or.inr ⟨c_699, ⟨rfl, rfl⟩⟩⟩⟩⟩⟩⟩⟩⟩⟩⟩⟩⟩⟩⟩⟩⟩⟩)⟩, rfl, (by unfold sv_I; omega), ok_692⟩
                · obtain ⟨n_710, e_711, hr_712⟩ := iv_aload_n xm_252 xd_252_134 l_368 hr_644
                  obtain ⟨n_722, r_713, e_723, hc_714, hr_724⟩ := iv_call (Or.inr ⟨rfl, rfl⟩) xm_252 xd_252_135 (by decide +kernel) xm_253 rfl (by decide +kernel) hr_712
                  obtain ⟨v_715, d_716, er_717, iv_718, ok_719⟩ := ds_253 _  ok_634 hc_714
                  obtain ⟨_, h_721⟩ := r_713
                  have er_717 : _ = some (wk_i v_715) := er_717
                  subst er_717
                  have hr_725 : ae_exe n_722 252 (135 + 3) 0 0 lv_364 _ h_721 = some r := hr_724
                  obtain ⟨n_726, e_727, hr_728⟩ := iv_goto 145 xm_252 xd_252_138 (by decide) hr_725
                  obtain ⟨lv_730, sl_729, n_731, e_732, hr_733⟩ := iv_istore_n xm_252 xd_252_145 (by decide +kernel) hr_728
                  have l_734 := sl_729.2 0 _ l_368 (by decide) (Or.inl rfl)
                  have l_735 := sl_729.2 1 _ l_369 (by decide) (Or.inl rfl)
                  have l_736 := sl_729.1
                  obtain ⟨n_737, e_738, hr_739⟩ := iv_iload_n xm_252 xd_252_146 l_736 hr_733
                  rcases iv_if 159 xm_252 xd_252_147 (by decide) iv_718 hr_739 with ⟨c_740, n_741, e_742, hr_743⟩ | ⟨c_740, n_741, e_742, hr_743⟩
                  · obtain ⟨n_744, e_745, hr_746⟩ := iv_iconst xm_252 xd_252_159 (by decide) hr_743
                    have rr_747 := iv_ireturn xm_252 xd_252_160 hr_746
                    subst rr_747
                    exact ⟨_, ⟨0 + 1, lm_252_0.mpr (Or.inr ⟨c_8, ⟨_, _, d_25, Or.inr ⟨c_35, ⟨_, _, d_346, Or.inl ⟨c_356, ⟨_, _, d_386, Or.inl ⟨c_396, ⟨_, _, d_416, Or.inr ⟨c_426, ⟨q_603, Or.inl ⟨c_611, ⟨_, _, d_631, Or.inr ⟨c_641, ⟨_, _, d_716, Or.inl ⟨c_740, ⟨rfl, rfl⟩⟩⟩⟩⟩⟩⟩⟩⟩⟩⟩⟩⟩⟩⟩⟩)⟩, rfl, (by unfold sv_I; omega), ok_719⟩
                  · obtain ⟨n_748, e_749, hr_750⟩ := iv_aload_n xm_252 xd_252_150 l_734 hr_743
                    obtain ⟨n_751, e_752, hr_753⟩ := iv_bipush xm_252 xd_252_151 (by decide) hr_750
                    obtain ⟨n_763, r_754, e_764, hc_755, hr_765⟩ := iv_call (Or.inr ⟨rfl, rfl⟩) xm_252 xd_252_153 (by decide +kernel) xm_200 rfl (by decide +kernel) hr_753
                    obtain ⟨v_756, d_757, er_758, iv_759, ok_760⟩ := ds_200 _ _ ok_719 (by unfold sv_I; omega) hc_755
                    obtain ⟨_, h_762⟩ := r_754
                    have er_758 : _ = some (wk_i v_756) := er_758
                    subst er_758
                    have hr_766 : ae_exe n_763 252 (153 + 3) 0 0 lv_730 _ h_762 = some r := hr_765
                    rcases iv_if 161 xm_252 xd_252_156 (by decide) iv_759 hr_766 with ⟨c_767, n_768, e_769, hr_770⟩ | ⟨c_767, n_768, e_769, hr_770⟩
                    · obtain ⟨n_771, e_772, hr_773⟩ := iv_goto 0 xm_252 xd_252_161 (by decide) hr_770
                      obtain ⟨v, ⟨c, hL⟩, e1, e2, e3⟩ := ih0 _ lv_730 h_762 _  (by omega) ok_760  l_734 hr_773
                      exact ⟨v, ⟨c + 1, lm_252_0.mpr (Or.inr ⟨c_8, ⟨_, _, d_25, Or.inr ⟨c_35, ⟨_, _, d_346, Or.inl ⟨c_356, ⟨_, _, d_386, Or.inl ⟨c_396, ⟨_, _, d_416, Or.inr ⟨c_426, ⟨q_603, Or.inl ⟨c_611, ⟨_, _, d_631, Or.inr ⟨c_641, ⟨_, _, d_716, Or.inr ⟨c_740, ⟨_, _, d_757, Or.inl ⟨c_767, hL⟩⟩⟩⟩⟩⟩⟩⟩⟩⟩⟩⟩⟩⟩⟩⟩⟩)⟩, e1, e2, e3⟩
                    · obtain ⟨n_774, e_775, hr_776⟩ := iv_iconst xm_252 xd_252_159 (by decide) hr_770
                      have rr_777 := iv_ireturn xm_252 xd_252_160 hr_776
                      subst rr_777
                      exact ⟨_, ⟨0 + 1, lm_252_0.mpr (Or.inr ⟨c_8, ⟨_, _, d_25, Or.inr ⟨c_35, ⟨_, _, d_346, Or.inl ⟨c_356, ⟨_, _, d_386, Or.inl ⟨c_396, ⟨_, _, d_416, Or.inr ⟨c_426, ⟨q_603, Or.inl ⟨c_611, ⟨_, _, d_631, Or.inr ⟨c_641, ⟨_, _, d_716, Or.inr ⟨c_740, ⟨_, _, d_757, Or.inr ⟨c_767, ⟨rfl, rfl⟩⟩⟩⟩⟩⟩⟩⟩⟩⟩⟩⟩⟩⟩⟩⟩⟩⟩)⟩, rfl, (by unfold sv_I; omega), ok_760⟩
              · obtain ⟨n_778, e_779, hr_780⟩ := iv_aload_n xm_252 xd_252_103 l_368 hr_614
                obtain ⟨n_781, e_782, hr_783⟩ := iv_iconst xm_252 xd_252_104 (by decide) hr_780
                obtain ⟨n_784, e_785, hr_786⟩ := iv_aload_n xm_252 xd_252_105 l_368 hr_783
                have f_787 := dc_fi (j := 8) ok_419 (rfl : sv_ty 114 = some 12) dt_12 rfl
                obtain ⟨n_788, e_789, hr_790⟩ := iv_getf (j := 8) xm_252 xd_252_106 (by decide +kernel) ok_419 (rfl : sv_ty 114 = some 12) dt_12 f_787.1 hr_786
                obtain ⟨n_800, r_791, e_801, hc_792, hr_802⟩ := iv_call (Or.inr ⟨rfl, rfl⟩) xm_252 xd_252_109 (by decide +kernel) xm_199 rfl (by decide +kernel) hr_790
                obtain ⟨v_793, d_794, er_795, iv_796, ok_797⟩ := ds_199 _ _ _ ok_419 (by unfold sv_I; omega) f_787.2 hc_792
                obtain ⟨_, h_799⟩ := r_791
                have er_795 : _ = some (wk_i v_793) := er_795
                subst er_795
                have hr_803 : ae_exe n_800 252 (109 + 3) 0 0 lv_364 _ h_799 = some r := hr_802
                have rr_804 := iv_ireturn xm_252 xd_252_112 hr_803
                subst rr_804
                exact ⟨_, ⟨0 + 1, lm_252_0.mpr (Or.inr ⟨c_8, ⟨_, _, d_25, Or.inr ⟨c_35, ⟨_, _, d_346, Or.inl ⟨c_356, ⟨_, _, d_386, Or.inl ⟨c_396, ⟨_, _, d_416, Or.inr ⟨c_426, ⟨q_603, Or.inr ⟨c_611, ⟨_, _, d_794, ⟨rfl, rfl⟩⟩⟩⟩⟩⟩⟩⟩⟩⟩⟩⟩⟩)⟩, rfl, iv_796, ok_797⟩
          · obtain ⟨n_805, e_806, hr_807⟩ := iv_aload_n xm_252 xd_252_47 l_368 hr_399
            obtain ⟨n_808, e_809, hr_810⟩ := iv_ldc2 (v := 422826041707) (z := 0) xm_252 xd_252_48 (by decide +kernel) hr_807
            obtain ⟨n_820, r_811, e_821, hc_812, hr_822⟩ := iv_call (Or.inr ⟨rfl, rfl⟩) xm_252 xd_252_51 (by decide +kernel) xm_249 rfl (by decide +kernel) hr_810
            obtain ⟨v_813, d_814, er_815, iv_816, ok_817⟩ := ds_249 _ _ ok_389 (by decide) hc_812
            obtain ⟨_, h_819⟩ := r_811
            have er_815 : _ = some (wk_i v_813) := er_815
            subst er_815
            have hr_823 : ae_exe n_820 252 (51 + 3) 0 0 lv_364 _ h_819 = some r := hr_822
            rcases iv_if 67 xm_252 xd_252_54 (by decide) iv_816 hr_823 with ⟨c_824, n_825, e_826, hr_827⟩ | ⟨c_824, n_825, e_826, hr_827⟩
            · obtain ⟨n_828, e_829, hr_830⟩ := iv_iload_n xm_252 xd_252_67 l_369 hr_827
              rcases iv_if 82 xm_252 xd_252_68 (by decide) (by unfold sv_I; omega) hr_830 with ⟨c_831, n_832, e_833, hr_834⟩ | ⟨c_831, n_832, e_833, hr_834⟩
              rotate_left
              · exact absurd (show ¬ ((0 : Int) = 0) from c_831) (by decide)
              obtain ⟨n_835, e_836, hr_837⟩ := iv_aload_n xm_252 xd_252_82 l_368 hr_834
              obtain ⟨n_838, e_839, hr_840⟩ := iv_ldc2 (v := 439854918756) (z := 0) xm_252 xd_252_83 (by decide +kernel) hr_837
              obtain ⟨n_850, r_841, e_851, hc_842, hr_852⟩ := iv_call (Or.inr ⟨rfl, rfl⟩) xm_252 xd_252_86 (by decide +kernel) xm_249 rfl (by decide +kernel) hr_840
              obtain ⟨v_843, d_844, er_845, iv_846, ok_847⟩ := ds_249 _ _ ok_817 (by decide) hc_842
              obtain ⟨_, h_849⟩ := r_841
              have er_845 : _ = some (wk_i v_843) := er_845
              subst er_845
              have hr_853 : ae_exe n_850 252 (86 + 3) 0 0 lv_364 _ h_849 = some r := hr_852
              rcases iv_if 113 xm_252 xd_252_89 (by decide) iv_846 hr_853 with ⟨c_854, n_855, e_856, hr_857⟩ | ⟨c_854, n_855, e_856, hr_857⟩
              · obtain ⟨n_858, e_859, hr_860⟩ := iv_iload_n xm_252 xd_252_113 l_369 hr_857
                rcases iv_if 124 xm_252 xd_252_114 (by decide) (by unfold sv_I; omega) hr_860 with ⟨c_861, n_862, e_863, hr_864⟩ | ⟨c_861, n_862, e_863, hr_864⟩
                rotate_left
                · exact absurd (show ¬ ((0 : Int) = 0) from c_861) (by decide)
                obtain ⟨n_865, e_866, hr_867⟩ := iv_aload_n xm_252 xd_252_124 l_368 hr_864
                obtain ⟨n_868, e_869, hr_870⟩ := iv_ldc2 (v := 439854918756) (z := 0) xm_252 xd_252_125 (by decide +kernel) hr_867
                obtain ⟨n_880, r_871, e_881, hc_872, hr_882⟩ := iv_call (Or.inr ⟨rfl, rfl⟩) xm_252 xd_252_128 (by decide +kernel) xm_249 rfl (by decide +kernel) hr_870
                obtain ⟨v_873, d_874, er_875, iv_876, ok_877⟩ := ds_249 _ _ ok_847 (by decide) hc_872
                obtain ⟨_, h_879⟩ := r_871
                have er_875 : _ = some (wk_i v_873) := er_875
                subst er_875
                have hr_883 : ae_exe n_880 252 (128 + 3) 0 0 lv_364 _ h_879 = some r := hr_882
                rcases iv_if 141 xm_252 xd_252_131 (by decide) iv_876 hr_883 with ⟨c_884, n_885, e_886, hr_887⟩ | ⟨c_884, n_885, e_886, hr_887⟩
                · obtain ⟨n_888, e_889, hr_890⟩ := iv_aload_n xm_252 xd_252_141 l_368 hr_887
                  obtain ⟨n_900, r_891, e_901, hc_892, hr_902⟩ := iv_call (Or.inr ⟨rfl, rfl⟩) xm_252 xd_252_142 (by decide +kernel) xm_254 rfl (by decide +kernel) hr_890
                  obtain ⟨v_893, d_894, er_895, iv_896, ok_897⟩ := ds_254 _  ok_877 hc_892
                  obtain ⟨_, h_899⟩ := r_891
                  have er_895 : _ = some (wk_i v_893) := er_895
                  subst er_895
                  have hr_903 : ae_exe n_900 252 (142 + 3) 0 0 lv_364 _ h_899 = some r := hr_902
                  obtain ⟨lv_905, sl_904, n_906, e_907, hr_908⟩ := iv_istore_n xm_252 xd_252_145 (by decide +kernel) hr_903
                  have l_909 := sl_904.2 0 _ l_368 (by decide) (Or.inl rfl)
                  have l_910 := sl_904.2 1 _ l_369 (by decide) (Or.inl rfl)
                  have l_911 := sl_904.1
                  obtain ⟨n_912, e_913, hr_914⟩ := iv_iload_n xm_252 xd_252_146 l_911 hr_908
                  rcases iv_if 159 xm_252 xd_252_147 (by decide) iv_896 hr_914 with ⟨c_915, n_916, e_917, hr_918⟩ | ⟨c_915, n_916, e_917, hr_918⟩
                  · obtain ⟨n_919, e_920, hr_921⟩ := iv_iconst xm_252 xd_252_159 (by decide) hr_918
                    have rr_922 := iv_ireturn xm_252 xd_252_160 hr_921
                    subst rr_922
                    exact ⟨_, ⟨0 + 1, lm_252_0.mpr (Or.inr ⟨c_8, ⟨_, _, d_25, Or.inr ⟨c_35, ⟨_, _, d_346, Or.inl ⟨c_356, ⟨_, _, d_386, Or.inr ⟨c_396, ⟨_, _, d_814, Or.inl ⟨c_824, ⟨_, _, d_844, Or.inl ⟨c_854, ⟨_, _, d_874, Or.inl ⟨c_884, ⟨_, _, d_894, Or.inl ⟨c_915, ⟨rfl, rfl⟩⟩⟩⟩⟩⟩⟩⟩⟩⟩⟩⟩⟩⟩⟩⟩)⟩, rfl, (by unfold sv_I; omega), ok_897⟩
                  · obtain ⟨n_923, e_924, hr_925⟩ := iv_aload_n xm_252 xd_252_150 l_909 hr_918
                    obtain ⟨n_926, e_927, hr_928⟩ := iv_bipush xm_252 xd_252_151 (by decide) hr_925
                    obtain ⟨n_938, r_929, e_939, hc_930, hr_940⟩ := iv_call (Or.inr ⟨rfl, rfl⟩) xm_252 xd_252_153 (by decide +kernel) xm_200 rfl (by decide +kernel) hr_928
                    obtain ⟨v_931, d_932, er_933, iv_934, ok_935⟩ := ds_200 _ _ ok_897 (by unfold sv_I; omega) hc_930
                    obtain ⟨_, h_937⟩ := r_929
                    have er_933 : _ = some (wk_i v_931) := er_933
                    subst er_933
                    have hr_941 : ae_exe n_938 252 (153 + 3) 0 0 lv_905 _ h_937 = some r := hr_940
                    rcases iv_if 161 xm_252 xd_252_156 (by decide) iv_934 hr_941 with ⟨c_942, n_943, e_944, hr_945⟩ | ⟨c_942, n_943, e_944, hr_945⟩
                    · obtain ⟨n_946, e_947, hr_948⟩ := iv_goto 0 xm_252 xd_252_161 (by decide) hr_945
                      obtain ⟨v, ⟨c, hL⟩, e1, e2, e3⟩ := ih0 _ lv_905 h_937 _  (by omega) ok_935  l_909 hr_948
                      exact ⟨v, ⟨c + 1, lm_252_0.mpr (Or.inr ⟨c_8, ⟨_, _, d_25, Or.inr ⟨c_35, ⟨_, _, d_346, Or.inl ⟨c_356, ⟨_, _, d_386, Or.inr ⟨c_396, ⟨_, _, d_814, Or.inl ⟨c_824, ⟨_, _, d_844, Or.inl ⟨c_854, ⟨_, _, d_874, Or.inl ⟨c_884, ⟨_, _, d_894, Or.inr ⟨c_915, ⟨_, _, d_932, Or.inl ⟨c_942, hL⟩⟩⟩⟩⟩⟩⟩⟩⟩⟩⟩⟩⟩⟩⟩⟩⟩)⟩, e1, e2, e3⟩
                    · obtain ⟨n_949, e_950, hr_951⟩ := iv_iconst xm_252 xd_252_159 (by decide) hr_945
                      have rr_952 := iv_ireturn xm_252 xd_252_160 hr_951
                      subst rr_952
                      exact ⟨_, ⟨0 + 1, lm_252_0.mpr (Or.inr ⟨c_8, ⟨_, _, d_25, Or.inr ⟨c_35, ⟨_, _, d_346, Or.inl ⟨c_356, ⟨_, _, d_386, Or.inr ⟨c_396, ⟨_, _, d_814, Or.inl ⟨c_824, ⟨_, _, d_844, Or.inl ⟨c_854, ⟨_, _, d_874, Or.inl ⟨c_884, ⟨_, _, d_894, Or.inr ⟨c_915, ⟨_, _, d_932, Or.inr ⟨c_942, ⟨rfl, rfl⟩⟩⟩⟩⟩⟩⟩⟩⟩⟩⟩⟩⟩⟩⟩⟩⟩⟩)⟩, rfl, (by unfold sv_I; omega), ok_935⟩
                · obtain ⟨n_953, e_954, hr_955⟩ := iv_aload_n xm_252 xd_252_134 l_368 hr_887
                  obtain ⟨n_965, r_956, e_966, hc_957, hr_967⟩ := iv_call (Or.inr ⟨rfl, rfl⟩) xm_252 xd_252_135 (by decide +kernel) xm_253 rfl (by decide +kernel) hr_955
                  obtain ⟨v_958, d_959, er_960, iv_961, ok_962⟩ := ds_253 _  ok_877 hc_957
                  obtain ⟨_, h_964⟩ := r_956
                  have er_960 : _ = some (wk_i v_958) := er_960
                  subst er_960
                  have hr_968 : ae_exe n_965 252 (135 + 3) 0 0 lv_364 _ h_964 = some r := hr_967
                  obtain ⟨n_969, e_970, hr_971⟩ := iv_goto 145 xm_252 xd_252_138 (by decide) hr_968
                  obtain ⟨lv_973, sl_972, n_974, e_975, hr_976⟩ := iv_istore_n xm_252 xd_252_145 (by decide +kernel) hr_971
                  have l_977 := sl_972.2 0 _ l_368 (by decide) (Or.inl rfl)
                  have l_978 := sl_972.2 1 _ l_369 (by decide) (Or.inl rfl)
                  have l_979 := sl_972.1
                  obtain ⟨n_980, e_981, hr_982⟩ := iv_iload_n xm_252 xd_252_146 l_979 hr_976
                  rcases iv_if 159 xm_252 xd_252_147 (by decide) iv_961 hr_982 with ⟨c_983, n_984, e_985, hr_986⟩ | ⟨c_983, n_984, e_985, hr_986⟩
                  · obtain ⟨n_987, e_988, hr_989⟩ := iv_iconst xm_252 xd_252_159 (by decide) hr_986
                    have rr_990 := iv_ireturn xm_252 xd_252_160 hr_989
                    subst rr_990
                    exact ⟨_, ⟨0 + 1, lm_252_0.mpr (Or.inr ⟨c_8, ⟨_, _, d_25, Or.inr ⟨c_35, ⟨_, _, d_346, Or.inl ⟨c_356, ⟨_, _, d_386, Or.inr ⟨c_396, ⟨_, _, d_814, Or.inl ⟨c_824, ⟨_, _, d_844, Or.inl ⟨c_854, ⟨_, _, d_874, Or.inr ⟨c_884, ⟨_, _, d_959, Or.inl ⟨c_983, ⟨rfl, rfl⟩⟩⟩⟩⟩⟩⟩⟩⟩⟩⟩⟩⟩⟩⟩⟩)⟩, rfl, (by unfold sv_I; omega), ok_962⟩
                  · obtain ⟨n_991, e_992, hr_993⟩ := iv_aload_n xm_252 xd_252_150 l_977 hr_986
                    obtain ⟨n_994, e_995, hr_996⟩ := iv_bipush xm_252 xd_252_151 (by decide) hr_993
                    obtain ⟨n_1006, r_997, e_1007, hc_998, hr_1008⟩ := iv_call (Or.inr ⟨rfl, rfl⟩) xm_252 xd_252_153 (by decide +kernel) xm_200 rfl (by decide +kernel) hr_996
                    obtain ⟨v_999, d_1000, er_1001, iv_1002, ok_1003⟩ := ds_200 _ _ ok_962 (by unfold sv_I; omega) hc_998
                    obtain ⟨_, h_1005⟩ := r_997
                    have er_1001 : _ = some (wk_i v_999) := er_1001
                    subst er_1001
                    have hr_1009 : ae_exe n_1006 252 (153 + 3) 0 0 lv_973 _ h_1005 = some r := hr_1008
                    rcases iv_if 161 xm_252 xd_252_156 (by decide) iv_1002 hr_1009 with ⟨c_1010, n_1011, e_1012, hr_1013⟩ | ⟨c_1010, n_1011, e_1012, hr_1013⟩
                    · obtain ⟨n_1014, e_1015, hr_1016⟩ := iv_goto 0 xm_252 xd_252_161 (by decide) hr_1013
                      obtain ⟨v, ⟨c, hL⟩, e1, e2, e3⟩ := ih0 _ lv_973 h_1005 _  (by omega) ok_1003  l_977 hr_1016
                      exact ⟨v, ⟨c + 1, lm_252_0.mpr (Or.inr ⟨c_8, ⟨_, _, d_25, Or.inr ⟨c_35, ⟨_, _, d_346, Or.inl ⟨c_356, ⟨_, _, d_386, Or.inr ⟨c_396, ⟨_, _, d_814, Or.inl ⟨c_824, ⟨_, _, d_844, Or.inl ⟨c_854, ⟨_, _, d_874, Or.inr ⟨c_884, ⟨_, _, d_959, Or.inr ⟨c_983, ⟨_, _, d_1000, Or.inl ⟨c_1010, hL⟩⟩⟩⟩⟩⟩⟩⟩⟩⟩⟩⟩⟩⟩⟩⟩⟩)⟩, e1, e2, e3⟩
                    · obtain ⟨n_1017, e_1018, hr_1019⟩ := iv_iconst xm_252 xd_252_159 (by decide) hr_1013
                      have rr_1020 := iv_ireturn xm_252 xd_252_160 hr_1019
                      subst rr_1020
                      exact ⟨_, ⟨0 + 1, lm_252_0.mpr (Or.inr ⟨c_8, ⟨_, _, d_25, Or.inr ⟨c_35, ⟨_, _, d_346, Or.inl ⟨c_356, ⟨_, _, d_386, Or.inr ⟨c_396, ⟨_, _, d_814, Or.inl ⟨c_824, ⟨_, _, d_844, Or.inl ⟨c_854, ⟨_, _, d_874, Or.inr ⟨c_884, ⟨_, _, d_959, Or.inr ⟨c_983, ⟨_, _, d_1000, Or.inr ⟨c_1010, ⟨rfl, rfl⟩⟩⟩⟩⟩⟩⟩⟩⟩⟩⟩⟩⟩⟩⟩⟩⟩⟩)⟩, rfl, (by unfold sv_I; omega), ok_1003⟩
              · obtain ⟨n_1021, e_1022, hr_1023⟩ := iv_aload_n xm_252 xd_252_92 l_368 hr_857
                have f_1024 := dc_fr (j := 62) ok_847 (rfl : sv_ty 114 = some 12) dt_12 rfl
                obtain ⟨n_1025, e_1026, hr_1027⟩ := iv_getf (j := 62) xm_252 xd_252_93 (by decide +kernel) ok_847 (rfl : sv_ty 114 = some 12) dt_12 f_1024 hr_1023
                obtain ⟨n_1028, e_1029, hr_1030⟩ := iv_iconst xm_252 xd_252_96 (by decide) hr_1027
                obtain ⟨q_1031, qi_1032, n_1033, e_1034, hr_1035⟩ := iv_iald xm_252 xd_252_97 ok_847 (rfl : sv_ty 151 = some 88) dt_88 (by decide) (by unfold sv_I; omega) hr_1030
                obtain ⟨n_1036, e_1037, hr_1038⟩ := iv_bipush xm_252 xd_252_98 (by decide) hr_1035
                rcases iv_icmp 113 xm_252 xd_252_100 (by decide) qi_1032 (by unfold sv_I; omega) hr_1038 with ⟨c_1039, n_1040, e_1041, hr_1042⟩ | ⟨c_1039, n_1040, e_1041, hr_1042⟩
                · obtain ⟨n_1043, e_1044, hr_1045⟩ := iv_iload_n xm_252 xd_252_113 l_369 hr_1042
                  rcases iv_if 124 xm_252 xd_252_114 (by decide) (by unfold sv_I; omega) hr_1045 with ⟨c_1046, n_1047, e_1048, hr_1049⟩ | ⟨c_1046, n_1047, e_1048, hr_1049⟩
                  rotate_left
                  · exact absurd (show ¬ ((0 : Int) = 0) from c_1046) (by decide)
                  obtain ⟨n_1050, e_1051, hr_1052⟩ := iv_aload_n xm_252 xd_252_124 l_368 hr_1049
                  obtain ⟨n_1053, e_1054, hr_1055⟩ := iv_ldc2 (v := 439854918756) (z := 0) xm_252 xd_252_125 (by decide +kernel) hr_1052
                  obtain ⟨n_1065, r_1056, e_1066, hc_1057, hr_1067⟩ := iv_call (Or.inr ⟨rfl, rfl⟩) xm_252 xd_252_128 (by decide +kernel) xm_249 rfl (by decide +kernel) hr_1055
                  obtain ⟨v_1058, d_1059, er_1060, iv_1061, ok_1062⟩ := ds_249 _ _ ok_847 (by decide) hc_1057
                  obtain ⟨_, h_1064⟩ := r_1056
                  have er_1060 : _ = some (wk_i v_1058) := er_1060
                  subst er_1060
                  have hr_1068 : ae_exe n_1065 252 (128 + 3) 0 0 lv_364 _ h_1064 = some r := hr_1067
                  rcases iv_if 141 xm_252 xd_252_131 (by decide) iv_1061 hr_1068 with ⟨c_1069, n_1070, e_1071, hr_1072⟩ | ⟨c_1069, n_1070, e_1071, hr_1072⟩
                  · obtain ⟨n_1073, e_1074, hr_1075⟩ := iv_aload_n xm_252 xd_252_141 l_368 hr_1072
                    obtain ⟨n_1085, r_1076, e_1086, hc_1077, hr_1087⟩ := iv_call (Or.inr ⟨rfl, rfl⟩) xm_252 xd_252_142 (by decide +kernel) xm_254 rfl (by decide +kernel) hr_1075
                    obtain ⟨v_1078, d_1079, er_1080, iv_1081, ok_1082⟩ := ds_254 _  ok_1062 hc_1077
                    obtain ⟨_, h_1084⟩ := r_1076
                    have er_1080 : _ = some (wk_i v_1078) := er_1080
                    subst er_1080
                    have hr_1088 : ae_exe n_1085 252 (142 + 3) 0 0 lv_364 _ h_1084 = some r := hr_1087
                    obtain ⟨lv_1090, sl_1089, n_1091, e_1092, hr_1093⟩ := iv_istore_n xm_252 xd_252_145 (by decide +kernel) hr_1088
                    have l_1094 := sl_1089.2 0 _ l_368 (by decide) (Or.inl rfl)
                    have l_1095 := sl_1089.2 1 _ l_369 (by decide) (Or.inl rfl)
                    have l_1096 := sl_1089.1
                    obtain ⟨n_1097, e_1098, hr_1099⟩ := iv_iload_n xm_252 xd_252_146 l_1096 hr_1093
                    rcases iv_if 159 xm_252 xd_252_147 (by decide) iv_1081 hr_1099 with ⟨c_1100, n_1101, e_1102, hr_1103⟩ | ⟨c_1100, n_1101, e_1102, hr_1103⟩
                    · obtain ⟨n_1104, e_1105, hr_1106⟩ := iv_iconst xm_252 xd_252_159 (by decide) hr_1103
                      have rr_1107 := iv_ireturn xm_252 xd_252_160 hr_1106
                      subst rr_1107
                      exact ⟨_, ⟨0 + 1, lm_252_0.mpr (Or.inr ⟨c_8, ⟨_, _, d_25, Or.inr ⟨c_35, ⟨_, _, d_346, Or.inl ⟨c_356, ⟨_, _, d_386, Or.inr ⟨c_396, ⟨_, _, d_814, Or.inl ⟨c_824, ⟨_, _, d_844, Or.inr ⟨c_854, ⟨q_1031, Or.inl ⟨c_1039, ⟨_, _, d_1059, Or.inl ⟨c_1069, ⟨_, _, d_1079, Or.inl ⟨c_1100, ⟨rfl, rfl⟩⟩⟩⟩⟩⟩⟩⟩⟩⟩⟩⟩⟩⟩⟩⟩⟩⟩)⟩, rfl, (by unfold sv_I; omega), ok_1082⟩
                    · obtain ⟨n_1108, e_1109, hr_1110⟩ := iv_aload_n xm_252 xd_252_150 l_1094 hr_1103
                      obtain ⟨n_1111, e_1112, hr_1113⟩ := iv_bipush xm_252 xd_252_151 (by decide) hr_1110
                      obtain ⟨n_1123, r_1114, e_1124, hc_1115, hr_1125⟩ := iv_call (Or.inr ⟨rfl, rfl⟩) xm_252 xd_252_153 (by decide +kernel) xm_200 rfl (by decide +kernel) hr_1113
                      obtain ⟨v_1116, d_1117, er_1118, iv_1119, ok_1120⟩ := ds_200 _ _ ok_1082 (by unfold sv_I; omega) hc_1115
                      obtain ⟨_, h_1122⟩ := r_1114
                      have er_1118 : _ = some (wk_i v_1116) := er_1118
                      subst er_1118
                      have hr_1126 : ae_exe n_1123 252 (153 + 3) 0 0 lv_1090 _ h_1122 = some r := hr_1125
                      rcases iv_if 161 xm_252 xd_252_156 (by decide) iv_1119 hr_1126 with ⟨c_1127, n_1128, e_1129, hr_1130⟩ | ⟨c_1127, n_1128, e_1129, hr_1130⟩
                      · obtain ⟨n_1131, e_1132, hr_1133⟩ := iv_goto 0 xm_252 xd_252_161 (by decide) hr_1130
                        obtain ⟨v, ⟨c, hL⟩, e1, e2, e3⟩ := ih0 _ lv_1090 h_1122 _  (by omega) ok_1120  l_1094 hr_1133
                        exact ⟨v, ⟨c + 1, lm_252_0.mpr (Or.inr ⟨c_8, ⟨_, _, d_25, Or.inr ⟨c_35, ⟨_, _, d_346, Or.inl ⟨c_356, ⟨_, _, d_386, Or.inr ⟨c_396, ⟨_, _, d_814, Or.inl ⟨c_824, ⟨_, _, d_844, Or.inr ⟨c_854, ⟨q_1031, Or.inl ⟨c_1039, ⟨_, _, d_1059, Or.inl ⟨c_1069, ⟨_, _, d_1079, Or.inr ⟨c_1100, ⟨_, _, d_1117, Or.inl ⟨c_1127, hL⟩⟩⟩⟩⟩⟩⟩⟩⟩⟩⟩⟩⟩⟩⟩⟩⟩⟩⟩)⟩, e1, e2, e3⟩
                      · obtain ⟨n_1134, e_1135, hr_1136⟩ := iv_iconst xm_252 xd_252_159 (by decide) hr_1130
                        have rr_1137 := iv_ireturn xm_252 xd_252_160 hr_1136
                        subst rr_1137
                        exact ⟨_, ⟨0 + 1, lm_252_0.mpr (Or.inr ⟨c_8, ⟨_, _, d_25, Or.inr ⟨c_35, ⟨_, _, d_346, Or.inl ⟨c_356, ⟨_, _, d_386, Or.inr ⟨c_396, ⟨_, _, d_814, Or.inl ⟨c_824, ⟨_, _, d_844, Or.inr ⟨c_854, ⟨q_1031, Or.inl ⟨c_1039, ⟨_, _, d_1059, Or.inl ⟨c_1069, ⟨_, _, d_1079, Or.inr ⟨c_1100, ⟨_, _, d_1117, Or.inr ⟨c_1127, ⟨rfl, rfl⟩⟩⟩⟩⟩⟩⟩⟩⟩⟩⟩⟩⟩⟩⟩⟩⟩⟩⟩⟩)⟩, rfl, (by unfold sv_I; omega), ok_1120⟩
                  · obtain ⟨n_1138, e_1139, hr_1140⟩ := iv_aload_n xm_252 xd_252_134 l_368 hr_1072
                    obtain ⟨n_1150, r_1141, e_1151, hc_1142, hr_1152⟩ := iv_call (Or.inr ⟨rfl, rfl⟩) xm_252 xd_252_135 (by decide +kernel) xm_253 rfl (by decide +kernel) hr_1140
                    obtain ⟨v_1143, d_1144, er_1145, iv_1146, ok_1147⟩ := ds_253 _  ok_1062 hc_1142
                    obtain ⟨_, h_1149⟩ := r_1141
                    have er_1145 : _ = some (wk_i v_1143) := er_1145
                    subst er_1145
                    have hr_1153 : ae_exe n_1150 252 (135 + 3) 0 0 lv_364 _ h_1149 = some r := hr_1152
                    obtain ⟨n_1154, e_1155, hr_1156⟩ := iv_goto 145 xm_252 xd_252_138 (by decide) hr_1153
                    obtain ⟨lv_1158, sl_1157, n_1159, e_1160, hr_1161⟩ := iv_istore_n xm_252 xd_252_145 (by decide +kernel) hr_1156
                    have l_1162 := sl_1157.2 0 _ l_368 (by decide) (Or.inl rfl)
                    have l_1163 := sl_1157.2 1 _ l_369 (by decide) (Or.inl rfl)
                    have l_1164 := sl_1157.1
                    obtain ⟨n_1165, e_1166, hr_1167⟩ := iv_iload_n xm_252 xd_252_146 l_1164 hr_1161
                    rcases iv_if 159 xm_252 xd_252_147 (by decide) iv_1146 hr_1167 with ⟨c_1168, n_1169, e_1170, hr_1171⟩ | ⟨c_1168, n_1169, e_1170, hr_1171⟩
                    · obtain ⟨n_1172, e_1173, hr_1174⟩ := iv_iconst xm_252 xd_252_159 (by decide) hr_1171
                      have rr_1175 := iv_ireturn xm_252 xd_252_160 hr_1174
                      subst rr_1175
                      exact ⟨_, ⟨0 + 1, lm_252_0.mpr (Or.inr ⟨c_8, ⟨_, _, d_25, Or.inr ⟨c_35, ⟨_, _, d_346, Or.inl ⟨c_356, ⟨_, _, d_386, Or.inr ⟨c_396, ⟨_, _, d_814, Or.inl ⟨c_824, ⟨_, _, d_844, Or.inr ⟨c_854, ⟨q_1031, Or.inl ⟨c_1039, ⟨_, _, d_1059, Or.inr ⟨c_1069, ⟨_, _, d_1144, Or.inl ⟨c_1168, ⟨rfl, rfl⟩⟩⟩⟩⟩⟩⟩⟩⟩⟩⟩⟩⟩⟩⟩⟩⟩⟩)⟩, rfl, (by unfold sv_I; omega), ok_1147⟩
                    · obtain ⟨n_1176, e_1177, hr_1178⟩ := iv_aload_n xm_252 xd_252_150 l_1162 hr_1171
                      obtain ⟨n_1179, e_1180, hr_1181⟩ := iv_bipush xm_252 xd_252_151 (by decide) hr_1178
                      obtain ⟨n_1191, r_1182, e_1192, hc_1183, hr_1193⟩ := iv_call (Or.inr ⟨rfl, rfl⟩) xm_252 xd_252_153 (by decide +kernel) xm_200 rfl (by decide +kernel) hr_1181
                      obtain ⟨v_1184, d_1185, er_1186, iv_1187, ok_1188⟩ := ds_200 _ _ ok_1147 (by unfold sv_I; omega) hc_1183
                      obtain ⟨_, h_1190⟩ := r_1182
                      have er_1186 : _ = some (wk_i v_1184) := er_1186
                      subst er_1186
                      have hr_1194 : ae_exe n_1191 252 (153 + 3) 0 0 lv_1158 _ h_1190 = some r := hr_1193
                      rcases iv_if 161 xm_252 xd_252_156 (by decide) iv_1187 hr_1194 with ⟨c_1195, n_1196, e_1197, hr_1198⟩ | ⟨c_1195, n_1196, e_1197, hr_1198⟩
                      · obtain ⟨n_1199, e_1200, hr_1201⟩ := iv_goto 0 xm_252 xd_252_161 (by decide) hr_1198
                        obtain ⟨v, ⟨c, hL⟩, e1, e2, e3⟩ := ih0 _ lv_1158 h_1190 _  (by omega) ok_1188  l_1162 hr_1201
                        exact ⟨v, ⟨c + 1, lm_252_0.mpr (Or.inr ⟨c_8, ⟨_, _, d_25, Or.inr ⟨c_35, ⟨_, _, d_346, Or.inl ⟨c_356, ⟨_, _, d_386, Or.inr ⟨c_396, ⟨_, _, d_814, Or.inl ⟨c_824, ⟨_, _, d_844, Or.inr ⟨c_854, ⟨q_1031, Or.inl ⟨c_1039, ⟨_, _, d_1059, Or.inr ⟨c_1069, ⟨_, _, d_1144, Or.inr ⟨c_1168, ⟨_, _, d_1185, Or.inl ⟨c_1195, hL⟩⟩⟩⟩⟩⟩⟩⟩⟩⟩⟩⟩⟩⟩⟩⟩⟩⟩⟩)⟩, e1, e2, e3⟩
                      · obtain ⟨n_1202, e_1203, hr_1204⟩ := iv_iconst xm_252 xd_252_159 (by decide) hr_1198
                        have rr_1205 := iv_ireturn xm_252 xd_252_160 hr_1204
                        subst rr_1205
                        exact ⟨_, ⟨0 + 1, lm_252_0.mpr (Or.inr ⟨c_8, ⟨_, _, d_25, Or.inr ⟨c_35, ⟨_, _, d_346, Or.inl ⟨c_356, ⟨_, _, d_386, Or.inr ⟨c_396, ⟨_, _, d_814, Or.inl ⟨c_824, ⟨_, _, d_844, Or.inr ⟨c_854, ⟨q_1031, Or.inl ⟨c_1039, ⟨_, _, d_1059, Or.inr ⟨c_1069, ⟨_, _, d_1144, Or.inr ⟨c_1168, ⟨_, _, d_1185, Or.inr ⟨c_1195, ⟨rfl, rfl⟩⟩⟩⟩⟩⟩⟩⟩⟩⟩⟩⟩⟩⟩⟩⟩⟩⟩⟩⟩)⟩, rfl, (by unfold sv_I; omega), ok_1188⟩
                · obtain ⟨n_1206, e_1207, hr_1208⟩ := iv_aload_n xm_252 xd_252_103 l_368 hr_1042
                  obtain ⟨n_1209, e_1210, hr_1211⟩ := iv_iconst xm_252 xd_252_104 (by decide) hr_1208
                  obtain ⟨n_1212, e_1213, hr_1214⟩ := iv_aload_n xm_252 xd_252_105 l_368 hr_1211
                  have f_1215 := dc_fi (j := 8) ok_847 (rfl : sv_ty 114 = some 12) dt_12 rfl
                  obtain ⟨n_1216, e_1217, hr_1218⟩ := iv_getf (j := 8) xm_252 xd_252_106 (by decide +kernel) ok_847 (rfl : sv_ty 114 = some 12) dt_12 f_1215.1 hr_1214
                  obtain ⟨n_1228, r_1219, e_1229, hc_1220, hr_1230⟩ := iv_call (Or.inr ⟨rfl, rfl⟩) xm_252 xd_252_109 (by decide +kernel) xm_199 rfl (by decide +kernel) hr_1218
                  obtain ⟨v_1221, d_1222, er_1223, iv_1224, ok_1225⟩ := ds_199 _ _ _ ok_847 (by unfold sv_I; omega) f_1215.2 hc_1220
                  obtain ⟨_, h_1227⟩ := r_1219
                  have er_1223 : _ = some (wk_i v_1221) := er_1223
                  subst er_1223
                  have hr_1231 : ae_exe n_1228 252 (109 + 3) 0 0 lv_364 _ h_1227 = some r := hr_1230
                  have rr_1232 := iv_ireturn xm_252 xd_252_112 hr_1231
                  subst rr_1232
                  exact ⟨_, ⟨0 + 1, lm_252_0.mpr (Or.inr ⟨c_8, ⟨_, _, d_25, Or.inr ⟨c_35, ⟨_, _, d_346, Or.inl ⟨c_356, ⟨_, _, d_386, Or.inr ⟨c_396, ⟨_, _, d_814, Or.inl ⟨c_824, ⟨_, _, d_844, Or.inr ⟨c_854, ⟨q_1031, Or.inr ⟨c_1039, ⟨_, _, d_1222, ⟨rfl, rfl⟩⟩⟩⟩⟩⟩⟩⟩⟩⟩⟩⟩⟩⟩⟩)⟩, rfl, iv_1224, ok_1225⟩
            · obtain ⟨n_1233, e_1234, hr_1235⟩ := iv_aload_n xm_252 xd_252_57 l_368 hr_827
              obtain ⟨n_1236, e_1237, hr_1238⟩ := iv_iconst xm_252 xd_252_58 (by decide) hr_1235
              obtain ⟨n_1239, e_1240, hr_1241⟩ := iv_aload_n xm_252 xd_252_59 l_368 hr_1238
              have f_1242 := dc_fi (j := 8) ok_817 (rfl : sv_ty 114 = some 12) dt_12 rfl
              obtain ⟨n_1243, e_1244, hr_1245⟩ := iv_getf (j := 8) xm_252 xd_252_60 (by decide +kernel) ok_817 (rfl : sv_ty 114 = some 12) dt_12 f_1242.1 hr_1241
              obtain ⟨n_1255, r_1246, e_1256, hc_1247, hr_1257⟩ := iv_call (Or.inr ⟨rfl, rfl⟩) xm_252 xd_252_63 (by decide +kernel) xm_199 rfl (by decide +kernel) hr_1245
              obtain ⟨v_1248, d_1249, er_1250, iv_1251, ok_1252⟩ := ds_199 _ _ _ ok_817 (by unfold sv_I; omega) f_1242.2 hc_1247
              obtain ⟨_, h_1254⟩ := r_1246
              have er_1250 : _ = some (wk_i v_1248) := er_1250
              subst er_1250
              have hr_1258 : ae_exe n_1255 252 (63 + 3) 0 0 lv_364 _ h_1254 = some r := hr_1257
              have rr_1259 := iv_ireturn xm_252 xd_252_66 hr_1258
              subst rr_1259
              exact ⟨_, ⟨0 + 1, lm_252_0.mpr (Or.inr ⟨c_8, ⟨_, _, d_25, Or.inr ⟨c_35, ⟨_, _, d_346, Or.inl ⟨c_356, ⟨_, _, d_386, Or.inr ⟨c_396, ⟨_, _, d_814, Or.inr ⟨c_824, ⟨_, _, d_1249, ⟨rfl, rfl⟩⟩⟩⟩⟩⟩⟩⟩⟩⟩⟩)⟩, rfl, iv_1251, ok_1252⟩
        · obtain ⟨n_1260, e_1261, hr_1262⟩ := iv_iconst xm_252 xd_252_27 (by decide) hr_359
          obtain ⟨n_1263, e_1264, hr_1265⟩ := iv_goto 32 xm_252 xd_252_28 (by decide) hr_1262
          obtain ⟨lv_1267, sl_1266, n_1268, e_1269, hr_1270⟩ := iv_istore_n xm_252 xd_252_32 (by decide +kernel) hr_1265
          have l_1271 := sl_1266.2 0 _ q0 (by decide) (Or.inl rfl)
          have l_1272 := sl_1266.1
          obtain ⟨n_1273, e_1274, hr_1275⟩ := iv_iload_n xm_252 xd_252_33 l_1272 hr_1270
          rcases iv_if 67 xm_252 xd_252_34 (by decide) (by unfold sv_I; omega) hr_1275 with ⟨c_1276, n_1277, e_1278, hr_1279⟩ | ⟨c_1276, n_1277, e_1278, hr_1279⟩
          rotate_left
          · exact absurd (show ¬ ((1 : Int) ≠ 0) from c_1276) (by decide)
          obtain ⟨n_1280, e_1281, hr_1282⟩ := iv_iload_n xm_252 xd_252_67 l_1272 hr_1279
          rcases iv_if 82 xm_252 xd_252_68 (by decide) (by unfold sv_I; omega) hr_1282 with ⟨c_1283, n_1284, e_1285, hr_1286⟩ | ⟨c_1283, n_1284, e_1285, hr_1286⟩
          · exact absurd (show (1 : Int) = 0 from c_1283) (by decide)
          obtain ⟨n_1287, e_1288, hr_1289⟩ := iv_aload_n xm_252 xd_252_71 l_1271 hr_1286
          have f_1290 := dc_fr (j := 66) ok_349 (rfl : sv_ty 114 = some 12) dt_12 rfl
          obtain ⟨n_1291, e_1292, hr_1293⟩ := iv_getf (j := 66) xm_252 xd_252_72 (by decide +kernel) ok_349 (rfl : sv_ty 114 = some 12) dt_12 f_1290 hr_1289
          obtain ⟨n_1294, e_1295, hr_1296⟩ := iv_iconst xm_252 xd_252_75 (by decide) hr_1293
          obtain ⟨q_1297, qi_1298, n_1299, e_1300, hr_1301⟩ := iv_iald xm_252 xd_252_76 ok_349 (rfl : sv_ty 155 = some 92) dt_92 (by decide) (by unfold sv_I; omega) hr_1296
          obtain ⟨n_1302, e_1303, hr_1304⟩ := iv_bipush xm_252 xd_252_77 (by decide) hr_1301
          rcases iv_icmp 103 xm_252 xd_252_79 (by decide) qi_1298 (by unfold sv_I; omega) hr_1304 with ⟨c_1305, n_1306, e_1307, hr_1308⟩ | ⟨c_1305, n_1306, e_1307, hr_1308⟩
          · obtain ⟨n_1309, e_1310, hr_1311⟩ := iv_aload_n xm_252 xd_252_103 l_1271 hr_1308
            obtain ⟨n_1312, e_1313, hr_1314⟩ := iv_iconst xm_252 xd_252_104 (by decide) hr_1311
            obtain ⟨n_1315, e_1316, hr_1317⟩ := iv_aload_n xm_252 xd_252_105 l_1271 hr_1314
            have f_1318 := dc_fi (j := 8) ok_349 (rfl : sv_ty 114 = some 12) dt_12 rfl
            obtain ⟨n_1319, e_1320, hr_1321⟩ := iv_getf (j := 8) xm_252 xd_252_106 (by decide +kernel) ok_349 (rfl : sv_ty 114 = some 12) dt_12 f_1318.1 hr_1317
            obtain ⟨n_1331, r_1322, e_1332, hc_1323, hr_1333⟩ := iv_call (Or.inr ⟨rfl, rfl⟩) xm_252 xd_252_109 (by decide +kernel) xm_199 rfl (by decide +kernel) hr_1321
            obtain ⟨v_1324, d_1325, er_1326, iv_1327, ok_1328⟩ := ds_199 _ _ _ ok_349 (by unfold sv_I; omega) f_1318.2 hc_1323
            obtain ⟨_, h_1330⟩ := r_1322
            have er_1326 : _ = some (wk_i v_1324) := er_1326
            subst er_1326
            have hr_1334 : ae_exe n_1331 252 (109 + 3) 0 0 lv_1267 _ h_1330 = some r := hr_1333
            have rr_1335 := iv_ireturn xm_252 xd_252_112 hr_1334
            subst rr_1335
            exact ⟨_, ⟨0 + 1, lm_252_0.mpr (Or.inr ⟨c_8, ⟨_, _, d_25, Or.inr ⟨c_35, ⟨_, _, d_346, Or.inr ⟨c_356, ⟨q_1297, Or.inl ⟨c_1305, ⟨_, _, d_1325, ⟨rfl, rfl⟩⟩⟩⟩⟩⟩⟩⟩⟩)⟩, rfl, iv_1327, ok_1328⟩
          · obtain ⟨n_1336, e_1337, hr_1338⟩ := iv_aload_n xm_252 xd_252_82 l_1271 hr_1308
            obtain ⟨n_1339, e_1340, hr_1341⟩ := iv_ldc2 (v := 439854918756) (z := 0) xm_252 xd_252_83 (by decide +kernel) hr_1338
            obtain ⟨n_1351, r_1342, e_1352, hc_1343, hr_1353⟩ := iv_call (Or.inr ⟨rfl, rfl⟩) xm_252 xd_252_86 (by decide +kernel) xm_249 rfl (by decide +kernel) hr_1341
            obtain ⟨v_1344, d_1345, er_1346, iv_1347, ok_1348⟩ := ds_249 _ _ ok_349 (by decide) hc_1343
            obtain ⟨_, h_1350⟩ := r_1342
            have er_1346 : _ = some (wk_i v_1344) := er_1346
            subst er_1346
            have hr_1354 : ae_exe n_1351 252 (86 + 3) 0 0 lv_1267 _ h_1350 = some r := hr_1353
            rcases iv_if 113 xm_252 xd_252_89 (by decide) iv_1347 hr_1354 with ⟨c_1355, n_1356, e_1357, hr_1358⟩ | ⟨c_1355, n_1356, e_1357, hr_1358⟩
            · obtain ⟨n_1359, e_1360, hr_1361⟩ := iv_iload_n xm_252 xd_252_113 l_1272 hr_1358
              rcases iv_if 124 xm_252 xd_252_114 (by decide) (by unfold sv_I; omega) hr_1361 with ⟨c_1362, n_1363, e_1364, hr_1365⟩ | ⟨c_1362, n_1363, e_1364, hr_1365⟩
              · exact absurd (show (1 : Int) = 0 from c_1362) (by decide)
              obtain ⟨n_1366, e_1367, hr_1368⟩ := iv_aload_n xm_252 xd_252_117 l_1271 hr_1365
              obtain ⟨n_1378, r_1369, e_1379, hc_1370, hr_1380⟩ := iv_call (Or.inr ⟨rfl, rfl⟩) xm_252 xd_252_118 (by decide +kernel) xm_255 rfl (by decide +kernel) hr_1368
              obtain ⟨v_1371, d_1372, er_1373, iv_1374, ok_1375⟩ := ds_255 _  ok_1348 hc_1370
              obtain ⟨_, h_1377⟩ := r_1369
              have er_1373 : _ = some (wk_i v_1371) := er_1373
              subst er_1373
              have hr_1381 : ae_exe n_1378 252 (118 + 3) 0 0 lv_1267 _ h_1377 = some r := hr_1380
              obtain ⟨n_1382, e_1383, hr_1384⟩ := iv_goto 145 xm_252 xd_252_121 (by decide) hr_1381
              obtain ⟨lv_1386, sl_1385, n_1387, e_1388, hr_1389⟩ := iv_istore_n xm_252 xd_252_145 (by decide +kernel) hr_1384
              have l_1390 := sl_1385.2 0 _ l_1271 (by decide) (Or.inl rfl)
              have l_1391 := sl_1385.2 1 _ l_1272 (by decide) (Or.inl rfl)
              have l_1392 := sl_1385.1
              obtain ⟨n_1393, e_1394, hr_1395⟩ := iv_iload_n xm_252 xd_252_146 l_1392 hr_1389
              rcases iv_if 159 xm_252 xd_252_147 (by decide) iv_1374 hr_1395 with ⟨c_1396, n_1397, e_1398, hr_1399⟩ | ⟨c_1396, n_1397, e_1398, hr_1399⟩
              · obtain ⟨n_1400, e_1401, hr_1402⟩ := iv_iconst xm_252 xd_252_159 (by decide) hr_1399
                have rr_1403 := iv_ireturn xm_252 xd_252_160 hr_1402
                subst rr_1403
                exact ⟨_, ⟨0 + 1, lm_252_0.mpr (Or.inr ⟨c_8, ⟨_, _, d_25, Or.inr ⟨c_35, ⟨_, _, d_346, Or.inr ⟨c_356, ⟨q_1297, Or.inr ⟨c_1305, ⟨_, _, d_1345, Or.inl ⟨c_1355, ⟨_, _, d_1372, Or.inl ⟨c_1396, ⟨rfl, rfl⟩⟩⟩⟩⟩⟩⟩⟩⟩⟩⟩⟩)⟩, rfl, (by unfold sv_I; omega), ok_1375⟩
              · obtain ⟨n_1404, e_1405, hr_1406⟩ := iv_aload_n xm_252 xd_252_150 l_1390 hr_1399
                obtain ⟨n_1407, e_1408, hr_1409⟩ := iv_bipush xm_252 xd_252_151 (by decide) hr_1406
                obtain ⟨n_1419, r_1410, e_1420, hc_1411, hr_1421⟩ := iv_call (Or.inr ⟨rfl, rfl⟩) xm_252 xd_252_153 (by decide +kernel) xm_200 rfl (by decide +kernel) hr_1409
                obtain ⟨v_1412, d_1413, er_1414, iv_1415, ok_1416⟩ := ds_200 _ _ ok_1375 (by unfold sv_I; omega) hc_1411
                obtain ⟨_, h_1418⟩ := r_1410
                have er_1414 : _ = some (wk_i v_1412) := er_1414
                subst er_1414
                have hr_1422 : ae_exe n_1419 252 (153 + 3) 0 0 lv_1386 _ h_1418 = some r := hr_1421
                rcases iv_if 161 xm_252 xd_252_156 (by decide) iv_1415 hr_1422 with ⟨c_1423, n_1424, e_1425, hr_1426⟩ | ⟨c_1423, n_1424, e_1425, hr_1426⟩
                · obtain ⟨n_1427, e_1428, hr_1429⟩ := iv_goto 0 xm_252 xd_252_161 (by decide) hr_1426
                  obtain ⟨v, ⟨c, hL⟩, e1, e2, e3⟩ := ih0 _ lv_1386 h_1418 _  (by omega) ok_1416  l_1390 hr_1429
                  exact ⟨v, ⟨c + 1, lm_252_0.mpr (Or.inr ⟨c_8, ⟨_, _, d_25, Or.inr ⟨c_35, ⟨_, _, d_346, Or.inr ⟨c_356, ⟨q_1297, Or.inr ⟨c_1305, ⟨_, _, d_1345, Or.inl ⟨c_1355, ⟨_, _, d_1372, Or.inr ⟨c_1396, ⟨_, _, d_1413, Or.inl ⟨c_1423, hL⟩⟩⟩⟩⟩⟩⟩⟩⟩⟩⟩⟩⟩)⟩, e1, e2, e3⟩
                · obtain ⟨n_1430, e_1431, hr_1432⟩ := iv_iconst xm_252 xd_252_159 (by decide) hr_1426
                  have rr_1433 := iv_ireturn xm_252 xd_252_160 hr_1432
                  subst rr_1433
                  exact ⟨_, ⟨0 + 1, lm_252_0.mpr (Or.inr ⟨c_8, ⟨_, _, d_25, Or.inr ⟨c_35, ⟨_, _, d_346, Or.inr ⟨c_356, ⟨q_1297, Or.inr ⟨c_1305, ⟨_, _, d_1345, Or.inl ⟨c_1355, ⟨_, _, d_1372, Or.inr ⟨c_1396, ⟨_, _, d_1413, Or.inr ⟨c_1423, ⟨rfl, rfl⟩⟩⟩⟩⟩⟩⟩⟩⟩⟩⟩⟩⟩⟩)⟩, rfl, (by unfold sv_I; omega), ok_1416⟩
            · obtain ⟨n_1434, e_1435, hr_1436⟩ := iv_aload_n xm_252 xd_252_92 l_1271 hr_1358
              have f_1437 := dc_fr (j := 62) ok_1348 (rfl : sv_ty 114 = some 12) dt_12 rfl
              obtain ⟨n_1438, e_1439, hr_1440⟩ := iv_getf (j := 62) xm_252 xd_252_93 (by decide +kernel) ok_1348 (rfl : sv_ty 114 = some 12) dt_12 f_1437 hr_1436
              obtain ⟨n_1441, e_1442, hr_1443⟩ := iv_iconst xm_252 xd_252_96 (by decide) hr_1440
              obtain ⟨q_1444, qi_1445, n_1446, e_1447, hr_1448⟩ := iv_iald xm_252 xd_252_97 ok_1348 (rfl : sv_ty 151 = some 88) dt_88 (by decide) (by unfold sv_I; omega) hr_1443
              obtain ⟨n_1449, e_1450, hr_1451⟩ := iv_bipush xm_252 xd_252_98 (by decide) hr_1448
              rcases iv_icmp 113 xm_252 xd_252_100 (by decide) qi_1445 (by unfold sv_I; omega) hr_1451 with ⟨c_1452, n_1453, e_1454, hr_1455⟩ | ⟨c_1452, n_1453, e_1454, hr_1455⟩
              · obtain ⟨n_1456, e_1457, hr_1458⟩ := iv_iload_n xm_252 xd_252_113 l_1272 hr_1455
                rcases iv_if 124 xm_252 xd_252_114 (by decide) (by unfold sv_I; omega) hr_1458 with ⟨c_1459, n_1460, e_1461, hr_1462⟩ | ⟨c_1459, n_1460, e_1461, hr_1462⟩
                · exact absurd (show (1 : Int) = 0 from c_1459) (by decide)
                obtain ⟨n_1463, e_1464, hr_1465⟩ := iv_aload_n xm_252 xd_252_117 l_1271 hr_1462
                obtain ⟨n_1475, r_1466, e_1476, hc_1467, hr_1477⟩ := iv_call (Or.inr ⟨rfl, rfl⟩) xm_252 xd_252_118 (by decide +kernel) xm_255 rfl (by decide +kernel) hr_1465
                obtain ⟨v_1468, d_1469, er_1470, iv_1471, ok_1472⟩ := ds_255 _  ok_1348 hc_1467
                obtain ⟨_, h_1474⟩ := r_1466
                have er_1470 : _ = some (wk_i v_1468) := er_1470
                subst er_1470
                have hr_1478 : ae_exe n_1475 252 (118 + 3) 0 0 lv_1267 _ h_1474 = some r := hr_1477
                obtain ⟨n_1479, e_1480, hr_1481⟩ := iv_goto 145 xm_252 xd_252_121 (by decide) hr_1478
                obtain ⟨lv_1483, sl_1482, n_1484, e_1485, hr_1486⟩ := iv_istore_n xm_252 xd_252_145 (by decide +kernel) hr_1481
                have l_1487 := sl_1482.2 0 _ l_1271 (by decide) (Or.inl rfl)
                have l_1488 := sl_1482.2 1 _ l_1272 (by decide) (Or.inl rfl)
                have l_1489 := sl_1482.1
                obtain ⟨n_1490, e_1491, hr_1492⟩ := iv_iload_n xm_252 xd_252_146 l_1489 hr_1486
                rcases iv_if 159 xm_252 xd_252_147 (by decide) iv_1471 hr_1492 with ⟨c_1493, n_1494, e_1495, hr_1496⟩ | ⟨c_1493, n_1494, e_1495, hr_1496⟩
                · obtain ⟨n_1497, e_1498, hr_1499⟩ := iv_iconst xm_252 xd_252_159 (by decide) hr_1496
                  have rr_1500 := iv_ireturn xm_252 xd_252_160 hr_1499
                  subst rr_1500
                  exact ⟨_, ⟨0 + 1, lm_252_0.mpr (Or.inr ⟨c_8, ⟨_, _, d_25, Or.inr ⟨c_35, ⟨_, _, d_346, Or.inr ⟨c_356, ⟨q_1297, Or.inr ⟨c_1305, ⟨_, _, d_1345, Or.inr ⟨c_1355, ⟨q_1444, Or.inl ⟨c_1452, ⟨_, _, d_1469, Or.inl ⟨c_1493, ⟨rfl, rfl⟩⟩⟩⟩⟩⟩⟩⟩⟩⟩⟩⟩⟩⟩)⟩, rfl, (by unfold sv_I; omega), ok_1472⟩
                · obtain ⟨n_1501, e_1502, hr_1503⟩ := iv_aload_n xm_252 xd_252_150 l_1487 hr_1496
                  obtain ⟨n_1504, e_1505, hr_1506⟩ := iv_bipush xm_252 xd_252_151 (by decide) hr_1503
                  obtain ⟨n_1516, r_1507, e_1517, hc_1508, hr_1518⟩ := iv_call (Or.inr ⟨rfl, rfl⟩) xm_252 xd_252_153 (by decide +kernel) xm_200 rfl (by decide +kernel) hr_1506
                  obtain ⟨v_1509, d_1510, er_1511, iv_1512, ok_1513⟩ := ds_200 _ _ ok_1472 (by unfold sv_I; omega) hc_1508
                  obtain ⟨_, h_1515⟩ := r_1507
                  have er_1511 : _ = some (wk_i v_1509) := er_1511
                  subst er_1511
                  have hr_1519 : ae_exe n_1516 252 (153 + 3) 0 0 lv_1483 _ h_1515 = some r := hr_1518
                  rcases iv_if 161 xm_252 xd_252_156 (by decide) iv_1512 hr_1519 with ⟨c_1520, n_1521, e_1522, hr_1523⟩ | ⟨c_1520, n_1521, e_1522, hr_1523⟩
                  · obtain ⟨n_1524, e_1525, hr_1526⟩ := iv_goto 0 xm_252 xd_252_161 (by decide) hr_1523
                    obtain ⟨v, ⟨c, hL⟩, e1, e2, e3⟩ := ih0 _ lv_1483 h_1515 _  (by omega) ok_1513  l_1487 hr_1526
                    exact ⟨v, ⟨c + 1, lm_252_0.mpr (Or.inr ⟨c_8, ⟨_, _, d_25, Or.inr ⟨c_35, ⟨_, _, d_346, Or.inr ⟨c_356, ⟨q_1297, Or.inr ⟨c_1305, ⟨_, _, d_1345, Or.inr ⟨c_1355, ⟨q_1444, Or.inl ⟨c_1452, ⟨_, _, d_1469, Or.inr ⟨c_1493, ⟨_, _, d_1510, Or.inl ⟨c_1520, hL⟩⟩⟩⟩⟩⟩⟩⟩⟩⟩⟩⟩⟩⟩⟩)⟩, e1, e2, e3⟩
                  · obtain ⟨n_1527, e_1528, hr_1529⟩ := iv_iconst xm_252 xd_252_159 (by decide) hr_1523
                    have rr_1530 := iv_ireturn xm_252 xd_252_160 hr_1529
                    subst rr_1530
                    exact ⟨_, ⟨0 + 1, lm_252_0.mpr (Or.inr ⟨c_8, ⟨_, _, d_25, Or.inr ⟨c_35, ⟨_, _, d_346, Or.inr ⟨c_356, ⟨q_1297, Or.inr ⟨c_1305, ⟨_, _, d_1345, Or.inr ⟨c_1355, ⟨q_1444, Or.inl ⟨c_1452, ⟨_, _, d_1469, Or.inr ⟨c_1493, ⟨_, _, d_1510, Or.inr ⟨c_1520, ⟨rfl, rfl⟩⟩⟩⟩⟩⟩⟩⟩⟩⟩⟩⟩⟩⟩⟩⟩)⟩, rfl, (by unfold sv_I; omega), ok_1513⟩
              · obtain ⟨n_1531, e_1532, hr_1533⟩ := iv_aload_n xm_252 xd_252_103 l_1271 hr_1455
                obtain ⟨n_1534, e_1535, hr_1536⟩ := iv_iconst xm_252 xd_252_104 (by decide) hr_1533
                obtain ⟨n_1537, e_1538, hr_1539⟩ := iv_aload_n xm_252 xd_252_105 l_1271 hr_1536
                have f_1540 := dc_fi (j := 8) ok_1348 (rfl : sv_ty 114 = some 12) dt_12 rfl
                obtain ⟨n_1541, e_1542, hr_1543⟩ := iv_getf (j := 8) xm_252 xd_252_106 (by decide +kernel) ok_1348 (rfl : sv_ty 114 = some 12) dt_12 f_1540.1 hr_1539
                obtain ⟨n_1553, r_1544, e_1554, hc_1545, hr_1555⟩ := iv_call (Or.inr ⟨rfl, rfl⟩) xm_252 xd_252_109 (by decide +kernel) xm_199 rfl (by decide +kernel) hr_1543
                obtain ⟨v_1546, d_1547, er_1548, iv_1549, ok_1550⟩ := ds_199 _ _ _ ok_1348 (by unfold sv_I; omega) f_1540.2 hc_1545
                obtain ⟨_, h_1552⟩ := r_1544
                have er_1548 : _ = some (wk_i v_1546) := er_1548
                subst er_1548
                have hr_1556 : ae_exe n_1553 252 (109 + 3) 0 0 lv_1267 _ h_1552 = some r := hr_1555
                have rr_1557 := iv_ireturn xm_252 xd_252_112 hr_1556
                subst rr_1557
                exact ⟨_, ⟨0 + 1, lm_252_0.mpr (Or.inr ⟨c_8, ⟨_, _, d_25, Or.inr ⟨c_35, ⟨_, _, d_346, Or.inr ⟨c_356, ⟨q_1297, Or.inr ⟨c_1305, ⟨_, _, d_1345, Or.inr ⟨c_1355, ⟨q_1444, Or.inr ⟨c_1452, ⟨_, _, d_1547, ⟨rfl, rfl⟩⟩⟩⟩⟩⟩⟩⟩⟩⟩⟩⟩⟩)⟩, rfl, iv_1549, ok_1550⟩
abbrev D_252  (m : dc_M) (v : Int) (m' : dc_M) : Prop := ∃ c, LM_252  c 0 m v m'
theorem ds_252 (n : Nat)  {h : ae_H} {r : ae_R} (ok : dc_ok h)  (hr : ae_exe n 252 0 0 0 (ae_args [wk_r 114] 0) [] h = some r) : ∃ v, D_252  (dc_m h) v (dc_m r.2) ∧ r.1 = some (wk_i v) ∧ sv_I v ∧ dc_ok r.2 := by
  have q0 : ae_lk (ae_args [wk_r 114] 0) 0 = some (wk_r 114) := rfl
  obtain ⟨v, ⟨c, hL⟩, e1, e2, e3⟩ := (dl_252  _) _ (ae_args [wk_r 114] 0) h _  (Nat.le_refl _) ok  q0 hr
  exact ⟨v, ⟨_, hL⟩, e1, e2, e3⟩
/-! method 256 -/
theorem xm_256 : ae_m 256 = some (wk_M 256) := rfl
theorem xd_256_0 : decode (wk_M 256).2.2.1 0 = .ok (.aload_n 0, 1) := zd_by (by decide +kernel)
theorem xd_256_1 : decode (wk_M 256).2.2.1 1 = .ok (.iconst 0, 1) := zd_by (by decide +kernel)
theorem xd_256_2 : decode (wk_M 256).2.2.1 2 = .ok (.putfield 190, 3) := zd_by (by decide +kernel)
theorem xd_256_5 : decode (wk_M 256).2.2.1 5 = .ok (.aload_n 0, 1) := zd_by (by decide +kernel)
theorem xd_256_6 : decode (wk_M 256).2.2.1 6 = .ok (.invokevirtual 211, 3) := zd_by (by decide +kernel)
theorem xd_256_9 : decode (wk_M 256).2.2.1 9 = .ok (.aload_n 0, 1) := zd_by (by decide +kernel)
theorem xd_256_10 : decode (wk_M 256).2.2.1 10 = .ok (.iconst 0, 1) := zd_by (by decide +kernel)
theorem xd_256_11 : decode (wk_M 256).2.2.1 11 = .ok (.putfield 252, 3) := zd_by (by decide +kernel)
theorem xd_256_14 : decode (wk_M 256).2.2.1 14 = .ok (.aload_n 0, 1) := zd_by (by decide +kernel)
theorem xd_256_15 : decode (wk_M 256).2.2.1 15 = .ok (.sipush 300, 3) := zd_by (by decide +kernel)
theorem xd_256_18 : decode (wk_M 256).2.2.1 18 = .ok (.putfield 233, 3) := zd_by (by decide +kernel)
theorem xd_256_21 : decode (wk_M 256).2.2.1 21 = .ok (.aload_n 0, 1) := zd_by (by decide +kernel)
theorem xd_256_22 : decode (wk_M 256).2.2.1 22 = .ok (.getfield 121, 3) := zd_by (by decide +kernel)
theorem xd_256_25 : decode (wk_M 256).2.2.1 25 = .ok (.iconst 1, 1) := zd_by (by decide +kernel)
theorem xd_256_26 : decode (wk_M 256).2.2.1 26 = .ok (.iconst 0, 1) := zd_by (by decide +kernel)
theorem xd_256_27 : decode (wk_M 256).2.2.1 27 = .ok (.iastore, 1) := zd_by (by decide +kernel)
theorem xd_256_28 : decode (wk_M 256).2.2.1 28 = .ok (.aload_n 0, 1) := zd_by (by decide +kernel)
theorem xd_256_29 : decode (wk_M 256).2.2.1 29 = .ok (.getfield 133, 3) := zd_by (by decide +kernel)
theorem xd_256_32 : decode (wk_M 256).2.2.1 32 = .ok (.iconst 1, 1) := zd_by (by decide +kernel)
theorem xd_256_33 : decode (wk_M 256).2.2.1 33 = .ok (.iconst 0, 1) := zd_by (by decide +kernel)
theorem xd_256_34 : decode (wk_M 256).2.2.1 34 = .ok (.iastore, 1) := zd_by (by decide +kernel)
theorem xd_256_35 : decode (wk_M 256).2.2.1 35 = .ok (.iconst 0, 1) := zd_by (by decide +kernel)
theorem xd_256_36 : decode (wk_M 256).2.2.1 36 = .ok (.istore_n 1, 1) := zd_by (by decide +kernel)
theorem xd_256_37 : decode (wk_M 256).2.2.1 37 = .ok (.iload_n 1, 1) := zd_by (by decide +kernel)
theorem xd_256_38 : decode (wk_M 256).2.2.1 38 = .ok (.iconst 3, 1) := zd_by (by decide +kernel)
theorem xd_256_39 : decode (wk_M 256).2.2.1 39 = .ok (.if_icmp .ge 18, 3) := zd_by (by decide +kernel)
theorem xd_256_42 : decode (wk_M 256).2.2.1 42 = .ok (.aload_n 0, 1) := zd_by (by decide +kernel)
theorem xd_256_43 : decode (wk_M 256).2.2.1 43 = .ok (.getfield 130, 3) := zd_by (by decide +kernel)
theorem xd_256_46 : decode (wk_M 256).2.2.1 46 = .ok (.iconst 3, 1) := zd_by (by decide +kernel)
theorem xd_256_47 : decode (wk_M 256).2.2.1 47 = .ok (.iload_n 1, 1) := zd_by (by decide +kernel)
theorem xd_256_48 : decode (wk_M 256).2.2.1 48 = .ok (.iadd, 1) := zd_by (by decide +kernel)
theorem xd_256_49 : decode (wk_M 256).2.2.1 49 = .ok (.iconst 0, 1) := zd_by (by decide +kernel)
theorem xd_256_50 : decode (wk_M 256).2.2.1 50 = .ok (.iastore, 1) := zd_by (by decide +kernel)
theorem xd_256_51 : decode (wk_M 256).2.2.1 51 = .ok (.iinc 1 1, 3) := zd_by (by decide +kernel)
theorem xd_256_54 : decode (wk_M 256).2.2.1 54 = .ok (.goto (-17), 3) := zd_by (by decide +kernel)
theorem xd_256_57 : decode (wk_M 256).2.2.1 57 = .ok (.aload_n 0, 1) := zd_by (by decide +kernel)
theorem xd_256_58 : decode (wk_M 256).2.2.1 58 = .ok (.invokevirtual 262, 3) := zd_by (by decide +kernel)
theorem xd_256_61 : decode (wk_M 256).2.2.1 61 = .ok (.aload_n 0, 1) := zd_by (by decide +kernel)
theorem xd_256_62 : decode (wk_M 256).2.2.1 62 = .ok (.invokevirtual 488, 3) := zd_by (by decide +kernel)
theorem xd_256_65 : decode (wk_M 256).2.2.1 65 = .ok (.ifCond .ne 10, 3) := zd_by (by decide +kernel)
theorem xd_256_68 : decode (wk_M 256).2.2.1 68 = .ok (.iconst (-1), 1) := zd_by (by decide +kernel)
theorem xd_256_69 : decode (wk_M 256).2.2.1 69 = .ok (.aload_n 0, 1) := zd_by (by decide +kernel)
theorem xd_256_70 : decode (wk_M 256).2.2.1 70 = .ok (.getfield 255, 3) := zd_by (by decide +kernel)
theorem xd_256_73 : decode (wk_M 256).2.2.1 73 = .ok (.isub, 1) := zd_by (by decide +kernel)
theorem xd_256_74 : decode (wk_M 256).2.2.1 74 = .ok (.ireturn, 1) := zd_by (by decide +kernel)
theorem xd_256_75 : decode (wk_M 256).2.2.1 75 = .ok (.aload_n 0, 1) := zd_by (by decide +kernel)
theorem xd_256_76 : decode (wk_M 256).2.2.1 76 = .ok (.getfield 121, 3) := zd_by (by decide +kernel)
theorem xd_256_79 : decode (wk_M 256).2.2.1 79 = .ok (.iconst 0, 1) := zd_by (by decide +kernel)
theorem xd_256_80 : decode (wk_M 256).2.2.1 80 = .ok (.aload_n 0, 1) := zd_by (by decide +kernel)
theorem xd_256_81 : decode (wk_M 256).2.2.1 81 = .ok (.getfield 121, 3) := zd_by (by decide +kernel)
theorem xd_256_84 : decode (wk_M 256).2.2.1 84 = .ok (.iconst 1, 1) := zd_by (by decide +kernel)
theorem xd_256_85 : decode (wk_M 256).2.2.1 85 = .ok (.iaload, 1) := zd_by (by decide +kernel)
theorem xd_256_86 : decode (wk_M 256).2.2.1 86 = .ok (.iastore, 1) := zd_by (by decide +kernel)
theorem xd_256_87 : decode (wk_M 256).2.2.1 87 = .ok (.aload_n 0, 1) := zd_by (by decide +kernel)
theorem xd_256_88 : decode (wk_M 256).2.2.1 88 = .ok (.getfield 133, 3) := zd_by (by decide +kernel)
theorem xd_256_91 : decode (wk_M 256).2.2.1 91 = .ok (.iconst 0, 1) := zd_by (by decide +kernel)
theorem xd_256_92 : decode (wk_M 256).2.2.1 92 = .ok (.aload_n 0, 1) := zd_by (by decide +kernel)
theorem xd_256_93 : decode (wk_M 256).2.2.1 93 = .ok (.getfield 133, 3) := zd_by (by decide +kernel)
theorem xd_256_96 : decode (wk_M 256).2.2.1 96 = .ok (.iconst 1, 1) := zd_by (by decide +kernel)
theorem xd_256_97 : decode (wk_M 256).2.2.1 97 = .ok (.iaload, 1) := zd_by (by decide +kernel)
theorem xd_256_98 : decode (wk_M 256).2.2.1 98 = .ok (.iastore, 1) := zd_by (by decide +kernel)
theorem xd_256_99 : decode (wk_M 256).2.2.1 99 = .ok (.iconst 0, 1) := zd_by (by decide +kernel)
theorem xd_256_100 : decode (wk_M 256).2.2.1 100 = .ok (.istore_n 1, 1) := zd_by (by decide +kernel)
theorem xd_256_101 : decode (wk_M 256).2.2.1 101 = .ok (.iload_n 1, 1) := zd_by (by decide +kernel)
theorem xd_256_102 : decode (wk_M 256).2.2.1 102 = .ok (.iconst 3, 1) := zd_by (by decide +kernel)
theorem xd_256_103 : decode (wk_M 256).2.2.1 103 = .ok (.if_icmp .ge 23, 3) := zd_by (by decide +kernel)
theorem xd_256_106 : decode (wk_M 256).2.2.1 106 = .ok (.aload_n 0, 1) := zd_by (by decide +kernel)
theorem xd_256_107 : decode (wk_M 256).2.2.1 107 = .ok (.getfield 130, 3) := zd_by (by decide +kernel)
theorem xd_256_110 : decode (wk_M 256).2.2.1 110 = .ok (.iload_n 1, 1) := zd_by (by decide +kernel)
theorem xd_256_111 : decode (wk_M 256).2.2.1 111 = .ok (.aload_n 0, 1) := zd_by (by decide +kernel)
theorem xd_256_112 : decode (wk_M 256).2.2.1 112 = .ok (.getfield 130, 3) := zd_by (by decide +kernel)
theorem xd_256_115 : decode (wk_M 256).2.2.1 115 = .ok (.iconst 3, 1) := zd_by (by decide +kernel)
theorem xd_256_116 : decode (wk_M 256).2.2.1 116 = .ok (.iload_n 1, 1) := zd_by (by decide +kernel)
theorem xd_256_117 : decode (wk_M 256).2.2.1 117 = .ok (.iadd, 1) := zd_by (by decide +kernel)
theorem xd_256_118 : decode (wk_M 256).2.2.1 118 = .ok (.iaload, 1) := zd_by (by decide +kernel)
theorem xd_256_119 : decode (wk_M 256).2.2.1 119 = .ok (.iastore, 1) := zd_by (by decide +kernel)
theorem xd_256_120 : decode (wk_M 256).2.2.1 120 = .ok (.iinc 1 1, 3) := zd_by (by decide +kernel)
theorem xd_256_123 : decode (wk_M 256).2.2.1 123 = .ok (.goto (-22), 3) := zd_by (by decide +kernel)
theorem xd_256_126 : decode (wk_M 256).2.2.1 126 = .ok (.iconst 0, 1) := zd_by (by decide +kernel)
theorem xd_256_127 : decode (wk_M 256).2.2.1 127 = .ok (.istore_n 1, 1) := zd_by (by decide +kernel)
theorem xd_256_128 : decode (wk_M 256).2.2.1 128 = .ok (.iload_n 1, 1) := zd_by (by decide +kernel)
theorem xd_256_129 : decode (wk_M 256).2.2.1 129 = .ok (.bipush 6, 2) := zd_by (by decide +kernel)
theorem xd_256_131 : decode (wk_M 256).2.2.1 131 = .ok (.if_icmp .ge 39, 3) := zd_by (by decide +kernel)
theorem xd_256_134 : decode (wk_M 256).2.2.1 134 = .ok (.aload_n 0, 1) := zd_by (by decide +kernel)
theorem xd_256_135 : decode (wk_M 256).2.2.1 135 = .ok (.getfield 124, 3) := zd_by (by decide +kernel)
theorem xd_256_138 : decode (wk_M 256).2.2.1 138 = .ok (.iload_n 1, 1) := zd_by (by decide +kernel)
theorem xd_256_139 : decode (wk_M 256).2.2.1 139 = .ok (.aload_n 0, 1) := zd_by (by decide +kernel)
theorem xd_256_140 : decode (wk_M 256).2.2.1 140 = .ok (.getfield 124, 3) := zd_by (by decide +kernel)
theorem xd_256_143 : decode (wk_M 256).2.2.1 143 = .ok (.bipush 6, 2) := zd_by (by decide +kernel)
theorem xd_256_145 : decode (wk_M 256).2.2.1 145 = .ok (.iload_n 1, 1) := zd_by (by decide +kernel)
theorem xd_256_146 : decode (wk_M 256).2.2.1 146 = .ok (.iadd, 1) := zd_by (by decide +kernel)
theorem xd_256_147 : decode (wk_M 256).2.2.1 147 = .ok (.iaload, 1) := zd_by (by decide +kernel)
theorem xd_256_148 : decode (wk_M 256).2.2.1 148 = .ok (.iastore, 1) := zd_by (by decide +kernel)
theorem xd_256_149 : decode (wk_M 256).2.2.1 149 = .ok (.aload_n 0, 1) := zd_by (by decide +kernel)
theorem xd_256_150 : decode (wk_M 256).2.2.1 150 = .ok (.getfield 127, 3) := zd_by (by decide +kernel)
theorem xd_256_153 : decode (wk_M 256).2.2.1 153 = .ok (.iload_n 1, 1) := zd_by (by decide +kernel)
theorem xd_256_154 : decode (wk_M 256).2.2.1 154 = .ok (.aload_n 0, 1) := zd_by (by decide +kernel)
theorem xd_256_155 : decode (wk_M 256).2.2.1 155 = .ok (.getfield 127, 3) := zd_by (by decide +kernel)
theorem xd_256_158 : decode (wk_M 256).2.2.1 158 = .ok (.bipush 6, 2) := zd_by (by decide +kernel)
theorem xd_256_160 : decode (wk_M 256).2.2.1 160 = .ok (.iload_n 1, 1) := zd_by (by decide +kernel)
theorem xd_256_161 : decode (wk_M 256).2.2.1 161 = .ok (.iadd, 1) := zd_by (by decide +kernel)
theorem xd_256_162 : decode (wk_M 256).2.2.1 162 = .ok (.iaload, 1) := zd_by (by decide +kernel)
theorem xd_256_163 : decode (wk_M 256).2.2.1 163 = .ok (.iastore, 1) := zd_by (by decide +kernel)
theorem xd_256_164 : decode (wk_M 256).2.2.1 164 = .ok (.iinc 1 1, 3) := zd_by (by decide +kernel)
theorem xd_256_167 : decode (wk_M 256).2.2.1 167 = .ok (.goto (-39), 3) := zd_by (by decide +kernel)
theorem xd_256_170 : decode (wk_M 256).2.2.1 170 = .ok (.iconst 0, 1) := zd_by (by decide +kernel)
theorem xd_256_171 : decode (wk_M 256).2.2.1 171 = .ok (.istore_n 1, 1) := zd_by (by decide +kernel)
theorem xd_256_172 : decode (wk_M 256).2.2.1 172 = .ok (.iload_n 1, 1) := zd_by (by decide +kernel)
theorem xd_256_173 : decode (wk_M 256).2.2.1 173 = .ok (.bipush 8, 2) := zd_by (by decide +kernel)
theorem xd_256_175 : decode (wk_M 256).2.2.1 175 = .ok (.if_icmp .ge 69, 3) := zd_by (by decide +kernel)
theorem xd_256_178 : decode (wk_M 256).2.2.1 178 = .ok (.aload_n 0, 1) := zd_by (by decide +kernel)
theorem xd_256_179 : decode (wk_M 256).2.2.1 179 = .ok (.getfield 136, 3) := zd_by (by decide +kernel)
theorem xd_256_182 : decode (wk_M 256).2.2.1 182 = .ok (.iload_n 1, 1) := zd_by (by decide +kernel)
theorem xd_256_183 : decode (wk_M 256).2.2.1 183 = .ok (.aload_n 0, 1) := zd_by (by decide +kernel)
theorem xd_256_184 : decode (wk_M 256).2.2.1 184 = .ok (.getfield 136, 3) := zd_by (by decide +kernel)
theorem xd_256_187 : decode (wk_M 256).2.2.1 187 = .ok (.bipush 8, 2) := zd_by (by decide +kernel)
theorem xd_256_189 : decode (wk_M 256).2.2.1 189 = .ok (.iload_n 1, 1) := zd_by (by decide +kernel)
theorem xd_256_190 : decode (wk_M 256).2.2.1 190 = .ok (.iadd, 1) := zd_by (by decide +kernel)
theorem xd_256_191 : decode (wk_M 256).2.2.1 191 = .ok (.iaload, 1) := zd_by (by decide +kernel)
theorem xd_256_192 : decode (wk_M 256).2.2.1 192 = .ok (.iastore, 1) := zd_by (by decide +kernel)
theorem xd_256_193 : decode (wk_M 256).2.2.1 193 = .ok (.aload_n 0, 1) := zd_by (by decide +kernel)
theorem xd_256_194 : decode (wk_M 256).2.2.1 194 = .ok (.getfield 139, 3) := zd_by (by decide +kernel)
theorem xd_256_197 : decode (wk_M 256).2.2.1 197 = .ok (.iload_n 1, 1) := zd_by (by decide +kernel)
theorem xd_256_198 : decode (wk_M 256).2.2.1 198 = .ok (.aload_n 0, 1) := zd_by (by decide +kernel)
theorem xd_256_199 : decode (wk_M 256).2.2.1 199 = .ok (.getfield 139, 3) := zd_by (by decide +kernel)
theorem xd_256_202 : decode (wk_M 256).2.2.1 202 = .ok (.bipush 8, 2) := zd_by (by decide +kernel)
theorem xd_256_204 : decode (wk_M 256).2.2.1 204 = .ok (.iload_n 1, 1) := zd_by (by decide +kernel)
theorem xd_256_205 : decode (wk_M 256).2.2.1 205 = .ok (.iadd, 1) := zd_by (by decide +kernel)
theorem xd_256_206 : decode (wk_M 256).2.2.1 206 = .ok (.iaload, 1) := zd_by (by decide +kernel)
theorem xd_256_207 : decode (wk_M 256).2.2.1 207 = .ok (.iastore, 1) := zd_by (by decide +kernel)
theorem xd_256_208 : decode (wk_M 256).2.2.1 208 = .ok (.aload_n 0, 1) := zd_by (by decide +kernel)
theorem xd_256_209 : decode (wk_M 256).2.2.1 209 = .ok (.getfield 142, 3) := zd_by (by decide +kernel)
theorem xd_256_212 : decode (wk_M 256).2.2.1 212 = .ok (.iload_n 1, 1) := zd_by (by decide +kernel)
theorem xd_256_213 : decode (wk_M 256).2.2.1 213 = .ok (.aload_n 0, 1) := zd_by (by decide +kernel)
theorem xd_256_214 : decode (wk_M 256).2.2.1 214 = .ok (.getfield 142, 3) := zd_by (by decide +kernel)
theorem xd_256_217 : decode (wk_M 256).2.2.1 217 = .ok (.bipush 8, 2) := zd_by (by decide +kernel)
theorem xd_256_219 : decode (wk_M 256).2.2.1 219 = .ok (.iload_n 1, 1) := zd_by (by decide +kernel)
theorem xd_256_220 : decode (wk_M 256).2.2.1 220 = .ok (.iadd, 1) := zd_by (by decide +kernel)
theorem xd_256_221 : decode (wk_M 256).2.2.1 221 = .ok (.iaload, 1) := zd_by (by decide +kernel)
theorem xd_256_222 : decode (wk_M 256).2.2.1 222 = .ok (.iastore, 1) := zd_by (by decide +kernel)
theorem xd_256_223 : decode (wk_M 256).2.2.1 223 = .ok (.aload_n 0, 1) := zd_by (by decide +kernel)
theorem xd_256_224 : decode (wk_M 256).2.2.1 224 = .ok (.getfield 145, 3) := zd_by (by decide +kernel)
theorem xd_256_227 : decode (wk_M 256).2.2.1 227 = .ok (.iload_n 1, 1) := zd_by (by decide +kernel)
theorem xd_256_228 : decode (wk_M 256).2.2.1 228 = .ok (.aload_n 0, 1) := zd_by (by decide +kernel)
theorem xd_256_229 : decode (wk_M 256).2.2.1 229 = .ok (.getfield 145, 3) := zd_by (by decide +kernel)
theorem xd_256_232 : decode (wk_M 256).2.2.1 232 = .ok (.bipush 8, 2) := zd_by (by decide +kernel)
theorem xd_256_234 : decode (wk_M 256).2.2.1 234 = .ok (.iload_n 1, 1) := zd_by (by decide +kernel)
theorem xd_256_235 : decode (wk_M 256).2.2.1 235 = .ok (.iadd, 1) := zd_by (by decide +kernel)
theorem xd_256_236 : decode (wk_M 256).2.2.1 236 = .ok (.iaload, 1) := zd_by (by decide +kernel)
theorem xd_256_237 : decode (wk_M 256).2.2.1 237 = .ok (.iastore, 1) := zd_by (by decide +kernel)
theorem xd_256_238 : decode (wk_M 256).2.2.1 238 = .ok (.iinc 1 1, 3) := zd_by (by decide +kernel)
theorem xd_256_241 : decode (wk_M 256).2.2.1 241 = .ok (.goto (-69), 3) := zd_by (by decide +kernel)
theorem xd_256_244 : decode (wk_M 256).2.2.1 244 = .ok (.aload_n 0, 1) := zd_by (by decide +kernel)
theorem xd_256_245 : decode (wk_M 256).2.2.1 245 = .ok (.getfield 133, 3) := zd_by (by decide +kernel)
theorem xd_256_248 : decode (wk_M 256).2.2.1 248 = .ok (.iconst 0, 1) := zd_by (by decide +kernel)
theorem xd_256_249 : decode (wk_M 256).2.2.1 249 = .ok (.iaload, 1) := zd_by (by decide +kernel)
theorem xd_256_250 : decode (wk_M 256).2.2.1 250 = .ok (.ireturn, 1) := zd_by (by decide +kernel)
def LM_256  : Nat → Nat → Int → dc_M → Int → dc_M → Prop
  | 0, _, _, _, _, _ => False
  | c + 1, tag, l1, m, v, m' => match tag with
    | 37 => (((l1 : Int) ≥ 3 ∧ (∃ v_16 m_21, D_198 m v_16 m_21 ∧ (∃ v_32 m_37, D_252 m_21 v_32 m_37 ∧ ((((v_32 : Int) ≠ 0 ∧ ((0 ≤ (1 : Int) ∧ (1 : Int) < 2) ∧ ((0 ≤ (0 : Int) ∧ (0 : Int) < 2) ∧ ∃ m_76, m_76 = dc_up m_37 151 0 (m_37 151 1) ∧ ((0 ≤ (1 : Int) ∧ (1 : Int) < 2) ∧ ((0 ≤ (0 : Int) ∧ (0 : Int) < 2) ∧ ∃ m_109, m_109 = dc_up m_76 155 0 (m_76 155 1) ∧ (LM_256  c 101 0 m_109 v m')))))) ∨ (¬ ((v_32 : Int) ≠ 0) ∧ (v = (dc_w ((-1) - (m_37 114 11))) ∧ m' = m_37))))))) ∨ (¬ ((l1 : Int) ≥ 3) ∧ ((0 ≤ ((dc_w (3 + l1)) : Int) ∧ ((dc_w (3 + l1)) : Int) < 6) ∧ ∃ m_160, m_160 = dc_up m 154 (dc_w (3 + l1)) 0 ∧ (LM_256  c 37 (dc_w (l1 + 1)) m_160 v m'))))
    | 101 => (((l1 : Int) ≥ 3 ∧ (LM_256  c 128 0 m v m')) ∨ (¬ ((l1 : Int) ≥ 3) ∧ ((0 ≤ ((dc_w (3 + l1)) : Int) ∧ ((dc_w (3 + l1)) : Int) < 6) ∧ ((0 ≤ (l1 : Int) ∧ (l1 : Int) < 6) ∧ ∃ m_229, m_229 = dc_up m 154 l1 (m 154 (dc_w (3 + l1))) ∧ (LM_256  c 101 (dc_w (l1 + 1)) m_229 v m')))))
    | 128 => (((l1 : Int) ≥ 6 ∧ (LM_256  c 172 0 m v m')) ∨ (¬ ((l1 : Int) ≥ 6) ∧ ((0 ≤ ((dc_w (6 + l1)) : Int) ∧ ((dc_w (6 + l1)) : Int) < 12) ∧ ((0 ≤ (l1 : Int) ∧ (l1 : Int) < 12) ∧ ∃ m_298, m_298 = dc_up m 152 l1 (m 152 (dc_w (6 + l1))) ∧ ((0 ≤ ((dc_w (6 + l1)) : Int) ∧ ((dc_w (6 + l1)) : Int) < 12) ∧ ((0 ≤ (l1 : Int) ∧ (l1 : Int) < 12) ∧ ∃ m_337, m_337 = dc_up m_298 153 l1 (m_298 153 (dc_w (6 + l1))) ∧ (LM_256  c 128 (dc_w (l1 + 1)) m_337 v m')))))))
    | _ => (((l1 : Int) ≥ 8 ∧ ((0 ≤ (0 : Int) ∧ (0 : Int) < 2) ∧ (v = (m 155 0) ∧ m' = m))) ∨ (¬ ((l1 : Int) ≥ 8) ∧ ((0 ≤ ((dc_w (8 + l1)) : Int) ∧ ((dc_w (8 + l1)) : Int) < 16) ∧ ((0 ≤ (l1 : Int) ∧ (l1 : Int) < 16) ∧ ∃ m_412, m_412 = dc_up m 156 l1 (m 156 (dc_w (8 + l1))) ∧ ((0 ≤ ((dc_w (8 + l1)) : Int) ∧ ((dc_w (8 + l1)) : Int) < 16) ∧ ((0 ≤ (l1 : Int) ∧ (l1 : Int) < 16) ∧ ∃ m_451, m_451 = dc_up m_412 157 l1 (m_412 157 (dc_w (8 + l1))) ∧ ((0 ≤ ((dc_w (8 + l1)) : Int) ∧ ((dc_w (8 + l1)) : Int) < 16) ∧ ((0 ≤ (l1 : Int) ∧ (l1 : Int) < 16) ∧ ∃ m_490, m_490 = dc_up m_451 158 l1 (m_451 158 (dc_w (8 + l1))) ∧ ((0 ≤ ((dc_w (8 + l1)) : Int) ∧ ((dc_w (8 + l1)) : Int) < 16) ∧ ((0 ≤ (l1 : Int) ∧ (l1 : Int) < 16) ∧ ∃ m_529, m_529 = dc_up m_490 159 l1 (m_490 159 (dc_w (8 + l1))) ∧ (LM_256  c 172 (dc_w (l1 + 1)) m_529 v m')))))))))))
theorem lm_256_37  {c : Nat} {l1 : Int} {m : dc_M} {v : Int} {m' : dc_M} : LM_256  (c + 1) 37 l1 m v m' ↔ (((l1 : Int) ≥ 3 ∧ (∃ v_16 m_21, D_198 m v_16 m_21 ∧ (∃ v_32 m_37, D_252 m_21 v_32 m_37 ∧ ((((v_32 : Int) ≠ 0 ∧ ((0 ≤ (1 : Int) ∧ (1 : Int) < 2) ∧ ((0 ≤ (0 : Int) ∧ (0 : Int) < 2) ∧ ∃ m_76, m_76 = dc_up m_37 151 0 (m_37 151 1) ∧ ((0 ≤ (1 : Int) ∧ (1 : Int) < 2) ∧ ((0 ≤ (0 : Int) ∧ (0 : Int) < 2) ∧ ∃ m_109, m_109 = dc_up m_76 155 0 (m_76 155 1) ∧ (LM_256  c 101 0 m_109 v m')))))) ∨ (¬ ((v_32 : Int) ≠ 0) ∧ (v = (dc_w ((-1) - (m_37 114 11))) ∧ m' = m_37))))))) ∨ (¬ ((l1 : Int) ≥ 3) ∧ ((0 ≤ ((dc_w (3 + l1)) : Int) ∧ ((dc_w (3 + l1)) : Int) < 6) ∧ ∃ m_160, m_160 = dc_up m 154 (dc_w (3 + l1)) 0 ∧ (LM_256  c 37 (dc_w (l1 + 1)) m_160 v m')))) := Iff.rfl
theorem lm_256_101  {c : Nat} {l1 : Int} {m : dc_M} {v : Int} {m' : dc_M} : LM_256  (c + 1) 101 l1 m v m' ↔ (((l1 : Int) ≥ 3 ∧ (LM_256  c 128 0 m v m')) ∨ (¬ ((l1 : Int) ≥ 3) ∧ ((0 ≤ ((dc_w (3 + l1)) : Int) ∧ ((dc_w (3 + l1)) : Int) < 6) ∧ ((0 ≤ (l1 : Int) ∧ (l1 : Int) < 6) ∧ ∃ m_229, m_229 = dc_up m 154 l1 (m 154 (dc_w (3 + l1))) ∧ (LM_256  c 101 (dc_w (l1 + 1)) m_229 v m'))))) := Iff.rfl
theorem lm_256_128  {c : Nat} {l1 : Int} {m : dc_M} {v : Int} {m' : dc_M} : LM_256  (c + 1) 128 l1 m v m' ↔ (((l1 : Int) ≥ 6 ∧ (LM_256  c 172 0 m v m')) ∨ (¬ ((l1 : Int) ≥ 6) ∧ ((0 ≤ ((dc_w (6 + l1)) : Int) ∧ ((dc_w (6 + l1)) : Int) < 12) ∧ ((0 ≤ (l1 : Int) ∧ (l1 : Int) < 12) ∧ ∃ m_298, m_298 = dc_up m 152 l1 (m 152 (dc_w (6 + l1))) ∧ ((0 ≤ ((dc_w (6 + l1)) : Int) ∧ ((dc_w (6 + l1)) : Int) < 12) ∧ ((0 ≤ (l1 : Int) ∧ (l1 : Int) < 12) ∧ ∃ m_337, m_337 = dc_up m_298 153 l1 (m_298 153 (dc_w (6 + l1))) ∧ (LM_256  c 128 (dc_w (l1 + 1)) m_337 v m'))))))) := Iff.rfl
theorem lm_256_172  {c : Nat} {l1 : Int} {m : dc_M} {v : Int} {m' : dc_M} : LM_256  (c + 1) 172 l1 m v m' ↔ (((l1 : Int) ≥ 8 ∧ ((0 ≤ (0 : Int) ∧ (0 : Int) < 2) ∧ (v = (m 155 0) ∧ m' = m))) ∨ (¬ ((l1 : Int) ≥ 8) ∧ ((0 ≤ ((dc_w (8 + l1)) : Int) ∧ ((dc_w (8 + l1)) : Int) < 16) ∧ ((0 ≤ (l1 : Int) ∧ (l1 : Int) < 16) ∧ ∃ m_412, m_412 = dc_up m 156 l1 (m 156 (dc_w (8 + l1))) ∧ ((0 ≤ ((dc_w (8 + l1)) : Int) ∧ ((dc_w (8 + l1)) : Int) < 16) ∧ ((0 ≤ (l1 : Int) ∧ (l1 : Int) < 16) ∧ ∃ m_451, m_451 = dc_up m_412 157 l1 (m_412 157 (dc_w (8 + l1))) ∧ ((0 ≤ ((dc_w (8 + l1)) : Int) ∧ ((dc_w (8 + l1)) : Int) < 16) ∧ ((0 ≤ (l1 : Int) ∧ (l1 : Int) < 16) ∧ ∃ m_490, m_490 = dc_up m_451 158 l1 (m_451 158 (dc_w (8 + l1))) ∧ ((0 ≤ ((dc_w (8 + l1)) : Int) ∧ ((dc_w (8 + l1)) : Int) < 16) ∧ ((0 ≤ (l1 : Int) ∧ (l1 : Int) < 16) ∧ ∃ m_529, m_529 = dc_up m_490 159 l1 (m_490 159 (dc_w (8 + l1))) ∧ (LM_256  c 172 (dc_w (l1 + 1)) m_529 v m'))))))))))) := Iff.rfl
theorem dl_256   : ∀ N : Nat, (∀ (n : Nat) (lv : ae_L) (h : ae_H) (r : ae_R) (l1 : Int), n ≤ N → dc_ok h → sv_I l1 → ae_lk lv 0 = some (wk_r 114) → ae_lk lv 1 = some (wk_i l1) → ae_exe n 256 37 0 0 lv [] h = some r → ∃ v, (∃ c, LM_256  c 37 l1 (dc_m h) v (dc_m r.2)) ∧ r.1 = some (wk_i v) ∧ sv_I v ∧ dc_ok r.2) ∧ (∀ (n : Nat) (lv : ae_L) (h : ae_H) (r : ae_R) (l1 : Int), n ≤ N → dc_ok h → sv_I l1 → ae_lk lv 0 = some (wk_r 114) → ae_lk lv 1 = some (wk_i l1) → ae_exe n 256 101 0 0 lv [] h = some r → ∃ v, (∃ c, LM_256  c 101 l1 (dc_m h) v (dc_m r.2)) ∧ r.1 = some (wk_i v) ∧ sv_I v ∧ dc_ok r.2) ∧ (∀ (n : Nat) (lv : ae_L) (h : ae_H) (r : ae_R) (l1 : Int), n ≤ N → dc_ok h → sv_I l1 → ae_lk lv 0 = some (wk_r 114) → ae_lk lv 1 = some (wk_i l1) → ae_exe n 256 128 0 0 lv [] h = some r → ∃ v, (∃ c, LM_256  c 128 l1 (dc_m h) v (dc_m r.2)) ∧ r.1 = some (wk_i v) ∧ sv_I v ∧ dc_ok r.2) ∧ (∀ (n : Nat) (lv : ae_L) (h : ae_H) (r : ae_R) (l1 : Int), n ≤ N → dc_ok h → sv_I l1 → ae_lk lv 0 = some (wk_r 114) → ae_lk lv 1 = some (wk_i l1) → ae_exe n 256 172 0 0 lv [] h = some r → ∃ v, (∃ c, LM_256  c 172 l1 (dc_m h) v (dc_m r.2)) ∧ r.1 = some (wk_i v) ∧ sv_I v ∧ dc_ok r.2) := by
  intro N
  induction N with
  | zero =>
    refine ⟨?_, ?_, ?_, ?_⟩
    · intro n lv h r l1 hn ok il1 q0 q1 hr
      have e : n = 0 := by omega
      subst e
      cases hr
    · intro n lv h r l1 hn ok il1 q0 q1 hr
      have e : n = 0 := by omega
      subst e
      cases hr
    · intro n lv h r l1 hn ok il1 q0 q1 hr
      have e : n = 0 := by omega
      subst e
      cases hr
    · intro n lv h r l1 hn ok il1 q0 q1 hr
      have e : n = 0 := by omega
      subst e
      cases hr
  | succ N ih =>
    obtain ⟨ih0, ih1, ih2, ih3⟩ := ih
    refine ⟨?_, ?_, ?_, ?_⟩
    · intro n lv h r l1 hn ok il1 q0 q1 hr
      obtain ⟨n_1, e_2, hr_3⟩ := iv_iload_n xm_256 xd_256_37 q1 hr
      obtain ⟨n_4, e_5, hr_6⟩ := iv_iconst xm_256 xd_256_38 (by decide) hr_3
      rcases iv_icmp 57 xm_256 xd_256_39 (by decide) il1 (by unfold sv_I; omega) hr_6 with ⟨c_7, n_8, e_9, hr_10⟩ | ⟨c_7, n_8, e_9, hr_10⟩
      · obtain ⟨n_11, e_12, hr_13⟩ := iv_aload_n xm_256 xd_256_57 q0 hr_10
        obtain ⟨n_23, r_14, e_24, hc_15, hr_25⟩ := iv_call (Or.inr ⟨rfl, rfl⟩) xm_256 xd_256_58 (by decide +kernel) xm_198 rfl (by decide +kernel) hr_13
        obtain ⟨v_16, d_17, er_18, iv_19, ok_20⟩ := ds_198 _  ok hc_15
        obtain ⟨_, h_22⟩ := r_14
        have er_18 : _ = none := er_18
        subst er_18
        have hr_26 : ae_exe n_23 256 (58 + 3) 0 0 lv _ h_22 = some r := hr_25
        obtain ⟨n_27, e_28, hr_29⟩ := iv_aload_n xm_256 xd_256_61 q0 hr_26
        obtain ⟨n_39, r_30, e_40, hc_31, hr_41⟩ := iv_call (Or.inr ⟨rfl, rfl⟩) xm_256 xd_256_62 (by decide +kernel) xm_252 rfl (by decide +kernel) hr_29
        obtain ⟨v_32, d_33, er_34, iv_35, ok_36⟩ := ds_252 _  ok_20 hc_31
        obtain ⟨_, h_38⟩ := r_30
        have er_34 : _ = some (wk_i v_32) := er_34
        subst er_34
        have hr_42 : ae_exe n_39 256 (62 + 3) 0 0 lv _ h_38 = some r := hr_41
        rcases iv_if 75 xm_256 xd_256_65 (by decide) iv_35 hr_42 with ⟨c_43, n_44, e_45, hr_46⟩ | ⟨c_43, n_44, e_45, hr_46⟩
        · obtain ⟨n_47, e_48, hr_49⟩ := iv_aload_n xm_256 xd_256_75 q0 hr_46
          have f_50 := dc_fr (j := 62) ok_36 (rfl : sv_ty 114 = some 12) dt_12 rfl
          obtain ⟨n_51, e_52, hr_53⟩ := iv_getf (j := 62) xm_256 xd_256_76 (by decide +kernel) ok_36 (rfl : sv_ty 114 = some 12) dt_12 f_50 hr_49
          obtain ⟨n_54, e_55, hr_56⟩ := iv_iconst xm_256 xd_256_79 (by decide) hr_53
          obtain ⟨n_57, e_58, hr_59⟩ := iv_aload_n xm_256 xd_256_80 q0 hr_56
          have f_60 := dc_fr (j := 62) ok_36 (rfl : sv_ty 114 = some 12) dt_12 rfl
          obtain ⟨n_61, e_62, hr_63⟩ := iv_getf (j := 62) xm_256 xd_256_81 (by decide +kernel) ok_36 (rfl : sv_ty 114 = some 12) dt_12 f_60 hr_59
          obtain ⟨n_64, e_65, hr_66⟩ := iv_iconst xm_256 xd_256_84 (by decide) hr_63
          obtain ⟨q_67, qi_68, n_69, e_70, hr_71⟩ := iv_iald xm_256 xd_256_85 ok_36 (rfl : sv_ty 151 = some 88) dt_88 (by decide) (by unfold sv_I; omega) hr_66
          obtain ⟨q_72, h_73, ok_74, em_75, n_77, e_78, hr_79⟩ := iv_iast xm_256 xd_256_86 ok_36 (rfl : sv_ty 151 = some 88) dt_88 (by decide) (by unfold sv_I; omega) qi_68 hr_71
          obtain ⟨n_80, e_81, hr_82⟩ := iv_aload_n xm_256 xd_256_87 q0 hr_79
          have f_83 := dc_fr (j := 66) ok_74 (rfl : sv_ty 114 = some 12) dt_12 rfl
          obtain ⟨n_84, e_85, hr_86⟩ := iv_getf (j := 66) xm_256 xd_256_88 (by decide +kernel) ok_74 (rfl : sv_ty 114 = some 12) dt_12 f_83 hr_82
          obtain ⟨n_87, e_88, hr_89⟩ := iv_iconst xm_256 xd_256_91 (by decide) hr_86
          obtain ⟨n_90, e_91, hr_92⟩ := iv_aload_n xm_256 xd_256_92 q0 hr_89
          have f_93 := dc_fr (j := 66) ok_74 (rfl : sv_ty 114 = some 12) dt_12 rfl
          obtain ⟨n_94, e_95, hr_96⟩ := iv_getf (j := 66) xm_256 xd_256_93 (by decide +kernel) ok_74 (rfl : sv_ty 114 = some 12) dt_12 f_93 hr_92
          obtain ⟨n_97, e_98, hr_99⟩ := iv_iconst xm_256 xd_256_96 (by decide) hr_96
          obtain ⟨q_100, qi_101, n_102, e_103, hr_104⟩ := iv_iald xm_256 xd_256_97 ok_74 (rfl : sv_ty 155 = some 92) dt_92 (by decide) (by unfold sv_I; omega) hr_99
          obtain ⟨q_105, h_106, ok_107, em_108, n_110, e_111, hr_112⟩ := iv_iast xm_256 xd_256_98 ok_74 (rfl : sv_ty 155 = some 92) dt_92 (by decide) (by unfold sv_I; omega) qi_101 hr_104
          obtain ⟨n_113, e_114, hr_115⟩ := iv_iconst xm_256 xd_256_99 (by decide) hr_112
          obtain ⟨lv_117, sl_116, n_118, e_119, hr_120⟩ := iv_istore_n xm_256 xd_256_100 (by decide +kernel) hr_115
          have l_121 := sl_116.2 0 _ q0 (by decide) (Or.inl rfl)
          have l_122 := sl_116.1
          obtain ⟨v, ⟨c, hL⟩, e1, e2, e3⟩ := ih1 _ lv_117 h_106 _ _ (by omega) ok_107 (by unfold sv_I; omega) l_121 l_122 hr_120
          exact ⟨v, ⟨c + 1, lm_256_37.mpr (Or.inl ⟨c_7, ⟨_, _, d_17, ⟨_, _, d_33, Or.inl ⟨c_43, ⟨q_67, ⟨q_72, _, em_75, ⟨q_100, ⟨q_105, _, em_108, hL⟩⟩⟩⟩⟩⟩⟩⟩)⟩, e1, e2, e3⟩
        · obtain ⟨n_123, e_124, hr_125⟩ := iv_iconst xm_256 xd_256_68 (by decide) hr_46
          obtain ⟨n_126, e_127, hr_128⟩ := iv_aload_n xm_256 xd_256_69 q0 hr_125
          have f_129 := dc_fi (j := 11) ok_36 (rfl : sv_ty 114 = some 12) dt_12 rfl
          obtain ⟨n_130, e_131, hr_132⟩ := iv_getf (j := 11) xm_256 xd_256_70 (by decide +kernel) ok_36 (rfl : sv_ty 114 = some 12) dt_12 f_129.1 hr_128
          obtain ⟨n_133, e_134, hr_135⟩ := iw_isub xm_256 xd_256_73 hr_132
          have rr_136 := iv_ireturn xm_256 xd_256_74 hr_135
          subst rr_136
          exact ⟨_, ⟨0 + 1, lm_256_37.mpr (Or.inl ⟨c_7, ⟨_, _, d_17, ⟨_, _, d_33, Or.inr ⟨c_43, ⟨rfl, rfl⟩⟩⟩⟩⟩)⟩, rfl, (dc_w_I _), ok_36⟩
      · obtain ⟨n_137, e_138, hr_139⟩ := iv_aload_n xm_256 xd_256_42 q0 hr_10
        have f_140 := dc_fr (j := 65) ok (rfl : sv_ty 114 = some 12) dt_12 rfl
        obtain ⟨n_141, e_142, hr_143⟩ := iv_getf (j := 65) xm_256 xd_256_43 (by decide +kernel) ok (rfl : sv_ty 114 = some 12) dt_12 f_140 hr_139
        obtain ⟨n_144, e_145, hr_146⟩ := iv_iconst xm_256 xd_256_46 (by decide) hr_143
        obtain ⟨n_147, e_148, hr_149⟩ := iv_iload_n xm_256 xd_256_47 q1 hr_146
        obtain ⟨n_150, e_151, hr_152⟩ := iw_iadd xm_256 xd_256_48 hr_149
        obtain ⟨n_153, e_154, hr_155⟩ := iv_iconst xm_256 xd_256_49 (by decide) hr_152
        obtain ⟨q_156, h_157, ok_158, em_159, n_161, e_162, hr_163⟩ := iv_iast xm_256 xd_256_50 ok (rfl : sv_ty 154 = some 91) dt_91 (by decide) (dc_w_I _) (by unfold sv_I; omega) hr_155
        obtain ⟨lv_165, sl_164, n_166, e_167, hr_168⟩ := iw_iinc xm_256 xd_256_51 (by decide +kernel) (by decide) q1 hr_163
        have l_169 := sl_164.2 0 _ q0 (by decide) (Or.inl rfl)
        have l_170 := sl_164.1
        obtain ⟨n_171, e_172, hr_173⟩ := iv_goto 37 xm_256 xd_256_54 (by decide) hr_168
        obtain ⟨v, ⟨c, hL⟩, e1, e2, e3⟩ := ih0 _ lv_165 h_157 _ _ (by omega) ok_158 (dc_w_I _) l_169 l_170 hr_173
        exact ⟨v, ⟨c + 1, lm_256_37.mpr (Or.inr ⟨c_7, ⟨q_156, _, em_159, hL⟩⟩)⟩, e1, e2, e3⟩
    · intro n lv h r l1 hn ok il1 q0 q1 hr
      obtain ⟨n_174, e_175, hr_176⟩ := iv_iload_n xm_256 xd_256_101 q1 hr
      obtain ⟨n_177, e_178, hr_179⟩ := iv_iconst xm_256 xd_256_102 (by decide) hr_176
      rcases iv_icmp 126 xm_256 xd_256_103 (by decide) il1 (by unfold sv_I; omega) hr_179 with ⟨c_180, n_181, e_182, hr_183⟩ | ⟨c_180, n_181, e_182, hr_183⟩
      · obtain ⟨n_184, e_185, hr_186⟩ := iv_iconst xm_256 xd_256_126 (by decide) hr_183
        obtain ⟨lv_188, sl_187, n_189, e_190, hr_191⟩ := iv_istore_n xm_256 xd_256_127 (by decide +kernel) hr_186
        have l_192 := sl_187.2 0 _ q0 (by decide) (Or.inl rfl)
        have l_193 := sl_187.1
        obtain ⟨v, ⟨c, hL⟩, e1, e2, e3⟩ := ih2 _ lv_188 h _ _ (by omega) ok (by unfold sv_I; omega) l_192 l_193 hr_191
        exact ⟨v, ⟨c + 1, lm_256_101.mpr (Or.inl ⟨c_180, hL⟩)⟩, e1, e2, e3⟩
      · obtain ⟨n_194, e_195, hr_196⟩ := iv_aload_n xm_256 xd_256_106 q0 hr_183
        have f_197 := dc_fr (j := 65) ok (rfl : sv_ty 114 = some 12) dt_12 rfl
        obtain ⟨n_198, e_199, hr_200⟩ := iv_getf (j := 65) xm_256 xd_256_107 (by decide +kernel) ok (rfl : sv_ty 114 = some 12) dt_12 f_197 hr_196
        obtain ⟨n_201, e_202, hr_203⟩ := iv_iload_n xm_256 xd_256_110 q1 hr_200
        obtain ⟨n_204, e_205, hr_206⟩ := iv_aload_n xm_256 xd_256_111 q0 hr_203
        have f_207 := dc_fr (j := 65) ok (rfl : sv_ty 114 = some 12) dt_12 rfl
        obtain ⟨n_208, e_209, hr_210⟩ := iv_getf (j := 65) xm_256 xd_256_112 (by decide +kernel) ok (rfl : sv_ty 114 = some 12) dt_12 f_207 hr_206
        obtain ⟨n_211, e_212, hr_213⟩ := iv_iconst xm_256 xd_256_115 (by decide) hr_210
        obtain ⟨n_214, e_215, hr_216⟩ := iv_iload_n xm_256 xd_256_116 q1 hr_213
        obtain ⟨n_217, e_218, hr_219⟩ := iw_iadd xm_256 xd_256_117 hr_216
        obtain ⟨q_220, qi_221, n_222, e_223, hr_224⟩ := iv_iald xm_256 xd_256_118 ok (rfl : sv_ty 154 = some 91) dt_91 (by decide) (dc_w_I _) hr_219
        obtain ⟨q_225, h_226, ok_227, em_228, n_230, e_231, hr_232⟩ := iv_iast xm_256 xd_256_119 ok (rfl : sv_ty 154 = some 91) dt_91 (by decide) il1 qi_221 hr_224
        obtain ⟨lv_234, sl_233, n_235, e_236, hr_237⟩ := iw_iinc xm_256 xd_256_120 (by decide +kernel) (by decide) q1 hr_232
        have l_238 := sl_233.2 0 _ q0 (by decide) (Or.inl rfl)
        have l_239 := sl_233.1
        obtain ⟨n_240, e_241, hr_242⟩ := iv_goto 101 xm_256 xd_256_123 (by decide) hr_237
        obtain ⟨v, ⟨c, hL⟩, e1, e2, e3⟩ := ih1 _ lv_234 h_226 _ _ (by omega) ok_227 (dc_w_I _) l_238 l_239 hr_242
        exact ⟨v, ⟨c + 1, lm_256_101.mpr (Or.inr ⟨c_180, ⟨q_220, ⟨q_225, _, em_228, hL⟩⟩⟩)⟩, e1, e2, e3⟩
    · intro n lv h r l1 hn ok il1 q0 q1 hr
      obtain ⟨n_243, e_244, hr_245⟩ := iv_iload_n xm_256 xd_256_128 q1 hr
      obtain ⟨n_246, e_247, hr_248⟩ := iv_bipush xm_256 xd_256_129 (by decide) hr_245
      rcases iv_icmp 170 xm_256 xd_256_131 (by decide) il1 (by unfold sv_I; omega) hr_248 with ⟨c_249, n_250, e_251, hr_252⟩ | ⟨c_249, n_250, e_251, hr_252⟩
      · obtain ⟨n_253, e_254, hr_255⟩ := iv_iconst xm_256 xd_256_170 (by decide) hr_252
        obtain ⟨lv_257, sl_256, n_258, e_259, hr_260⟩ := iv_istore_n xm_256 xd_256_171 (by decide +kernel) hr_255
        have l_261 := sl_256.2 0 _ q0 (by decide) (Or.inl rfl)
        have l_262 := sl_256.1
        obtain ⟨v, ⟨c, hL⟩, e1, e2, e3⟩ := ih3 _ lv_257 h _ _ (by omega) ok (by unfold sv_I; omega) l_261 l_262 hr_260
        exact ⟨v, ⟨c + 1, lm_256_128.mpr (Or.inl ⟨c_249, hL⟩)⟩, e1, e2, e3⟩
      · obtain ⟨n_263, e_264, hr_265⟩ := iv_aload_n xm_256 xd_256_134 q0 hr_252
        have f_266 := dc_fr (j := 63) ok (rfl : sv_ty 114 = some 12) dt_12 rfl
        obtain ⟨n_267, e_268, hr_269⟩ := iv_getf (j := 63) xm_256 xd_256_135 (by decide +kernel) ok (rfl : sv_ty 114 = some 12) dt_12 f_266 hr_265
        obtain ⟨n_270, e_271, hr_272⟩ := iv_iload_n xm_256 xd_256_138 q1 hr_269
        obtain ⟨n_273, e_274, hr_275⟩ := iv_aload_n xm_256 xd_256_139 q0 hr_272
        have f_276 := dc_fr (j := 63) ok (rfl : sv_ty 114 = some 12) dt_12 rfl
        obtain ⟨n_277, e_278, hr_279⟩ := iv_getf (j := 63) xm_256 xd_256_140 (by decide +kernel) ok (rfl : sv_ty 114 = some 12) dt_12 f_276 hr_275
        obtain ⟨n_280, e_281, hr_282⟩ := iv_bipush xm_256 xd_256_143 (by decide) hr_279
        obtain ⟨n_283, e_284, hr_285⟩ := iv_iload_n xm_256 xd_256_145 q1 hr_282
        obtain ⟨n_286, e_287, hr_288⟩ := iw_iadd xm_256 xd_256_146 hr_285
        obtain ⟨q_289, qi_290, n_291, e_292, hr_293⟩ := iv_iald xm_256 xd_256_147 ok (rfl : sv_ty 152 = some 89) dt_89 (by decide) (dc_w_I _) hr_288
        obtain ⟨q_294, h_295, ok_296, em_297, n_299, e_300, hr_301⟩ := iv_iast xm_256 xd_256_148 ok (rfl : sv_ty 152 = some 89) dt_89 (by decide) il1 qi_290 hr_293
        obtain ⟨n_302, e_303, hr_304⟩ := iv_aload_n xm_256 xd_256_149 q0 hr_301
        have f_305 := dc_fr (j := 64) ok_296 (rfl : sv_ty 114 = some 12) dt_12 rfl
        obtain ⟨n_306, e_307, hr_308⟩ := iv_getf (j := 64) xm_256 xd_256_150 (by decide +kernel) ok_296 (rfl : sv_ty 114 = some 12) dt_12 f_305 hr_304
        obtain ⟨n_309, e_310, hr_311⟩ := iv_iload_n xm_256 xd_256_153 q1 hr_308
        obtain ⟨n_312, e_313, hr_314⟩ := iv_aload_n xm_256 xd_256_154 q0 hr_311
        have f_315 := dc_fr (j := 64) ok_296 (rfl : sv_ty 114 = some 12) dt_12 rfl
        obtain ⟨n_316, e_317, hr_318⟩ := iv_getf (j := 64) xm_256 xd_256_155 (by decide +kernel) ok_296 (rfl : sv_ty 114 = some 12) dt_12 f_315 hr_314
        obtain ⟨n_319, e_320, hr_321⟩ := iv_bipush xm_256 xd_256_158 (by decide) hr_318
        obtain ⟨n_322, e_323, hr_324⟩ := iv_iload_n xm_256 xd_256_160 q1 hr_321
        obtain ⟨n_325, e_326, hr_327⟩ := iw_iadd xm_256 xd_256_161 hr_324
        obtain ⟨q_328, qi_329, n_330, e_331, hr_332⟩ := iv_iald xm_256 xd_256_162 ok_296 (rfl : sv_ty 153 = some 90) dt_90 (by decide) (dc_w_I _) hr_327
        obtain ⟨q_333, h_334, ok_335, em_336, n_338, e_339, hr_340⟩ := iv_iast xm_256 xd_256_163 ok_296 (rfl : sv_ty 153 = some 90) dt_90 (by decide) il1 qi_329 hr_332
        obtain ⟨lv_342, sl_341, n_343, e_344, hr_345⟩ := iw_iinc xm_256 xd_256_164 (by decide +kernel) (by decide) q1 hr_340
        have l_346 := sl_341.2 0 _ q0 (by decide) (Or.inl rfl)
        have l_347 := sl_341.1
        obtain ⟨n_348, e_349, hr_350⟩ := iv_goto 128 xm_256 xd_256_167 (by decide) hr_345
        obtain ⟨v, ⟨c, hL⟩, e1, e2, e3⟩ := ih2 _ lv_342 h_334 _ _ (by omega) ok_335 (dc_w_I _) l_346 l_347 hr_350
        exact ⟨v, ⟨c + 1, lm_256_128.mpr (Or.inr ⟨c_249, ⟨q_289, ⟨q_294, _, em_297, ⟨q_328, ⟨q_333, _, em_336, hL⟩⟩⟩⟩⟩)⟩, e1, e2, e3⟩
    · intro n lv h r l1 hn ok il1 q0 q1 hr
      obtain ⟨n_351, e_352, hr_353⟩ := iv_iload_n xm_256 xd_256_172 q1 hr
      obtain ⟨n_354, e_355, hr_356⟩ := iv_bipush xm_256 xd_256_173 (by decide) hr_353
      rcases iv_icmp 244 xm_256 xd_256_175 (by decide) il1 (by unfold sv_I; omega) hr_356 with ⟨c_357, n_358, e_359, hr_360⟩ | ⟨c_357, n_358, e_359, hr_360⟩
      · obtain ⟨n_361, e_362, hr_363⟩ := iv_aload_n xm_256 xd_256_244 q0 hr_360
        have f_364 := dc_fr (j := 66) ok (rfl : sv_ty 114 = some 12) dt_12 rfl
        obtain ⟨n_365, e_366, hr_367⟩ := iv_getf (j := 66) xm_256 xd_256_245 (by decide +kernel) ok (rfl : sv_ty 114 = some 12) dt_12 f_364 hr_363
        obtain ⟨n_368, e_369, hr_370⟩ := iv_iconst xm_256 xd_256_248 (by decide) hr_367
        obtain ⟨q_371, qi_372, n_373, e_374, hr_375⟩ := iv_iald xm_256 xd_256_249 ok (rfl : sv_ty 155 = some 92) dt_92 (by decide) (by unfold sv_I; omega) hr_370
        have rr_376 := iv_ireturn xm_256 xd_256_250 hr_375
        subst rr_376
        exact ⟨_, ⟨0 + 1, lm_256_172.mpr (Or.inl ⟨c_357, ⟨q_371, ⟨rfl, rfl⟩⟩⟩)⟩, rfl, qi_372, ok⟩
      · obtain ⟨n_377, e_378, hr_379⟩ := iv_aload_n xm_256 xd_256_178 q0 hr_360
        have f_380 := dc_fr (j := 67) ok (rfl : sv_ty 114 = some 12) dt_12 rfl
        obtain ⟨n_381, e_382, hr_383⟩ := iv_getf (j := 67) xm_256 xd_256_179 (by decide +kernel) ok (rfl : sv_ty 114 = some 12) dt_12 f_380 hr_379
        obtain ⟨n_384, e_385, hr_386⟩ := iv_iload_n xm_256 xd_256_182 q1 hr_383
        obtain ⟨n_387, e_388, hr_389⟩ := iv_aload_n xm_256 xd_256_183 q0 hr_386
        have f_390 := dc_fr (j := 67) ok (rfl : sv_ty 114 = some 12) dt_12 rfl
        obtain ⟨n_391, e_392, hr_393⟩ := iv_getf (j := 67) xm_256 xd_256_184 (by decide +kernel) ok (rfl : sv_ty 114 = some 12) dt_12 f_390 hr_389
        obtain ⟨n_394, e_395, hr_396⟩ := iv_bipush xm_256 xd_256_187 (by decide) hr_393
        obtain ⟨n_397, e_398, hr_399⟩ := iv_iload_n xm_256 xd_256_189 q1 hr_396
        obtain ⟨n_400, e_401, hr_402⟩ := iw_iadd xm_256 xd_256_190 hr_399
        obtain ⟨q_403, qi_404, n_405, e_406, hr_407⟩ := iv_iald xm_256 xd_256_191 ok (rfl : sv_ty 156 = some 93) dt_93 (by decide) (dc_w_I _) hr_402
        obtain ⟨q_408, h_409, ok_410, em_411, n_413, e_414, hr_415⟩ := iv_iast xm_256 xd_256_192 ok (rfl : sv_ty 156 = some 93) dt_93 (by decide) il1 qi_404 hr_407
        obtain ⟨n_416, e_417, hr_418⟩ := iv_aload_n xm_256 xd_256_193 q0 hr_415
        have f_419 := dc_fr (j := 68) ok_410 (rfl : sv_ty 114 = some 12) dt_12 rfl
        obtain ⟨n_420, e_421, hr_422⟩ := iv_getf (j := 68) xm_256 xd_256_194 (by decide +kernel) ok_410 (rfl : sv_ty 114 = some 12) dt_12 f_419 hr_418
        obtain ⟨n_423, e_424, hr_425⟩ := iv_iload_n xm_256 xd_256_197 q1 hr_422
        obtain ⟨n_426, e_427, hr_428⟩ := iv_aload_n xm_256 xd_256_198 q0 hr_425
        have f_429 := dc_fr (j := 68) ok_410 (rfl : sv_ty 114 = some 12) dt_12 rfl
        obtain ⟨n_430, e_431, hr_432⟩ := iv_getf (j := 68) xm_256 xd_256_199 (by decide +kernel) ok_410 (rfl : sv_ty 114 = some 12) dt_12 f_429 hr_428
        obtain ⟨n_433, e_434, hr_435⟩ := iv_bipush xm_256 xd_256_202 (by decide) hr_432
        obtain ⟨n_436, e_437, hr_438⟩ := iv_iload_n xm_256 xd_256_204 q1 hr_435
        obtain ⟨n_439, e_440, hr_441⟩ := iw_iadd xm_256 xd_256_205 hr_438
        obtain ⟨q_442, qi_443, n_444, e_445, hr_446⟩ := iv_iald xm_256 xd_256_206 ok_410 (rfl : sv_ty 157 = some 94) dt_94 (by decide) (dc_w_I _) hr_441
        obtain ⟨q_447, h_448, ok_449, em_450, n_452, e_453, hr_454⟩ := iv_iast xm_256 xd_256_207 ok_410 (rfl : sv_ty 157 = some 94) dt_94 (by decide) il1 qi_443 hr_446
        obtain ⟨n_455, e_456, hr_457⟩ := iv_aload_n xm_256 xd_256_208 q0 hr_454
        have f_458 := dc_fr (j := 69) ok_449 (rfl : sv_ty 114 = some 12) dt_12 rfl
        obtain ⟨n_459, e_460, hr_461⟩ := iv_getf (j := 69) xm_256 xd_256_209 (by decide +kernel) ok_449 (rfl : sv_ty 114 = some 12) dt_12 f_458 hr_457
        obtain ⟨n_462, e_463, hr_464⟩ := iv_iload_n xm_256 xd_256_212 q1 hr_461
        obtain ⟨n_465, e_466, hr_467⟩ := iv_aload_n xm_256 xd_256_213 q0 hr_464
        have f_468 := dc_fr (j := 69) ok_449 (rfl : sv_ty 114 = some 12) dt_12 rfl
        obtain ⟨n_469, e_470, hr_471⟩ := iv_getf (j := 69) xm_256 xd_256_214 (by decide +kernel) ok_449 (rfl : sv_ty 114 = some 12) dt_12 f_468 hr_467
        obtain ⟨n_472, e_473, hr_474⟩ := iv_bipush xm_256 xd_256_217 (by decide) hr_471
        obtain ⟨n_475, e_476, hr_477⟩ := iv_iload_n xm_256 xd_256_219 q1 hr_474
        obtain ⟨n_478, e_479, hr_480⟩ := iw_iadd xm_256 xd_256_220 hr_477
        obtain ⟨q_481, qi_482, n_483, e_484, hr_485⟩ := iv_iald xm_256 xd_256_221 ok_449 (rfl : sv_ty 158 = some 95) dt_95 (by decide) (dc_w_I _) hr_480
        obtain ⟨q_486, h_487, ok_488, em_489, n_491, e_492, hr_493⟩ := iv_iast xm_256 xd_256_222 ok_449 (rfl : sv_ty 158 = some 95) dt_95 (by decide) il1 qi_482 hr_485
        obtain ⟨n_494, e_495, hr_496⟩ := iv_aload_n xm_256 xd_256_223 q0 hr_493
        have f_497 := dc_fr (j := 70) ok_488 (rfl : sv_ty 114 = some 12) dt_12 rfl
        obtain ⟨n_498, e_499, hr_500⟩ := iv_getf (j := 70) xm_256 xd_256_224 (by decide +kernel) ok_488 (rfl : sv_ty 114 = some 12) dt_12 f_497 hr_496
        obtain ⟨n_501, e_502, hr_503⟩ := iv_iload_n xm_256 xd_256_227 q1 hr_500
        obtain ⟨n_504, e_505, hr_506⟩ := iv_aload_n xm_256 xd_256_228 q0 hr_503
        have f_507 := dc_fr (j := 70) ok_488 (rfl : sv_ty 114 = some 12) dt_12 rfl
        obtain ⟨n_508, e_509, hr_510⟩ := iv_getf (j := 70) xm_256 xd_256_229 (by decide +kernel) ok_488 (rfl : sv_ty 114 = some 12) dt_12 f_507 hr_506
        obtain ⟨n_511, e_512, hr_513⟩ := iv_bipush xm_256 xd_256_232 (by decide) hr_510
        obtain ⟨n_514, e_515, hr_516⟩ := iv_iload_n xm_256 xd_256_234 q1 hr_513
        obtain ⟨n_517, e_518, hr_519⟩ := iw_iadd xm_256 xd_256_235 hr_516
        obtain ⟨q_520, qi_521, n_522, e_523, hr_524⟩ := iv_iald xm_256 xd_256_236 ok_488 (rfl : sv_ty 159 = some 96) dt_96 (by decide) (dc_w_I _) hr_519
        obtain ⟨q_525, h_526, ok_527, em_528, n_530, e_531, hr_532⟩ := iv_iast xm_256 xd_256_237 ok_488 (rfl : sv_ty 159 = some 96) dt_96 (by decide) il1 qi_521 hr_524
        obtain ⟨lv_534, sl_533, n_535, e_536, hr_537⟩ := iw_iinc xm_256 xd_256_238 (by decide +kernel) (by decide) q1 hr_532
        have l_538 := sl_533.2 0 _ q0 (by decide) (Or.inl rfl)
        have l_539 := sl_533.1
        obtain ⟨n_540, e_541, hr_542⟩ := iv_goto 172 xm_256 xd_256_241 (by decide) hr_537
        obtain ⟨v, ⟨c, hL⟩, e1, e2, e3⟩ := ih3 _ lv_534 h_526 _ _ (by omega) ok_527 (dc_w_I _) l_538 l_539 hr_542
        exact ⟨v, ⟨c + 1, lm_256_172.mpr (Or.inr ⟨c_357, ⟨q_403, ⟨q_408, _, em_411, ⟨q_442, ⟨q_447, _, em_450, ⟨q_481, ⟨q_486, _, em_489, ⟨q_520, ⟨q_525, _, em_528, hL⟩⟩⟩⟩⟩⟩⟩⟩⟩)⟩, e1, e2, e3⟩
abbrev D_256  (m : dc_M) (v : Int) (m' : dc_M) : Prop := ∃ m_552, m_552 = dc_up m 114 0 0 ∧ (∃ v_561 m_566, D_187 m_552 v_561 m_566 ∧ (∃ m_581, m_581 = dc_up m_566 114 10 0 ∧ (∃ m_594, m_594 = dc_up m_581 114 12 300 ∧ ((0 ≤ (1 : Int) ∧ (1 : Int) < 2) ∧ ∃ m_615, m_615 = dc_up m_594 151 1 0 ∧ ((0 ≤ (1 : Int) ∧ (1 : Int) < 2) ∧ ∃ m_636, m_636 = dc_up m_615 155 1 0 ∧ (∃ c, LM_256  c 37 0 m_636 v m'))))))
theorem ds_256 (n : Nat)  {h : ae_H} {r : ae_R} (ok : dc_ok h)  (hr : ae_exe n 256 0 0 0 (ae_args [wk_r 114] 0) [] h = some r) : ∃ v, D_256  (dc_m h) v (dc_m r.2) ∧ r.1 = some (wk_i v) ∧ sv_I v ∧ dc_ok r.2 := by
  have q0 : ae_lk (ae_args [wk_r 114] 0) 0 = some (wk_r 114) := rfl
  obtain ⟨n_543, e_544, hr_545⟩ := iv_aload_n xm_256 xd_256_0 q0 hr
  obtain ⟨n_546, e_547, hr_548⟩ := iv_iconst xm_256 xd_256_1 (by decide) hr_545
  obtain ⟨h_549, ok_550, em_551, n_553, e_554, hr_555⟩ := iv_puti (j := 0) (fk := 0) xm_256 xd_256_2 (by decide +kernel) ok (rfl : sv_ty 114 = some 12) dt_12 rfl (by decide +kernel) rfl (by unfold sv_I; omega) hr_548
  obtain ⟨n_556, e_557, hr_558⟩ := iv_aload_n xm_256 xd_256_5 q0 hr_555
  obtain ⟨n_568, r_559, e_569, hc_560, hr_570⟩ := iv_call (Or.inr ⟨rfl, rfl⟩) xm_256 xd_256_6 (by decide +kernel) xm_187 rfl (by decide +kernel) hr_558
  obtain ⟨v_561, d_562, er_563, iv_564, ok_565⟩ := ds_187 _  ok_550 hc_560
  obtain ⟨_, h_567⟩ := r_559
  have er_563 : _ = none := er_563
  subst er_563
  have hr_571 : ae_exe n_568 256 (6 + 3) 0 0 (ae_args [wk_r 114] 0) _ h_567 = some r := hr_570
  obtain ⟨n_572, e_573, hr_574⟩ := iv_aload_n xm_256 xd_256_9 q0 hr_571
  obtain ⟨n_575, e_576, hr_577⟩ := iv_iconst xm_256 xd_256_10 (by decide) hr_574
  obtain ⟨h_578, ok_579, em_580, n_582, e_583, hr_584⟩ := iv_puti (j := 10) (fk := 0) xm_256 xd_256_11 (by decide +kernel) ok_565 (rfl : sv_ty 114 = some 12) dt_12 rfl (by decide +kernel) rfl (by unfold sv_I; omega) hr_577
  obtain ⟨n_585, e_586, hr_587⟩ := iv_aload_n xm_256 xd_256_14 q0 hr_584
  obtain ⟨n_588, e_589, hr_590⟩ := iv_sipush xm_256 xd_256_15 (by decide) hr_587
  obtain ⟨h_591, ok_592, em_593, n_595, e_596, hr_597⟩ := iv_puti (j := 12) (fk := 0) xm_256 xd_256_18 (by decide +kernel) ok_579 (rfl : sv_ty 114 = some 12) dt_12 rfl (by decide +kernel) rfl (by unfold sv_I; omega) hr_590
  obtain ⟨n_598, e_599, hr_600⟩ := iv_aload_n xm_256 xd_256_21 q0 hr_597
  have f_601 := dc_fr (j := 62) ok_592 (rfl : sv_ty 114 = some 12) dt_12 rfl
  obtain ⟨n_602, e_603, hr_604⟩ := iv_getf (j := 62) xm_256 xd_256_22 (by decide +kernel) ok_592 (rfl : sv_ty 114 = some 12) dt_12 f_601 hr_600
  obtain ⟨n_605, e_606, hr_607⟩ := iv_iconst xm_256 xd_256_25 (by decide) hr_604
  obtain ⟨n_608, e_609, hr_610⟩ := iv_iconst xm_256 xd_256_26 (by decide) hr_607
  obtain ⟨q_611, h_612, ok_613, em_614, n_616, e_617, hr_618⟩ := iv_iast xm_256 xd_256_27 ok_592 (rfl : sv_ty 151 = some 88) dt_88 (by decide) (by unfold sv_I; omega) (by unfold sv_I; omega) hr_610
  obtain ⟨n_619, e_620, hr_621⟩ := iv_aload_n xm_256 xd_256_28 q0 hr_618
  have f_622 := dc_fr (j := 66) ok_613 (rfl : sv_ty 114 = some 12) dt_12 rfl
  obtain ⟨n_623, e_624, hr_625⟩ := iv_getf (j := 66) xm_256 xd_256_29 (by decide +kernel) ok_613 (rfl : sv_ty 114 = some 12) dt_12 f_622 hr_621
  obtain ⟨n_626, e_627, hr_628⟩ := iv_iconst xm_256 xd_256_32 (by decide) hr_625
  obtain ⟨n_629, e_630, hr_631⟩ := iv_iconst xm_256 xd_256_33 (by decide) hr_628
  obtain ⟨q_632, h_633, ok_634, em_635, n_637, e_638, hr_639⟩ := iv_iast xm_256 xd_256_34 ok_613 (rfl : sv_ty 155 = some 92) dt_92 (by decide) (by unfold sv_I; omega) (by unfold sv_I; omega) hr_631
  obtain ⟨n_640, e_641, hr_642⟩ := iv_iconst xm_256 xd_256_35 (by decide) hr_639
  obtain ⟨lv_644, sl_643, n_645, e_646, hr_647⟩ := iv_istore_n xm_256 xd_256_36 (by decide +kernel) hr_642
  have l_648 := sl_643.2 0 _ q0 (by decide) (Or.inl rfl)
  have l_649 := sl_643.1
  obtain ⟨v, ⟨c, hL⟩, e1, e2, e3⟩ := (dl_256  _).1 _ lv_644 h_633 _ _ (Nat.le_refl _) ok_634 (by unfold sv_I; omega) l_648 l_649 hr_647
  exact ⟨v, ⟨_, em_551, ⟨_, _, d_562, ⟨_, em_580, ⟨_, em_593, ⟨q_611, _, em_614, ⟨q_632, _, em_635, ⟨_, hL⟩⟩⟩⟩⟩⟩⟩, e1, e2, e3⟩
