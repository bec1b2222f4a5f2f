/-! method 273 -/
theorem xm_273 : ae_m 273 = some (wk_M 273) := rfl
theorem xd_273_0 : decode (wk_M 273).2.2.1 0 = .ok (.iload_n 1, 1) := zd_by (by decide +kernel)
theorem xd_273_1 : decode (wk_M 273).2.2.1 1 = .ok (.iconst 0, 1) := zd_by (by decide +kernel)
theorem xd_273_2 : decode (wk_M 273).2.2.1 2 = .ok (.bipush 7, 2) := zd_by (by decide +kernel)
theorem xd_273_4 : decode (wk_M 273).2.2.1 4 = .ok (.invokestatic 207, 3) := zd_by (by decide +kernel)
theorem xd_273_7 : decode (wk_M 273).2.2.1 7 = .ok (.ifCond .eq 16, 3) := zd_by (by decide +kernel)
theorem xd_273_10 : decode (wk_M 273).2.2.1 10 = .ok (.aload_n 0, 1) := zd_by (by decide +kernel)
theorem xd_273_11 : decode (wk_M 273).2.2.1 11 = .ok (.getfield 32, 3) := zd_by (by decide +kernel)
theorem xd_273_14 : decode (wk_M 273).2.2.1 14 = .ok (.iload_n 1, 1) := zd_by (by decide +kernel)
theorem xd_273_15 : decode (wk_M 273).2.2.1 15 = .ok (.baload, 1) := zd_by (by decide +kernel)
theorem xd_273_16 : decode (wk_M 273).2.2.1 16 = .ok (.ifCond .eq 7, 3) := zd_by (by decide +kernel)
theorem xd_273_19 : decode (wk_M 273).2.2.1 19 = .ok (.iconst 1, 1) := zd_by (by decide +kernel)
theorem xd_273_20 : decode (wk_M 273).2.2.1 20 = .ok (.goto 4, 3) := zd_by (by decide +kernel)
theorem xd_273_23 : decode (wk_M 273).2.2.1 23 = .ok (.iconst 0, 1) := zd_by (by decide +kernel)
theorem xd_273_24 : decode (wk_M 273).2.2.1 24 = .ok (.ireturn, 1) := zd_by (by decide +kernel)
abbrev D_273 (x0 : Int) (m : dc_M) (v : Int) (m' : dc_M) : Prop := ∃ v_12 m_17, D_188 x0 0 7 m v_12 m_17 ∧ ((((v_12 : Int) = 0 ∧ (v = 0 ∧ m' = m_17)) ∨ (¬ ((v_12 : Int) = 0) ∧ ((0 ≤ (x0 : Int) ∧ (x0 : Int) < 8) ∧ (((((m_17 122 x0) : Int) = 0 ∧ (v = 0 ∧ m' = m_17)) ∨ (¬ (((m_17 122 x0) : Int) = 0) ∧ (v = 1 ∧ m' = m_17))))))))
theorem ds_273 (n : Nat) (x0 : Int) {h : ae_H} {r : ae_R} (ok : dc_ok h) (ix0 : sv_I x0) (hr : ae_exe n 273 0 0 0 (ae_args [wk_r 114, wk_i x0] 0) [] h = some r) : ∃ v, D_273 x0 (dc_m h) v (dc_m r.2) ∧ r.1 = some (wk_i v) ∧ sv_I v ∧ dc_ok r.2 := by
  have q0 : ae_lk (ae_args [wk_r 114, wk_i x0] 0) 0 = some (wk_r 114) := rfl
  have q1 : ae_lk (ae_args [wk_r 114, wk_i x0] 0) 1 = some (wk_i x0) := rfl
  obtain ⟨n_1, e_2, hr_3⟩ := iv_iload_n xm_273 xd_273_0 q1 hr
  obtain ⟨n_4, e_5, hr_6⟩ := iv_iconst xm_273 xd_273_1 (by decide) hr_3
  obtain ⟨n_7, e_8, hr_9⟩ := iv_bipush xm_273 xd_273_2 (by decide) hr_6
  obtain ⟨n_19, r_10, e_20, hc_11, hr_21⟩ := iv_call (Or.inl ⟨rfl, rfl⟩) xm_273 xd_273_4 (by decide +kernel) xm_188 rfl (by decide +kernel) hr_9
  obtain ⟨v_12, d_13, er_14, iv_15, ok_16⟩ := ds_188 _ _ _ _ ok ix0 (by unfold sv_I; omega) (by unfold sv_I; omega) hc_11
  obtain ⟨_, h_18⟩ := r_10
  have er_14 : _ = some (wk_i v_12) := er_14
  subst er_14
  have hr_22 : ae_exe n_19 273 (4 + 3) 0 0 (ae_args [wk_r 114, wk_i x0] 0) _ h_18 = some r := hr_21
  rcases iv_if 23 xm_273 xd_273_7 (by decide) iv_15 hr_22 with ⟨c_23, n_24, e_25, hr_26⟩ | ⟨c_23, n_24, e_25, hr_26⟩
  · obtain ⟨n_27, e_28, hr_29⟩ := iv_iconst xm_273 xd_273_23 (by decide) hr_26
    have rr_30 := iv_ireturn xm_273 xd_273_24 hr_29
    subst rr_30
    exact ⟨_, ⟨_, _, d_13, Or.inl ⟨c_23, ⟨rfl, rfl⟩⟩⟩, rfl, (by unfold sv_I; omega), ok_16⟩
  · obtain ⟨n_31, e_32, hr_33⟩ := iv_aload_n xm_273 xd_273_10 q0 hr_26
    have f_34 := dc_fr (j := 19) ok_16 (rfl : sv_ty 114 = some 12) dt_12 rfl
    obtain ⟨n_35, e_36, hr_37⟩ := iv_getf (j := 19) xm_273 xd_273_11 (by decide +kernel) ok_16 (rfl : sv_ty 114 = some 12) dt_12 f_34 hr_33
    obtain ⟨n_38, e_39, hr_40⟩ := iv_iload_n xm_273 xd_273_14 q1 hr_37
    obtain ⟨q_41, qi_42, n_43, e_44, hr_45⟩ := iv_bald xm_273 xd_273_15 ok_16 (rfl : sv_ty 122 = some 66) dt_66 (Or.inr rfl) (by decide) ix0 hr_40
    rcases iv_if 23 xm_273 xd_273_16 (by decide) qi_42 hr_45 with ⟨c_46, n_47, e_48, hr_49⟩ | ⟨c_46, n_47, e_48, hr_49⟩
    · obtain ⟨n_50, e_51, hr_52⟩ := iv_iconst xm_273 xd_273_23 (by decide) hr_49
      have rr_53 := iv_ireturn xm_273 xd_273_24 hr_52
      subst rr_53
      exact ⟨_, ⟨_, _, d_13, Or.inr ⟨c_23, ⟨q_41, Or.inl ⟨c_46, ⟨rfl, rfl⟩⟩⟩⟩⟩, rfl, (by unfold sv_I; omega), ok_16⟩
    · obtain ⟨n_54, e_55, hr_56⟩ := iv_iconst xm_273 xd_273_19 (by decide) hr_49
      obtain ⟨n_57, e_58, hr_59⟩ := iv_goto 24 xm_273 xd_273_20 (by decide) hr_56
      have rr_60 := iv_ireturn xm_273 xd_273_24 hr_59
      subst rr_60
      exact ⟨_, ⟨_, _, d_13, Or.inr ⟨c_23, ⟨q_41, Or.inr ⟨c_46, ⟨rfl, rfl⟩⟩⟩⟩⟩, rfl, (by unfold sv_I; omega), ok_16⟩
/-! method 272 -/
theorem xm_272 : ae_m 272 = some (wk_M 272) := rfl
theorem xd_272_0 : decode (wk_M 272).2.2.1 0 = .ok (.aload_n 0, 1) := zd_by (by decide +kernel)
theorem xd_272_1 : decode (wk_M 272).2.2.1 1 = .ok (.iconst 0, 1) := zd_by (by decide +kernel)
theorem xd_272_2 : decode (wk_M 272).2.2.1 2 = .ok (.putfield 190, 3) := zd_by (by decide +kernel)
theorem xd_272_5 : decode (wk_M 272).2.2.1 5 = .ok (.iload_n 1, 1) := zd_by (by decide +kernel)
theorem xd_272_6 : decode (wk_M 272).2.2.1 6 = .ok (.iconst 0, 1) := zd_by (by decide +kernel)
theorem xd_272_7 : decode (wk_M 272).2.2.1 7 = .ok (.bipush 7, 2) := zd_by (by decide +kernel)
theorem xd_272_9 : decode (wk_M 272).2.2.1 9 = .ok (.invokestatic 207, 3) := zd_by (by decide +kernel)
theorem xd_272_12 : decode (wk_M 272).2.2.1 12 = .ok (.ifCond .ne 5, 3) := zd_by (by decide +kernel)
theorem xd_272_15 : decode (wk_M 272).2.2.1 15 = .ok (.iconst 0, 1) := zd_by (by decide +kernel)
theorem xd_272_16 : decode (wk_M 272).2.2.1 16 = .ok (.ireturn, 1) := zd_by (by decide +kernel)
theorem xd_272_17 : decode (wk_M 272).2.2.1 17 = .ok (.aload_n 0, 1) := zd_by (by decide +kernel)
theorem xd_272_18 : decode (wk_M 272).2.2.1 18 = .ok (.iconst 0, 1) := zd_by (by decide +kernel)
theorem xd_272_19 : decode (wk_M 272).2.2.1 19 = .ok (.iconst 2, 1) := zd_by (by decide +kernel)
theorem xd_272_20 : decode (wk_M 272).2.2.1 20 = .ok (.iload_n 1, 1) := zd_by (by decide +kernel)
theorem xd_272_21 : decode (wk_M 272).2.2.1 21 = .ok (.iadd, 1) := zd_by (by decide +kernel)
theorem xd_272_22 : decode (wk_M 272).2.2.1 22 = .ok (.invokevirtual 346, 3) := zd_by (by decide +kernel)
theorem xd_272_25 : decode (wk_M 272).2.2.1 25 = .ok (.aload_n 0, 1) := zd_by (by decide +kernel)
theorem xd_272_26 : decode (wk_M 272).2.2.1 26 = .ok (.getfield 32, 3) := zd_by (by decide +kernel)
theorem xd_272_29 : decode (wk_M 272).2.2.1 29 = .ok (.iload_n 1, 1) := zd_by (by decide +kernel)
theorem xd_272_30 : decode (wk_M 272).2.2.1 30 = .ok (.iconst 1, 1) := zd_by (by decide +kernel)
theorem xd_272_31 : decode (wk_M 272).2.2.1 31 = .ok (.bastore, 1) := zd_by (by decide +kernel)
theorem xd_272_32 : decode (wk_M 272).2.2.1 32 = .ok (.iconst 1, 1) := zd_by (by decide +kernel)
theorem xd_272_33 : decode (wk_M 272).2.2.1 33 = .ok (.ireturn, 1) := zd_by (by decide +kernel)
abbrev D_272 (x0 : Int) (m : dc_M) (v : Int) (m' : dc_M) : Prop := ∃ m_10, m_10 = dc_up m 114 0 0 ∧ (∃ v_25 m_30, D_188 x0 0 7 m_10 v_25 m_30 ∧ ((((v_25 : Int) ≠ 0 ∧ (∃ v_57 m_62, D_208 0 ((dc_w (2 + x0))) m_30 v_57 m_62 ∧ ((0 ≤ (x0 : Int) ∧ (x0 : Int) < 8) ∧ ∃ m_85, m_85 = dc_up m_62 122 x0 (dc_z 1) ∧ (v = 1 ∧ m' = m_85)))) ∨ (¬ ((v_25 : Int) ≠ 0) ∧ (v = 0 ∧ m' = m_30)))))
theorem ds_272 (n : Nat) (x0 : Int) {h : ae_H} {r : ae_R} (ok : dc_ok h) (ix0 : sv_I x0) (hr : ae_exe n 272 0 0 0 (ae_args [wk_r 114, wk_i x0] 0) [] h = some r) : ∃ v, D_272 x0 (dc_m h) v (dc_m r.2) ∧ r.1 = some (wk_i v) ∧ sv_I v ∧ dc_ok r.2 := by
  have q0 : ae_lk (ae_args [wk_r 114, wk_i x0] 0) 0 = some (wk_r 114) := rfl
  have q1 : ae_lk (ae_args [wk_r 114, wk_i x0] 0) 1 = some (wk_i x0) := rfl
  obtain ⟨n_1, e_2, hr_3⟩ := iv_aload_n xm_272 xd_272_0 q0 hr
  obtain ⟨n_4, e_5, hr_6⟩ := iv_iconst xm_272 xd_272_1 (by decide) hr_3
  obtain ⟨h_7, ok_8, em_9, n_11, e_12, hr_13⟩ := iv_puti (j := 0) (fk := 0) xm_272 xd_272_2 (by decide +kernel) ok (rfl : sv_ty 114 = some 12) dt_12 rfl (by decide +kernel) rfl (by unfold sv_I; omega) hr_6
  obtain ⟨n_14, e_15, hr_16⟩ := iv_iload_n xm_272 xd_272_5 q1 hr_13
  obtain ⟨n_17, e_18, hr_19⟩ := iv_iconst xm_272 xd_272_6 (by decide) hr_16
  obtain ⟨n_20, e_21, hr_22⟩ := iv_bipush xm_272 xd_272_7 (by decide) hr_19
  obtain ⟨n_32, r_23, e_33, hc_24, hr_34⟩ := iv_call (Or.inl ⟨rfl, rfl⟩) xm_272 xd_272_9 (by decide +kernel) xm_188 rfl (by decide +kernel) hr_22
  obtain ⟨v_25, d_26, er_27, iv_28, ok_29⟩ := ds_188 _ _ _ _ ok_8 ix0 (by unfold sv_I; omega) (by unfold sv_I; omega) hc_24
  obtain ⟨_, h_31⟩ := r_23
  have er_27 : _ = some (wk_i v_25) := er_27
  subst er_27
  have hr_35 : ae_exe n_32 272 (9 + 3) 0 0 (ae_args [wk_r 114, wk_i x0] 0) _ h_31 = some r := hr_34
  rcases iv_if 17 xm_272 xd_272_12 (by decide) iv_28 hr_35 with ⟨c_36, n_37, e_38, hr_39⟩ | ⟨c_36, n_37, e_38, hr_39⟩
  · obtain ⟨n_40, e_41, hr_42⟩ := iv_aload_n xm_272 xd_272_17 q0 hr_39
    obtain ⟨n_43, e_44, hr_45⟩ := iv_iconst xm_272 xd_272_18 (by decide) hr_42
    obtain ⟨n_46, e_47, hr_48⟩ := iv_iconst xm_272 xd_272_19 (by decide) hr_45
    obtain ⟨n_49, e_50, hr_51⟩ := iv_iload_n xm_272 xd_272_20 q1 hr_48
    obtain ⟨n_52, e_53, hr_54⟩ := iw_iadd xm_272 xd_272_21 hr_51
    obtain ⟨n_64, r_55, e_65, hc_56, hr_66⟩ := iv_call (Or.inr ⟨rfl, rfl⟩) xm_272 xd_272_22 (by decide +kernel) xm_208 rfl (by decide +kernel) hr_54
    obtain ⟨v_57, d_58, er_59, iv_60, ok_61⟩ := ds_208 _ _ _ ok_29 (by unfold sv_I; omega) (dc_w_I _) hc_56
    obtain ⟨_, h_63⟩ := r_55
    have er_59 : _ = none := er_59
    subst er_59
    have hr_67 : ae_exe n_64 272 (22 + 3) 0 0 (ae_args [wk_r 114, wk_i x0] 0) _ h_63 = some r := hr_66
    obtain ⟨n_68, e_69, hr_70⟩ := iv_aload_n xm_272 xd_272_25 q0 hr_67
    have f_71 := dc_fr (j := 19) ok_61 (rfl : sv_ty 114 = some 12) dt_12 rfl
    obtain ⟨n_72, e_73, hr_74⟩ := iv_getf (j := 19) xm_272 xd_272_26 (by decide +kernel) ok_61 (rfl : sv_ty 114 = some 12) dt_12 f_71 hr_70
    obtain ⟨n_75, e_76, hr_77⟩ := iv_iload_n xm_272 xd_272_29 q1 hr_74
    obtain ⟨n_78, e_79, hr_80⟩ := iv_iconst xm_272 xd_272_30 (by decide) hr_77
    obtain ⟨q_81, h_82, ok_83, em_84, n_86, e_87, hr_88⟩ := iv_bastz xm_272 xd_272_31 ok_61 (rfl : sv_ty 122 = some 66) dt_66 (by decide) ix0 hr_80
    obtain ⟨n_89, e_90, hr_91⟩ := iv_iconst xm_272 xd_272_32 (by decide) hr_88
    have rr_92 := iv_ireturn xm_272 xd_272_33 hr_91
    subst rr_92
    exact ⟨_, ⟨_, em_9, ⟨_, _, d_26, Or.inl ⟨c_36, ⟨_, _, d_58, ⟨q_81, _, em_84, ⟨rfl, rfl⟩⟩⟩⟩⟩⟩, rfl, (by unfold sv_I; omega), ok_83⟩
  · obtain ⟨n_93, e_94, hr_95⟩ := iv_iconst xm_272 xd_272_15 (by decide) hr_39
    have rr_96 := iv_ireturn xm_272 xd_272_16 hr_95
    subst rr_96
    exact ⟨_, ⟨_, em_9, ⟨_, _, d_26, Or.inr ⟨c_36, ⟨rfl, rfl⟩⟩⟩⟩, rfl, (by unfold sv_I; omega), ok_29⟩
/-! method 274 -/
theorem xm_274 : ae_m 274 = some (wk_M 274) := rfl
theorem xd_274_0 : decode (wk_M 274).2.2.1 0 = .ok (.aload_n 0, 1) := zd_by (by decide +kernel)
theorem xd_274_1 : decode (wk_M 274).2.2.1 1 = .ok (.iconst 0, 1) := zd_by (by decide +kernel)
theorem xd_274_2 : decode (wk_M 274).2.2.1 2 = .ok (.putfield 190, 3) := zd_by (by decide +kernel)
theorem xd_274_5 : decode (wk_M 274).2.2.1 5 = .ok (.aload_n 0, 1) := zd_by (by decide +kernel)
theorem xd_274_6 : decode (wk_M 274).2.2.1 6 = .ok (.iload_n 1, 1) := zd_by (by decide +kernel)
theorem xd_274_7 : decode (wk_M 274).2.2.1 7 = .ok (.invokevirtual 536, 3) := zd_by (by decide +kernel)
theorem xd_274_10 : decode (wk_M 274).2.2.1 10 = .ok (.ifCond .ne 5, 3) := zd_by (by decide +kernel)
theorem xd_274_13 : decode (wk_M 274).2.2.1 13 = .ok (.iconst (-1), 1) := zd_by (by decide +kernel)
theorem xd_274_14 : decode (wk_M 274).2.2.1 14 = .ok (.ireturn, 1) := zd_by (by decide +kernel)
theorem xd_274_15 : decode (wk_M 274).2.2.1 15 = .ok (.aload_n 0, 1) := zd_by (by decide +kernel)
theorem xd_274_16 : decode (wk_M 274).2.2.1 16 = .ok (.iconst 2, 1) := zd_by (by decide +kernel)
theorem xd_274_17 : decode (wk_M 274).2.2.1 17 = .ok (.iload_n 1, 1) := zd_by (by decide +kernel)
theorem xd_274_18 : decode (wk_M 274).2.2.1 18 = .ok (.iadd, 1) := zd_by (by decide +kernel)
theorem xd_274_19 : decode (wk_M 274).2.2.1 19 = .ok (.iconst 0, 1) := zd_by (by decide +kernel)
theorem xd_274_20 : decode (wk_M 274).2.2.1 20 = .ok (.invokevirtual 346, 3) := zd_by (by decide +kernel)
theorem xd_274_23 : decode (wk_M 274).2.2.1 23 = .ok (.aload_n 0, 1) := zd_by (by decide +kernel)
theorem xd_274_24 : decode (wk_M 274).2.2.1 24 = .ok (.getfield 26, 3) := zd_by (by decide +kernel)
theorem xd_274_27 : decode (wk_M 274).2.2.1 27 = .ok (.iconst 0, 1) := zd_by (by decide +kernel)
theorem xd_274_28 : decode (wk_M 274).2.2.1 28 = .ok (.iaload, 1) := zd_by (by decide +kernel)
theorem xd_274_29 : decode (wk_M 274).2.2.1 29 = .ok (.ireturn, 1) := zd_by (by decide +kernel)
abbrev D_274 (x0 : Int) (m : dc_M) (v : Int) (m' : dc_M) : Prop := ∃ m_10, m_10 = dc_up m 114 0 0 ∧ (∃ v_22 m_27, D_273 x0 m_10 v_22 m_27 ∧ ((((v_22 : Int) ≠ 0 ∧ (∃ v_54 m_59, D_208 ((dc_w (2 + x0))) 0 m_27 v_54 m_59 ∧ ((0 ≤ (0 : Int) ∧ (0 : Int) < 10) ∧ (v = (m_59 120 0) ∧ m' = m_59)))) ∨ (¬ ((v_22 : Int) ≠ 0) ∧ (v = (-1) ∧ m' = m_27)))))
theorem ds_274 (n : Nat) (x0 : Int) {h : ae_H} {r : ae_R} (ok : dc_ok h) (ix0 : sv_I x0) (hr : ae_exe n 274 0 0 0 (ae_args [wk_r 114, wk_i x0] 0) [] h = some r) : ∃ v, D_274 x0 (dc_m h) v (dc_m r.2) ∧ r.1 = some (wk_i v) ∧ sv_I v ∧ dc_ok r.2 := by
  have q0 : ae_lk (ae_args [wk_r 114, wk_i x0] 0) 0 = some (wk_r 114) := rfl
  have q1 : ae_lk (ae_args [wk_r 114, wk_i x0] 0) 1 = some (wk_i x0) := rfl
  obtain ⟨n_1, e_2, hr_3⟩ := iv_aload_n xm_274 xd_274_0 q0 hr
  obtain ⟨n_4, e_5, hr_6⟩ := iv_iconst xm_274 xd_274_1 (by decide) hr_3
  obtain ⟨h_7, ok_8, em_9, n_11, e_12, hr_13⟩ := iv_puti (j := 0) (fk := 0) xm_274 xd_274_2 (by decide +kernel) ok (rfl : sv_ty 114 = some 12) dt_12 rfl (by decide +kernel) rfl (by unfold sv_I; omega) hr_6
  obtain ⟨n_14, e_15, hr_16⟩ := iv_aload_n xm_274 xd_274_5 q0 hr_13
  obtain ⟨n_17, e_18, hr_19⟩ := iv_iload_n xm_274 xd_274_6 q1 hr_16
  obtain ⟨n_29, r_20, e_30, hc_21, hr_31⟩ := iv_call (Or.inr ⟨rfl, rfl⟩) xm_274 xd_274_7 (by decide +kernel) xm_273 rfl (by decide +kernel) hr_19
  obtain ⟨v_22, d_23, er_24, iv_25, ok_26⟩ := ds_273 _ _ ok_8 ix0 hc_21
  obtain ⟨_, h_28⟩ := r_20
  have er_24 : _ = some (wk_i v_22) := er_24
  subst er_24
  have hr_32 : ae_exe n_29 274 (7 + 3) 0 0 (ae_args [wk_r 114, wk_i x0] 0) _ h_28 = some r := hr_31
  rcases iv_if 15 xm_274 xd_274_10 (by decide) iv_25 hr_32 with ⟨c_33, n_34, e_35, hr_36⟩ | ⟨c_33, n_34, e_35, hr_36⟩
  · obtain ⟨n_37, e_38, hr_39⟩ := iv_aload_n xm_274 xd_274_15 q0 hr_36
    obtain ⟨n_40, e_41, hr_42⟩ := iv_iconst xm_274 xd_274_16 (by decide) hr_39
    obtain ⟨n_43, e_44, hr_45⟩ := iv_iload_n xm_274 xd_274_17 q1 hr_42
    obtain ⟨n_46, e_47, hr_48⟩ := iw_iadd xm_274 xd_274_18 hr_45
    obtain ⟨n_49, e_50, hr_51⟩ := iv_iconst xm_274 xd_274_19 (by decide) hr_48
    obtain ⟨n_61, r_52, e_62, hc_53, hr_63⟩ := iv_call (Or.inr ⟨rfl, rfl⟩) xm_274 xd_274_20 (by decide +kernel) xm_208 rfl (by decide +kernel) hr_51
    obtain ⟨v_54, d_55, er_56, iv_57, ok_58⟩ := ds_208 _ _ _ ok_26 (dc_w_I _) (by unfold sv_I; omega) hc_53
    obtain ⟨_, h_60⟩ := r_52
    have er_56 : _ = none := er_56
    subst er_56
    have hr_64 : ae_exe n_61 274 (20 + 3) 0 0 (ae_args [wk_r 114, wk_i x0] 0) _ h_60 = some r := hr_63
    obtain ⟨n_65, e_66, hr_67⟩ := iv_aload_n xm_274 xd_274_23 q0 hr_64
    have f_68 := dc_fr (j := 17) ok_58 (rfl : sv_ty 114 = some 12) dt_12 rfl
    obtain ⟨n_69, e_70, hr_71⟩ := iv_getf (j := 17) xm_274 xd_274_24 (by decide +kernel) ok_58 (rfl : sv_ty 114 = some 12) dt_12 f_68 hr_67
    obtain ⟨n_72, e_73, hr_74⟩ := iv_iconst xm_274 xd_274_27 (by decide) hr_71
    obtain ⟨q_75, qi_76, n_77, e_78, hr_79⟩ := iv_iald xm_274 xd_274_28 ok_58 (rfl : sv_ty 120 = some 64) dt_64 (by decide) (by unfold sv_I; omega) hr_74
    have rr_80 := iv_ireturn xm_274 xd_274_29 hr_79
    subst rr_80
    exact ⟨_, ⟨_, em_9, ⟨_, _, d_23, Or.inl ⟨c_33, ⟨_, _, d_55, ⟨q_75, ⟨rfl, rfl⟩⟩⟩⟩⟩⟩, rfl, qi_76, ok_58⟩
  · obtain ⟨n_81, e_82, hr_83⟩ := iv_iconst xm_274 xd_274_13 (by decide) hr_36
    have rr_84 := iv_ireturn xm_274 xd_274_14 hr_83
    subst rr_84
    exact ⟨_, ⟨_, em_9, ⟨_, _, d_23, Or.inr ⟨c_33, ⟨rfl, rfl⟩⟩⟩⟩, rfl, (by unfold sv_I; omega), ok_26⟩
