/-! method 1 -/
theorem xm_1 : ae_m 1 = some (wk_M 1) := rfl
theorem xd_1_0 : decode (wk_M 1).2.2.1 0 = .ok (.aload_n 0, 1) := zd_by (by decide +kernel)
theorem xd_1_1 : decode (wk_M 1).2.2.1 1 = .ok (.aload_n 1, 1) := zd_by (by decide +kernel)
theorem xd_1_2 : decode (wk_M 1).2.2.1 2 = .ok (.getfield 18, 3) := zd_by (by decide +kernel)
theorem xd_1_5 : decode (wk_M 1).2.2.1 5 = .ok (.putfield 18, 3) := zd_by (by decide +kernel)
theorem xd_1_8 : decode (wk_M 1).2.2.1 8 = .ok (.aload_n 1, 1) := zd_by (by decide +kernel)
theorem xd_1_9 : decode (wk_M 1).2.2.1 9 = .ok (.getfield 11, 3) := zd_by (by decide +kernel)
theorem xd_1_12 : decode (wk_M 1).2.2.1 12 = .ok (.iconst 0, 1) := zd_by (by decide +kernel)
theorem xd_1_13 : decode (wk_M 1).2.2.1 13 = .ok (.aload_n 0, 1) := zd_by (by decide +kernel)
theorem xd_1_14 : decode (wk_M 1).2.2.1 14 = .ok (.getfield 11, 3) := zd_by (by decide +kernel)
theorem xd_1_17 : decode (wk_M 1).2.2.1 17 = .ok (.iconst 0, 1) := zd_by (by decide +kernel)
theorem xd_1_18 : decode (wk_M 1).2.2.1 18 = .ok (.aload_n 0, 1) := zd_by (by decide +kernel)
theorem xd_1_19 : decode (wk_M 1).2.2.1 19 = .ok (.getfield 18, 3) := zd_by (by decide +kernel)
theorem xd_1_22 : decode (wk_M 1).2.2.1 22 = .ok (.invokestatic 22, 3) := zd_by (by decide +kernel)
theorem xd_1_25 : decode (wk_M 1).2.2.1 25 = .ok (.aload_n 1, 1) := zd_by (by decide +kernel)
theorem xd_1_26 : decode (wk_M 1).2.2.1 26 = .ok (.getfield 15, 3) := zd_by (by decide +kernel)
theorem xd_1_29 : decode (wk_M 1).2.2.1 29 = .ok (.iconst 0, 1) := zd_by (by decide +kernel)
theorem xd_1_30 : decode (wk_M 1).2.2.1 30 = .ok (.aload_n 0, 1) := zd_by (by decide +kernel)
theorem xd_1_31 : decode (wk_M 1).2.2.1 31 = .ok (.getfield 15, 3) := zd_by (by decide +kernel)
theorem xd_1_34 : decode (wk_M 1).2.2.1 34 = .ok (.iconst 0, 1) := zd_by (by decide +kernel)
theorem xd_1_35 : decode (wk_M 1).2.2.1 35 = .ok (.aload_n 0, 1) := zd_by (by decide +kernel)
theorem xd_1_36 : decode (wk_M 1).2.2.1 36 = .ok (.getfield 18, 3) := zd_by (by decide +kernel)
theorem xd_1_39 : decode (wk_M 1).2.2.1 39 = .ok (.invokestatic 22, 3) := zd_by (by decide +kernel)
theorem xd_1_42 : decode (wk_M 1).2.2.1 42 = .ok (.return_, 1) := zd_by (by decide +kernel)
abbrev D_1 (k0 : Nat) (k1 : Nat) (m : dc_M) (v : Int) (m' : dc_M) : Prop := ∃ m_14, m_14 = dc_up m k0 2 (m k1 2) ∧ (((0 ≤ (0 : Int) ∧ 0 ≤ ((m_14 k0 2) : Int) ∧ 0 + (m_14 k0 2) ≤ (60 : Int)) ∧ 0 ≤ (0 : Int) ∧ 0 + (m_14 k0 2) ≤ (60 : Int)) ∧ ∃ m_49, m_49 = dc_cpy m_14 ((k1 + 1)) 0 ((k0 + 1)) 0 (m_14 k0 2) ∧ (((0 ≤ (0 : Int) ∧ 0 ≤ ((m_49 k0 2) : Int) ∧ 0 + (m_49 k0 2) ≤ (60 : Int)) ∧ 0 ≤ (0 : Int) ∧ 0 + (m_49 k0 2) ≤ (60 : Int)) ∧ ∃ m_84, m_84 = dc_cpy m_49 ((k1 + 2)) 0 ((k0 + 2)) 0 (m_49 k0 2) ∧ (v = 0 ∧ m' = m_84)))
theorem ds_1 (n : Nat) (k0 : Nat) (k1 : Nat) {h : ae_H} {r : ae_R} (ok : dc_ok h) (t_k0 : sv_ty k0 = some 0) (t_k1 : sv_ty k1 = some 0) (hr : ae_exe n 1 0 0 0 (ae_args [wk_r k0, wk_r k1] 0) [] h = some r) : ∃ v, D_1 k0 k1 (dc_m h) v (dc_m r.2) ∧ r.1 = none ∧ sv_I v ∧ dc_ok r.2 := by
  have q0 : ae_lk (ae_args [wk_r k0, wk_r k1] 0) 0 = some (wk_r k0) := rfl
  have q1 : ae_lk (ae_args [wk_r k0, wk_r k1] 0) 1 = some (wk_r k1) := rfl
  obtain ⟨n_1, e_2, hr_3⟩ := iv_aload_n xm_1 xd_1_0 q0 hr
  obtain ⟨n_4, e_5, hr_6⟩ := iv_aload_n xm_1 xd_1_1 q1 hr_3
  have f_7 := dc_fi (j := 2) ok t_k1 dt_0 rfl
  obtain ⟨n_8, e_9, hr_10⟩ := iv_getf (j := 2) xm_1 xd_1_2 (by decide +kernel) ok t_k1 dt_0 f_7.1 hr_6
  obtain ⟨h_11, ok_12, em_13, n_15, e_16, hr_17⟩ := iv_puti (j := 2) (fk := 0) xm_1 xd_1_5 (by decide +kernel) ok t_k0 dt_0 rfl (by decide +kernel) rfl f_7.2 hr_10
  obtain ⟨n_18, e_19, hr_20⟩ := iv_aload_n xm_1 xd_1_8 q1 hr_17
  have f_21 := dc_fr (j := 0) ok_12 t_k1 dt_0 rfl
  obtain ⟨n_22, e_23, hr_24⟩ := iv_getf (j := 0) xm_1 xd_1_9 (by decide +kernel) ok_12 t_k1 dt_0 f_21 hr_20
  obtain ⟨n_25, e_26, hr_27⟩ := iv_iconst xm_1 xd_1_12 (by decide) hr_24
  obtain ⟨n_28, e_29, hr_30⟩ := iv_aload_n xm_1 xd_1_13 q0 hr_27
  have f_31 := dc_fr (j := 0) ok_12 t_k0 dt_0 rfl
  obtain ⟨n_32, e_33, hr_34⟩ := iv_getf (j := 0) xm_1 xd_1_14 (by decide +kernel) ok_12 t_k0 dt_0 f_31 hr_30
  obtain ⟨n_35, e_36, hr_37⟩ := iv_iconst xm_1 xd_1_17 (by decide) hr_34
  obtain ⟨n_38, e_39, hr_40⟩ := iv_aload_n xm_1 xd_1_18 q0 hr_37
  have f_41 := dc_fi (j := 2) ok_12 t_k0 dt_0 rfl
  obtain ⟨n_42, e_43, hr_44⟩ := iv_getf (j := 2) xm_1 xd_1_19 (by decide +kernel) ok_12 t_k0 dt_0 f_41.1 hr_40
  obtain ⟨q_45, h_46, ok_47, em_48, n_50, e_51, hr_52⟩ := iv_cpy (a := 0) (b := 0) xm_1 xd_1_22 (by decide +kernel) ok_12 (do_0_0 t_k1) dt_21 (do_0_0 t_k0) dt_21 (by decide) (by unfold sv_I; omega) (by unfold sv_I; omega) f_41.2 hr_44
  obtain ⟨n_53, e_54, hr_55⟩ := iv_aload_n xm_1 xd_1_25 q1 hr_52
  have f_56 := dc_fr (j := 1) ok_47 t_k1 dt_0 rfl
  obtain ⟨n_57, e_58, hr_59⟩ := iv_getf (j := 1) xm_1 xd_1_26 (by decide +kernel) ok_47 t_k1 dt_0 f_56 hr_55
  obtain ⟨n_60, e_61, hr_62⟩ := iv_iconst xm_1 xd_1_29 (by decide) hr_59
  obtain ⟨n_63, e_64, hr_65⟩ := iv_aload_n xm_1 xd_1_30 q0 hr_62
  have f_66 := dc_fr (j := 1) ok_47 t_k0 dt_0 rfl
  obtain ⟨n_67, e_68, hr_69⟩ := iv_getf (j := 1) xm_1 xd_1_31 (by decide +kernel) ok_47 t_k0 dt_0 f_66 hr_65
  obtain ⟨n_70, e_71, hr_72⟩ := iv_iconst xm_1 xd_1_34 (by decide) hr_69
  obtain ⟨n_73, e_74, hr_75⟩ := iv_aload_n xm_1 xd_1_35 q0 hr_72
  have f_76 := dc_fi (j := 2) ok_47 t_k0 dt_0 rfl
  obtain ⟨n_77, e_78, hr_79⟩ := iv_getf (j := 2) xm_1 xd_1_36 (by decide +kernel) ok_47 t_k0 dt_0 f_76.1 hr_75
  obtain ⟨q_80, h_81, ok_82, em_83, n_85, e_86, hr_87⟩ := iv_cpy (a := 0) (b := 0) xm_1 xd_1_39 (by decide +kernel) ok_47 (do_0_1 t_k1) dt_21 (do_0_1 t_k0) dt_21 (by decide) (by unfold sv_I; omega) (by unfold sv_I; omega) f_76.2 hr_79
  have rr_88 := iv_return xm_1 xd_1_42 hr_87 rfl
  subst rr_88
  exact ⟨_, ⟨_, em_13, ⟨q_45, _, em_48, ⟨q_80, _, em_83, ⟨rfl, rfl⟩⟩⟩⟩, rfl, (by unfold sv_I; omega), ok_82⟩
/-! method 102 -/
theorem xm_102 : ae_m 102 = some (wk_M 102) := rfl
theorem xd_102_0 : decode (wk_M 102).2.2.1 0 = .ok (.iload_n 0, 1) := zd_by (by decide +kernel)
theorem xd_102_1 : decode (wk_M 102).2.2.1 1 = .ok (.ifCond .lt 13, 3) := zd_by (by decide +kernel)
theorem xd_102_4 : decode (wk_M 102).2.2.1 4 = .ok (.iload_n 0, 1) := zd_by (by decide +kernel)
theorem xd_102_5 : decode (wk_M 102).2.2.1 5 = .ok (.bipush 8, 2) := zd_by (by decide +kernel)
theorem xd_102_7 : decode (wk_M 102).2.2.1 7 = .ok (.if_icmp .ge 7, 3) := zd_by (by decide +kernel)
theorem xd_102_10 : decode (wk_M 102).2.2.1 10 = .ok (.iconst 1, 1) := zd_by (by decide +kernel)
theorem xd_102_11 : decode (wk_M 102).2.2.1 11 = .ok (.goto 4, 3) := zd_by (by decide +kernel)
theorem xd_102_14 : decode (wk_M 102).2.2.1 14 = .ok (.iconst 0, 1) := zd_by (by decide +kernel)
theorem xd_102_15 : decode (wk_M 102).2.2.1 15 = .ok (.ireturn, 1) := zd_by (by decide +kernel)
abbrev D_102 (x0 : Int) (m : dc_M) (v : Int) (m' : dc_M) : Prop := (((x0 : Int) < 0 ∧ (v = 0 ∧ m' = m)) ∨ (¬ ((x0 : Int) < 0) ∧ ((((x0 : Int) ≥ 8 ∧ (v = 0 ∧ m' = m)) ∨ (¬ ((x0 : Int) ≥ 8) ∧ (v = 1 ∧ m' = m))))))
theorem ds_102 (n : Nat) (x0 : Int) {h : ae_H} {r : ae_R} (ok : dc_ok h) (ix0 : sv_I x0) (hr : ae_exe n 102 0 0 0 (ae_args [wk_i x0] 0) [] h = some r) : ∃ v, D_102 x0 (dc_m h) v (dc_m r.2) ∧ r.1 = some (wk_i v) ∧ sv_I v ∧ dc_ok r.2 := by
  have q0 : ae_lk (ae_args [wk_i x0] 0) 0 = some (wk_i x0) := rfl
  obtain ⟨n_1, e_2, hr_3⟩ := iv_iload_n xm_102 xd_102_0 q0 hr
  rcases iv_if 14 xm_102 xd_102_1 (by decide) ix0 hr_3 with ⟨c_4, n_5, e_6, hr_7⟩ | ⟨c_4, n_5, e_6, hr_7⟩
  · obtain ⟨n_8, e_9, hr_10⟩ := iv_iconst xm_102 xd_102_14 (by decide) hr_7
    have rr_11 := iv_ireturn xm_102 xd_102_15 hr_10
    subst rr_11
    exact ⟨_, Or.inl ⟨c_4, ⟨rfl, rfl⟩⟩, rfl, (by unfold sv_I; omega), ok⟩
  · obtain ⟨n_12, e_13, hr_14⟩ := iv_iload_n xm_102 xd_102_4 q0 hr_7
    obtain ⟨n_15, e_16, hr_17⟩ := iv_bipush xm_102 xd_102_5 (by decide) hr_14
    rcases iv_icmp 14 xm_102 xd_102_7 (by decide) ix0 (by unfold sv_I; omega) hr_17 with ⟨c_18, n_19, e_20, hr_21⟩ | ⟨c_18, n_19, e_20, hr_21⟩
    · obtain ⟨n_22, e_23, hr_24⟩ := iv_iconst xm_102 xd_102_14 (by decide) hr_21
      have rr_25 := iv_ireturn xm_102 xd_102_15 hr_24
      subst rr_25
      exact ⟨_, Or.inr ⟨c_4, Or.inl ⟨c_18, ⟨rfl, rfl⟩⟩⟩, rfl, (by unfold sv_I; omega), ok⟩
    · obtain ⟨n_26, e_27, hr_28⟩ := iv_iconst xm_102 xd_102_10 (by decide) hr_21
      obtain ⟨n_29, e_30, hr_31⟩ := iv_goto 15 xm_102 xd_102_11 (by decide) hr_28
      have rr_32 := iv_ireturn xm_102 xd_102_15 hr_31
      subst rr_32
      exact ⟨_, Or.inr ⟨c_4, Or.inr ⟨c_18, ⟨rfl, rfl⟩⟩⟩, rfl, (by unfold sv_I; omega), ok⟩
/-! method 103 -/
theorem xm_103 : ae_m 103 = some (wk_M 103) := rfl
theorem xd_103_0 : decode (wk_M 103).2.2.1 0 = .ok (.iload_n 1, 1) := zd_by (by decide +kernel)
theorem xd_103_1 : decode (wk_M 103).2.2.1 1 = .ok (.invokestatic 37, 3) := zd_by (by decide +kernel)
theorem xd_103_4 : decode (wk_M 103).2.2.1 4 = .ok (.ifCond .eq 18, 3) := zd_by (by decide +kernel)
theorem xd_103_7 : decode (wk_M 103).2.2.1 7 = .ok (.aload_n 0, 1) := zd_by (by decide +kernel)
theorem xd_103_8 : decode (wk_M 103).2.2.1 8 = .ok (.getfield 41, 3) := zd_by (by decide +kernel)
theorem xd_103_11 : decode (wk_M 103).2.2.1 11 = .ok (.iload_n 1, 1) := zd_by (by decide +kernel)
theorem xd_103_12 : decode (wk_M 103).2.2.1 12 = .ok (.ishr, 1) := zd_by (by decide +kernel)
theorem xd_103_13 : decode (wk_M 103).2.2.1 13 = .ok (.iconst 1, 1) := zd_by (by decide +kernel)
theorem xd_103_14 : decode (wk_M 103).2.2.1 14 = .ok (.iand, 1) := zd_by (by decide +kernel)
theorem xd_103_15 : decode (wk_M 103).2.2.1 15 = .ok (.ifCond .eq 7, 3) := zd_by (by decide +kernel)
theorem xd_103_18 : decode (wk_M 103).2.2.1 18 = .ok (.iconst 1, 1) := zd_by (by decide +kernel)
theorem xd_103_19 : decode (wk_M 103).2.2.1 19 = .ok (.goto 4, 3) := zd_by (by decide +kernel)
theorem xd_103_22 : decode (wk_M 103).2.2.1 22 = .ok (.iconst 0, 1) := zd_by (by decide +kernel)
theorem xd_103_23 : decode (wk_M 103).2.2.1 23 = .ok (.ireturn, 1) := zd_by (by decide +kernel)
abbrev D_103 (x0 : Int) (m : dc_M) (v : Int) (m' : dc_M) : Prop := ∃ v_6 m_11, D_102 x0 m v_6 m_11 ∧ ((((v_6 : Int) = 0 ∧ (v = 0 ∧ m' = m_11)) ∨ (¬ ((v_6 : Int) = 0) ∧ (((((sv_g (sv_u (sv_g (ae_shr (sv_u (m_11 56 1)) (sv_u x0))) &&& sv_u 1)) : Int) = 0 ∧ (v = 0 ∧ m' = m_11)) ∨ (¬ (((sv_g (sv_u (sv_g (ae_shr (sv_u (m_11 56 1)) (sv_u x0))) &&& sv_u 1)) : Int) = 0) ∧ (v = 1 ∧ m' = m_11)))))))
theorem ds_103 (n : Nat) (x0 : Int) {h : ae_H} {r : ae_R} (ok : dc_ok h) (ix0 : sv_I x0) (hr : ae_exe n 103 0 0 0 (ae_args [wk_r 56, wk_i x0] 0) [] h = some r) : ∃ v, D_103 x0 (dc_m h) v (dc_m r.2) ∧ r.1 = some (wk_i v) ∧ sv_I v ∧ dc_ok r.2 := by
  have q0 : ae_lk (ae_args [wk_r 56, wk_i x0] 0) 0 = some (wk_r 56) := rfl
  have q1 : ae_lk (ae_args [wk_r 56, wk_i x0] 0) 1 = some (wk_i x0) := rfl
  obtain ⟨n_1, e_2, hr_3⟩ := iv_iload_n xm_103 xd_103_0 q1 hr
  obtain ⟨n_13, r_4, e_14, hc_5, hr_15⟩ := iv_call (Or.inl ⟨rfl, rfl⟩) xm_103 xd_103_1 (by decide +kernel) xm_102 rfl (by decide +kernel) hr_3
  obtain ⟨v_6, d_7, er_8, iv_9, ok_10⟩ := ds_102 _ _ ok ix0 hc_5
  obtain ⟨_, h_12⟩ := r_4
  have er_8 : _ = some (wk_i v_6) := er_8
  subst er_8
  have hr_16 : ae_exe n_13 103 (1 + 3) 0 0 (ae_args [wk_r 56, wk_i x0] 0) _ h_12 = some r := hr_15
  rcases iv_if 22 xm_103 xd_103_4 (by decide) iv_9 hr_16 with ⟨c_17, n_18, e_19, hr_20⟩ | ⟨c_17, n_18, e_19, hr_20⟩
  · obtain ⟨n_21, e_22, hr_23⟩ := iv_iconst xm_103 xd_103_22 (by decide) hr_20
    have rr_24 := iv_ireturn xm_103 xd_103_23 hr_23
    subst rr_24
    exact ⟨_, ⟨_, _, d_7, Or.inl ⟨c_17, ⟨rfl, rfl⟩⟩⟩, rfl, (by unfold sv_I; omega), ok_10⟩
  · obtain ⟨n_25, e_26, hr_27⟩ := iv_aload_n xm_103 xd_103_7 q0 hr_20
    have f_28 := dc_fi (j := 1) ok_10 (rfl : sv_ty 56 = some 8) dt_8 rfl
    obtain ⟨n_29, e_30, hr_31⟩ := iv_getf (j := 1) xm_103 xd_103_8 (by decide +kernel) ok_10 (rfl : sv_ty 56 = some 8) dt_8 f_28.1 hr_27
    obtain ⟨n_32, e_33, hr_34⟩ := iv_iload_n xm_103 xd_103_11 q1 hr_31
    obtain ⟨n_35, e_36, hr_37⟩ := iv_ibin (f := ae_shr) (Or.inl ⟨rfl, rfl⟩) (ae_shr_lt (sv_u_lt _)) xm_103 xd_103_12 hr_34
    obtain ⟨n_38, e_39, hr_40⟩ := iv_iconst xm_103 xd_103_13 (by decide) hr_37
    obtain ⟨n_41, e_42, hr_43⟩ := iv_iand xm_103 xd_103_14 hr_40
    rcases iv_if 22 xm_103 xd_103_15 (by decide) (sv_g_I (Nat.lt_of_le_of_lt Nat.and_le_right (sv_u_lt _))) hr_43 with ⟨c_44, n_45, e_46, hr_47⟩ | ⟨c_44, n_45, e_46, hr_47⟩
    · obtain ⟨n_48, e_49, hr_50⟩ := iv_iconst xm_103 xd_103_22 (by decide) hr_47
      have rr_51 := iv_ireturn xm_103 xd_103_23 hr_50
      subst rr_51
      exact ⟨_, ⟨_, _, d_7, Or.inr ⟨c_17, Or.inl ⟨c_44, ⟨rfl, rfl⟩⟩⟩⟩, rfl, (by unfold sv_I; omega), ok_10⟩
    · obtain ⟨n_52, e_53, hr_54⟩ := iv_iconst xm_103 xd_103_18 (by decide) hr_47
      obtain ⟨n_55, e_56, hr_57⟩ := iv_goto 23 xm_103 xd_103_19 (by decide) hr_54
      have rr_58 := iv_ireturn xm_103 xd_103_23 hr_57
      subst rr_58
      exact ⟨_, ⟨_, _, d_7, Or.inr ⟨c_17, Or.inr ⟨c_44, ⟨rfl, rfl⟩⟩⟩⟩, rfl, (by unfold sv_I; omega), ok_10⟩
/-! method 104 -/
theorem xm_104 : ae_m 104 = some (wk_M 104) := rfl
theorem xd_104_0 : decode (wk_M 104).2.2.1 0 = .ok (.aload_n 0, 1) := zd_by (by decide +kernel)
theorem xd_104_1 : decode (wk_M 104).2.2.1 1 = .ok (.getfield 13, 3) := zd_by (by decide +kernel)
theorem xd_104_4 : decode (wk_M 104).2.2.1 4 = .ok (.iload_n 1, 1) := zd_by (by decide +kernel)
theorem xd_104_5 : decode (wk_M 104).2.2.1 5 = .ok (.aaload, 1) := zd_by (by decide +kernel)
theorem xd_104_6 : decode (wk_M 104).2.2.1 6 = .ok (.aload_n 2, 1) := zd_by (by decide +kernel)
theorem xd_104_7 : decode (wk_M 104).2.2.1 7 = .ok (.invokevirtual 45, 3) := zd_by (by decide +kernel)
theorem xd_104_10 : decode (wk_M 104).2.2.1 10 = .ok (.aload_n 0, 1) := zd_by (by decide +kernel)
theorem xd_104_11 : decode (wk_M 104).2.2.1 11 = .ok (.dup, 1) := zd_by (by decide +kernel)
theorem xd_104_12 : decode (wk_M 104).2.2.1 12 = .ok (.getfield 41, 3) := zd_by (by decide +kernel)
theorem xd_104_15 : decode (wk_M 104).2.2.1 15 = .ok (.iconst 1, 1) := zd_by (by decide +kernel)
theorem xd_104_16 : decode (wk_M 104).2.2.1 16 = .ok (.iload_n 1, 1) := zd_by (by decide +kernel)
theorem xd_104_17 : decode (wk_M 104).2.2.1 17 = .ok (.ishl, 1) := zd_by (by decide +kernel)
theorem xd_104_18 : decode (wk_M 104).2.2.1 18 = .ok (.ior, 1) := zd_by (by decide +kernel)
theorem xd_104_19 : decode (wk_M 104).2.2.1 19 = .ok (.putfield 41, 3) := zd_by (by decide +kernel)
theorem xd_104_22 : decode (wk_M 104).2.2.1 22 = .ok (.return_, 1) := zd_by (by decide +kernel)
abbrev D_104 (x0 : Int) (k2 : Nat) (m : dc_M) (v : Int) (m' : dc_M) : Prop := (0 ≤ (x0 : Int) ∧ (x0 : Int) < 8) ∧ (∃ v_20 m_25, D_1 ((64 + 3 * (x0 : Int).toNat)) k2 m v_20 m_25 ∧ (∃ m_56, m_56 = dc_up m_25 56 1 (sv_g (sv_u (m_25 56 1) ||| sv_u (sv_g (ae_shl (sv_u 1) (sv_u x0))))) ∧ (v = 0 ∧ m' = m_56)))
theorem ds_104 (n : Nat) (x0 : Int) (k2 : Nat) {h : ae_H} {r : ae_R} (ok : dc_ok h) (ix0 : sv_I x0) (t_k2 : sv_ty k2 = some 0) (hr : ae_exe n 104 0 0 0 (ae_args [wk_r 56, wk_i x0, wk_r k2] 0) [] h = some r) : ∃ v, D_104 x0 k2 (dc_m h) v (dc_m r.2) ∧ r.1 = none ∧ sv_I v ∧ dc_ok r.2 := by
  have q0 : ae_lk (ae_args [wk_r 56, wk_i x0, wk_r k2] 0) 0 = some (wk_r 56) := rfl
  have q1 : ae_lk (ae_args [wk_r 56, wk_i x0, wk_r k2] 0) 1 = some (wk_i x0) := rfl
  have q2 : ae_lk (ae_args [wk_r 56, wk_i x0, wk_r k2] 0) 2 = some (wk_r k2) := rfl
  obtain ⟨n_1, e_2, hr_3⟩ := iv_aload_n xm_104 xd_104_0 q0 hr
  have f_4 := dc_fr (j := 0) ok (rfl : sv_ty 56 = some 8) dt_8 rfl
  obtain ⟨n_5, e_6, hr_7⟩ := iv_getf (j := 0) xm_104 xd_104_1 (by decide +kernel) ok (rfl : sv_ty 56 = some 8) dt_8 f_4 hr_3
  obtain ⟨n_8, e_9, hr_10⟩ := iv_iload_n xm_104 xd_104_4 q1 hr_7
  obtain ⟨q_11, n_12, e_13, hr_14⟩ := iv_aald xm_104 xd_104_5 ok (rfl : sv_ty 57 = some 54) dt_54 (by decide) ix0 hr_10
  obtain ⟨n_15, e_16, hr_17⟩ := iv_aload_n xm_104 xd_104_6 q2 hr_14
  obtain ⟨n_27, r_18, e_28, hc_19, hr_29⟩ := iv_call (Or.inr ⟨rfl, rfl⟩) xm_104 xd_104_7 (by decide +kernel) xm_1 rfl (by decide +kernel) hr_17
  obtain ⟨v_20, d_21, er_22, iv_23, ok_24⟩ := ds_1 _ _ _ ok (dk_row q_11) t_k2 hc_19
  obtain ⟨_, h_26⟩ := r_18
  have er_22 : _ = none := er_22
  subst er_22
  have hr_30 : ae_exe n_27 104 (7 + 3) 0 0 (ae_args [wk_r 56, wk_i x0, wk_r k2] 0) _ h_26 = some r := hr_29
  obtain ⟨n_31, e_32, hr_33⟩ := iv_aload_n xm_104 xd_104_10 q0 hr_30
  obtain ⟨n_34, e_35, hr_36⟩ := iv_dup xm_104 xd_104_11 rfl hr_33
  have f_37 := dc_fi (j := 1) ok_24 (rfl : sv_ty 56 = some 8) dt_8 rfl
  obtain ⟨n_38, e_39, hr_40⟩ := iv_getf (j := 1) xm_104 xd_104_12 (by decide +kernel) ok_24 (rfl : sv_ty 56 = some 8) dt_8 f_37.1 hr_36
  obtain ⟨n_41, e_42, hr_43⟩ := iv_iconst xm_104 xd_104_15 (by decide) hr_40
  obtain ⟨n_44, e_45, hr_46⟩ := iv_iload_n xm_104 xd_104_16 q1 hr_43
  obtain ⟨n_47, e_48, hr_49⟩ := iv_ibin (f := ae_shl) (Or.inr (Or.inl ⟨rfl, rfl⟩)) (Nat.mod_lt _ (by decide)) xm_104 xd_104_17 hr_46
  obtain ⟨n_50, e_51, hr_52⟩ := iv_ior xm_104 xd_104_18 hr_49
  obtain ⟨h_53, ok_54, em_55, n_57, e_58, hr_59⟩ := iv_puti (j := 1) (fk := 0) xm_104 xd_104_19 (by decide +kernel) ok_24 (rfl : sv_ty 56 = some 8) dt_8 rfl (by decide +kernel) rfl (sv_g_I (show _ < 2 ^ 32 from Nat.or_lt_two_pow (sv_u_lt _) (sv_u_lt _))) hr_52
  have rr_60 := iv_return xm_104 xd_104_22 hr_59 rfl
  subst rr_60
  exact ⟨_, ⟨q_11, ⟨_, _, d_21, ⟨_, em_55, ⟨rfl, rfl⟩⟩⟩⟩, rfl, (by unfold sv_I; omega), ok_54⟩
/-! method 176 -/
theorem xm_176 : ae_m 176 = some (wk_M 176) := rfl
theorem xd_176_0 : decode (wk_M 176).2.2.1 0 = .ok (.iload_n 1, 1) := zd_by (by decide +kernel)
theorem xd_176_1 : decode (wk_M 176).2.2.1 1 = .ok (.invokestatic 278, 3) := zd_by (by decide +kernel)
theorem xd_176_4 : decode (wk_M 176).2.2.1 4 = .ok (.ifCond .ne 5, 3) := zd_by (by decide +kernel)
theorem xd_176_7 : decode (wk_M 176).2.2.1 7 = .ok (.iconst 0, 1) := zd_by (by decide +kernel)
theorem xd_176_8 : decode (wk_M 176).2.2.1 8 = .ok (.ireturn, 1) := zd_by (by decide +kernel)
theorem xd_176_9 : decode (wk_M 176).2.2.1 9 = .ok (.aload_n 0, 1) := zd_by (by decide +kernel)
theorem xd_176_10 : decode (wk_M 176).2.2.1 10 = .ok (.getfield 58, 3) := zd_by (by decide +kernel)
theorem xd_176_13 : decode (wk_M 176).2.2.1 13 = .ok (.iload_n 1, 1) := zd_by (by decide +kernel)
theorem xd_176_14 : decode (wk_M 176).2.2.1 14 = .ok (.aload_n 0, 1) := zd_by (by decide +kernel)
theorem xd_176_15 : decode (wk_M 176).2.2.1 15 = .ok (.getfield 72, 3) := zd_by (by decide +kernel)
theorem xd_176_18 : decode (wk_M 176).2.2.1 18 = .ok (.invokevirtual 281, 3) := zd_by (by decide +kernel)
theorem xd_176_21 : decode (wk_M 176).2.2.1 21 = .ok (.iconst 1, 1) := zd_by (by decide +kernel)
theorem xd_176_22 : decode (wk_M 176).2.2.1 22 = .ok (.ireturn, 1) := zd_by (by decide +kernel)
abbrev D_176 (x0 : Int) (m : dc_M) (v : Int) (m' : dc_M) : Prop := ∃ v_6 m_11, D_102 x0 m v_6 m_11 ∧ ((((v_6 : Int) ≠ 0 ∧ (∃ v_40 m_45, D_104 x0 ((m_11 0 8).toNat) m_11 v_40 m_45 ∧ (v = 1 ∧ m' = m_45))) ∨ (¬ ((v_6 : Int) ≠ 0) ∧ (v = 0 ∧ m' = m_11))))
theorem ds_176 (n : Nat) (x0 : Int) {h : ae_H} {r : ae_R} (ok : dc_ok h) (ix0 : sv_I x0) (hr : ae_exe n 176 0 0 0 (ae_args [wk_r 0, wk_i x0] 0) [] h = some r) : ∃ v, D_176 x0 (dc_m h) v (dc_m r.2) ∧ r.1 = some (wk_i v) ∧ sv_I v ∧ dc_ok r.2 := by
  have q0 : ae_lk (ae_args [wk_r 0, wk_i x0] 0) 0 = some (wk_r 0) := rfl
  have q1 : ae_lk (ae_args [wk_r 0, wk_i x0] 0) 1 = some (wk_i x0) := rfl
  obtain ⟨n_1, e_2, hr_3⟩ := iv_iload_n xm_176 xd_176_0 q1 hr
  obtain ⟨n_13, r_4, e_14, hc_5, hr_15⟩ := iv_call (Or.inl ⟨rfl, rfl⟩) xm_176 xd_176_1 (by decide +kernel) xm_102 rfl (by decide +kernel) hr_3
  obtain ⟨v_6, d_7, er_8, iv_9, ok_10⟩ := ds_102 _ _ ok ix0 hc_5
  obtain ⟨_, h_12⟩ := r_4
  have er_8 : _ = some (wk_i v_6) := er_8
  subst er_8
  have hr_16 : ae_exe n_13 176 (1 + 3) 0 0 (ae_args [wk_r 0, wk_i x0] 0) _ h_12 = some r := hr_15
  rcases iv_if 9 xm_176 xd_176_4 (by decide) iv_9 hr_16 with ⟨c_17, n_18, e_19, hr_20⟩ | ⟨c_17, n_18, e_19, hr_20⟩
  · obtain ⟨n_21, e_22, hr_23⟩ := iv_aload_n xm_176 xd_176_9 q0 hr_20
    have f_24 := dc_fr (j := 6) ok_10 (rfl : sv_ty 0 = some 11) dt_11 rfl
    obtain ⟨n_25, e_26, hr_27⟩ := iv_getf (j := 6) xm_176 xd_176_10 (by decide +kernel) ok_10 (rfl : sv_ty 0 = some 11) dt_11 f_24 hr_23
    obtain ⟨n_28, e_29, hr_30⟩ := iv_iload_n xm_176 xd_176_13 q1 hr_27
    obtain ⟨n_31, e_32, hr_33⟩ := iv_aload_n xm_176 xd_176_14 q0 hr_30
    have f_34 := dc_ft (j := 8) ok_10 (rfl : sv_ty 0 = some 11) dt_11 rfl
    obtain ⟨n_35, e_36, hr_37⟩ := iv_getf (j := 8) xm_176 xd_176_15 (by decide +kernel) ok_10 (rfl : sv_ty 0 = some 11) dt_11 f_34.1 hr_33
    obtain ⟨n_47, r_38, e_48, hc_39, hr_49⟩ := iv_call (Or.inr ⟨rfl, rfl⟩) xm_176 xd_176_18 (by decide +kernel) xm_104 rfl (by decide +kernel) hr_37
    obtain ⟨v_40, d_41, er_42, iv_43, ok_44⟩ := ds_104 _ _ _ ok_10 ix0 f_34.2 hc_39
    obtain ⟨_, h_46⟩ := r_38
    have er_42 : _ = none := er_42
    subst er_42
    have hr_50 : ae_exe n_47 176 (18 + 3) 0 0 (ae_args [wk_r 0, wk_i x0] 0) _ h_46 = some r := hr_49
    obtain ⟨n_51, e_52, hr_53⟩ := iv_iconst xm_176 xd_176_21 (by decide) hr_50
    have rr_54 := iv_ireturn xm_176 xd_176_22 hr_53
    subst rr_54
    exact ⟨_, ⟨_, _, d_7, Or.inl ⟨c_17, ⟨_, _, d_41, ⟨rfl, rfl⟩⟩⟩⟩, rfl, (by unfold sv_I; omega), ok_44⟩
  · obtain ⟨n_55, e_56, hr_57⟩ := iv_iconst xm_176 xd_176_7 (by decide) hr_20
    have rr_58 := iv_ireturn xm_176 xd_176_8 hr_57
    subst rr_58
    exact ⟨_, ⟨_, _, d_7, Or.inr ⟨c_17, ⟨rfl, rfl⟩⟩⟩, rfl, (by unfold sv_I; omega), ok_10⟩
/-! method 177 -/
theorem xm_177 : ae_m 177 = some (wk_M 177) := rfl
theorem xd_177_0 : decode (wk_M 177).2.2.1 0 = .ok (.aload_n 0, 1) := zd_by (by decide +kernel)
theorem xd_177_1 : decode (wk_M 177).2.2.1 1 = .ok (.getfield 58, 3) := zd_by (by decide +kernel)
theorem xd_177_4 : decode (wk_M 177).2.2.1 4 = .ok (.iload_n 1, 1) := zd_by (by decide +kernel)
theorem xd_177_5 : decode (wk_M 177).2.2.1 5 = .ok (.invokevirtual 285, 3) := zd_by (by decide +kernel)
theorem xd_177_8 : decode (wk_M 177).2.2.1 8 = .ok (.ifCond .ne 5, 3) := zd_by (by decide +kernel)
theorem xd_177_11 : decode (wk_M 177).2.2.1 11 = .ok (.iconst (-1), 1) := zd_by (by decide +kernel)
theorem xd_177_12 : decode (wk_M 177).2.2.1 12 = .ok (.ireturn, 1) := zd_by (by decide +kernel)
theorem xd_177_13 : decode (wk_M 177).2.2.1 13 = .ok (.aload_n 0, 1) := zd_by (by decide +kernel)
theorem xd_177_14 : decode (wk_M 177).2.2.1 14 = .ok (.getfield 72, 3) := zd_by (by decide +kernel)
theorem xd_177_17 : decode (wk_M 177).2.2.1 17 = .ok (.aload_n 0, 1) := zd_by (by decide +kernel)
theorem xd_177_18 : decode (wk_M 177).2.2.1 18 = .ok (.getfield 58, 3) := zd_by (by decide +kernel)
theorem xd_177_21 : decode (wk_M 177).2.2.1 21 = .ok (.getfield 288, 3) := zd_by (by decide +kernel)
theorem xd_177_24 : decode (wk_M 177).2.2.1 24 = .ok (.iload_n 1, 1) := zd_by (by decide +kernel)
theorem xd_177_25 : decode (wk_M 177).2.2.1 25 = .ok (.aaload, 1) := zd_by (by decide +kernel)
theorem xd_177_26 : decode (wk_M 177).2.2.1 26 = .ok (.invokevirtual 292, 3) := zd_by (by decide +kernel)
theorem xd_177_29 : decode (wk_M 177).2.2.1 29 = .ok (.aload_n 0, 1) := zd_by (by decide +kernel)
theorem xd_177_30 : decode (wk_M 177).2.2.1 30 = .ok (.getfield 72, 3) := zd_by (by decide +kernel)
theorem xd_177_33 : decode (wk_M 177).2.2.1 33 = .ok (.getfield 140, 3) := zd_by (by decide +kernel)
theorem xd_177_36 : decode (wk_M 177).2.2.1 36 = .ok (.ireturn, 1) := zd_by (by decide +kernel)
abbrev D_177 (x0 : Int) (m : dc_M) (v : Int) (m' : dc_M) : Prop := ∃ v_13 m_18, D_103 x0 m v_13 m_18 ∧ ((((v_13 : Int) ≠ 0 ∧ ((0 ≤ (x0 : Int) ∧ (x0 : Int) < 8) ∧ (∃ v_55 m_60, D_1 ((m_18 0 8).toNat) ((64 + 3 * (x0 : Int).toNat)) m_18 v_55 m_60 ∧ (v = (m_60 (m_60 0 8).toNat 2) ∧ m' = m_60)))) ∨ (¬ ((v_13 : Int) ≠ 0) ∧ (v = (-1) ∧ m' = m_18))))
theorem ds_177 (n : Nat) (x0 : Int) {h : ae_H} {r : ae_R} (ok : dc_ok h) (ix0 : sv_I x0) (hr : ae_exe n 177 0 0 0 (ae_args [wk_r 0, wk_i x0] 0) [] h = some r) : ∃ v, D_177 x0 (dc_m h) v (dc_m r.2) ∧ r.1 = some (wk_i v) ∧ sv_I v ∧ dc_ok r.2 := by
  have q0 : ae_lk (ae_args [wk_r 0, wk_i x0] 0) 0 = some (wk_r 0) := rfl
  have q1 : ae_lk (ae_args [wk_r 0, wk_i x0] 0) 1 = some (wk_i x0) := rfl
  obtain ⟨n_1, e_2, hr_3⟩ := iv_aload_n xm_177 xd_177_0 q0 hr
  have f_4 := dc_fr (j := 6) ok (rfl : sv_ty 0 = some 11) dt_11 rfl
  obtain ⟨n_5, e_6, hr_7⟩ := iv_getf (j := 6) xm_177 xd_177_1 (by decide +kernel) ok (rfl : sv_ty 0 = some 11) dt_11 f_4 hr_3
  obtain ⟨n_8, e_9, hr_10⟩ := iv_iload_n xm_177 xd_177_4 q1 hr_7
  obtain ⟨n_20, r_11, e_21, hc_12, hr_22⟩ := iv_call (Or.inr ⟨rfl, rfl⟩) xm_177 xd_177_5 (by decide +kernel) xm_103 rfl (by decide +kernel) hr_10
  obtain ⟨v_13, d_14, er_15, iv_16, ok_17⟩ := ds_103 _ _ ok ix0 hc_12
  obtain ⟨_, h_19⟩ := r_11
  have er_15 : _ = some (wk_i v_13) := er_15
  subst er_15
  have hr_23 : ae_exe n_20 177 (5 + 3) 0 0 (ae_args [wk_r 0, wk_i x0] 0) _ h_19 = some r := hr_22
  rcases iv_if 13 xm_177 xd_177_8 (by decide) iv_16 hr_23 with ⟨c_24, n_25, e_26, hr_27⟩ | ⟨c_24, n_25, e_26, hr_27⟩
  · obtain ⟨n_28, e_29, hr_30⟩ := iv_aload_n xm_177 xd_177_13 q0 hr_27
    have f_31 := dc_ft (j := 8) ok_17 (rfl : sv_ty 0 = some 11) dt_11 rfl
    obtain ⟨n_32, e_33, hr_34⟩ := iv_getf (j := 8) xm_177 xd_177_14 (by decide +kernel) ok_17 (rfl : sv_ty 0 = some 11) dt_11 f_31.1 hr_30
    obtain ⟨n_35, e_36, hr_37⟩ := iv_aload_n xm_177 xd_177_17 q0 hr_34
    have f_38 := dc_fr (j := 6) ok_17 (rfl : sv_ty 0 = some 11) dt_11 rfl
    obtain ⟨n_39, e_40, hr_41⟩ := iv_getf (j := 6) xm_177 xd_177_18 (by decide +kernel) ok_17 (rfl : sv_ty 0 = some 11) dt_11 f_38 hr_37
    have f_42 := dc_fr (j := 0) ok_17 (rfl : sv_ty 56 = some 8) dt_8 rfl
    obtain ⟨n_43, e_44, hr_45⟩ := iv_getf (j := 0) xm_177 xd_177_21 (by decide +kernel) ok_17 (rfl : sv_ty 56 = some 8) dt_8 f_42 hr_41
    obtain ⟨n_46, e_47, hr_48⟩ := iv_iload_n xm_177 xd_177_24 q1 hr_45
    obtain ⟨q_49, n_50, e_51, hr_52⟩ := iv_aald xm_177 xd_177_25 ok_17 (rfl : sv_ty 57 = some 54) dt_54 (by decide) ix0 hr_48
    obtain ⟨n_62, r_53, e_63, hc_54, hr_64⟩ := iv_call (Or.inr ⟨rfl, rfl⟩) xm_177 xd_177_26 (by decide +kernel) xm_1 rfl (by decide +kernel) hr_52
    obtain ⟨v_55, d_56, er_57, iv_58, ok_59⟩ := ds_1 _ _ _ ok_17 f_31.2 (dk_row q_49) hc_54
    obtain ⟨_, h_61⟩ := r_53
    have er_57 : _ = none := er_57
    subst er_57
    have hr_65 : ae_exe n_62 177 (26 + 3) 0 0 (ae_args [wk_r 0, wk_i x0] 0) _ h_61 = some r := hr_64
    obtain ⟨n_66, e_67, hr_68⟩ := iv_aload_n xm_177 xd_177_29 q0 hr_65
    have f_69 := dc_ft (j := 8) ok_59 (rfl : sv_ty 0 = some 11) dt_11 rfl
    obtain ⟨n_70, e_71, hr_72⟩ := iv_getf (j := 8) xm_177 xd_177_30 (by decide +kernel) ok_59 (rfl : sv_ty 0 = some 11) dt_11 f_69.1 hr_68
    have f_73 := dc_fi (j := 2) ok_59 f_69.2 dt_0 rfl
    obtain ⟨n_74, e_75, hr_76⟩ := iv_getf (j := 2) xm_177 xd_177_33 (by decide +kernel) ok_59 f_69.2 dt_0 f_73.1 hr_72
    have rr_77 := iv_ireturn xm_177 xd_177_36 hr_76
    subst rr_77
    exact ⟨_, ⟨_, _, d_14, Or.inl ⟨c_24, ⟨q_49, ⟨_, _, d_56, ⟨rfl, rfl⟩⟩⟩⟩⟩, rfl, f_73.2, ok_59⟩
  · obtain ⟨n_78, e_79, hr_80⟩ := iv_iconst xm_177 xd_177_11 (by decide) hr_27
    have rr_81 := iv_ireturn xm_177 xd_177_12 hr_80
    subst rr_81
    exact ⟨_, ⟨_, _, d_14, Or.inr ⟨c_24, ⟨rfl, rfl⟩⟩⟩, rfl, (by unfold sv_I; omega), ok_17⟩
