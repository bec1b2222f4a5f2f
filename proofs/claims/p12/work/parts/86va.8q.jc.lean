/-! method 121 -/
theorem xm_121 : ae_m 121 = some (wk_M 121) := rfl
theorem xd_121_0 : decode (wk_M 121).2.2.1 0 = .ok (.aload_n 0, 1) := zd_by (by decide +kernel)
theorem xd_121_1 : decode (wk_M 121).2.2.1 1 = .ok (.getfield 46, 3) := zd_by (by decide +kernel)
theorem xd_121_4 : decode (wk_M 121).2.2.1 4 = .ok (.iconst 1, 1) := zd_by (by decide +kernel)
theorem xd_121_5 : decode (wk_M 121).2.2.1 5 = .ok (.if_icmp .ne 27, 3) := zd_by (by decide +kernel)
theorem xd_121_8 : decode (wk_M 121).2.2.1 8 = .ok (.aload_n 0, 1) := zd_by (by decide +kernel)
theorem xd_121_9 : decode (wk_M 121).2.2.1 9 = .ok (.getfield 43, 3) := zd_by (by decide +kernel)
theorem xd_121_12 : decode (wk_M 121).2.2.1 12 = .ok (.aload_n 1, 1) := zd_by (by decide +kernel)
theorem xd_121_13 : decode (wk_M 121).2.2.1 13 = .ok (.invokevirtual 67, 3) := zd_by (by decide +kernel)
theorem xd_121_16 : decode (wk_M 121).2.2.1 16 = .ok (.if_icmp .ne 16, 3) := zd_by (by decide +kernel)
theorem xd_121_19 : decode (wk_M 121).2.2.1 19 = .ok (.aload_n 0, 1) := zd_by (by decide +kernel)
theorem xd_121_20 : decode (wk_M 121).2.2.1 20 = .ok (.aload_n 1, 1) := zd_by (by decide +kernel)
theorem xd_121_21 : decode (wk_M 121).2.2.1 21 = .ok (.iconst 0, 1) := zd_by (by decide +kernel)
theorem xd_121_22 : decode (wk_M 121).2.2.1 22 = .ok (.invokevirtual 72, 3) := zd_by (by decide +kernel)
theorem xd_121_25 : decode (wk_M 121).2.2.1 25 = .ok (.ifCond .eq 7, 3) := zd_by (by decide +kernel)
theorem xd_121_28 : decode (wk_M 121).2.2.1 28 = .ok (.iconst 1, 1) := zd_by (by decide +kernel)
theorem xd_121_29 : decode (wk_M 121).2.2.1 29 = .ok (.goto 4, 3) := zd_by (by decide +kernel)
theorem xd_121_32 : decode (wk_M 121).2.2.1 32 = .ok (.iconst 0, 1) := zd_by (by decide +kernel)
theorem xd_121_33 : decode (wk_M 121).2.2.1 33 = .ok (.ireturn, 1) := zd_by (by decide +kernel)
abbrev D_121 (s0 : Nat) (m : dc_M) (v : Int) (m' : dc_M) : Prop := ((((m 1 4) : Int) ≠ 1 ∧ (v = 0 ∧ m' = m)) ∨ (¬ (((m 1 4) : Int) ≠ 1) ∧ (((((m 1 6) : Int) ≠ ((dc_xs s0).length : Int) ∧ (v = 0 ∧ m' = m)) ∨ (¬ (((m 1 6) : Int) ≠ ((dc_xs s0).length : Int)) ∧ (∃ v_51 m_56, D_122 s0 0 m v_51 m_56 ∧ ((((v_51 : Int) = 0 ∧ (v = 0 ∧ m' = m_56)) ∨ (¬ ((v_51 : Int) = 0) ∧ (v = 1 ∧ m' = m_56))))))))))
theorem ds_121 (n : Nat) (s0 : Nat) {h : ae_H} {r : ae_R} (ok : dc_ok h) (is0 : 259 ≤ s0 ∧ s0 < 265) (hr : ae_exe n 121 0 0 0 (ae_args [wk_r 1, wk_r s0] 0) [] h = some r) : ∃ v, D_121 s0 (dc_m h) v (dc_m r.2) ∧ r.1 = some (wk_i v) ∧ sv_I v ∧ dc_ok r.2 := by
  have q0 : ae_lk (ae_args [wk_r 1, wk_r s0] 0) 0 = some (wk_r 1) := rfl
  have q1 : ae_lk (ae_args [wk_r 1, wk_r s0] 0) 1 = some (wk_r s0) := rfl
  obtain ⟨n_1, e_2, hr_3⟩ := iv_aload_n xm_121 xd_121_0 q0 hr
  have f_4 := dc_fi (j := 4) ok (rfl : sv_ty 1 = some 9) dt_9 rfl
  obtain ⟨n_5, e_6, hr_7⟩ := iv_getf (j := 4) xm_121 xd_121_1 (by decide +kernel) ok (rfl : sv_ty 1 = some 9) dt_9 f_4.1 hr_3
  obtain ⟨n_8, e_9, hr_10⟩ := iv_iconst xm_121 xd_121_4 (by decide) hr_7
  rcases iv_icmp 32 xm_121 xd_121_5 (by decide) f_4.2 (by unfold sv_I; omega) hr_10 with ⟨c_11, n_12, e_13, hr_14⟩ | ⟨c_11, n_12, e_13, hr_14⟩
  · obtain ⟨n_15, e_16, hr_17⟩ := iv_iconst xm_121 xd_121_32 (by decide) hr_14
    have rr_18 := iv_ireturn xm_121 xd_121_33 hr_17
    subst rr_18
    exact ⟨_, Or.inl ⟨c_11, ⟨rfl, rfl⟩⟩, rfl, (by unfold sv_I; omega), ok⟩
  · obtain ⟨n_19, e_20, hr_21⟩ := iv_aload_n xm_121 xd_121_8 q0 hr_14
    have f_22 := dc_fi (j := 6) ok (rfl : sv_ty 1 = some 9) dt_9 rfl
    obtain ⟨n_23, e_24, hr_25⟩ := iv_getf (j := 6) xm_121 xd_121_9 (by decide +kernel) ok (rfl : sv_ty 1 = some 9) dt_9 f_22.1 hr_21
    obtain ⟨n_26, e_27, hr_28⟩ := iv_aload_n xm_121 xd_121_12 q1 hr_25
    obtain ⟨n_29, e_30, hr_31⟩ := iw_slen (k := s0) (a := 0) (b := 0) (l := (dc_xs s0)) xm_121 xd_121_13 (by decide +kernel) (by omega) (dc_xs_at is0) hr_28
    rcases iv_icmp 32 xm_121 xd_121_16 (by decide) f_22.2 (dc_len_I (dc_xs_len is0)) hr_31 with ⟨c_32, n_33, e_34, hr_35⟩ | ⟨c_32, n_33, e_34, hr_35⟩
    · obtain ⟨n_36, e_37, hr_38⟩ := iv_iconst xm_121 xd_121_32 (by decide) hr_35
      have rr_39 := iv_ireturn xm_121 xd_121_33 hr_38
      subst rr_39
      exact ⟨_, Or.inr ⟨c_11, Or.inl ⟨c_32, ⟨rfl, rfl⟩⟩⟩, rfl, (by unfold sv_I; omega), ok⟩
    · obtain ⟨n_40, e_41, hr_42⟩ := iv_aload_n xm_121 xd_121_19 q0 hr_35
      obtain ⟨n_43, e_44, hr_45⟩ := iv_aload_n xm_121 xd_121_20 q1 hr_42
      obtain ⟨n_46, e_47, hr_48⟩ := iv_iconst xm_121 xd_121_21 (by decide) hr_45
      obtain ⟨n_58, r_49, e_59, hc_50, hr_60⟩ := iv_call (Or.inr ⟨rfl, rfl⟩) xm_121 xd_121_22 (by decide +kernel) xm_122 rfl (by decide +kernel) hr_48
      obtain ⟨v_51, d_52, er_53, iv_54, ok_55⟩ := ds_122 _ _ _ ok is0 (by unfold sv_I; omega) hc_50
      obtain ⟨_, h_57⟩ := r_49
      have er_53 : _ = some (wk_i v_51) := er_53
      subst er_53
      have hr_61 : ae_exe n_58 121 (22 + 3) 0 0 (ae_args [wk_r 1, wk_r s0] 0) _ h_57 = some r := hr_60
      rcases iv_if 32 xm_121 xd_121_25 (by decide) iv_54 hr_61 with ⟨c_62, n_63, e_64, hr_65⟩ | ⟨c_62, n_63, e_64, hr_65⟩
      · obtain ⟨n_66, e_67, hr_68⟩ := iv_iconst xm_121 xd_121_32 (by decide) hr_65
        have rr_69 := iv_ireturn xm_121 xd_121_33 hr_68
        subst rr_69
        exact ⟨_, Or.inr ⟨c_11, Or.inr ⟨c_32, ⟨_, _, d_52, Or.inl ⟨c_62, ⟨rfl, rfl⟩⟩⟩⟩⟩, rfl, (by unfold sv_I; omega), ok_55⟩
      · obtain ⟨n_70, e_71, hr_72⟩ := iv_iconst xm_121 xd_121_28 (by decide) hr_65
        obtain ⟨n_73, e_74, hr_75⟩ := iv_goto 33 xm_121 xd_121_29 (by decide) hr_72
        have rr_76 := iv_ireturn xm_121 xd_121_33 hr_75
        subst rr_76
        exact ⟨_, Or.inr ⟨c_11, Or.inr ⟨c_32, ⟨_, _, d_52, Or.inr ⟨c_62, ⟨rfl, rfl⟩⟩⟩⟩⟩, rfl, (by unfold sv_I; omega), ok_55⟩
/-! method 44 -/
theorem xm_44 : ae_m 44 = some (wk_M 44) := rfl
theorem xd_44_0 : decode (wk_M 44).2.2.1 0 = .ok (.aload_n 0, 1) := zd_by (by decide +kernel)
theorem xd_44_1 : decode (wk_M 44).2.2.1 1 = .ok (.getfield 24, 3) := zd_by (by decide +kernel)
theorem xd_44_4 : decode (wk_M 44).2.2.1 4 = .ok (.aload_n 0, 1) := zd_by (by decide +kernel)
theorem xd_44_5 : decode (wk_M 44).2.2.1 5 = .ok (.getfield 40, 3) := zd_by (by decide +kernel)
theorem xd_44_8 : decode (wk_M 44).2.2.1 8 = .ok (.iload_n 1, 1) := zd_by (by decide +kernel)
theorem xd_44_9 : decode (wk_M 44).2.2.1 9 = .ok (.iastore, 1) := zd_by (by decide +kernel)
theorem xd_44_10 : decode (wk_M 44).2.2.1 10 = .ok (.aload_n 0, 1) := zd_by (by decide +kernel)
theorem xd_44_11 : decode (wk_M 44).2.2.1 11 = .ok (.getfield 33, 3) := zd_by (by decide +kernel)
theorem xd_44_14 : decode (wk_M 44).2.2.1 14 = .ok (.aload_n 0, 1) := zd_by (by decide +kernel)
theorem xd_44_15 : decode (wk_M 44).2.2.1 15 = .ok (.getfield 40, 3) := zd_by (by decide +kernel)
theorem xd_44_18 : decode (wk_M 44).2.2.1 18 = .ok (.iload_n 2, 1) := zd_by (by decide +kernel)
theorem xd_44_19 : decode (wk_M 44).2.2.1 19 = .ok (.iastore, 1) := zd_by (by decide +kernel)
theorem xd_44_20 : decode (wk_M 44).2.2.1 20 = .ok (.aload_n 0, 1) := zd_by (by decide +kernel)
theorem xd_44_21 : decode (wk_M 44).2.2.1 21 = .ok (.dup, 1) := zd_by (by decide +kernel)
theorem xd_44_22 : decode (wk_M 44).2.2.1 22 = .ok (.getfield 40, 3) := zd_by (by decide +kernel)
theorem xd_44_25 : decode (wk_M 44).2.2.1 25 = .ok (.iconst 1, 1) := zd_by (by decide +kernel)
theorem xd_44_26 : decode (wk_M 44).2.2.1 26 = .ok (.iadd, 1) := zd_by (by decide +kernel)
theorem xd_44_27 : decode (wk_M 44).2.2.1 27 = .ok (.putfield 40, 3) := zd_by (by decide +kernel)
theorem xd_44_30 : decode (wk_M 44).2.2.1 30 = .ok (.iconst 1, 1) := zd_by (by decide +kernel)
theorem xd_44_31 : decode (wk_M 44).2.2.1 31 = .ok (.ireturn, 1) := zd_by (by decide +kernel)
abbrev D_44 (k0 : Nat) (x0 : Int) (x1 : Int) (m : dc_M) (v : Int) (m' : dc_M) : Prop := (0 ≤ ((m k0 9) : Int) ∧ ((m k0 9) : Int) < 8) ∧ ∃ m_22, m_22 = dc_up m (k0 + 5) (m k0 9) x0 ∧ ((0 ≤ ((m_22 k0 9) : Int) ∧ ((m_22 k0 9) : Int) < 8) ∧ ∃ m_47, m_47 = dc_up m_22 (k0 + 8) (m_22 k0 9) x1 ∧ (∃ m_70, m_70 = dc_up m_47 k0 9 (dc_w ((m_47 k0 9) + 1)) ∧ (v = 1 ∧ m' = m_70)))
theorem ds_44 (n : Nat) (k0 : Nat) (x0 : Int) (x1 : Int) {h : ae_H} {r : ae_R} (ok : dc_ok h) (t_k0 : sv_ty k0 = some 2) (ix0 : sv_I x0) (ix1 : sv_I x1) (hr : ae_exe n 44 0 0 0 (ae_args [wk_r k0, wk_i x0, wk_i x1] 0) [] h = some r) : ∃ v, D_44 k0 x0 x1 (dc_m h) v (dc_m r.2) ∧ r.1 = some (wk_i v) ∧ sv_I v ∧ dc_ok r.2 := by
  have q0 : ae_lk (ae_args [wk_r k0, wk_i x0, wk_i x1] 0) 0 = some (wk_r k0) := rfl
  have q1 : ae_lk (ae_args [wk_r k0, wk_i x0, wk_i x1] 0) 1 = some (wk_i x0) := rfl
  have q2 : ae_lk (ae_args [wk_r k0, wk_i x0, wk_i x1] 0) 2 = some (wk_i x1) := rfl
  obtain ⟨n_1, e_2, hr_3⟩ := iv_aload_n xm_44 xd_44_0 q0 hr
  have f_4 := dc_fr (j := 5) ok t_k0 dt_2 rfl
  obtain ⟨n_5, e_6, hr_7⟩ := iv_getf (j := 5) xm_44 xd_44_1 (by decide +kernel) ok t_k0 dt_2 f_4 hr_3
  obtain ⟨n_8, e_9, hr_10⟩ := iv_aload_n xm_44 xd_44_4 q0 hr_7
  have f_11 := dc_fi (j := 9) ok t_k0 dt_2 rfl
  obtain ⟨n_12, e_13, hr_14⟩ := iv_getf (j := 9) xm_44 xd_44_5 (by decide +kernel) ok t_k0 dt_2 f_11.1 hr_10
  obtain ⟨n_15, e_16, hr_17⟩ := iv_iload_n xm_44 xd_44_8 q1 hr_14
  obtain ⟨q_18, h_19, ok_20, em_21, n_23, e_24, hr_25⟩ := iv_iast xm_44 xd_44_9 ok (do_2_5 t_k0) dt_44 (by decide) f_11.2 ix0 hr_17
  obtain ⟨n_26, e_27, hr_28⟩ := iv_aload_n xm_44 xd_44_10 q0 hr_25
  have f_29 := dc_fr (j := 8) ok_20 t_k0 dt_2 rfl
  obtain ⟨n_30, e_31, hr_32⟩ := iv_getf (j := 8) xm_44 xd_44_11 (by decide +kernel) ok_20 t_k0 dt_2 f_29 hr_28
  obtain ⟨n_33, e_34, hr_35⟩ := iv_aload_n xm_44 xd_44_14 q0 hr_32
  have f_36 := dc_fi (j := 9) ok_20 t_k0 dt_2 rfl
  obtain ⟨n_37, e_38, hr_39⟩ := iv_getf (j := 9) xm_44 xd_44_15 (by decide +kernel) ok_20 t_k0 dt_2 f_36.1 hr_35
  obtain ⟨n_40, e_41, hr_42⟩ := iv_iload_n xm_44 xd_44_18 q2 hr_39
  obtain ⟨q_43, h_44, ok_45, em_46, n_48, e_49, hr_50⟩ := iv_iast xm_44 xd_44_19 ok_20 (do_2_8 t_k0) dt_47 (by decide) f_36.2 ix1 hr_42
  obtain ⟨n_51, e_52, hr_53⟩ := iv_aload_n xm_44 xd_44_20 q0 hr_50
  obtain ⟨n_54, e_55, hr_56⟩ := iv_dup xm_44 xd_44_21 rfl hr_53
  have f_57 := dc_fi (j := 9) ok_45 t_k0 dt_2 rfl
  obtain ⟨n_58, e_59, hr_60⟩ := iv_getf (j := 9) xm_44 xd_44_22 (by decide +kernel) ok_45 t_k0 dt_2 f_57.1 hr_56
  obtain ⟨n_61, e_62, hr_63⟩ := iv_iconst xm_44 xd_44_25 (by decide) hr_60
  obtain ⟨n_64, e_65, hr_66⟩ := iw_iadd xm_44 xd_44_26 hr_63
  obtain ⟨h_67, ok_68, em_69, n_71, e_72, hr_73⟩ := iv_puti (j := 9) (fk := 0) xm_44 xd_44_27 (by decide +kernel) ok_45 t_k0 dt_2 rfl (by decide +kernel) rfl (dc_w_I _) hr_66
  obtain ⟨n_74, e_75, hr_76⟩ := iv_iconst xm_44 xd_44_30 (by decide) hr_73
  have rr_77 := iv_ireturn xm_44 xd_44_31 hr_76
  subst rr_77
  exact ⟨_, ⟨q_18, _, em_21, ⟨q_43, _, em_46, ⟨_, em_69, ⟨rfl, rfl⟩⟩⟩⟩, rfl, (by unfold sv_I; omega), ok_68⟩
/-! method 43 -/
theorem xm_43 : ae_m 43 = some (wk_M 43) := rfl
theorem xd_43_0 : decode (wk_M 43).2.2.1 0 = .ok (.aload_n 1, 1) := zd_by (by decide +kernel)
theorem xd_43_1 : decode (wk_M 43).2.2.1 1 = .ok (.iconst 1, 1) := zd_by (by decide +kernel)
theorem xd_43_2 : decode (wk_M 43).2.2.1 2 = .ok (.bipush 6, 2) := zd_by (by decide +kernel)
theorem xd_43_4 : decode (wk_M 43).2.2.1 4 = .ok (.invokevirtual 116, 3) := zd_by (by decide +kernel)
theorem xd_43_7 : decode (wk_M 43).2.2.1 7 = .ok (.istore_n 2, 1) := zd_by (by decide +kernel)
theorem xd_43_8 : decode (wk_M 43).2.2.1 8 = .ok (.iload_n 2, 1) := zd_by (by decide +kernel)
theorem xd_43_9 : decode (wk_M 43).2.2.1 9 = .ok (.ifCond .ne 5, 3) := zd_by (by decide +kernel)
theorem xd_43_12 : decode (wk_M 43).2.2.1 12 = .ok (.iconst 0, 1) := zd_by (by decide +kernel)
theorem xd_43_13 : decode (wk_M 43).2.2.1 13 = .ok (.ireturn, 1) := zd_by (by decide +kernel)
theorem xd_43_14 : decode (wk_M 43).2.2.1 14 = .ok (.aload_n 1, 1) := zd_by (by decide +kernel)
theorem xd_43_15 : decode (wk_M 43).2.2.1 15 = .ok (.iconst 1, 1) := zd_by (by decide +kernel)
theorem xd_43_16 : decode (wk_M 43).2.2.1 16 = .ok (.iconst 3, 1) := zd_by (by decide +kernel)
theorem xd_43_17 : decode (wk_M 43).2.2.1 17 = .ok (.invokevirtual 116, 3) := zd_by (by decide +kernel)
theorem xd_43_20 : decode (wk_M 43).2.2.1 20 = .ok (.istore_n 3, 1) := zd_by (by decide +kernel)
theorem xd_43_21 : decode (wk_M 43).2.2.1 21 = .ok (.iload_n 3, 1) := zd_by (by decide +kernel)
theorem xd_43_22 : decode (wk_M 43).2.2.1 22 = .ok (.ifCond .ne 5, 3) := zd_by (by decide +kernel)
theorem xd_43_25 : decode (wk_M 43).2.2.1 25 = .ok (.iconst 0, 1) := zd_by (by decide +kernel)
theorem xd_43_26 : decode (wk_M 43).2.2.1 26 = .ok (.ireturn, 1) := zd_by (by decide +kernel)
theorem xd_43_27 : decode (wk_M 43).2.2.1 27 = .ok (.aload_n 0, 1) := zd_by (by decide +kernel)
theorem xd_43_28 : decode (wk_M 43).2.2.1 28 = .ok (.getfield 27, 3) := zd_by (by decide +kernel)
theorem xd_43_31 : decode (wk_M 43).2.2.1 31 = .ok (.aload_n 0, 1) := zd_by (by decide +kernel)
theorem xd_43_32 : decode (wk_M 43).2.2.1 32 = .ok (.getfield 40, 3) := zd_by (by decide +kernel)
theorem xd_43_35 : decode (wk_M 43).2.2.1 35 = .ok (.iload_n 2, 1) := zd_by (by decide +kernel)
theorem xd_43_36 : decode (wk_M 43).2.2.1 36 = .ok (.iastore, 1) := zd_by (by decide +kernel)
theorem xd_43_37 : decode (wk_M 43).2.2.1 37 = .ok (.aload_n 0, 1) := zd_by (by decide +kernel)
theorem xd_43_38 : decode (wk_M 43).2.2.1 38 = .ok (.getfield 30, 3) := zd_by (by decide +kernel)
theorem xd_43_41 : decode (wk_M 43).2.2.1 41 = .ok (.aload_n 0, 1) := zd_by (by decide +kernel)
theorem xd_43_42 : decode (wk_M 43).2.2.1 42 = .ok (.getfield 40, 3) := zd_by (by decide +kernel)
theorem xd_43_45 : decode (wk_M 43).2.2.1 45 = .ok (.iload_n 3, 1) := zd_by (by decide +kernel)
theorem xd_43_46 : decode (wk_M 43).2.2.1 46 = .ok (.iastore, 1) := zd_by (by decide +kernel)
theorem xd_43_47 : decode (wk_M 43).2.2.1 47 = .ok (.iconst 1, 1) := zd_by (by decide +kernel)
theorem xd_43_48 : decode (wk_M 43).2.2.1 48 = .ok (.ireturn, 1) := zd_by (by decide +kernel)
abbrev D_43 (k0 : Nat) (m : dc_M) (v : Int) (m' : dc_M) : Prop := ∃ v_12 m_17, D_126 1 6 m v_12 m_17 ∧ ((((v_12 : Int) ≠ 0 ∧ (∃ v_49 m_54, D_126 1 3 m_17 v_49 m_54 ∧ ((((v_49 : Int) ≠ 0 ∧ ((0 ≤ ((m_54 k0 9) : Int) ∧ ((m_54 k0 9) : Int) < 8) ∧ ∃ m_97, m_97 = dc_up m_54 (k0 + 6) (m_54 k0 9) v_12 ∧ ((0 ≤ ((m_97 k0 9) : Int) ∧ ((m_97 k0 9) : Int) < 8) ∧ ∃ m_122, m_122 = dc_up m_97 (k0 + 7) (m_97 k0 9) v_49 ∧ (v = 1 ∧ m' = m_122)))) ∨ (¬ ((v_49 : Int) ≠ 0) ∧ (v = 0 ∧ m' = m_54)))))) ∨ (¬ ((v_12 : Int) ≠ 0) ∧ (v = 0 ∧ m' = m_17))))
theorem ds_43 (n : Nat) (k0 : Nat) {h : ae_H} {r : ae_R} (ok : dc_ok h) (t_k0 : sv_ty k0 = some 2) (hr : ae_exe n 43 0 0 0 (ae_args [wk_r k0, wk_r 1] 0) [] h = some r) : ∃ v, D_43 k0 (dc_m h) v (dc_m r.2) ∧ r.1 = some (wk_i v) ∧ sv_I v ∧ dc_ok r.2 := by
  have q0 : ae_lk (ae_args [wk_r k0, wk_r 1] 0) 0 = some (wk_r k0) := rfl
  have q1 : ae_lk (ae_args [wk_r k0, wk_r 1] 0) 1 = some (wk_r 1) := rfl
  obtain ⟨n_1, e_2, hr_3⟩ := iv_aload_n xm_43 xd_43_0 q1 hr
  obtain ⟨n_4, e_5, hr_6⟩ := iv_iconst xm_43 xd_43_1 (by decide) hr_3
  obtain ⟨n_7, e_8, hr_9⟩ := iv_bipush xm_43 xd_43_2 (by decide) hr_6
  obtain ⟨n_19, r_10, e_20, hc_11, hr_21⟩ := iv_call (Or.inr ⟨rfl, rfl⟩) xm_43 xd_43_4 (by decide +kernel) xm_126 rfl (by decide +kernel) hr_9
  obtain ⟨v_12, d_13, er_14, iv_15, ok_16⟩ := ds_126 _ _ _ ok (by unfold sv_I; omega) (by unfold sv_I; omega) hc_11
  obtain ⟨_, h_18⟩ := r_10
  have er_14 : _ = some (wk_i v_12) := er_14
  subst er_14
  have hr_22 : ae_exe n_19 43 (4 + 3) 0 0 (ae_args [wk_r k0, wk_r 1] 0) _ h_18 = some r := hr_21
  obtain ⟨lv_24, sl_23, n_25, e_26, hr_27⟩ := iv_istore_n xm_43 xd_43_7 (by decide +kernel) hr_22
  have l_28 := sl_23.2 0 _ q0 (by decide) (Or.inl rfl)
  have l_29 := sl_23.2 1 _ q1 (by decide) (Or.inl rfl)
  have l_30 := sl_23.1
  obtain ⟨n_31, e_32, hr_33⟩ := iv_iload_n xm_43 xd_43_8 l_30 hr_27
  rcases iv_if 14 xm_43 xd_43_9 (by decide) iv_15 hr_33 with ⟨c_34, n_35, e_36, hr_37⟩ | ⟨c_34, n_35, e_36, hr_37⟩
  · obtain ⟨n_38, e_39, hr_40⟩ := iv_aload_n xm_43 xd_43_14 l_29 hr_37
    obtain ⟨n_41, e_42, hr_43⟩ := iv_iconst xm_43 xd_43_15 (by decide) hr_40
    obtain ⟨n_44, e_45, hr_46⟩ := iv_iconst xm_43 xd_43_16 (by decide) hr_43
    obtain ⟨n_56, r_47, e_57, hc_48, hr_58⟩ := iv_call (Or.inr ⟨rfl, rfl⟩) xm_43 xd_43_17 (by decide +kernel) xm_126 rfl (by decide +kernel) hr_46
    obtain ⟨v_49, d_50, er_51, iv_52, ok_53⟩ := ds_126 _ _ _ ok_16 (by unfold sv_I; omega) (by unfold sv_I; omega) hc_48
    obtain ⟨_, h_55⟩ := r_47
    have er_51 : _ = some (wk_i v_49) := er_51
    subst er_51
    have hr_59 : ae_exe n_56 43 (17 + 3) 0 0 lv_24 _ h_55 = some r := hr_58
    obtain ⟨lv_61, sl_60, n_62, e_63, hr_64⟩ := iv_istore_n xm_43 xd_43_20 (by decide +kernel) hr_59
    have l_65 := sl_60.2 0 _ l_28 (by decide) (Or.inl rfl)
    have l_66 := sl_60.2 1 _ l_29 (by decide) (Or.inl rfl)
    have l_67 := sl_60.2 2 _ l_30 (by decide) (Or.inl rfl)
    have l_68 := sl_60.1
    obtain ⟨n_69, e_70, hr_71⟩ := iv_iload_n xm_43 xd_43_21 l_68 hr_64
    rcases iv_if 27 xm_43 xd_43_22 (by decide) iv_52 hr_71 with ⟨c_72, n_73, e_74, hr_75⟩ | ⟨c_72, n_73, e_74, hr_75⟩
    · obtain ⟨n_76, e_77, hr_78⟩ := iv_aload_n xm_43 xd_43_27 l_65 hr_75
      have f_79 := dc_fr (j := 6) ok_53 t_k0 dt_2 rfl
      obtain ⟨n_80, e_81, hr_82⟩ := iv_getf (j := 6) xm_43 xd_43_28 (by decide +kernel) ok_53 t_k0 dt_2 f_79 hr_78
      obtain ⟨n_83, e_84, hr_85⟩ := iv_aload_n xm_43 xd_43_31 l_65 hr_82
      have f_86 := dc_fi (j := 9) ok_53 t_k0 dt_2 rfl
      obtain ⟨n_87, e_88, hr_89⟩ := iv_getf (j := 9) xm_43 xd_43_32 (by decide +kernel) ok_53 t_k0 dt_2 f_86.1 hr_85
      obtain ⟨n_90, e_91, hr_92⟩ := iv_iload_n xm_43 xd_43_35 l_67 hr_89
      obtain ⟨q_93, h_94, ok_95, em_96, n_98, e_99, hr_100⟩ := iv_iast xm_43 xd_43_36 ok_53 (do_2_6 t_k0) dt_45 (by decide) f_86.2 iv_15 hr_92
      obtain ⟨n_101, e_102, hr_103⟩ := iv_aload_n xm_43 xd_43_37 l_65 hr_100
      have f_104 := dc_fr (j := 7) ok_95 t_k0 dt_2 rfl
      obtain ⟨n_105, e_106, hr_107⟩ := iv_getf (j := 7) xm_43 xd_43_38 (by decide +kernel) ok_95 t_k0 dt_2 f_104 hr_103
      obtain ⟨n_108, e_109, hr_110⟩ := iv_aload_n xm_43 xd_43_41 l_65 hr_107
      have f_111 := dc_fi (j := 9) ok_95 t_k0 dt_2 rfl
      obtain ⟨n_112, e_113, hr_114⟩ := iv_getf (j := 9) xm_43 xd_43_42 (by decide +kernel) ok_95 t_k0 dt_2 f_111.1 hr_110
      obtain ⟨n_115, e_116, hr_117⟩ := iv_iload_n xm_43 xd_43_45 l_68 hr_114
      obtain ⟨q_118, h_119, ok_120, em_121, n_123, e_124, hr_125⟩ := iv_iast xm_43 xd_43_46 ok_95 (do_2_7 t_k0) dt_46 (by decide) f_111.2 iv_52 hr_117
      obtain ⟨n_126, e_127, hr_128⟩ := iv_iconst xm_43 xd_43_47 (by decide) hr_125
      have rr_129 := iv_ireturn xm_43 xd_43_48 hr_128
      subst rr_129
      exact ⟨_, ⟨_, _, d_13, Or.inl ⟨c_34, ⟨_, _, d_50, Or.inl ⟨c_72, ⟨q_93, _, em_96, ⟨q_118, _, em_121, ⟨rfl, rfl⟩⟩⟩⟩⟩⟩⟩, rfl, (by unfold sv_I; omega), ok_120⟩
    · obtain ⟨n_130, e_131, hr_132⟩ := iv_iconst xm_43 xd_43_25 (by decide) hr_75
      have rr_133 := iv_ireturn xm_43 xd_43_26 hr_132
      subst rr_133
      exact ⟨_, ⟨_, _, d_13, Or.inl ⟨c_34, ⟨_, _, d_50, Or.inr ⟨c_72, ⟨rfl, rfl⟩⟩⟩⟩⟩, rfl, (by unfold sv_I; omega), ok_53⟩
  · obtain ⟨n_134, e_135, hr_136⟩ := iv_iconst xm_43 xd_43_12 (by decide) hr_37
    have rr_137 := iv_ireturn xm_43 xd_43_13 hr_136
    subst rr_137
    exact ⟨_, ⟨_, _, d_13, Or.inr ⟨c_34, ⟨rfl, rfl⟩⟩⟩, rfl, (by unfold sv_I; omega), ok_16⟩
/-! method 42 -/
theorem xm_42 : ae_m 42 = some (wk_M 42) := rfl
theorem xd_42_0 : decode (wk_M 42).2.2.1 0 = .ok (.aload_n 0, 1) := zd_by (by decide +kernel)
theorem xd_42_1 : decode (wk_M 42).2.2.1 1 = .ok (.getfield 40, 3) := zd_by (by decide +kernel)
theorem xd_42_4 : decode (wk_M 42).2.2.1 4 = .ok (.bipush 8, 2) := zd_by (by decide +kernel)
theorem xd_42_6 : decode (wk_M 42).2.2.1 6 = .ok (.if_icmp .lt 13, 3) := zd_by (by decide +kernel)
theorem xd_42_9 : decode (wk_M 42).2.2.1 9 = .ok (.aload_n 1, 1) := zd_by (by decide +kernel)
theorem xd_42_10 : decode (wk_M 42).2.2.1 10 = .ok (.iconst 4, 1) := zd_by (by decide +kernel)
theorem xd_42_11 : decode (wk_M 42).2.2.1 11 = .ok (.aload_n 1, 1) := zd_by (by decide +kernel)
theorem xd_42_12 : decode (wk_M 42).2.2.1 12 = .ok (.getfield 94, 3) := zd_by (by decide +kernel)
theorem xd_42_15 : decode (wk_M 42).2.2.1 15 = .ok (.invokevirtual 97, 3) := zd_by (by decide +kernel)
theorem xd_42_18 : decode (wk_M 42).2.2.1 18 = .ok (.ireturn, 1) := zd_by (by decide +kernel)
theorem xd_42_19 : decode (wk_M 42).2.2.1 19 = .ok (.aload_n 1, 1) := zd_by (by decide +kernel)
theorem xd_42_20 : decode (wk_M 42).2.2.1 20 = .ok (.invokevirtual 103, 3) := zd_by (by decide +kernel)
theorem xd_42_23 : decode (wk_M 42).2.2.1 23 = .ok (.aload_n 0, 1) := zd_by (by decide +kernel)
theorem xd_42_24 : decode (wk_M 42).2.2.1 24 = .ok (.aload_n 1, 1) := zd_by (by decide +kernel)
theorem xd_42_25 : decode (wk_M 42).2.2.1 25 = .ok (.invokevirtual 125, 3) := zd_by (by decide +kernel)
theorem xd_42_28 : decode (wk_M 42).2.2.1 28 = .ok (.ifCond .eq 16, 3) := zd_by (by decide +kernel)
theorem xd_42_31 : decode (wk_M 42).2.2.1 31 = .ok (.aload_n 0, 1) := zd_by (by decide +kernel)
theorem xd_42_32 : decode (wk_M 42).2.2.1 32 = .ok (.iconst (-1), 1) := zd_by (by decide +kernel)
theorem xd_42_33 : decode (wk_M 42).2.2.1 33 = .ok (.iconst 0, 1) := zd_by (by decide +kernel)
theorem xd_42_34 : decode (wk_M 42).2.2.1 34 = .ok (.invokevirtual 128, 3) := zd_by (by decide +kernel)
theorem xd_42_37 : decode (wk_M 42).2.2.1 37 = .ok (.ifCond .eq 7, 3) := zd_by (by decide +kernel)
theorem xd_42_40 : decode (wk_M 42).2.2.1 40 = .ok (.iconst 1, 1) := zd_by (by decide +kernel)
theorem xd_42_41 : decode (wk_M 42).2.2.1 41 = .ok (.goto 4, 3) := zd_by (by decide +kernel)
theorem xd_42_44 : decode (wk_M 42).2.2.1 44 = .ok (.iconst 0, 1) := zd_by (by decide +kernel)
theorem xd_42_45 : decode (wk_M 42).2.2.1 45 = .ok (.ireturn, 1) := zd_by (by decide +kernel)
abbrev D_42 (k0 : Nat) (m : dc_M) (v : Int) (m' : dc_M) : Prop := ((((m k0 9) : Int) < 8 ∧ (∃ v_20 m_25, D_117 m v_20 m_25 ∧ (∃ v_39 m_44, D_43 k0 m_25 v_39 m_44 ∧ ((((v_39 : Int) = 0 ∧ (v = 0 ∧ m' = m_44)) ∨ (¬ ((v_39 : Int) = 0) ∧ (∃ v_69 m_74, D_44 k0 ((-1)) 0 m_44 v_69 m_74 ∧ ((((v_69 : Int) = 0 ∧ (v = 0 ∧ m' = m_74)) ∨ (¬ ((v_69 : Int) = 0) ∧ (v = 1 ∧ m' = m_74))))))))))) ∨ (¬ (((m k0 9) : Int) < 8) ∧ (∃ v_110 m_115, D_123 4 ((m 1 5)) m v_110 m_115 ∧ (v = v_110 ∧ m' = m_115))))
theorem ds_42 (n : Nat) (k0 : Nat) {h : ae_H} {r : ae_R} (ok : dc_ok h) (t_k0 : sv_ty k0 = some 2) (hr : ae_exe n 42 0 0 0 (ae_args [wk_r k0, wk_r 1] 0) [] h = some r) : ∃ v, D_42 k0 (dc_m h) v (dc_m r.2) ∧ r.1 = some (wk_i v) ∧ sv_I v ∧ dc_ok r.2 := by
  have q0 : ae_lk (ae_args [wk_r k0, wk_r 1] 0) 0 = some (wk_r k0) := rfl
  have q1 : ae_lk (ae_args [wk_r k0, wk_r 1] 0) 1 = some (wk_r 1) := rfl
  obtain ⟨n_1, e_2, hr_3⟩ := iv_aload_n xm_42 xd_42_0 q0 hr
  have f_4 := dc_fi (j := 9) ok t_k0 dt_2 rfl
  obtain ⟨n_5, e_6, hr_7⟩ := iv_getf (j := 9) xm_42 xd_42_1 (by decide +kernel) ok t_k0 dt_2 f_4.1 hr_3
  obtain ⟨n_8, e_9, hr_10⟩ := iv_bipush xm_42 xd_42_4 (by decide) hr_7
  rcases iv_icmp 19 xm_42 xd_42_6 (by decide) f_4.2 (by unfold sv_I; omega) hr_10 with ⟨c_11, n_12, e_13, hr_14⟩ | ⟨c_11, n_12, e_13, hr_14⟩
  · obtain ⟨n_15, e_16, hr_17⟩ := iv_aload_n xm_42 xd_42_19 q1 hr_14
    obtain ⟨n_27, r_18, e_28, hc_19, hr_29⟩ := iv_call (Or.inr ⟨rfl, rfl⟩) xm_42 xd_42_20 (by decide +kernel) xm_117 rfl (by decide +kernel) hr_17
    obtain ⟨v_20, d_21, er_22, iv_23, ok_24⟩ := ds_117 _  ok hc_19
    obtain ⟨_, h_26⟩ := r_18
    have er_22 : _ = none := er_22
    subst er_22
    have hr_30 : ae_exe n_27 42 (20 + 3) 0 0 (ae_args [wk_r k0, wk_r 1] 0) _ h_26 = some r := hr_29
    obtain ⟨n_31, e_32, hr_33⟩ := iv_aload_n xm_42 xd_42_23 q0 hr_30
    obtain ⟨n_34, e_35, hr_36⟩ := iv_aload_n xm_42 xd_42_24 q1 hr_33
    obtain ⟨n_46, r_37, e_47, hc_38, hr_48⟩ := iv_call (Or.inr ⟨rfl, rfl⟩) xm_42 xd_42_25 (by decide +kernel) xm_43 rfl (by decide +kernel) hr_36
    obtain ⟨v_39, d_40, er_41, iv_42, ok_43⟩ := ds_43 _ _ ok_24 t_k0 hc_38
    obtain ⟨_, h_45⟩ := r_37
    have er_41 : _ = some (wk_i v_39) := er_41
    subst er_41
    have hr_49 : ae_exe n_46 42 (25 + 3) 0 0 (ae_args [wk_r k0, wk_r 1] 0) _ h_45 = some r := hr_48
    rcases iv_if 44 xm_42 xd_42_28 (by decide) iv_42 hr_49 with ⟨c_50, n_51, e_52, hr_53⟩ | ⟨c_50, n_51, e_52, hr_53⟩
    · obtain ⟨n_54, e_55, hr_56⟩ := iv_iconst xm_42 xd_42_44 (by decide) hr_53
      have rr_57 := iv_ireturn xm_42 xd_42_45 hr_56
      subst rr_57
      exact ⟨_, Or.inl ⟨c_11, ⟨_, _, d_21, ⟨_, _, d_40, Or.inl ⟨c_50, ⟨rfl, rfl⟩⟩⟩⟩⟩, rfl, (by unfold sv_I; omega), ok_43⟩
    · obtain ⟨n_58, e_59, hr_60⟩ := iv_aload_n xm_42 xd_42_31 q0 hr_53
      obtain ⟨n_61, e_62, hr_63⟩ := iv_iconst xm_42 xd_42_32 (by decide) hr_60
      obtain ⟨n_64, e_65, hr_66⟩ := iv_iconst xm_42 xd_42_33 (by decide) hr_63
      obtain ⟨n_76, r_67, e_77, hc_68, hr_78⟩ := iv_call (Or.inr ⟨rfl, rfl⟩) xm_42 xd_42_34 (by decide +kernel) xm_44 rfl (by decide +kernel) hr_66
      obtain ⟨v_69, d_70, er_71, iv_72, ok_73⟩ := ds_44 _ _ _ _ ok_43 t_k0 (by unfold sv_I; omega) (by unfold sv_I; omega) hc_68
      obtain ⟨_, h_75⟩ := r_67
      have er_71 : _ = some (wk_i v_69) := er_71
      subst er_71
      have hr_79 : ae_exe n_76 42 (34 + 3) 0 0 (ae_args [wk_r k0, wk_r 1] 0) _ h_75 = some r := hr_78
      rcases iv_if 44 xm_42 xd_42_37 (by decide) iv_72 hr_79 with ⟨c_80, n_81, e_82, hr_83⟩ | ⟨c_80, n_81, e_82, hr_83⟩
      · obtain ⟨n_84, e_85, hr_86⟩ := iv_iconst xm_42 xd_42_44 (by decide) hr_83
        have rr_87 := iv_ireturn xm_42 xd_42_45 hr_86
        subst rr_87
        exact ⟨_, Or.inl ⟨c_11, ⟨_, _, d_21, ⟨_, _, d_40, Or.inr ⟨c_50, ⟨_, _, d_70, Or.inl ⟨c_80, ⟨rfl, rfl⟩⟩⟩⟩⟩⟩⟩, rfl, (by unfold sv_I; omega), ok_73⟩
      · obtain ⟨n_88, e_89, hr_90⟩ := iv_iconst xm_42 xd_42_40 (by decide) hr_83
        obtain ⟨n_91, e_92, hr_93⟩ := iv_goto 45 xm_42 xd_42_41 (by decide) hr_90
        have rr_94 := iv_ireturn xm_42 xd_42_45 hr_93
        subst rr_94
        exact ⟨_, Or.inl ⟨c_11, ⟨_, _, d_21, ⟨_, _, d_40, Or.inr ⟨c_50, ⟨_, _, d_70, Or.inr ⟨c_80, ⟨rfl, rfl⟩⟩⟩⟩⟩⟩⟩, rfl, (by unfold sv_I; omega), ok_73⟩
  · obtain ⟨n_95, e_96, hr_97⟩ := iv_aload_n xm_42 xd_42_9 q1 hr_14
    obtain ⟨n_98, e_99, hr_100⟩ := iv_iconst xm_42 xd_42_10 (by decide) hr_97
    obtain ⟨n_101, e_102, hr_103⟩ := iv_aload_n xm_42 xd_42_11 q1 hr_100
    have f_104 := dc_fi (j := 5) ok (rfl : sv_ty 1 = some 9) dt_9 rfl
    obtain ⟨n_105, e_106, hr_107⟩ := iv_getf (j := 5) xm_42 xd_42_12 (by decide +kernel) ok (rfl : sv_ty 1 = some 9) dt_9 f_104.1 hr_103
    obtain ⟨n_117, r_108, e_118, hc_109, hr_119⟩ := iv_call (Or.inr ⟨rfl, rfl⟩) xm_42 xd_42_15 (by decide +kernel) xm_123 rfl (by decide +kernel) hr_107
    obtain ⟨v_110, d_111, er_112, iv_113, ok_114⟩ := ds_123 _ _ _ ok (by unfold sv_I; omega) f_104.2 hc_109
    obtain ⟨_, h_116⟩ := r_108
    have er_112 : _ = some (wk_i v_110) := er_112
    subst er_112
    have hr_120 : ae_exe n_117 42 (15 + 3) 0 0 (ae_args [wk_r k0, wk_r 1] 0) _ h_116 = some r := hr_119
    have rr_121 := iv_ireturn xm_42 xd_42_18 hr_120
    subst rr_121
    exact ⟨_, Or.inr ⟨c_11, ⟨_, _, d_111, ⟨rfl, rfl⟩⟩⟩, rfl, iv_113, ok_114⟩
/-! method 38 -/
theorem xm_38 : ae_m 38 = some (wk_M 38) := rfl
theorem xd_38_0 : decode (wk_M 38).2.2.1 0 = .ok (.iconst 0, 1) := zd_by (by decide +kernel)
theorem xd_38_1 : decode (wk_M 38).2.2.1 1 = .ok (.istore_n 2, 1) := zd_by (by decide +kernel)
theorem xd_38_2 : decode (wk_M 38).2.2.1 2 = .ok (.iload_n 2, 1) := zd_by (by decide +kernel)
theorem xd_38_3 : decode (wk_M 38).2.2.1 3 = .ok (.aload_n 0, 1) := zd_by (by decide +kernel)
theorem xd_38_4 : decode (wk_M 38).2.2.1 4 = .ok (.getfield 36, 3) := zd_by (by decide +kernel)
theorem xd_38_7 : decode (wk_M 38).2.2.1 7 = .ok (.if_icmp .ge 21, 3) := zd_by (by decide +kernel)
theorem xd_38_10 : decode (wk_M 38).2.2.1 10 = .ok (.aload_n 0, 1) := zd_by (by decide +kernel)
theorem xd_38_11 : decode (wk_M 38).2.2.1 11 = .ok (.getfield 11, 3) := zd_by (by decide +kernel)
theorem xd_38_14 : decode (wk_M 38).2.2.1 14 = .ok (.iload_n 2, 1) := zd_by (by decide +kernel)
theorem xd_38_15 : decode (wk_M 38).2.2.1 15 = .ok (.iaload, 1) := zd_by (by decide +kernel)
theorem xd_38_16 : decode (wk_M 38).2.2.1 16 = .ok (.iload_n 1, 1) := zd_by (by decide +kernel)
theorem xd_38_17 : decode (wk_M 38).2.2.1 17 = .ok (.if_icmp .ne 5, 3) := zd_by (by decide +kernel)
theorem xd_38_20 : decode (wk_M 38).2.2.1 20 = .ok (.iload_n 2, 1) := zd_by (by decide +kernel)
theorem xd_38_21 : decode (wk_M 38).2.2.1 21 = .ok (.ireturn, 1) := zd_by (by decide +kernel)
theorem xd_38_22 : decode (wk_M 38).2.2.1 22 = .ok (.iinc 2 1, 3) := zd_by (by decide +kernel)
theorem xd_38_25 : decode (wk_M 38).2.2.1 25 = .ok (.goto (-23), 3) := zd_by (by decide +kernel)
theorem xd_38_28 : decode (wk_M 38).2.2.1 28 = .ok (.iconst (-1), 1) := zd_by (by decide +kernel)
theorem xd_38_29 : decode (wk_M 38).2.2.1 29 = .ok (.ireturn, 1) := zd_by (by decide +kernel)
def LM_38 (k0 : Nat) (x0 : Int) : Nat → Nat → Int → dc_M → Int → dc_M → Prop
  | 0, _, _, _, _, _ => False
  | c + 1, tag, l2, m, v, m' => match tag with
    | _ => (((l2 : Int) ≥ (m k0 3) ∧ (v = (-1) ∧ m' = m)) ∨ (¬ ((l2 : Int) ≥ (m k0 3)) ∧ ((0 ≤ (l2 : Int) ∧ (l2 : Int) < 6) ∧ (((((m (k0 + 1) l2) : Int) ≠ x0 ∧ (LM_38 k0 x0 c 2 (dc_w (l2 + 1)) m v m')) ∨ (¬ (((m (k0 + 1) l2) : Int) ≠ x0) ∧ (v = l2 ∧ m' = m)))))))
theorem lm_38_2 {k0 : Nat} {x0 : Int} {c : Nat} {l2 : Int} {m : dc_M} {v : Int} {m' : dc_M} : LM_38 k0 x0 (c + 1) 2 l2 m v m' ↔ (((l2 : Int) ≥ (m k0 3) ∧ (v = (-1) ∧ m' = m)) ∨ (¬ ((l2 : Int) ≥ (m k0 3)) ∧ ((0 ≤ (l2 : Int) ∧ (l2 : Int) < 6) ∧ (((((m (k0 + 1) l2) : Int) ≠ x0 ∧ (LM_38 k0 x0 c 2 (dc_w (l2 + 1)) m v m')) ∨ (¬ (((m (k0 + 1) l2) : Int) ≠ x0) ∧ (v = l2 ∧ m' = m))))))) := Iff.rfl
theorem dl_38 {k0 : Nat} {x0 : Int} (t_k0 : sv_ty k0 = some 2) (ix0 : sv_I x0) : ∀ N : Nat, (∀ (n : Nat) (lv : ae_L) (h : ae_H) (r : ae_R) (l2 : Int), n ≤ N → dc_ok h → sv_I l2 → ae_lk lv 0 = some (wk_r k0) → ae_lk lv 1 = some (wk_i x0) → ae_lk lv 2 = some (wk_i l2) → ae_exe n 38 2 0 0 lv [] h = some r → ∃ v, (∃ c, LM_38 k0 x0 c 2 l2 (dc_m h) v (dc_m r.2)) ∧ r.1 = some (wk_i v) ∧ sv_I v ∧ dc_ok r.2) := by
  intro N
  induction N with
  | zero =>
    exact fun n lv h r l2 hn ok il2 q0 q1 q2 hr => by
      have e : n = 0 := by omega
      subst e
      cases hr
  | succ N ih =>
    have ih0 := ih
    intro n lv h r l2 hn ok il2 q0 q1 q2 hr
    obtain ⟨n_1, e_2, hr_3⟩ := iv_iload_n xm_38 xd_38_2 q2 hr
    obtain ⟨n_4, e_5, hr_6⟩ := iv_aload_n xm_38 xd_38_3 q0 hr_3
    have f_7 := dc_fi (j := 3) ok t_k0 dt_2 rfl
    obtain ⟨n_8, e_9, hr_10⟩ := iv_getf (j := 3) xm_38 xd_38_4 (by decide +kernel) ok t_k0 dt_2 f_7.1 hr_6
    rcases iv_icmp 28 xm_38 xd_38_7 (by decide) il2 f_7.2 hr_10 with ⟨c_11, n_12, e_13, hr_14⟩ | ⟨c_11, n_12, e_13, hr_14⟩
    · obtain ⟨n_15, e_16, hr_17⟩ := iv_iconst xm_38 xd_38_28 (by decide) hr_14
      have rr_18 := iv_ireturn xm_38 xd_38_29 hr_17
      subst rr_18
      exact ⟨_, ⟨0 + 1, lm_38_2.mpr (Or.inl ⟨c_11, ⟨rfl, rfl⟩⟩)⟩, rfl, (by unfold sv_I; omega), ok⟩
    · obtain ⟨n_19, e_20, hr_21⟩ := iv_aload_n xm_38 xd_38_10 q0 hr_14
      have f_22 := dc_fr (j := 0) ok t_k0 dt_2 rfl
      obtain ⟨n_23, e_24, hr_25⟩ := iv_getf (j := 0) xm_38 xd_38_11 (by decide +kernel) ok t_k0 dt_2 f_22 hr_21
      obtain ⟨n_26, e_27, hr_28⟩ := iv_iload_n xm_38 xd_38_14 q2 hr_25
      obtain ⟨q_29, qi_30, n_31, e_32, hr_33⟩ := iv_iald xm_38 xd_38_15 ok (do_2_0 t_k0) dt_40 (by decide) il2 hr_28
      obtain ⟨n_34, e_35, hr_36⟩ := iv_iload_n xm_38 xd_38_16 q1 hr_33
      rcases iv_icmp 22 xm_38 xd_38_17 (by decide) qi_30 ix0 hr_36 with ⟨c_37, n_38, e_39, hr_40⟩ | ⟨c_37, n_38, e_39, hr_40⟩
      · obtain ⟨lv_42, sl_41, n_43, e_44, hr_45⟩ := iw_iinc xm_38 xd_38_22 (by decide +kernel) (by decide) q2 hr_40
        have l_46 := sl_41.2 0 _ q0 (by decide) (Or.inl rfl)
        have l_47 := sl_41.2 1 _ q1 (by decide) (Or.inl rfl)
        have l_48 := sl_41.1
        obtain ⟨n_49, e_50, hr_51⟩ := iv_goto 2 xm_38 xd_38_25 (by decide) hr_45
        obtain ⟨v, ⟨c, hL⟩, e1, e2, e3⟩ := ih0 _ lv_42 h _ _ (by omega) ok (dc_w_I _) l_46 l_47 l_48 hr_51
        exact ⟨v, ⟨c + 1, lm_38_2.mpr (Or.inr ⟨c_11, ⟨q_29, Or.inl ⟨c_37, hL⟩⟩⟩)⟩, e1, e2, e3⟩
      · obtain ⟨n_52, e_53, hr_54⟩ := iv_iload_n xm_38 xd_38_20 q2 hr_40
        have rr_55 := iv_ireturn xm_38 xd_38_21 hr_54
        subst rr_55
        exact ⟨_, ⟨0 + 1, lm_38_2.mpr (Or.inr ⟨c_11, ⟨q_29, Or.inr ⟨c_37, ⟨rfl, rfl⟩⟩⟩⟩)⟩, rfl, il2, ok⟩
abbrev D_38 (k0 : Nat) (x0 : Int) (m : dc_M) (v : Int) (m' : dc_M) : Prop := ∃ c, LM_38 k0 x0 c 2 0 m v m'
theorem ds_38 (n : Nat) (k0 : Nat) (x0 : Int) {h : ae_H} {r : ae_R} (ok : dc_ok h) (t_k0 : sv_ty k0 = some 2) (ix0 : sv_I x0) (hr : ae_exe n 38 0 0 0 (ae_args [wk_r k0, wk_i x0] 0) [] h = some r) : ∃ v, D_38 k0 x0 (dc_m h) v (dc_m r.2) ∧ r.1 = some (wk_i v) ∧ sv_I v ∧ dc_ok r.2 := by
  have q0 : ae_lk (ae_args [wk_r k0, wk_i x0] 0) 0 = some (wk_r k0) := rfl
  have q1 : ae_lk (ae_args [wk_r k0, wk_i x0] 0) 1 = some (wk_i x0) := rfl
  obtain ⟨n_56, e_57, hr_58⟩ := iv_iconst xm_38 xd_38_0 (by decide) hr
  obtain ⟨lv_60, sl_59, n_61, e_62, hr_63⟩ := iv_istore_n xm_38 xd_38_1 (by decide +kernel) hr_58
  have l_64 := sl_59.2 0 _ q0 (by decide) (Or.inl rfl)
  have l_65 := sl_59.2 1 _ q1 (by decide) (Or.inl rfl)
  have l_66 := sl_59.1
  obtain ⟨v, ⟨c, hL⟩, e1, e2, e3⟩ := (dl_38 t_k0 ix0 _) _ lv_60 h _ _ (Nat.le_refl _) ok (by unfold sv_I; omega) l_64 l_65 l_66 hr_63
  exact ⟨v, ⟨_, hL⟩, e1, e2, e3⟩
/-! method 37 -/
theorem xm_37 : ae_m 37 = some (wk_M 37) := rfl
theorem xd_37_0 : decode (wk_M 37).2.2.1 0 = .ok (.aload_n 0, 1) := zd_by (by decide +kernel)
theorem xd_37_1 : decode (wk_M 37).2.2.1 1 = .ok (.getfield 55, 3) := zd_by (by decide +kernel)
theorem xd_37_4 : decode (wk_M 37).2.2.1 4 = .ok (.iconst 1, 1) := zd_by (by decide +kernel)
theorem xd_37_5 : decode (wk_M 37).2.2.1 5 = .ok (.if_icmp .ne 52, 3) := zd_by (by decide +kernel)
theorem xd_37_8 : decode (wk_M 37).2.2.1 8 = .ok (.aload_n 0, 1) := zd_by (by decide +kernel)
theorem xd_37_9 : decode (wk_M 37).2.2.1 9 = .ok (.ldc 70, 2) := zd_by (by decide +kernel)
theorem xd_37_11 : decode (wk_M 37).2.2.1 11 = .ok (.invokevirtual 72, 3) := zd_by (by decide +kernel)
theorem xd_37_14 : decode (wk_M 37).2.2.1 14 = .ok (.ifCond .ne 43, 3) := zd_by (by decide +kernel)
theorem xd_37_17 : decode (wk_M 37).2.2.1 17 = .ok (.aload_n 0, 1) := zd_by (by decide +kernel)
theorem xd_37_18 : decode (wk_M 37).2.2.1 18 = .ok (.ldc 79, 2) := zd_by (by decide +kernel)
theorem xd_37_20 : decode (wk_M 37).2.2.1 20 = .ok (.invokevirtual 72, 3) := zd_by (by decide +kernel)
theorem xd_37_23 : decode (wk_M 37).2.2.1 23 = .ok (.ifCond .ne 34, 3) := zd_by (by decide +kernel)
theorem xd_37_26 : decode (wk_M 37).2.2.1 26 = .ok (.aload_n 0, 1) := zd_by (by decide +kernel)
theorem xd_37_27 : decode (wk_M 37).2.2.1 27 = .ok (.ldc 84, 2) := zd_by (by decide +kernel)
theorem xd_37_29 : decode (wk_M 37).2.2.1 29 = .ok (.invokevirtual 72, 3) := zd_by (by decide +kernel)
theorem xd_37_32 : decode (wk_M 37).2.2.1 32 = .ok (.ifCond .ne 25, 3) := zd_by (by decide +kernel)
theorem xd_37_35 : decode (wk_M 37).2.2.1 35 = .ok (.aload_n 0, 1) := zd_by (by decide +kernel)
theorem xd_37_36 : decode (wk_M 37).2.2.1 36 = .ok (.ldc 89, 2) := zd_by (by decide +kernel)
theorem xd_37_38 : decode (wk_M 37).2.2.1 38 = .ok (.invokevirtual 72, 3) := zd_by (by decide +kernel)
theorem xd_37_41 : decode (wk_M 37).2.2.1 41 = .ok (.ifCond .ne 16, 3) := zd_by (by decide +kernel)
theorem xd_37_44 : decode (wk_M 37).2.2.1 44 = .ok (.aload_n 0, 1) := zd_by (by decide +kernel)
theorem xd_37_45 : decode (wk_M 37).2.2.1 45 = .ok (.ldc 101, 2) := zd_by (by decide +kernel)
theorem xd_37_47 : decode (wk_M 37).2.2.1 47 = .ok (.invokevirtual 72, 3) := zd_by (by decide +kernel)
theorem xd_37_50 : decode (wk_M 37).2.2.1 50 = .ok (.ifCond .ne 7, 3) := zd_by (by decide +kernel)
theorem xd_37_53 : decode (wk_M 37).2.2.1 53 = .ok (.iconst 1, 1) := zd_by (by decide +kernel)
theorem xd_37_54 : decode (wk_M 37).2.2.1 54 = .ok (.goto 4, 3) := zd_by (by decide +kernel)
theorem xd_37_57 : decode (wk_M 37).2.2.1 57 = .ok (.iconst 0, 1) := zd_by (by decide +kernel)
theorem xd_37_58 : decode (wk_M 37).2.2.1 58 = .ok (.ireturn, 1) := zd_by (by decide +kernel)
abbrev D_37  (m : dc_M) (v : Int) (m' : dc_M) : Prop := ((((m 1 4) : Int) ≠ 1 ∧ (v = 0 ∧ m' = m)) ∨ (¬ (((m 1 4) : Int) ≠ 1) ∧ (∃ v_27 m_32, D_121 262 m v_27 m_32 ∧ ((((v_27 : Int) ≠ 0 ∧ (v = 0 ∧ m' = m_32)) ∨ (¬ ((v_27 : Int) ≠ 0) ∧ (∃ v_54 m_59, D_121 260 m_32 v_54 m_59 ∧ ((((v_54 : Int) ≠ 0 ∧ (v = 0 ∧ m' = m_59)) ∨ (¬ ((v_54 : Int) ≠ 0) ∧ (∃ v_81 m_86, D_121 264 m_59 v_81 m_86 ∧ ((((v_81 : Int) ≠ 0 ∧ (v = 0 ∧ m' = m_86)) ∨ (¬ ((v_81 : Int) ≠ 0) ∧ (∃ v_108 m_113, D_121 261 m_86 v_108 m_113 ∧ ((((v_108 : Int) ≠ 0 ∧ (v = 0 ∧ m' = m_113)) ∨ (¬ ((v_108 : Int) ≠ 0) ∧ (∃ v_135 m_140, D_121 263 m_113 v_135 m_140 ∧ ((((v_135 : Int) ≠ 0 ∧ (v = 0 ∧ m' = m_140)) ∨ (¬ ((v_135 : Int) ≠ 0) ∧ (v = 1 ∧ m' = m_140)))))))))))))))))))))))
theorem ds_37 (n : Nat)  {h : ae_H} {r : ae_R} (ok : dc_ok h)  (hr : ae_exe n 37 0 0 0 (ae_args [wk_r 1] 0) [] h = some r) : ∃ v, D_37  (dc_m h) v (dc_m r.2) ∧ r.1 = some (wk_i v) ∧ sv_I v ∧ dc_ok r.2 := by
  have q0 : ae_lk (ae_args [wk_r 1] 0) 0 = some (wk_r 1) := rfl
  obtain ⟨n_1, e_2, hr_3⟩ := iv_aload_n xm_37 xd_37_0 q0 hr
  have f_4 := dc_fi (j := 4) ok (rfl : sv_ty 1 = some 9) dt_9 rfl
  obtain ⟨n_5, e_6, hr_7⟩ := iv_getf (j := 4) xm_37 xd_37_1 (by decide +kernel) ok (rfl : sv_ty 1 = some 9) dt_9 f_4.1 hr_3
  obtain ⟨n_8, e_9, hr_10⟩ := iv_iconst xm_37 xd_37_4 (by decide) hr_7
  rcases iv_icmp 57 xm_37 xd_37_5 (by decide) f_4.2 (by unfold sv_I; omega) hr_10 with ⟨c_11, n_12, e_13, hr_14⟩ | ⟨c_11, n_12, e_13, hr_14⟩
  · obtain ⟨n_15, e_16, hr_17⟩ := iv_iconst xm_37 xd_37_57 (by decide) hr_14
    have rr_18 := iv_ireturn xm_37 xd_37_58 hr_17
    subst rr_18
    exact ⟨_, Or.inl ⟨c_11, ⟨rfl, rfl⟩⟩, rfl, (by unfold sv_I; omega), ok⟩
  · obtain ⟨n_19, e_20, hr_21⟩ := iv_aload_n xm_37 xd_37_8 q0 hr_14
    obtain ⟨n_22, e_23, hr_24⟩ := iv_out (j := 6) (z := 0) (Or.inl ⟨rfl, rfl, by decide +kernel⟩) xm_37 xd_37_9 hr_21
    obtain ⟨n_34, r_25, e_35, hc_26, hr_36⟩ := iv_call (Or.inr ⟨rfl, rfl⟩) xm_37 xd_37_11 (by decide +kernel) xm_121 rfl (by decide +kernel) hr_24
    obtain ⟨v_27, d_28, er_29, iv_30, ok_31⟩ := ds_121 _ _ ok ⟨by decide, by decide⟩ hc_26
    obtain ⟨_, h_33⟩ := r_25
    have er_29 : _ = some (wk_i v_27) := er_29
    subst er_29
    have hr_37 : ae_exe n_34 37 (11 + 3) 0 0 (ae_args [wk_r 1] 0) _ h_33 = some r := hr_36
    rcases iv_if 57 xm_37 xd_37_14 (by decide) iv_30 hr_37 with ⟨c_38, n_39, e_40, hr_41⟩ | ⟨c_38, n_39, e_40, hr_41⟩
    · obtain ⟨n_42, e_43, hr_44⟩ := iv_iconst xm_37 xd_37_57 (by decide) hr_41
      have rr_45 := iv_ireturn xm_37 xd_37_58 hr_44
      subst rr_45
      exact ⟨_, Or.inr ⟨c_11, ⟨_, _, d_28, Or.inl ⟨c_38, ⟨rfl, rfl⟩⟩⟩⟩, rfl, (by unfold sv_I; omega), ok_31⟩
    · obtain ⟨n_46, e_47, hr_48⟩ := iv_aload_n xm_37 xd_37_17 q0 hr_41
      obtain ⟨n_49, e_50, hr_51⟩ := iv_out (j := 4) (z := 0) (Or.inl ⟨rfl, rfl, by decide +kernel⟩) xm_37 xd_37_18 hr_48
      obtain ⟨n_61, r_52, e_62, hc_53, hr_63⟩ := iv_call (Or.inr ⟨rfl, rfl⟩) xm_37 xd_37_20 (by decide +kernel) xm_121 rfl (by decide +kernel) hr_51
      obtain ⟨v_54, d_55, er_56, iv_57, ok_58⟩ := ds_121 _ _ ok_31 ⟨by decide, by decide⟩ hc_53
      obtain ⟨_, h_60⟩ := r_52
      have er_56 : _ = some (wk_i v_54) := er_56
      subst er_56
      have hr_64 : ae_exe n_61 37 (20 + 3) 0 0 (ae_args [wk_r 1] 0) _ h_60 = some r := hr_63
      rcases iv_if 57 xm_37 xd_37_23 (by decide) iv_57 hr_64 with ⟨c_65, n_66, e_67, hr_68⟩ | ⟨c_65, n_66, e_67, hr_68⟩
      · obtain ⟨n_69, e_70, hr_71⟩ := iv_iconst xm_37 xd_37_57 (by decide) hr_68
        have rr_72 := iv_ireturn xm_37 xd_37_58 hr_71
        subst rr_72
        exact ⟨_, Or.inr ⟨c_11, ⟨_, _, d_28, Or.inr ⟨c_38, ⟨_, _, d_55, Or.inl ⟨c_65, ⟨rfl, rfl⟩⟩⟩⟩⟩⟩, rfl, (by unfold sv_I; omega), ok_58⟩
      · obtain ⟨n_73, e_74, hr_75⟩ := iv_aload_n xm_37 xd_37_26 q0 hr_68
        obtain ⟨n_76, e_77, hr_78⟩ := iv_out (j := 8) (z := 0) (Or.inl ⟨rfl, rfl, by decide +kernel⟩) xm_37 xd_37_27 hr_75
        obtain ⟨n_88, r_79, e_89, hc_80, hr_90⟩ := iv_call (Or.inr ⟨rfl, rfl⟩) xm_37 xd_37_29 (by decide +kernel) xm_121 rfl (by decide +kernel) hr_78
        obtain ⟨v_81, d_82, er_83, iv_84, ok_85⟩ := ds_121 _ _ ok_58 ⟨by decide, by decide⟩ hc_80
        obtain ⟨_, h_87⟩ := r_79
        have er_83 : _ = some (wk_i v_81) := er_83
        subst er_83
        have hr_91 : ae_exe n_88 37 (29 + 3) 0 0 (ae_args [wk_r 1] 0) _ h_87 = some r := hr_90
        rcases iv_if 57 xm_37 xd_37_32 (by decide) iv_84 hr_91 with ⟨c_92, n_93, e_94, hr_95⟩ | ⟨c_92, n_93, e_94, hr_95⟩
        · obtain ⟨n_96, e_97, hr_98⟩ := iv_iconst xm_37 xd_37_57 (by decide) hr_95
          have rr_99 := iv_ireturn xm_37 xd_37_58 hr_98
          subst rr_99
          exact ⟨_, Or.inr ⟨c_11, ⟨_, _, d_28, Or.inr ⟨c_38, ⟨_, _, d_55, Or.inr ⟨c_65, ⟨_, _, d_82, Or.inl ⟨c_92, ⟨rfl, rfl⟩⟩⟩⟩⟩⟩⟩⟩, rfl, (by unfold sv_I; omega), ok_85⟩
        · obtain ⟨n_100, e_101, hr_102⟩ := iv_aload_n xm_37 xd_37_35 q0 hr_95
          obtain ⟨n_103, e_104, hr_105⟩ := iv_out (j := 5) (z := 0) (Or.inl ⟨rfl, rfl, by decide +kernel⟩) xm_37 xd_37_36 hr_102
          obtain ⟨n_115, r_106, e_116, hc_107, hr_117⟩ := iv_call (Or.inr ⟨rfl, rfl⟩) xm_37 xd_37_38 (by decide +kernel) xm_121 rfl (by decide +kernel) hr_105
          obtain ⟨v_108, d_109, er_110, iv_111, ok_112⟩ := ds_121 _ _ ok_85 ⟨by decide, by decide⟩ hc_107
          obtain ⟨_, h_114⟩ := r_106
          have er_110 : _ = some (wk_i v_108) := er_110
          subst er_110
          have hr_118 : ae_exe n_115 37 (38 + 3) 0 0 (ae_args [wk_r 1] 0) _ h_114 = some r := hr_117
          rcases iv_if 57 xm_37 xd_37_41 (by decide) iv_111 hr_118 with ⟨c_119, n_120, e_121, hr_122⟩ | ⟨c_119, n_120, e_121, hr_122⟩
          · obtain ⟨n_123, e_124, hr_125⟩ := iv_iconst xm_37 xd_37_57 (by decide) hr_122
            have rr_126 := iv_ireturn xm_37 xd_37_58 hr_125
            subst rr_126
            exact ⟨_, Or.inr ⟨c_11, ⟨_, _, d_28, Or.inr ⟨c_38, ⟨_, _, d_55, Or.inr ⟨c_65, ⟨_, _, d_82, Or.inr ⟨c_92, ⟨_, _, d_109, Or.inl ⟨c_119, ⟨rfl, rfl⟩⟩⟩⟩⟩⟩⟩⟩⟩⟩, rfl, (by unfold sv_I; omega), ok_112⟩
          · obtain ⟨n_127, e_128, hr_129⟩ := iv_aload_n xm_37 xd_37_44 q0 hr_122
            obtain ⟨n_130, e_131, hr_132⟩ := iv_out (j := 7) (z := 0) (Or.inl ⟨rfl, rfl, by decide +kernel⟩) xm_37 xd_37_45 hr_129
            obtain ⟨n_142, r_133, e_143, hc_134, hr_144⟩ := iv_call (Or.inr ⟨rfl, rfl⟩) xm_37 xd_37_47 (by decide +kernel) xm_121 rfl (by decide +kernel) hr_132
            obtain ⟨v_135, d_136, er_137, iv_138, ok_139⟩ := ds_121 _ _ ok_112 ⟨by decide, by decide⟩ hc_134
            obtain ⟨_, h_141⟩ := r_133
            have er_137 : _ = some (wk_i v_135) := er_137
            subst er_137
            have hr_145 : ae_exe n_142 37 (47 + 3) 0 0 (ae_args [wk_r 1] 0) _ h_141 = some r := hr_144
            rcases iv_if 57 xm_37 xd_37_50 (by decide) iv_138 hr_145 with ⟨c_146, n_147, e_148, hr_149⟩ | ⟨c_146, n_147, e_148, hr_149⟩
            · obtain ⟨n_150, e_151, hr_152⟩ := iv_iconst xm_37 xd_37_57 (by decide) hr_149
              have rr_153 := iv_ireturn xm_37 xd_37_58 hr_152
              subst rr_153
              exact ⟨_, Or.inr ⟨c_11, ⟨_, _, d_28, Or.inr ⟨c_38, ⟨_, _, d_55, Or.inr ⟨c_65, ⟨_, _, d_82, Or.inr ⟨c_92, ⟨_, _, d_109, Or.inr ⟨c_119, ⟨_, _, d_136, Or.inl ⟨c_146, ⟨rfl, rfl⟩⟩⟩⟩⟩⟩⟩⟩⟩⟩⟩⟩, rfl, (by unfold sv_I; omega), ok_139⟩
            · obtain ⟨n_154, e_155, hr_156⟩ := iv_iconst xm_37 xd_37_53 (by decide) hr_149
              obtain ⟨n_157, e_158, hr_159⟩ := iv_goto 58 xm_37 xd_37_54 (by decide) hr_156
              have rr_160 := iv_ireturn xm_37 xd_37_58 hr_159
              subst rr_160
              exact ⟨_, Or.inr ⟨c_11, ⟨_, _, d_28, Or.inr ⟨c_38, ⟨_, _, d_55, Or.inr ⟨c_65, ⟨_, _, d_82, Or.inr ⟨c_92, ⟨_, _, d_109, Or.inr ⟨c_119, ⟨_, _, d_136, Or.inr ⟨c_146, ⟨rfl, rfl⟩⟩⟩⟩⟩⟩⟩⟩⟩⟩⟩⟩, rfl, (by unfold sv_I; omega), ok_139⟩
/-! method 41 -/
theorem xm_41 : ae_m 41 = some (wk_M 41) := rfl
theorem xd_41_0 : decode (wk_M 41).2.2.1 0 = .ok (.aload_n 0, 1) := zd_by (by decide +kernel)
theorem xd_41_1 : decode (wk_M 41).2.2.1 1 = .ok (.getfield 40, 3) := zd_by (by decide +kernel)
theorem xd_41_4 : decode (wk_M 41).2.2.1 4 = .ok (.bipush 8, 2) := zd_by (by decide +kernel)
theorem xd_41_6 : decode (wk_M 41).2.2.1 6 = .ok (.if_icmp .lt 13, 3) := zd_by (by decide +kernel)
theorem xd_41_9 : decode (wk_M 41).2.2.1 9 = .ok (.aload_n 1, 1) := zd_by (by decide +kernel)
theorem xd_41_10 : decode (wk_M 41).2.2.1 10 = .ok (.iconst 4, 1) := zd_by (by decide +kernel)
theorem xd_41_11 : decode (wk_M 41).2.2.1 11 = .ok (.aload_n 1, 1) := zd_by (by decide +kernel)
theorem xd_41_12 : decode (wk_M 41).2.2.1 12 = .ok (.getfield 94, 3) := zd_by (by decide +kernel)
theorem xd_41_15 : decode (wk_M 41).2.2.1 15 = .ok (.invokevirtual 97, 3) := zd_by (by decide +kernel)
theorem xd_41_18 : decode (wk_M 41).2.2.1 18 = .ok (.ireturn, 1) := zd_by (by decide +kernel)
theorem xd_41_19 : decode (wk_M 41).2.2.1 19 = .ok (.aload_n 1, 1) := zd_by (by decide +kernel)
theorem xd_41_20 : decode (wk_M 41).2.2.1 20 = .ok (.invokevirtual 103, 3) := zd_by (by decide +kernel)
theorem xd_41_23 : decode (wk_M 41).2.2.1 23 = .ok (.aload_n 1, 1) := zd_by (by decide +kernel)
theorem xd_41_24 : decode (wk_M 41).2.2.1 24 = .ok (.invokestatic 106, 3) := zd_by (by decide +kernel)
theorem xd_41_27 : decode (wk_M 41).2.2.1 27 = .ok (.ifCond .ne 13, 3) := zd_by (by decide +kernel)
theorem xd_41_30 : decode (wk_M 41).2.2.1 30 = .ok (.aload_n 1, 1) := zd_by (by decide +kernel)
theorem xd_41_31 : decode (wk_M 41).2.2.1 31 = .ok (.iconst 1, 1) := zd_by (by decide +kernel)
theorem xd_41_32 : decode (wk_M 41).2.2.1 32 = .ok (.aload_n 1, 1) := zd_by (by decide +kernel)
theorem xd_41_33 : decode (wk_M 41).2.2.1 33 = .ok (.getfield 94, 3) := zd_by (by decide +kernel)
theorem xd_41_36 : decode (wk_M 41).2.2.1 36 = .ok (.invokevirtual 97, 3) := zd_by (by decide +kernel)
theorem xd_41_39 : decode (wk_M 41).2.2.1 39 = .ok (.ireturn, 1) := zd_by (by decide +kernel)
theorem xd_41_40 : decode (wk_M 41).2.2.1 40 = .ok (.aload_n 0, 1) := zd_by (by decide +kernel)
theorem xd_41_41 : decode (wk_M 41).2.2.1 41 = .ok (.aload_n 1, 1) := zd_by (by decide +kernel)
theorem xd_41_42 : decode (wk_M 41).2.2.1 42 = .ok (.getfield 109, 3) := zd_by (by decide +kernel)
theorem xd_41_45 : decode (wk_M 41).2.2.1 45 = .ok (.invokevirtual 112, 3) := zd_by (by decide +kernel)
theorem xd_41_48 : decode (wk_M 41).2.2.1 48 = .ok (.istore_n 2, 1) := zd_by (by decide +kernel)
theorem xd_41_49 : decode (wk_M 41).2.2.1 49 = .ok (.iload_n 2, 1) := zd_by (by decide +kernel)
theorem xd_41_50 : decode (wk_M 41).2.2.1 50 = .ok (.iconst (-1), 1) := zd_by (by decide +kernel)
theorem xd_41_51 : decode (wk_M 41).2.2.1 51 = .ok (.if_icmp .ne 13, 3) := zd_by (by decide +kernel)
theorem xd_41_54 : decode (wk_M 41).2.2.1 54 = .ok (.aload_n 1, 1) := zd_by (by decide +kernel)
theorem xd_41_55 : decode (wk_M 41).2.2.1 55 = .ok (.iconst 3, 1) := zd_by (by decide +kernel)
theorem xd_41_56 : decode (wk_M 41).2.2.1 56 = .ok (.aload_n 1, 1) := zd_by (by decide +kernel)
theorem xd_41_57 : decode (wk_M 41).2.2.1 57 = .ok (.getfield 94, 3) := zd_by (by decide +kernel)
theorem xd_41_60 : decode (wk_M 41).2.2.1 60 = .ok (.invokevirtual 97, 3) := zd_by (by decide +kernel)
theorem xd_41_63 : decode (wk_M 41).2.2.1 63 = .ok (.ireturn, 1) := zd_by (by decide +kernel)
theorem xd_41_64 : decode (wk_M 41).2.2.1 64 = .ok (.aload_n 1, 1) := zd_by (by decide +kernel)
theorem xd_41_65 : decode (wk_M 41).2.2.1 65 = .ok (.invokevirtual 103, 3) := zd_by (by decide +kernel)
theorem xd_41_68 : decode (wk_M 41).2.2.1 68 = .ok (.aload_n 0, 1) := zd_by (by decide +kernel)
theorem xd_41_69 : decode (wk_M 41).2.2.1 69 = .ok (.aload_n 1, 1) := zd_by (by decide +kernel)
theorem xd_41_70 : decode (wk_M 41).2.2.1 70 = .ok (.invokevirtual 125, 3) := zd_by (by decide +kernel)
theorem xd_41_73 : decode (wk_M 41).2.2.1 73 = .ok (.ifCond .ne 5, 3) := zd_by (by decide +kernel)
theorem xd_41_76 : decode (wk_M 41).2.2.1 76 = .ok (.iconst 0, 1) := zd_by (by decide +kernel)
theorem xd_41_77 : decode (wk_M 41).2.2.1 77 = .ok (.ireturn, 1) := zd_by (by decide +kernel)
theorem xd_41_78 : decode (wk_M 41).2.2.1 78 = .ok (.iconst 0, 1) := zd_by (by decide +kernel)
theorem xd_41_79 : decode (wk_M 41).2.2.1 79 = .ok (.istore_n 3, 1) := zd_by (by decide +kernel)
theorem xd_41_80 : decode (wk_M 41).2.2.1 80 = .ok (.aload_n 1, 1) := zd_by (by decide +kernel)
theorem xd_41_81 : decode (wk_M 41).2.2.1 81 = .ok (.ldc 101, 2) := zd_by (by decide +kernel)
theorem xd_41_83 : decode (wk_M 41).2.2.1 83 = .ok (.invokevirtual 72, 3) := zd_by (by decide +kernel)
theorem xd_41_86 : decode (wk_M 41).2.2.1 86 = .ok (.ifCond .eq 21, 3) := zd_by (by decide +kernel)
theorem xd_41_89 : decode (wk_M 41).2.2.1 89 = .ok (.aload_n 1, 1) := zd_by (by decide +kernel)
theorem xd_41_90 : decode (wk_M 41).2.2.1 90 = .ok (.invokevirtual 103, 3) := zd_by (by decide +kernel)
theorem xd_41_93 : decode (wk_M 41).2.2.1 93 = .ok (.aload_n 1, 1) := zd_by (by decide +kernel)
theorem xd_41_94 : decode (wk_M 41).2.2.1 94 = .ok (.iconst 1, 1) := zd_by (by decide +kernel)
theorem xd_41_95 : decode (wk_M 41).2.2.1 95 = .ok (.bipush 20, 2) := zd_by (by decide +kernel)
theorem xd_41_97 : decode (wk_M 41).2.2.1 97 = .ok (.invokevirtual 116, 3) := zd_by (by decide +kernel)
theorem xd_41_100 : decode (wk_M 41).2.2.1 100 = .ok (.istore_n 3, 1) := zd_by (by decide +kernel)
theorem xd_41_101 : decode (wk_M 41).2.2.1 101 = .ok (.iload_n 3, 1) := zd_by (by decide +kernel)
theorem xd_41_102 : decode (wk_M 41).2.2.1 102 = .ok (.ifCond .ne 5, 3) := zd_by (by decide +kernel)
theorem xd_41_105 : decode (wk_M 41).2.2.1 105 = .ok (.iconst 0, 1) := zd_by (by decide +kernel)
theorem xd_41_106 : decode (wk_M 41).2.2.1 106 = .ok (.ireturn, 1) := zd_by (by decide +kernel)
theorem xd_41_107 : decode (wk_M 41).2.2.1 107 = .ok (.aload_n 0, 1) := zd_by (by decide +kernel)
theorem xd_41_108 : decode (wk_M 41).2.2.1 108 = .ok (.iload_n 2, 1) := zd_by (by decide +kernel)
theorem xd_41_109 : decode (wk_M 41).2.2.1 109 = .ok (.iload_n 3, 1) := zd_by (by decide +kernel)
theorem xd_41_110 : decode (wk_M 41).2.2.1 110 = .ok (.invokevirtual 128, 3) := zd_by (by decide +kernel)
theorem xd_41_113 : decode (wk_M 41).2.2.1 113 = .ok (.ireturn, 1) := zd_by (by decide +kernel)
abbrev D_41 (k0 : Nat) (m : dc_M) (v : Int) (m' : dc_M) : Prop := ((((m k0 9) : Int) < 8 ∧ (∃ v_20 m_25, D_117 m v_20 m_25 ∧ (∃ v_36 m_41, D_37 m_25 v_36 m_41 ∧ ((((v_36 : Int) ≠ 0 ∧ (∃ v_63 m_68, D_38 k0 ((m_41 1 7)) m_41 v_63 m_68 ∧ ((((v_63 : Int) ≠ (-1) ∧ (∃ v_97 m_102, D_117 m_68 v_97 m_102 ∧ (∃ v_116 m_121, D_43 k0 m_102 v_116 m_121 ∧ ((((v_116 : Int) ≠ 0 ∧ (∃ v_151 m_156, D_121 263 m_121 v_151 m_156 ∧ ((((v_151 : Int) = 0 ∧ (∃ v_177 m_182, D_44 k0 v_63 0 m_156 v_177 m_182 ∧ (v = v_177 ∧ m' = m_182))) ∨ (¬ ((v_151 : Int) = 0) ∧ (∃ v_194 m_199, D_117 m_156 v_194 m_199 ∧ (∃ v_216 m_221, D_126 1 20 m_199 v_216 m_221 ∧ ((((v_216 : Int) ≠ 0 ∧ (∃ v_254 m_259, D_44 k0 v_63 v_216 m_221 v_254 m_259 ∧ (v = v_254 ∧ m' = m_259))) ∨ (¬ ((v_216 : Int) ≠ 0) ∧ (v = 0 ∧ m' = m_221))))))))))) ∨ (¬ ((v_116 : Int) ≠ 0) ∧ (v = 0 ∧ m' = m_121))))))) ∨ (¬ ((v_63 : Int) ≠ (-1)) ∧ (∃ v_289 m_294, D_123 3 ((m_68 1 5)) m_68 v_289 m_294 ∧ (v = v_289 ∧ m' = m_294))))))) ∨ (¬ ((v_36 : Int) ≠ 0) ∧ (∃ v_316 m_321, D_123 1 ((m_41 1 5)) m_41 v_316 m_321 ∧ (v = v_316 ∧ m' = m_321)))))))) ∨ (¬ (((m k0 9) : Int) < 8) ∧ (∃ v_343 m_348, D_123 4 ((m 1 5)) m v_343 m_348 ∧ (v = v_343 ∧ m' = m_348))))
theorem ds_41 (n : Nat) (k0 : Nat) {h : ae_H} {r : ae_R} (ok : dc_ok h) (t_k0 : sv_ty k0 = some 2) (hr : ae_exe n 41 0 0 0 (ae_args [wk_r k0, wk_r 1] 0) [] h = some r) : ∃ v, D_41 k0 (dc_m h) v (dc_m r.2) ∧ r.1 = some (wk_i v) ∧ sv_I v ∧ dc_ok r.2 := by
  have q0 : ae_lk (ae_args [wk_r k0, wk_r 1] 0) 0 = some (wk_r k0) := rfl
  have q1 : ae_lk (ae_args [wk_r k0, wk_r 1] 0) 1 = some (wk_r 1) := rfl
  obtain ⟨n_1, e_2, hr_3⟩ := iv_aload_n xm_41 xd_41_0 q0 hr
  have f_4 := dc_fi (j := 9) ok t_k0 dt_2 rfl
  obtain ⟨n_5, e_6, hr_7⟩ := iv_getf (j := 9) xm_41 xd_41_1 (by decide +kernel) ok t_k0 dt_2 f_4.1 hr_3
  obtain ⟨n_8, e_9, hr_10⟩ := iv_bipush xm_41 xd_41_4 (by decide) hr_7
  rcases iv_icmp 19 xm_41 xd_41_6 (by decide) f_4.2 (by unfold sv_I; omega) hr_10 with ⟨c_11, n_12, e_13, hr_14⟩ | ⟨c_11, n_12, e_13, hr_14⟩
  · obtain ⟨n_15, e_16, hr_17⟩ := iv_aload_n xm_41 xd_41_19 q1 hr_14
    obtain ⟨n_27, r_18, e_28, hc_19, hr_29⟩ := iv_call (Or.inr ⟨rfl, rfl⟩) xm_41 xd_41_20 (by decide +kernel) xm_117 rfl (by decide +kernel) hr_17
    obtain ⟨v_20, d_21, er_22, iv_23, ok_24⟩ := ds_117 _  ok hc_19
    obtain ⟨_, h_26⟩ := r_18
    have er_22 : _ = none := er_22
    subst er_22
    have hr_30 : ae_exe n_27 41 (20 + 3) 0 0 (ae_args [wk_r k0, wk_r 1] 0) _ h_26 = some r := hr_29
    obtain ⟨n_31, e_32, hr_33⟩ := iv_aload_n xm_41 xd_41_23 q1 hr_30
    obtain ⟨n_43, r_34, e_44, hc_35, hr_45⟩ := iv_call (Or.inl ⟨rfl, rfl⟩) xm_41 xd_41_24 (by decide +kernel) xm_37 rfl (by decide +kernel) hr_33
    obtain ⟨v_36, d_37, er_38, iv_39, ok_40⟩ := ds_37 _  ok_24 hc_35
    obtain ⟨_, h_42⟩ := r_34
    have er_38 : _ = some (wk_i v_36) := er_38
    subst er_38
    have hr_46 : ae_exe n_43 41 (24 + 3) 0 0 (ae_args [wk_r k0, wk_r 1] 0) _ h_42 = some r := hr_45
    rcases iv_if 40 xm_41 xd_41_27 (by decide) iv_39 hr_46 with ⟨c_47, n_48, e_49, hr_50⟩ | ⟨c_47, n_48, e_49, hr_50⟩
    · obtain ⟨n_51, e_52, hr_53⟩ := iv_aload_n xm_41 xd_41_40 q0 hr_50
      obtain ⟨n_54, e_55, hr_56⟩ := iv_aload_n xm_41 xd_41_41 q1 hr_53
      have f_57 := dc_fi (j := 7) ok_40 (rfl : sv_ty 1 = some 9) dt_9 rfl
      obtain ⟨n_58, e_59, hr_60⟩ := iv_getf (j := 7) xm_41 xd_41_42 (by decide +kernel) ok_40 (rfl : sv_ty 1 = some 9) dt_9 f_57.1 hr_56
      obtain ⟨n_70, r_61, e_71, hc_62, hr_72⟩ := iv_call (Or.inr ⟨rfl, rfl⟩) xm_41 xd_41_45 (by decide +kernel) xm_38 rfl (by decide +kernel) hr_60
      obtain ⟨v_63, d_64, er_65, iv_66, ok_67⟩ := ds_38 _ _ _ ok_40 t_k0 f_57.2 hc_62
      obtain ⟨_, h_69⟩ := r_61
      have er_65 : _ = some (wk_i v_63) := er_65
      subst er_65
      have hr_73 : ae_exe n_70 41 (45 + 3) 0 0 (ae_args [wk_r k0, wk_r 1] 0) _ h_69 = some r := hr_72
      obtain ⟨lv_75, sl_74, n_76, e_77, hr_78⟩ := iv_istore_n xm_41 xd_41_48 (by decide +kernel) hr_73
      have l_79 := sl_74.2 0 _ q0 (by decide) (Or.inl rfl)
      have l_80 := sl_74.2 1 _ q1 (by decide) (Or.inl rfl)
      have l_81 := sl_74.1
      obtain ⟨n_82, e_83, hr_84⟩ := iv_iload_n xm_41 xd_41_49 l_81 hr_78
      obtain ⟨n_85, e_86, hr_87⟩ := iv_iconst xm_41 xd_41_50 (by decide) hr_84
      rcases iv_icmp 64 xm_41 xd_41_51 (by decide) iv_66 (by unfold sv_I; omega) hr_87 with ⟨c_88, n_89, e_90, hr_91⟩ | ⟨c_88, n_89, e_90, hr_91⟩
      · obtain ⟨n_92, e_93, hr_94⟩ := iv_aload_n xm_41 xd_41_64 l_80 hr_91
        obtain ⟨n_104, r_95, e_105, hc_96, hr_106⟩ := iv_call (Or.inr ⟨rfl, rfl⟩) xm_41 xd_41_65 (by decide +kernel) xm_117 rfl (by decide +kernel) hr_94
        obtain ⟨v_97, d_98, er_99, iv_100, ok_101⟩ := ds_117 _  ok_67 hc_96
        obtain ⟨_, h_103⟩ := r_95
        have er_99 : _ = none := er_99
        subst er_99
        have hr_107 : ae_exe n_104 41 (65 + 3) 0 0 lv_75 _ h_103 = some r := hr_106
        obtain ⟨n_108, e_109, hr_110⟩ := iv_aload_n xm_41 xd_41_68 l_79 hr_107
        obtain ⟨n_111, e_112, hr_113⟩ := iv_aload_n xm_41 xd_41_69 l_80 hr_110
        obtain ⟨n_123, r_114, e_124, hc_115, hr_125⟩ := iv_call (Or.inr ⟨rfl, rfl⟩) xm_41 xd_41_70 (by decide +kernel) xm_43 rfl (by decide +kernel) hr_113
        obtain ⟨v_116, d_117, er_118, iv_119, ok_120⟩ := ds_43 _ _ ok_101 t_k0 hc_115
        obtain ⟨_, h_122⟩ := r_114
        have er_118 : _ = some (wk_i v_116) := er_118
        subst er_118
        have hr_126 : ae_exe n_123 41 (70 + 3) 0 0 lv_75 _ h_122 = some r := hr_125
        rcases iv_if 78 xm_41 xd_41_73 (by decide) iv_119 hr_126 with ⟨c_127, n_128, e_129, hr_130⟩ | ⟨c_127, n_128, e_129, hr_130⟩
        · obtain ⟨n_131, e_132, hr_133⟩ := iv_iconst xm_41 xd_41_78 (by decide) hr_130
          obtain ⟨lv_135, sl_134, n_136, e_137, hr_138⟩ := iv_istore_n xm_41 xd_41_79 (by decide +kernel) hr_133
          have l_139 := sl_134.2 0 _ l_79 (by decide) (Or.inl rfl)
          have l_140 := sl_134.2 1 _ l_80 (by decide) (Or.inl rfl)
          have l_141 := sl_134.2 2 _ l_81 (by decide) (Or.inl rfl)
          have l_142 := sl_134.1
          obtain ⟨n_143, e_144, hr_145⟩ := iv_aload_n xm_41 xd_41_80 l_140 hr_138
          obtain ⟨n_146, e_147, hr_148⟩ := iv_out (j := 7) (z := 0) (Or.inl ⟨rfl, rfl, by decide +kernel⟩) xm_41 xd_41_81 hr_145
          obtain ⟨n_158, r_149, e_159, hc_150, hr_160⟩ := iv_call (Or.inr ⟨rfl, rfl⟩) xm_41 xd_41_83 (by decide +kernel) xm_121 rfl (by decide +kernel) hr_148
          obtain ⟨v_151, d_152, er_153, iv_154, ok_155⟩ := ds_121 _ _ ok_120 ⟨by decide, by decide⟩ hc_150
          obtain ⟨_, h_157⟩ := r_149
          have er_153 : _ = some (wk_i v_151) := er_153
          subst er_153
          have hr_161 : ae_exe n_158 41 (83 + 3) 0 0 lv_135 _ h_157 = some r := hr_160
          rcases iv_if 107 xm_41 xd_41_86 (by decide) iv_154 hr_161 with ⟨c_162, n_163, e_164, hr_165⟩ | ⟨c_162, n_163, e_164, hr_165⟩
          · obtain ⟨n_166, e_167, hr_168⟩ := iv_aload_n xm_41 xd_41_107 l_139 hr_165
            obtain ⟨n_169, e_170, hr_171⟩ := iv_iload_n xm_41 xd_41_108 l_141 hr_168
            obtain ⟨n_172, e_173, hr_174⟩ := iv_iload_n xm_41 xd_41_109 l_142 hr_171
            obtain ⟨n_184, r_175, e_185, hc_176, hr_186⟩ := iv_call (Or.inr ⟨rfl, rfl⟩) xm_41 xd_41_110 (by decide +kernel) xm_44 rfl (by decide +kernel) hr_174
            obtain ⟨v_177, d_178, er_179, iv_180, ok_181⟩ := ds_44 _ _ _ _ ok_155 t_k0 iv_66 (by unfold sv_I; omega) hc_176
            obtain ⟨_, h_183⟩ := r_175
            have er_179 : _ = some (wk_i v_177) := er_179
            subst er_179
            have hr_187 : ae_exe n_184 41 (110 + 3) 0 0 lv_135 _ h_183 = some r := hr_186
            have rr_188 := iv_ireturn xm_41 xd_41_113 hr_187
            subst rr_188
            exact ⟨_, Or.inl ⟨c_11, ⟨_, _, d_21, ⟨_, _, d_37, Or.inl ⟨c_47, ⟨_, _, d_64, Or.inl ⟨c_88, ⟨_, _, d_98, ⟨_, _, d_117, Or.inl ⟨c_127, ⟨_, _, d_152, Or.inl ⟨c_162, ⟨_, _, d_178, ⟨rfl, rfl⟩⟩⟩⟩⟩⟩⟩⟩⟩⟩⟩⟩⟩, rfl, iv_180, ok_181⟩
          · obtain ⟨n_189, e_190, hr_191⟩ := iv_aload_n xm_41 xd_41_89 l_140 hr_165
            obtain ⟨n_201, r_192, e_202, hc_193, hr_203⟩ := iv_call (Or.inr ⟨rfl, rfl⟩) xm_41 xd_41_90 (by decide +kernel) xm_117 rfl (by decide +kernel) hr_191
            obtain ⟨v_194, d_195, er_196, iv_197, ok_198⟩ := ds_117 _  ok_155 hc_193
            obtain ⟨_, h_200⟩ := r_192
            have er_196 : _ = none := er_196
            subst er_196
            have hr_204 : ae_exe n_201 41 (90 + 3) 0 0 lv_135 _ h_200 = some r := hr_203
            obtain ⟨n_205, e_206, hr_207⟩ := iv_aload_n xm_41 xd_41_93 l_140 hr_204
            obtain ⟨n_208, e_209, hr_210⟩ := iv_iconst xm_41 xd_41_94 (by decide) hr_207
            obtain ⟨n_211, e_212, hr_213⟩ := iv_bipush xm_41 xd_41_95 (by decide) hr_210
            obtain ⟨n_223, r_214, e_224, hc_215, hr_225⟩ := iv_call (Or.inr ⟨rfl, rfl⟩) xm_41 xd_41_97 (by decide +kernel) xm_126 rfl (by decide +kernel) hr_213
            obtain ⟨v_216, d_217, er_218, iv_219, ok_220⟩ := ds_126 _ _ _ ok_198 (by unfold sv_I; omega) (by unfold sv_I; omega) hc_215
            obtain ⟨_, h_222⟩ := r_214
            have er_218 : _ = some (wk_i v_216) := er_218
            subst er_218
            have hr_226 : ae_exe n_223 41 (97 + 3) 0 0 lv_135 _ h_222 = some r := hr_225
            obtain ⟨lv_228, sl_227, n_229, e_230, hr_231⟩ := iv_istore_n xm_41 xd_41_100 (by decide +kernel) hr_226
            have l_232 := sl_227.2 0 _ l_139 (by decide) (Or.inl rfl)
            have l_233 := sl_227.2 1 _ l_140 (by decide) (Or.inl rfl)
            have l_234 := sl_227.2 2 _ l_141 (by decide) (Or.inl rfl)
            have l_235 := sl_227.1
            obtain ⟨n_236, e_237, hr_238⟩ := iv_iload_n xm_41 xd_41_101 l_235 hr_231
            rcases iv_if 107 xm_41 xd_41_102 (by decide) iv_219 hr_238 with ⟨c_239, n_240, e_241, hr_242⟩ | ⟨c_239, n_240, e_241, hr_242⟩
            · obtain ⟨n_243, e_244, hr_245⟩ := iv_aload_n xm_41 xd_41_107 l_232 hr_242
              obtain ⟨n_246, e_247, hr_248⟩ := iv_iload_n xm_41 xd_41_108 l_234 hr_245
              obtain ⟨n_249, e_250, hr_251⟩ := iv_iload_n xm_41 xd_41_109 l_235 hr_248
              obtain ⟨n_261, r_252, e_262, hc_253, hr_263⟩ := iv_call (Or.inr ⟨rfl, rfl⟩) xm_41 xd_41_110 (by decide +kernel) xm_44 rfl (by decide +kernel) hr_251
              obtain ⟨v_254, d_255, er_256, iv_257, ok_258⟩ := ds_44 _ _ _ _ ok_220 t_k0 iv_66 iv_219 hc_253
              obtain ⟨_, h_260⟩ := r_252
              have er_256 : _ = some (wk_i v_254) := er_256
              subst er_256
              have hr_264 : ae_exe n_261 41 (110 + 3) 0 0 lv_228 _ h_260 = some r := hr_263
              have rr_265 := iv_ireturn xm_41 xd_41_113 hr_264
              subst rr_265
              exact ⟨_, Or.inl ⟨c_11, ⟨_, _, d_21, ⟨_, _, d_37, Or.inl ⟨c_47, ⟨_, _, d_64, Or.inl ⟨c_88, ⟨_, _, d_98, ⟨_, _, d_117, Or.inl ⟨c_127, ⟨_, _, d_152, Or.inr ⟨c_162, ⟨_, _, d_195, ⟨_, _, d_217, Or.inl ⟨c_239, ⟨_, _, d_255, ⟨rfl, rfl⟩⟩⟩⟩⟩⟩⟩⟩⟩⟩⟩⟩⟩⟩⟩⟩, rfl, iv_257, ok_258⟩
            · obtain ⟨n_266, e_267, hr_268⟩ := iv_iconst xm_41 xd_41_105 (by decide) hr_242
              have rr_269 := iv_ireturn xm_41 xd_41_106 hr_268
              subst rr_269
              exact ⟨_, Or.inl ⟨c_11, ⟨_, _, d_21, ⟨_, _, d_37, Or.inl ⟨c_47, ⟨_, _, d_64, Or.inl ⟨c_88, ⟨_, _, d_98, ⟨_, _, d_117, Or.inl ⟨c_127, ⟨_, _, d_152, Or.inr ⟨c_162, ⟨_, _, d_195, ⟨_, _, d_217, Or.inr ⟨c_239, ⟨rfl, rfl⟩⟩⟩⟩⟩⟩⟩⟩⟩⟩⟩⟩⟩⟩⟩, rfl, (by unfold sv_I; omega), ok_220⟩
        · obtain ⟨n_270, e_271, hr_272⟩ := iv_iconst xm_41 xd_41_76 (by decide) hr_130
          have rr_273 := iv_ireturn xm_41 xd_41_77 hr_272
          subst rr_273
          exact ⟨_, Or.inl ⟨c_11, ⟨_, _, d_21, ⟨_, _, d_37, Or.inl ⟨c_47, ⟨_, _, d_64, Or.inl ⟨c_88, ⟨_, _, d_98, ⟨_, _, d_117, Or.inr ⟨c_127, ⟨rfl, rfl⟩⟩⟩⟩⟩⟩⟩⟩⟩⟩, rfl, (by unfold sv_I; omega), ok_120⟩
      · obtain ⟨n_274, e_275, hr_276⟩ := iv_aload_n xm_41 xd_41_54 l_80 hr_91
        obtain ⟨n_277, e_278, hr_279⟩ := iv_iconst xm_41 xd_41_55 (by decide) hr_276
        obtain ⟨n_280, e_281, hr_282⟩ := iv_aload_n xm_41 xd_41_56 l_80 hr_279
        have f_283 := dc_fi (j := 5) ok_67 (rfl : sv_ty 1 = some 9) dt_9 rfl
        obtain ⟨n_284, e_285, hr_286⟩ := iv_getf (j := 5) xm_41 xd_41_57 (by decide +kernel) ok_67 (rfl : sv_ty 1 = some 9) dt_9 f_283.1 hr_282
        obtain ⟨n_296, r_287, e_297, hc_288, hr_298⟩ := iv_call (Or.inr ⟨rfl, rfl⟩) xm_41 xd_41_60 (by decide +kernel) xm_123 rfl (by decide +kernel) hr_286
        obtain ⟨v_289, d_290, er_291, iv_292, ok_293⟩ := ds_123 _ _ _ ok_67 (by unfold sv_I; omega) f_283.2 hc_288
        obtain ⟨_, h_295⟩ := r_287
        have er_291 : _ = some (wk_i v_289) := er_291
        subst er_291
        have hr_299 : ae_exe n_296 41 (60 + 3) 0 0 lv_75 _ h_295 = some r := hr_298
        have rr_300 := iv_ireturn xm_41 xd_41_63 hr_299
        subst rr_300
        exact ⟨_, Or.inl ⟨c_11, ⟨_, _, d_21, ⟨_, _, d_37, Or.inl ⟨c_47, ⟨_, _, d_64, Or.inr ⟨c_88, ⟨_, _, d_290, ⟨rfl, rfl⟩⟩⟩⟩⟩⟩⟩⟩, rfl, iv_292, ok_293⟩
    · obtain ⟨n_301, e_302, hr_303⟩ := iv_aload_n xm_41 xd_41_30 q1 hr_50
      obtain ⟨n_304, e_305, hr_306⟩ := iv_iconst xm_41 xd_41_31 (by decide) hr_303
      obtain ⟨n_307, e_308, hr_309⟩ := iv_aload_n xm_41 xd_41_32 q1 hr_306
      have f_310 := dc_fi (j := 5) ok_40 (rfl : sv_ty 1 = some 9) dt_9 rfl
      obtain ⟨n_311, e_312, hr_313⟩ := iv_getf (j := 5) xm_41 xd_41_33 (by decide +kernel) ok_40 (rfl : sv_ty 1 = some 9) dt_9 f_310.1 hr_309
      obtain ⟨n_323, r_314, e_324, hc_315, hr_325⟩ := iv_call (Or.inr ⟨rfl, rfl⟩) xm_41 xd_41_36 (by decide +kernel) xm_123 rfl (by decide +kernel) hr_313
      obtain ⟨v_316, d_317, er_318, iv_319, ok_320⟩ := ds_123 _ _ _ ok_40 (by unfold sv_I; omega) f_310.2 hc_315
      obtain ⟨_, h_322⟩ := r_314
      have er_318 : _ = some (wk_i v_316) := er_318
      subst er_318
      have hr_326 : ae_exe n_323 41 (36 + 3) 0 0 (ae_args [wk_r k0, wk_r 1] 0) _ h_322 = some r := hr_325
      have rr_327 := iv_ireturn xm_41 xd_41_39 hr_326
      subst rr_327
      exact ⟨_, Or.inl ⟨c_11, ⟨_, _, d_21, ⟨_, _, d_37, Or.inr ⟨c_47, ⟨_, _, d_317, ⟨rfl, rfl⟩⟩⟩⟩⟩⟩, rfl, iv_319, ok_320⟩
  · obtain ⟨n_328, e_329, hr_330⟩ := iv_aload_n xm_41 xd_41_9 q1 hr_14
    obtain ⟨n_331, e_332, hr_333⟩ := iv_iconst xm_41 xd_41_10 (by decide) hr_330
    obtain ⟨n_334, e_335, hr_336⟩ := iv_aload_n xm_41 xd_41_11 q1 hr_333
    have f_337 := dc_fi (j := 5) ok (rfl : sv_ty 1 = some 9) dt_9 rfl
    obtain ⟨n_338, e_339, hr_340⟩ := iv_getf (j := 5) xm_41 xd_41_12 (by decide +kernel) ok (rfl : sv_ty 1 = some 9) dt_9 f_337.1 hr_336
    obtain ⟨n_350, r_341, e_351, hc_342, hr_352⟩ := iv_call (Or.inr ⟨rfl, rfl⟩) xm_41 xd_41_15 (by decide +kernel) xm_123 rfl (by decide +kernel) hr_340
    obtain ⟨v_343, d_344, er_345, iv_346, ok_347⟩ := ds_123 _ _ _ ok (by unfold sv_I; omega) f_337.2 hc_342
    obtain ⟨_, h_349⟩ := r_341
    have er_345 : _ = some (wk_i v_343) := er_345
    subst er_345
    have hr_353 : ae_exe n_350 41 (15 + 3) 0 0 (ae_args [wk_r k0, wk_r 1] 0) _ h_349 = some r := hr_352
    have rr_354 := iv_ireturn xm_41 xd_41_18 hr_353
    subst rr_354
    exact ⟨_, Or.inr ⟨c_11, ⟨_, _, d_344, ⟨rfl, rfl⟩⟩⟩, rfl, iv_346, ok_347⟩
/-! method 40 -/
theorem xm_40 : ae_m 40 = some (wk_M 40) := rfl
theorem xd_40_0 : decode (wk_M 40).2.2.1 0 = .ok (.aload_n 1, 1) := zd_by (by decide +kernel)
theorem xd_40_1 : decode (wk_M 40).2.2.1 1 = .ok (.invokevirtual 103, 3) := zd_by (by decide +kernel)
theorem xd_40_4 : decode (wk_M 40).2.2.1 4 = .ok (.aload_n 1, 1) := zd_by (by decide +kernel)
theorem xd_40_5 : decode (wk_M 40).2.2.1 5 = .ok (.iconst 1, 1) := zd_by (by decide +kernel)
theorem xd_40_6 : decode (wk_M 40).2.2.1 6 = .ok (.bipush 20, 2) := zd_by (by decide +kernel)
theorem xd_40_8 : decode (wk_M 40).2.2.1 8 = .ok (.invokevirtual 116, 3) := zd_by (by decide +kernel)
theorem xd_40_11 : decode (wk_M 40).2.2.1 11 = .ok (.istore_n 2, 1) := zd_by (by decide +kernel)
theorem xd_40_12 : decode (wk_M 40).2.2.1 12 = .ok (.iload_n 2, 1) := zd_by (by decide +kernel)
theorem xd_40_13 : decode (wk_M 40).2.2.1 13 = .ok (.ifCond .ne 5, 3) := zd_by (by decide +kernel)
theorem xd_40_16 : decode (wk_M 40).2.2.1 16 = .ok (.iconst 0, 1) := zd_by (by decide +kernel)
theorem xd_40_17 : decode (wk_M 40).2.2.1 17 = .ok (.ireturn, 1) := zd_by (by decide +kernel)
theorem xd_40_18 : decode (wk_M 40).2.2.1 18 = .ok (.aload_n 1, 1) := zd_by (by decide +kernel)
theorem xd_40_19 : decode (wk_M 40).2.2.1 19 = .ok (.getfield 94, 3) := zd_by (by decide +kernel)
theorem xd_40_22 : decode (wk_M 40).2.2.1 22 = .ok (.istore_n 3, 1) := zd_by (by decide +kernel)
theorem xd_40_23 : decode (wk_M 40).2.2.1 23 = .ok (.aload_n 1, 1) := zd_by (by decide +kernel)
theorem xd_40_24 : decode (wk_M 40).2.2.1 24 = .ok (.iconst 1, 1) := zd_by (by decide +kernel)
theorem xd_40_25 : decode (wk_M 40).2.2.1 25 = .ok (.iconst 3, 1) := zd_by (by decide +kernel)
theorem xd_40_26 : decode (wk_M 40).2.2.1 26 = .ok (.invokevirtual 116, 3) := zd_by (by decide +kernel)
theorem xd_40_29 : decode (wk_M 40).2.2.1 29 = .ok (.istore 4, 2) := zd_by (by decide +kernel)
theorem xd_40_31 : decode (wk_M 40).2.2.1 31 = .ok (.iload 4, 2) := zd_by (by decide +kernel)
theorem xd_40_33 : decode (wk_M 40).2.2.1 33 = .ok (.ifCond .ne 5, 3) := zd_by (by decide +kernel)
theorem xd_40_36 : decode (wk_M 40).2.2.1 36 = .ok (.iconst 0, 1) := zd_by (by decide +kernel)
theorem xd_40_37 : decode (wk_M 40).2.2.1 37 = .ok (.ireturn, 1) := zd_by (by decide +kernel)
theorem xd_40_38 : decode (wk_M 40).2.2.1 38 = .ok (.aload_n 0, 1) := zd_by (by decide +kernel)
theorem xd_40_39 : decode (wk_M 40).2.2.1 39 = .ok (.getfield 21, 3) := zd_by (by decide +kernel)
theorem xd_40_42 : decode (wk_M 40).2.2.1 42 = .ok (.iload 4, 2) := zd_by (by decide +kernel)
theorem xd_40_44 : decode (wk_M 40).2.2.1 44 = .ok (.iaload, 1) := zd_by (by decide +kernel)
theorem xd_40_45 : decode (wk_M 40).2.2.1 45 = .ok (.ifCond .eq 10, 3) := zd_by (by decide +kernel)
theorem xd_40_48 : decode (wk_M 40).2.2.1 48 = .ok (.aload_n 1, 1) := zd_by (by decide +kernel)
theorem xd_40_49 : decode (wk_M 40).2.2.1 49 = .ok (.iconst 3, 1) := zd_by (by decide +kernel)
theorem xd_40_50 : decode (wk_M 40).2.2.1 50 = .ok (.iload_n 3, 1) := zd_by (by decide +kernel)
theorem xd_40_51 : decode (wk_M 40).2.2.1 51 = .ok (.invokevirtual 97, 3) := zd_by (by decide +kernel)
theorem xd_40_54 : decode (wk_M 40).2.2.1 54 = .ok (.ireturn, 1) := zd_by (by decide +kernel)
theorem xd_40_55 : decode (wk_M 40).2.2.1 55 = .ok (.aload_n 0, 1) := zd_by (by decide +kernel)
theorem xd_40_56 : decode (wk_M 40).2.2.1 56 = .ok (.getfield 21, 3) := zd_by (by decide +kernel)
theorem xd_40_59 : decode (wk_M 40).2.2.1 59 = .ok (.iload 4, 2) := zd_by (by decide +kernel)
theorem xd_40_61 : decode (wk_M 40).2.2.1 61 = .ok (.iload_n 2, 1) := zd_by (by decide +kernel)
theorem xd_40_62 : decode (wk_M 40).2.2.1 62 = .ok (.iastore, 1) := zd_by (by decide +kernel)
theorem xd_40_63 : decode (wk_M 40).2.2.1 63 = .ok (.iconst 1, 1) := zd_by (by decide +kernel)
theorem xd_40_64 : decode (wk_M 40).2.2.1 64 = .ok (.ireturn, 1) := zd_by (by decide +kernel)
abbrev D_40 (k0 : Nat) (m : dc_M) (v : Int) (m' : dc_M) : Prop := ∃ v_6 m_11, D_117 m v_6 m_11 ∧ (∃ v_28 m_33, D_126 1 20 m_11 v_28 m_33 ∧ ((((v_28 : Int) ≠ 0 ∧ (∃ v_81 m_86, D_126 1 3 m_33 v_81 m_86 ∧ ((((v_81 : Int) ≠ 0 ∧ ((0 ≤ (v_81 : Int) ∧ (v_81 : Int) < 4) ∧ (((((m_86 (k0 + 4) v_81) : Int) = 0 ∧ ((0 ≤ (v_81 : Int) ∧ (v_81 : Int) < 4) ∧ ∃ m_145, m_145 = dc_up m_86 (k0 + 4) v_81 v_28 ∧ (v = 1 ∧ m' = m_145))) ∨ (¬ (((m_86 (k0 + 4) v_81) : Int) = 0) ∧ (∃ v_164 m_169, D_123 3 ((m_33 1 5)) m_86 v_164 m_169 ∧ (v = v_164 ∧ m' = m_169))))))) ∨ (¬ ((v_81 : Int) ≠ 0) ∧ (v = 0 ∧ m' = m_86)))))) ∨ (¬ ((v_28 : Int) ≠ 0) ∧ (v = 0 ∧ m' = m_33)))))
theorem ds_40 (n : Nat) (k0 : Nat) {h : ae_H} {r : ae_R} (ok : dc_ok h) (t_k0 : sv_ty k0 = some 2) (hr : ae_exe n 40 0 0 0 (ae_args [wk_r k0, wk_r 1] 0) [] h = some r) : ∃ v, D_40 k0 (dc_m h) v (dc_m r.2) ∧ r.1 = some (wk_i v) ∧ sv_I v ∧ dc_ok r.2 := by
  have q0 : ae_lk (ae_args [wk_r k0, wk_r 1] 0) 0 = some (wk_r k0) := rfl
  have q1 : ae_lk (ae_args [wk_r k0, wk_r 1] 0) 1 = some (wk_r 1) := rfl
  obtain ⟨n_1, e_2, hr_3⟩ := iv_aload_n xm_40 xd_40_0 q1 hr
  obtain ⟨n_13, r_4, e_14, hc_5, hr_15⟩ := iv_call (Or.inr ⟨rfl, rfl⟩) xm_40 xd_40_1 (by decide +kernel) xm_117 rfl (by decide +kernel) hr_3
  obtain ⟨v_6, d_7, er_8, iv_9, ok_10⟩ := ds_117 _  ok hc_5
  obtain ⟨_, h_12⟩ := r_4
  have er_8 : _ = none := er_8
  subst er_8
  have hr_16 : ae_exe n_13 40 (1 + 3) 0 0 (ae_args [wk_r k0, wk_r 1] 0) _ h_12 = some r := hr_15
  obtain ⟨n_17, e_18, hr_19⟩ := iv_aload_n xm_40 xd_40_4 q1 hr_16
  obtain ⟨n_20, e_21, hr_22⟩ := iv_iconst xm_40 xd_40_5 (by decide) hr_19
  obtain ⟨n_23, e_24, hr_25⟩ := iv_bipush xm_40 xd_40_6 (by decide) hr_22
  obtain ⟨n_35, r_26, e_36, hc_27, hr_37⟩ := iv_call (Or.inr ⟨rfl, rfl⟩) xm_40 xd_40_8 (by decide +kernel) xm_126 rfl (by decide +kernel) hr_25
  obtain ⟨v_28, d_29, er_30, iv_31, ok_32⟩ := ds_126 _ _ _ ok_10 (by unfold sv_I; omega) (by unfold sv_I; omega) hc_27
  obtain ⟨_, h_34⟩ := r_26
  have er_30 : _ = some (wk_i v_28) := er_30
  subst er_30
  have hr_38 : ae_exe n_35 40 (8 + 3) 0 0 (ae_args [wk_r k0, wk_r 1] 0) _ h_34 = some r := hr_37
  obtain ⟨lv_40, sl_39, n_41, e_42, hr_43⟩ := iv_istore_n xm_40 xd_40_11 (by decide +kernel) hr_38
  have l_44 := sl_39.2 0 _ q0 (by decide) (Or.inl rfl)
  have l_45 := sl_39.2 1 _ q1 (by decide) (Or.inl rfl)
  have l_46 := sl_39.1
  obtain ⟨n_47, e_48, hr_49⟩ := iv_iload_n xm_40 xd_40_12 l_46 hr_43
  rcases iv_if 18 xm_40 xd_40_13 (by decide) iv_31 hr_49 with ⟨c_50, n_51, e_52, hr_53⟩ | ⟨c_50, n_51, e_52, hr_53⟩
  · obtain ⟨n_54, e_55, hr_56⟩ := iv_aload_n xm_40 xd_40_18 l_45 hr_53
    have f_57 := dc_fi (j := 5) ok_32 (rfl : sv_ty 1 = some 9) dt_9 rfl
    obtain ⟨n_58, e_59, hr_60⟩ := iv_getf (j := 5) xm_40 xd_40_19 (by decide +kernel) ok_32 (rfl : sv_ty 1 = some 9) dt_9 f_57.1 hr_56
    obtain ⟨lv_62, sl_61, n_63, e_64, hr_65⟩ := iv_istore_n xm_40 xd_40_22 (by decide +kernel) hr_60
    have l_66 := sl_61.2 0 _ l_44 (by decide) (Or.inl rfl)
    have l_67 := sl_61.2 1 _ l_45 (by decide) (Or.inl rfl)
    have l_68 := sl_61.2 2 _ l_46 (by decide) (Or.inl rfl)
    have l_69 := sl_61.1
    obtain ⟨n_70, e_71, hr_72⟩ := iv_aload_n xm_40 xd_40_23 l_67 hr_65
    obtain ⟨n_73, e_74, hr_75⟩ := iv_iconst xm_40 xd_40_24 (by decide) hr_72
    obtain ⟨n_76, e_77, hr_78⟩ := iv_iconst xm_40 xd_40_25 (by decide) hr_75
    obtain ⟨n_88, r_79, e_89, hc_80, hr_90⟩ := iv_call (Or.inr ⟨rfl, rfl⟩) xm_40 xd_40_26 (by decide +kernel) xm_126 rfl (by decide +kernel) hr_78
    obtain ⟨v_81, d_82, er_83, iv_84, ok_85⟩ := ds_126 _ _ _ ok_32 (by unfold sv_I; omega) (by unfold sv_I; omega) hc_80
    obtain ⟨_, h_87⟩ := r_79
    have er_83 : _ = some (wk_i v_81) := er_83
    subst er_83
    have hr_91 : ae_exe n_88 40 (26 + 3) 0 0 lv_62 _ h_87 = some r := hr_90
    obtain ⟨lv_93, sl_92, n_94, e_95, hr_96⟩ := iv_istore xm_40 xd_40_29 (by decide +kernel) hr_91
    have l_97 := sl_92.2 0 _ l_66 (by decide) (Or.inl rfl)
    have l_98 := sl_92.2 1 _ l_67 (by decide) (Or.inl rfl)
    have l_99 := sl_92.2 2 _ l_68 (by decide) (Or.inl rfl)
    have l_100 := sl_92.2 3 _ l_69 (by decide) (Or.inl rfl)
    have l_101 := sl_92.1
    obtain ⟨n_102, e_103, hr_104⟩ := iv_iload xm_40 xd_40_31 l_101 hr_96
    rcases iv_if 38 xm_40 xd_40_33 (by decide) iv_84 hr_104 with ⟨c_105, n_106, e_107, hr_108⟩ | ⟨c_105, n_106, e_107, hr_108⟩
    · obtain ⟨n_109, e_110, hr_111⟩ := iv_aload_n xm_40 xd_40_38 l_97 hr_108
      have f_112 := dc_fr (j := 4) ok_85 t_k0 dt_2 rfl
      obtain ⟨n_113, e_114, hr_115⟩ := iv_getf (j := 4) xm_40 xd_40_39 (by decide +kernel) ok_85 t_k0 dt_2 f_112 hr_111
      obtain ⟨n_116, e_117, hr_118⟩ := iv_iload xm_40 xd_40_42 l_101 hr_115
      obtain ⟨q_119, qi_120, n_121, e_122, hr_123⟩ := iv_iald xm_40 xd_40_44 ok_85 (do_2_4 t_k0) dt_43 (by decide) iv_84 hr_118
      rcases iv_if 55 xm_40 xd_40_45 (by decide) qi_120 hr_123 with ⟨c_124, n_125, e_126, hr_127⟩ | ⟨c_124, n_125, e_126, hr_127⟩
      · obtain ⟨n_128, e_129, hr_130⟩ := iv_aload_n xm_40 xd_40_55 l_97 hr_127
        have f_131 := dc_fr (j := 4) ok_85 t_k0 dt_2 rfl
        obtain ⟨n_132, e_133, hr_134⟩ := iv_getf (j := 4) xm_40 xd_40_56 (by decide +kernel) ok_85 t_k0 dt_2 f_131 hr_130
        obtain ⟨n_135, e_136, hr_137⟩ := iv_iload xm_40 xd_40_59 l_101 hr_134
        obtain ⟨n_138, e_139, hr_140⟩ := iv_iload_n xm_40 xd_40_61 l_99 hr_137
        obtain ⟨q_141, h_142, ok_143, em_144, n_146, e_147, hr_148⟩ := iv_iast xm_40 xd_40_62 ok_85 (do_2_4 t_k0) dt_43 (by decide) iv_84 iv_31 hr_140
        obtain ⟨n_149, e_150, hr_151⟩ := iv_iconst xm_40 xd_40_63 (by decide) hr_148
        have rr_152 := iv_ireturn xm_40 xd_40_64 hr_151
        subst rr_152
        exact ⟨_, ⟨_, _, d_7, ⟨_, _, d_29, Or.inl ⟨c_50, ⟨_, _, d_82, Or.inl ⟨c_105, ⟨q_119, Or.inl ⟨c_124, ⟨q_141, _, em_144, ⟨rfl, rfl⟩⟩⟩⟩⟩⟩⟩⟩⟩, rfl, (by unfold sv_I; omega), ok_143⟩
      · obtain ⟨n_153, e_154, hr_155⟩ := iv_aload_n xm_40 xd_40_48 l_98 hr_127
        obtain ⟨n_156, e_157, hr_158⟩ := iv_iconst xm_40 xd_40_49 (by decide) hr_155
        obtain ⟨n_159, e_160, hr_161⟩ := iv_iload_n xm_40 xd_40_50 l_100 hr_158
        obtain ⟨n_171, r_162, e_172, hc_163, hr_173⟩ := iv_call (Or.inr ⟨rfl, rfl⟩) xm_40 xd_40_51 (by decide +kernel) xm_123 rfl (by decide +kernel) hr_161
        obtain ⟨v_164, d_165, er_166, iv_167, ok_168⟩ := ds_123 _ _ _ ok_85 (by unfold sv_I; omega) f_57.2 hc_163
        obtain ⟨_, h_170⟩ := r_162
        have er_166 : _ = some (wk_i v_164) := er_166
        subst er_166
        have hr_174 : ae_exe n_171 40 (51 + 3) 0 0 lv_93 _ h_170 = some r := hr_173
        have rr_175 := iv_ireturn xm_40 xd_40_54 hr_174
        subst rr_175
        exact ⟨_, ⟨_, _, d_7, ⟨_, _, d_29, Or.inl ⟨c_50, ⟨_, _, d_82, Or.inl ⟨c_105, ⟨q_119, Or.inr ⟨c_124, ⟨_, _, d_165, ⟨rfl, rfl⟩⟩⟩⟩⟩⟩⟩⟩⟩, rfl, iv_167, ok_168⟩
    · obtain ⟨n_176, e_177, hr_178⟩ := iv_iconst xm_40 xd_40_36 (by decide) hr_108
      have rr_179 := iv_ireturn xm_40 xd_40_37 hr_178
      subst rr_179
      exact ⟨_, ⟨_, _, d_7, ⟨_, _, d_29, Or.inl ⟨c_50, ⟨_, _, d_82, Or.inr ⟨c_105, ⟨rfl, rfl⟩⟩⟩⟩⟩⟩, rfl, (by unfold sv_I; omega), ok_85⟩
  · obtain ⟨n_180, e_181, hr_182⟩ := iv_iconst xm_40 xd_40_16 (by decide) hr_53
    have rr_183 := iv_ireturn xm_40 xd_40_17 hr_182
    subst rr_183
    exact ⟨_, ⟨_, _, d_7, ⟨_, _, d_29, Or.inr ⟨c_50, ⟨rfl, rfl⟩⟩⟩⟩, rfl, (by unfold sv_I; omega), ok_32⟩
/-! method 39 -/
theorem xm_39 : ae_m 39 = some (wk_M 39) := rfl
theorem xd_39_0 : decode (wk_M 39).2.2.1 0 = .ok (.aload_n 0, 1) := zd_by (by decide +kernel)
theorem xd_39_1 : decode (wk_M 39).2.2.1 1 = .ok (.getfield 36, 3) := zd_by (by decide +kernel)
theorem xd_39_4 : decode (wk_M 39).2.2.1 4 = .ok (.bipush 6, 2) := zd_by (by decide +kernel)
theorem xd_39_6 : decode (wk_M 39).2.2.1 6 = .ok (.if_icmp .lt 13, 3) := zd_by (by decide +kernel)
theorem xd_39_9 : decode (wk_M 39).2.2.1 9 = .ok (.aload_n 1, 1) := zd_by (by decide +kernel)
theorem xd_39_10 : decode (wk_M 39).2.2.1 10 = .ok (.iconst 4, 1) := zd_by (by decide +kernel)
theorem xd_39_11 : decode (wk_M 39).2.2.1 11 = .ok (.aload_n 1, 1) := zd_by (by decide +kernel)
theorem xd_39_12 : decode (wk_M 39).2.2.1 12 = .ok (.getfield 94, 3) := zd_by (by decide +kernel)
theorem xd_39_15 : decode (wk_M 39).2.2.1 15 = .ok (.invokevirtual 97, 3) := zd_by (by decide +kernel)
theorem xd_39_18 : decode (wk_M 39).2.2.1 18 = .ok (.ireturn, 1) := zd_by (by decide +kernel)
theorem xd_39_19 : decode (wk_M 39).2.2.1 19 = .ok (.aload_n 1, 1) := zd_by (by decide +kernel)
theorem xd_39_20 : decode (wk_M 39).2.2.1 20 = .ok (.invokevirtual 103, 3) := zd_by (by decide +kernel)
theorem xd_39_23 : decode (wk_M 39).2.2.1 23 = .ok (.aload_n 1, 1) := zd_by (by decide +kernel)
theorem xd_39_24 : decode (wk_M 39).2.2.1 24 = .ok (.invokestatic 106, 3) := zd_by (by decide +kernel)
theorem xd_39_27 : decode (wk_M 39).2.2.1 27 = .ok (.ifCond .ne 13, 3) := zd_by (by decide +kernel)
theorem xd_39_30 : decode (wk_M 39).2.2.1 30 = .ok (.aload_n 1, 1) := zd_by (by decide +kernel)
theorem xd_39_31 : decode (wk_M 39).2.2.1 31 = .ok (.iconst 1, 1) := zd_by (by decide +kernel)
theorem xd_39_32 : decode (wk_M 39).2.2.1 32 = .ok (.aload_n 1, 1) := zd_by (by decide +kernel)
theorem xd_39_33 : decode (wk_M 39).2.2.1 33 = .ok (.getfield 94, 3) := zd_by (by decide +kernel)
theorem xd_39_36 : decode (wk_M 39).2.2.1 36 = .ok (.invokevirtual 97, 3) := zd_by (by decide +kernel)
theorem xd_39_39 : decode (wk_M 39).2.2.1 39 = .ok (.ireturn, 1) := zd_by (by decide +kernel)
theorem xd_39_40 : decode (wk_M 39).2.2.1 40 = .ok (.aload_n 1, 1) := zd_by (by decide +kernel)
theorem xd_39_41 : decode (wk_M 39).2.2.1 41 = .ok (.getfield 109, 3) := zd_by (by decide +kernel)
theorem xd_39_44 : decode (wk_M 39).2.2.1 44 = .ok (.istore_n 2, 1) := zd_by (by decide +kernel)
theorem xd_39_45 : decode (wk_M 39).2.2.1 45 = .ok (.aload_n 0, 1) := zd_by (by decide +kernel)
theorem xd_39_46 : decode (wk_M 39).2.2.1 46 = .ok (.iload_n 2, 1) := zd_by (by decide +kernel)
theorem xd_39_47 : decode (wk_M 39).2.2.1 47 = .ok (.invokevirtual 112, 3) := zd_by (by decide +kernel)
theorem xd_39_50 : decode (wk_M 39).2.2.1 50 = .ok (.iconst (-1), 1) := zd_by (by decide +kernel)
theorem xd_39_51 : decode (wk_M 39).2.2.1 51 = .ok (.if_icmp .eq 13, 3) := zd_by (by decide +kernel)
theorem xd_39_54 : decode (wk_M 39).2.2.1 54 = .ok (.aload_n 1, 1) := zd_by (by decide +kernel)
theorem xd_39_55 : decode (wk_M 39).2.2.1 55 = .ok (.iconst 3, 1) := zd_by (by decide +kernel)
theorem xd_39_56 : decode (wk_M 39).2.2.1 56 = .ok (.aload_n 1, 1) := zd_by (by decide +kernel)
theorem xd_39_57 : decode (wk_M 39).2.2.1 57 = .ok (.getfield 94, 3) := zd_by (by decide +kernel)
theorem xd_39_60 : decode (wk_M 39).2.2.1 60 = .ok (.invokevirtual 97, 3) := zd_by (by decide +kernel)
theorem xd_39_63 : decode (wk_M 39).2.2.1 63 = .ok (.ireturn, 1) := zd_by (by decide +kernel)
theorem xd_39_64 : decode (wk_M 39).2.2.1 64 = .ok (.aload_n 1, 1) := zd_by (by decide +kernel)
theorem xd_39_65 : decode (wk_M 39).2.2.1 65 = .ok (.invokevirtual 103, 3) := zd_by (by decide +kernel)
theorem xd_39_68 : decode (wk_M 39).2.2.1 68 = .ok (.aload_n 1, 1) := zd_by (by decide +kernel)
theorem xd_39_69 : decode (wk_M 39).2.2.1 69 = .ok (.iconst 1, 1) := zd_by (by decide +kernel)
theorem xd_39_70 : decode (wk_M 39).2.2.1 70 = .ok (.bipush 20, 2) := zd_by (by decide +kernel)
theorem xd_39_72 : decode (wk_M 39).2.2.1 72 = .ok (.invokevirtual 116, 3) := zd_by (by decide +kernel)
theorem xd_39_75 : decode (wk_M 39).2.2.1 75 = .ok (.istore_n 3, 1) := zd_by (by decide +kernel)
theorem xd_39_76 : decode (wk_M 39).2.2.1 76 = .ok (.iload_n 3, 1) := zd_by (by decide +kernel)
theorem xd_39_77 : decode (wk_M 39).2.2.1 77 = .ok (.ifCond .ne 5, 3) := zd_by (by decide +kernel)
theorem xd_39_80 : decode (wk_M 39).2.2.1 80 = .ok (.iconst 0, 1) := zd_by (by decide +kernel)
theorem xd_39_81 : decode (wk_M 39).2.2.1 81 = .ok (.ireturn, 1) := zd_by (by decide +kernel)
theorem xd_39_82 : decode (wk_M 39).2.2.1 82 = .ok (.aload_n 1, 1) := zd_by (by decide +kernel)
theorem xd_39_83 : decode (wk_M 39).2.2.1 83 = .ok (.iload_n 3, 1) := zd_by (by decide +kernel)
theorem xd_39_84 : decode (wk_M 39).2.2.1 84 = .ok (.bipush 20, 2) := zd_by (by decide +kernel)
theorem xd_39_86 : decode (wk_M 39).2.2.1 86 = .ok (.iload_n 3, 1) := zd_by (by decide +kernel)
theorem xd_39_87 : decode (wk_M 39).2.2.1 87 = .ok (.bipush 6, 2) := zd_by (by decide +kernel)
theorem xd_39_89 : decode (wk_M 39).2.2.1 89 = .ok (.iadd, 1) := zd_by (by decide +kernel)
theorem xd_39_90 : decode (wk_M 39).2.2.1 90 = .ok (.iconst 1, 1) := zd_by (by decide +kernel)
theorem xd_39_91 : decode (wk_M 39).2.2.1 91 = .ok (.isub, 1) := zd_by (by decide +kernel)
theorem xd_39_92 : decode (wk_M 39).2.2.1 92 = .ok (.invokestatic 120, 3) := zd_by (by decide +kernel)
theorem xd_39_95 : decode (wk_M 39).2.2.1 95 = .ok (.invokevirtual 116, 3) := zd_by (by decide +kernel)
theorem xd_39_98 : decode (wk_M 39).2.2.1 98 = .ok (.istore 4, 2) := zd_by (by decide +kernel)
theorem xd_39_100 : decode (wk_M 39).2.2.1 100 = .ok (.iload 4, 2) := zd_by (by decide +kernel)
theorem xd_39_102 : decode (wk_M 39).2.2.1 102 = .ok (.ifCond .ne 5, 3) := zd_by (by decide +kernel)
theorem xd_39_105 : decode (wk_M 39).2.2.1 105 = .ok (.iconst 0, 1) := zd_by (by decide +kernel)
theorem xd_39_106 : decode (wk_M 39).2.2.1 106 = .ok (.ireturn, 1) := zd_by (by decide +kernel)
theorem xd_39_107 : decode (wk_M 39).2.2.1 107 = .ok (.aload_n 0, 1) := zd_by (by decide +kernel)
theorem xd_39_108 : decode (wk_M 39).2.2.1 108 = .ok (.getfield 11, 3) := zd_by (by decide +kernel)
theorem xd_39_111 : decode (wk_M 39).2.2.1 111 = .ok (.aload_n 0, 1) := zd_by (by decide +kernel)
theorem xd_39_112 : decode (wk_M 39).2.2.1 112 = .ok (.getfield 36, 3) := zd_by (by decide +kernel)
theorem xd_39_115 : decode (wk_M 39).2.2.1 115 = .ok (.iload_n 2, 1) := zd_by (by decide +kernel)
theorem xd_39_116 : decode (wk_M 39).2.2.1 116 = .ok (.iastore, 1) := zd_by (by decide +kernel)
theorem xd_39_117 : decode (wk_M 39).2.2.1 117 = .ok (.aload_n 0, 1) := zd_by (by decide +kernel)
theorem xd_39_118 : decode (wk_M 39).2.2.1 118 = .ok (.getfield 15, 3) := zd_by (by decide +kernel)
theorem xd_39_121 : decode (wk_M 39).2.2.1 121 = .ok (.aload_n 0, 1) := zd_by (by decide +kernel)
theorem xd_39_122 : decode (wk_M 39).2.2.1 122 = .ok (.getfield 36, 3) := zd_by (by decide +kernel)
theorem xd_39_125 : decode (wk_M 39).2.2.1 125 = .ok (.iload_n 3, 1) := zd_by (by decide +kernel)
theorem xd_39_126 : decode (wk_M 39).2.2.1 126 = .ok (.iastore, 1) := zd_by (by decide +kernel)
theorem xd_39_127 : decode (wk_M 39).2.2.1 127 = .ok (.aload_n 0, 1) := zd_by (by decide +kernel)
theorem xd_39_128 : decode (wk_M 39).2.2.1 128 = .ok (.getfield 18, 3) := zd_by (by decide +kernel)
theorem xd_39_131 : decode (wk_M 39).2.2.1 131 = .ok (.aload_n 0, 1) := zd_by (by decide +kernel)
theorem xd_39_132 : decode (wk_M 39).2.2.1 132 = .ok (.getfield 36, 3) := zd_by (by decide +kernel)
theorem xd_39_135 : decode (wk_M 39).2.2.1 135 = .ok (.iload 4, 2) := zd_by (by decide +kernel)
theorem xd_39_137 : decode (wk_M 39).2.2.1 137 = .ok (.iastore, 1) := zd_by (by decide +kernel)
theorem xd_39_138 : decode (wk_M 39).2.2.1 138 = .ok (.aload_n 0, 1) := zd_by (by decide +kernel)
theorem xd_39_139 : decode (wk_M 39).2.2.1 139 = .ok (.dup, 1) := zd_by (by decide +kernel)
theorem xd_39_140 : decode (wk_M 39).2.2.1 140 = .ok (.getfield 36, 3) := zd_by (by decide +kernel)
theorem xd_39_143 : decode (wk_M 39).2.2.1 143 = .ok (.iconst 1, 1) := zd_by (by decide +kernel)
theorem xd_39_144 : decode (wk_M 39).2.2.1 144 = .ok (.iadd, 1) := zd_by (by decide +kernel)
theorem xd_39_145 : decode (wk_M 39).2.2.1 145 = .ok (.putfield 36, 3) := zd_by (by decide +kernel)
theorem xd_39_148 : decode (wk_M 39).2.2.1 148 = .ok (.iconst 1, 1) := zd_by (by decide +kernel)
theorem xd_39_149 : decode (wk_M 39).2.2.1 149 = .ok (.ireturn, 1) := zd_by (by decide +kernel)
abbrev D_39 (k0 : Nat) (m : dc_M) (v : Int) (m' : dc_M) : Prop := ((((m k0 3) : Int) < 6 ∧ (∃ v_20 m_25, D_117 m v_20 m_25 ∧ (∃ v_36 m_41, D_37 m_25 v_36 m_41 ∧ ((((v_36 : Int) ≠ 0 ∧ (∃ v_74 m_79, D_38 k0 ((m_41 1 7)) m_41 v_74 m_79 ∧ ((((v_74 : Int) = (-1) ∧ (∃ v_97 m_102, D_117 m_79 v_97 m_102 ∧ (∃ v_119 m_124, D_126 1 20 m_102 v_119 m_124 ∧ ((((v_119 : Int) ≠ 0 ∧ (∃ v_175 m_180, D_126 v_119 ((if (dc_w ((dc_w (v_119 + 6)) - 1)) < 20 then (dc_w ((dc_w (v_119 + 6)) - 1)) else 20)) m_124 v_175 m_180 ∧ ((((v_175 : Int) ≠ 0 ∧ ((0 ≤ ((m_180 k0 3) : Int) ∧ ((m_180 k0 3) : Int) < 6) ∧ ∃ m_224, m_224 = dc_up m_180 (k0 + 1) (m_180 k0 3) (m_41 1 7) ∧ ((0 ≤ ((m_224 k0 3) : Int) ∧ ((m_224 k0 3) : Int) < 6) ∧ ∃ m_249, m_249 = dc_up m_224 (k0 + 2) (m_224 k0 3) v_119 ∧ ((0 ≤ ((m_249 k0 3) : Int) ∧ ((m_249 k0 3) : Int) < 6) ∧ ∃ m_274, m_274 = dc_up m_249 (k0 + 3) (m_249 k0 3) v_175 ∧ (∃ m_297, m_297 = dc_up m_274 k0 3 (dc_w ((m_274 k0 3) + 1)) ∧ (v = 1 ∧ m' = m_297)))))) ∨ (¬ ((v_175 : Int) ≠ 0) ∧ (v = 0 ∧ m' = m_180)))))) ∨ (¬ ((v_119 : Int) ≠ 0) ∧ (v = 0 ∧ m' = m_124))))))) ∨ (¬ ((v_74 : Int) = (-1)) ∧ (∃ v_328 m_333, D_123 3 ((m_79 1 5)) m_79 v_328 m_333 ∧ (v = v_328 ∧ m' = m_333))))))) ∨ (¬ ((v_36 : Int) ≠ 0) ∧ (∃ v_355 m_360, D_123 1 ((m_41 1 5)) m_41 v_355 m_360 ∧ (v = v_355 ∧ m' = m_360)))))))) ∨ (¬ (((m k0 3) : Int) < 6) ∧ (∃ v_382 m_387, D_123 4 ((m 1 5)) m v_382 m_387 ∧ (v = v_382 ∧ m' = m_387))))
theorem ds_39 (n : Nat) (k0 : Nat) {h : ae_H} {r : ae_R} (ok : dc_ok h) (t_k0 : sv_ty k0 = some 2) (hr : ae_exe n 39 0 0 0 (ae_args [wk_r k0, wk_r 1] 0) [] h = some r) : ∃ v, D_39 k0 (dc_m h) v (dc_m r.2) ∧ r.1 = some (wk_i v) ∧ sv_I v ∧ dc_ok r.2 := by
  have q0 : ae_lk (ae_args [wk_r k0, wk_r 1] 0) 0 = some (wk_r k0) := rfl
  have q1 : ae_lk (ae_args [wk_r k0, wk_r 1] 0) 1 = some (wk_r 1) := rfl
  obtain ⟨n_1, e_2, hr_3⟩ := iv_aload_n xm_39 xd_39_0 q0 hr
  have f_4 := dc_fi (j := 3) ok t_k0 dt_2 rfl
  obtain ⟨n_5, e_6, hr_7⟩ := iv_getf (j := 3) xm_39 xd_39_1 (by decide +kernel) ok t_k0 dt_2 f_4.1 hr_3
  obtain ⟨n_8, e_9, hr_10⟩ := iv_bipush xm_39 xd_39_4 (by decide) hr_7
  rcases iv_icmp 19 xm_39 xd_39_6 (by decide) f_4.2 (by unfold sv_I; omega) hr_10 with ⟨c_11, n_12, e_13, hr_14⟩ | ⟨c_11, n_12, e_13, hr_14⟩
  · obtain ⟨n_15, e_16, hr_17⟩ := iv_aload_n xm_39 xd_39_19 q1 hr_14
    obtain ⟨n_27, r_18, e_28, hc_19, hr_29⟩ := iv_call (Or.inr ⟨rfl, rfl⟩) xm_39 xd_39_20 (by decide +kernel) xm_117 rfl (by decide +kernel) hr_17
    obtain ⟨v_20, d_21, er_22, iv_23, ok_24⟩ := ds_117 _  ok hc_19
    obtain ⟨_, h_26⟩ := r_18
    have er_22 : _ = none := er_22
    subst er_22
    have hr_30 : ae_exe n_27 39 (20 + 3) 0 0 (ae_args [wk_r k0, wk_r 1] 0) _ h_26 = some r := hr_29
    obtain ⟨n_31, e_32, hr_33⟩ := iv_aload_n xm_39 xd_39_23 q1 hr_30
    obtain ⟨n_43, r_34, e_44, hc_35, hr_45⟩ := iv_call (Or.inl ⟨rfl, rfl⟩) xm_39 xd_39_24 (by decide +kernel) xm_37 rfl (by decide +kernel) hr_33
    obtain ⟨v_36, d_37, er_38, iv_39, ok_40⟩ := ds_37 _  ok_24 hc_35
    obtain ⟨_, h_42⟩ := r_34
    have er_38 : _ = some (wk_i v_36) := er_38
    subst er_38
    have hr_46 : ae_exe n_43 39 (24 + 3) 0 0 (ae_args [wk_r k0, wk_r 1] 0) _ h_42 = some r := hr_45
    rcases iv_if 40 xm_39 xd_39_27 (by decide) iv_39 hr_46 with ⟨c_47, n_48, e_49, hr_50⟩ | ⟨c_47, n_48, e_49, hr_50⟩
    · obtain ⟨n_51, e_52, hr_53⟩ := iv_aload_n xm_39 xd_39_40 q1 hr_50
      have f_54 := dc_fi (j := 7) ok_40 (rfl : sv_ty 1 = some 9) dt_9 rfl
      obtain ⟨n_55, e_56, hr_57⟩ := iv_getf (j := 7) xm_39 xd_39_41 (by decide +kernel) ok_40 (rfl : sv_ty 1 = some 9) dt_9 f_54.1 hr_53
      obtain ⟨lv_59, sl_58, n_60, e_61, hr_62⟩ := iv_istore_n xm_39 xd_39_44 (by decide +kernel) hr_57
      have l_63 := sl_58.2 0 _ q0 (by decide) (Or.inl rfl)
      have l_64 := sl_58.2 1 _ q1 (by decide) (Or.inl rfl)
      have l_65 := sl_58.1
      obtain ⟨n_66, e_67, hr_68⟩ := iv_aload_n xm_39 xd_39_45 l_63 hr_62
      obtain ⟨n_69, e_70, hr_71⟩ := iv_iload_n xm_39 xd_39_46 l_65 hr_68
      obtain ⟨n_81, r_72, e_82, hc_73, hr_83⟩ := iv_call (Or.inr ⟨rfl, rfl⟩) xm_39 xd_39_47 (by decide +kernel) xm_38 rfl (by decide +kernel) hr_71
      obtain ⟨v_74, d_75, er_76, iv_77, ok_78⟩ := ds_38 _ _ _ ok_40 t_k0 f_54.2 hc_73
      obtain ⟨_, h_80⟩ := r_72
      have er_76 : _ = some (wk_i v_74) := er_76
      subst er_76
      have hr_84 : ae_exe n_81 39 (47 + 3) 0 0 lv_59 _ h_80 = some r := hr_83
      obtain ⟨n_85, e_86, hr_87⟩ := iv_iconst xm_39 xd_39_50 (by decide) hr_84
      rcases iv_icmp 64 xm_39 xd_39_51 (by decide) iv_77 (by unfold sv_I; omega) hr_87 with ⟨c_88, n_89, e_90, hr_91⟩ | ⟨c_88, n_89, e_90, hr_91⟩
      · obtain ⟨n_92, e_93, hr_94⟩ := iv_aload_n xm_39 xd_39_64 l_64 hr_91
        obtain ⟨n_104, r_95, e_105, hc_96, hr_106⟩ := iv_call (Or.inr ⟨rfl, rfl⟩) xm_39 xd_39_65 (by decide +kernel) xm_117 rfl (by decide +kernel) hr_94
        obtain ⟨v_97, d_98, er_99, iv_100, ok_101⟩ := ds_117 _  ok_78 hc_96
        obtain ⟨_, h_103⟩ := r_95
        have er_99 : _ = none := er_99
        subst er_99
        have hr_107 : ae_exe n_104 39 (65 + 3) 0 0 lv_59 _ h_103 = some r := hr_106
        obtain ⟨n_108, e_109, hr_110⟩ := iv_aload_n xm_39 xd_39_68 l_64 hr_107
        obtain ⟨n_111, e_112, hr_113⟩ := iv_iconst xm_39 xd_39_69 (by decide) hr_110
        obtain ⟨n_114, e_115, hr_116⟩ := iv_bipush xm_39 xd_39_70 (by decide) hr_113
        obtain ⟨n_126, r_117, e_127, hc_118, hr_128⟩ := iv_call (Or.inr ⟨rfl, rfl⟩) xm_39 xd_39_72 (by decide +kernel) xm_126 rfl (by decide +kernel) hr_116
        obtain ⟨v_119, d_120, er_121, iv_122, ok_123⟩ := ds_126 _ _ _ ok_101 (by unfold sv_I; omega) (by unfold sv_I; omega) hc_118
        obtain ⟨_, h_125⟩ := r_117
        have er_121 : _ = some (wk_i v_119) := er_121
        subst er_121
        have hr_129 : ae_exe n_126 39 (72 + 3) 0 0 lv_59 _ h_125 = some r := hr_128
        obtain ⟨lv_131, sl_130, n_132, e_133, hr_134⟩ := iv_istore_n xm_39 xd_39_75 (by decide +kernel) hr_129
        have l_135 := sl_130.2 0 _ l_63 (by decide) (Or.inl rfl)
        have l_136 := sl_130.2 1 _ l_64 (by decide) (Or.inl rfl)
        have l_137 := sl_130.2 2 _ l_65 (by decide) (Or.inl rfl)
        have l_138 := sl_130.1
        obtain ⟨n_139, e_140, hr_141⟩ := iv_iload_n xm_39 xd_39_76 l_138 hr_134
        rcases iv_if 82 xm_39 xd_39_77 (by decide) iv_122 hr_141 with ⟨c_142, n_143, e_144, hr_145⟩ | ⟨c_142, n_143, e_144, hr_145⟩
        · obtain ⟨n_146, e_147, hr_148⟩ := iv_aload_n xm_39 xd_39_82 l_136 hr_145
          obtain ⟨n_149, e_150, hr_151⟩ := iv_iload_n xm_39 xd_39_83 l_138 hr_148
          obtain ⟨n_152, e_153, hr_154⟩ := iv_bipush xm_39 xd_39_84 (by decide) hr_151
          obtain ⟨n_155, e_156, hr_157⟩ := iv_iload_n xm_39 xd_39_86 l_138 hr_154
          obtain ⟨n_158, e_159, hr_160⟩ := iv_bipush xm_39 xd_39_87 (by decide) hr_157
          obtain ⟨n_161, e_162, hr_163⟩ := iw_iadd xm_39 xd_39_89 hr_160
          obtain ⟨n_164, e_165, hr_166⟩ := iv_iconst xm_39 xd_39_90 (by decide) hr_163
          obtain ⟨n_167, e_168, hr_169⟩ := iw_isub xm_39 xd_39_91 hr_166
          obtain ⟨n_170, e_171, hr_172⟩ := iv_min (a := 0) (b := 0) xm_39 xd_39_92 (by decide +kernel) (by unfold sv_I; omega) (dc_w_I _) hr_169
          obtain ⟨n_182, r_173, e_183, hc_174, hr_184⟩ := iv_call (Or.inr ⟨rfl, rfl⟩) xm_39 xd_39_95 (by decide +kernel) xm_126 rfl (by decide +kernel) hr_172
          obtain ⟨v_175, d_176, er_177, iv_178, ok_179⟩ := ds_126 _ _ _ ok_123 iv_122 (dc_ite_I (dc_w_I _) (by unfold sv_I; omega)) hc_174
          obtain ⟨_, h_181⟩ := r_173
          have er_177 : _ = some (wk_i v_175) := er_177
          subst er_177
          have hr_185 : ae_exe n_182 39 (95 + 3) 0 0 lv_131 _ h_181 = some r := hr_184
          obtain ⟨lv_187, sl_186, n_188, e_189, hr_190⟩ := iv_istore xm_39 xd_39_98 (by decide +kernel) hr_185
          have l_191 := sl_186.2 0 _ l_135 (by decide) (Or.inl rfl)
          have l_192 := sl_186.2 1 _ l_136 (by decide) (Or.inl rfl)
          have l_193 := sl_186.2 2 _ l_137 (by decide) (Or.inl rfl)
          have l_194 := sl_186.2 3 _ l_138 (by decide) (Or.inl rfl)
          have l_195 := sl_186.1
          obtain ⟨n_196, e_197, hr_198⟩ := iv_iload xm_39 xd_39_100 l_195 hr_190
          rcases iv_if 107 xm_39 xd_39_102 (by decide) iv_178 hr_198 with ⟨c_199, n_200, e_201, hr_202⟩ | ⟨c_199, n_200, e_201, hr_202⟩
          · obtain ⟨n_203, e_204, hr_205⟩ := iv_aload_n xm_39 xd_39_107 l_191 hr_202
            have f_206 := dc_fr (j := 0) ok_179 t_k0 dt_2 rfl
            obtain ⟨n_207, e_208, hr_209⟩ := iv_getf (j := 0) xm_39 xd_39_108 (by decide +kernel) ok_179 t_k0 dt_2 f_206 hr_205
            obtain ⟨n_210, e_211, hr_212⟩ := iv_aload_n xm_39 xd_39_111 l_191 hr_209
            have f_213 := dc_fi (j := 3) ok_179 t_k0 dt_2 rfl
            obtain ⟨n_214, e_215, hr_216⟩ := iv_getf (j := 3) xm_39 xd_39_112 (by decide +kernel) ok_179 t_k0 dt_2 f_213.1 hr_212
            obtain ⟨n_217, e_218, hr_219⟩ := iv_iload_n xm_39 xd_39_115 l_193 hr_216
            obtain ⟨q_220, h_221, ok_222, em_223, n_225, e_226, hr_227⟩ := iv_iast xm_39 xd_39_116 ok_179 (do_2_0 t_k0) dt_40 (by decide) f_213.2 f_54.2 hr_219
            obtain ⟨n_228, e_229, hr_230⟩ := iv_aload_n xm_39 xd_39_117 l_191 hr_227
            have f_231 := dc_fr (j := 1) ok_222 t_k0 dt_2 rfl
            obtain ⟨n_232, e_233, hr_234⟩ := iv_getf (j := 1) xm_39 xd_39_118 (by decide +kernel) ok_222 t_k0 dt_2 f_231 hr_230
            obtain ⟨n_235, e_236, hr_237⟩ := iv_aload_n xm_39 xd_39_121 l_191 hr_234
            have f_238 := dc_fi (j := 3) ok_222 t_k0 dt_2 rfl
            obtain ⟨n_239, e_240, hr_241⟩ := iv_getf (j := 3) xm_39 xd_39_122 (by decide +kernel) ok_222 t_k0 dt_2 f_238.1 hr_237
            obtain ⟨n_242, e_243, hr_244⟩ := iv_iload_n xm_39 xd_39_125 l_194 hr_241
            obtain ⟨q_245, h_246, ok_247, em_248, n_250, e_251, hr_252⟩ := iv_iast xm_39 xd_39_126 ok_222 (do_2_1 t_k0) dt_41 (by decide) f_238.2 iv_122 hr_244
            obtain ⟨n_253, e_254, hr_255⟩ := iv_aload_n xm_39 xd_39_127 l_191 hr_252
            have f_256 := dc_fr (j := 2) ok_247 t_k0 dt_2 rfl
            obtain ⟨n_257, e_258, hr_259⟩ := iv_getf (j := 2) xm_39 xd_39_128 (by decide +kernel) ok_247 t_k0 dt_2 f_256 hr_255
            obtain ⟨n_260, e_261, hr_262⟩ := iv_aload_n xm_39 xd_39_131 l_191 hr_259
            have f_263 := dc_fi (j := 3) ok_247 t_k0 dt_2 rfl
            obtain ⟨n_264, e_265, hr_266⟩ := iv_getf (j := 3) xm_39 xd_39_132 (by decide +kernel) ok_247 t_k0 dt_2 f_263.1 hr_262
            obtain ⟨n_267, e_268, hr_269⟩ := iv_iload xm_39 xd_39_135 l_195 hr_266
            obtain ⟨q_270, h_271, ok_272, em_273, n_275, e_276, hr_277⟩ := iv_iast xm_39 xd_39_137 ok_247 (do_2_2 t_k0) dt_42 (by decide) f_263.2 iv_178 hr_269
            obtain ⟨n_278, e_279, hr_280⟩ := iv_aload_n xm_39 xd_39_138 l_191 hr_277
            obtain ⟨n_281, e_282, hr_283⟩ := iv_dup xm_39 xd_39_139 rfl hr_280
            have f_284 := dc_fi (j := 3) ok_272 t_k0 dt_2 rfl
            obtain ⟨n_285, e_286, hr_287⟩ := iv_getf (j := 3) xm_39 xd_39_140 (by decide +kernel) ok_272 t_k0 dt_2 f_284.1 hr_283
            obtain ⟨n_288, e_289, hr_290⟩ := iv_iconst xm_39 xd_39_143 (by decide) hr_287
            obtain ⟨n_291, e_292, hr_293⟩ := iw_iadd xm_39 xd_39_144 hr_290
            obtain ⟨h_294, ok_295, em_296, n_298, e_299, hr_300⟩ := iv_puti (j := 3) (fk := 0) xm_39 xd_39_145 (by decide +kernel) ok_272 t_k0 dt_2 rfl (by decide +kernel) rfl (dc_w_I _) hr_293
            obtain ⟨n_301, e_302, hr_303⟩ := iv_iconst xm_39 xd_39_148 (by decide) hr_300
            have rr_304 := iv_ireturn xm_39 xd_39_149 hr_303
            subst rr_304
            exact ⟨_, Or.inl ⟨c_11, ⟨_, _, d_21, ⟨_, _, d_37, Or.inl ⟨c_47, ⟨_, _, d_75, Or.inl ⟨c_88, ⟨_, _, d_98, ⟨_, _, d_120, Or.inl ⟨c_142, ⟨_, _, d_176, Or.inl ⟨c_199, ⟨q_220, _, em_223, ⟨q_245, _, em_248, ⟨q_270, _, em_273, ⟨_, em_296, ⟨rfl, rfl⟩⟩⟩⟩⟩⟩⟩⟩⟩⟩⟩⟩⟩⟩⟩⟩, rfl, (by unfold sv_I; omega), ok_295⟩
          · obtain ⟨n_305, e_306, hr_307⟩ := iv_iconst xm_39 xd_39_105 (by decide) hr_202
            have rr_308 := iv_ireturn xm_39 xd_39_106 hr_307
            subst rr_308
            exact ⟨_, Or.inl ⟨c_11, ⟨_, _, d_21, ⟨_, _, d_37, Or.inl ⟨c_47, ⟨_, _, d_75, Or.inl ⟨c_88, ⟨_, _, d_98, ⟨_, _, d_120, Or.inl ⟨c_142, ⟨_, _, d_176, Or.inr ⟨c_199, ⟨rfl, rfl⟩⟩⟩⟩⟩⟩⟩⟩⟩⟩⟩⟩, rfl, (by unfold sv_I; omega), ok_179⟩
        · obtain ⟨n_309, e_310, hr_311⟩ := iv_iconst xm_39 xd_39_80 (by decide) hr_145
          have rr_312 := iv_ireturn xm_39 xd_39_81 hr_311
          subst rr_312
          exact ⟨_, Or.inl ⟨c_11, ⟨_, _, d_21, ⟨_, _, d_37, Or.inl ⟨c_47, ⟨_, _, d_75, Or.inl ⟨c_88, ⟨_, _, d_98, ⟨_, _, d_120, Or.inr ⟨c_142, ⟨rfl, rfl⟩⟩⟩⟩⟩⟩⟩⟩⟩⟩, rfl, (by unfold sv_I; omega), ok_123⟩
      · obtain ⟨n_313, e_314, hr_315⟩ := iv_aload_n xm_39 xd_39_54 l_64 hr_91
        obtain ⟨n_316, e_317, hr_318⟩ := iv_iconst xm_39 xd_39_55 (by decide) hr_315
        obtain ⟨n_319, e_320, hr_321⟩ := iv_aload_n xm_39 xd_39_56 l_64 hr_318
        have f_322 := dc_fi (j := 5) ok_78 (rfl : sv_ty 1 = some 9) dt_9 rfl
        obtain ⟨n_323, e_324, hr_325⟩ := iv_getf (j := 5) xm_39 xd_39_57 (by decide +kernel) ok_78 (rfl : sv_ty 1 = some 9) dt_9 f_322.1 hr_321
        obtain ⟨n_335, r_326, e_336, hc_327, hr_337⟩ := iv_call (Or.inr ⟨rfl, rfl⟩) xm_39 xd_39_60 (by decide +kernel) xm_123 rfl (by decide +kernel) hr_325
        obtain ⟨v_328, d_329, er_330, iv_331, ok_332⟩ := ds_123 _ _ _ ok_78 (by unfold sv_I; omega) f_322.2 hc_327
        obtain ⟨_, h_334⟩ := r_326
        have er_330 : _ = some (wk_i v_328) := er_330
        subst er_330
        have hr_338 : ae_exe n_335 39 (60 + 3) 0 0 lv_59 _ h_334 = some r := hr_337
        have rr_339 := iv_ireturn xm_39 xd_39_63 hr_338
        subst rr_339
        exact ⟨_, Or.inl ⟨c_11, ⟨_, _, d_21, ⟨_, _, d_37, Or.inl ⟨c_47, ⟨_, _, d_75, Or.inr ⟨c_88, ⟨_, _, d_329, ⟨rfl, rfl⟩⟩⟩⟩⟩⟩⟩⟩, rfl, iv_331, ok_332⟩
    · obtain ⟨n_340, e_341, hr_342⟩ := iv_aload_n xm_39 xd_39_30 q1 hr_50
      obtain ⟨n_343, e_344, hr_345⟩ := iv_iconst xm_39 xd_39_31 (by decide) hr_342
      obtain ⟨n_346, e_347, hr_348⟩ := iv_aload_n xm_39 xd_39_32 q1 hr_345
      have f_349 := dc_fi (j := 5) ok_40 (rfl : sv_ty 1 = some 9) dt_9 rfl
      obtain ⟨n_350, e_351, hr_352⟩ := iv_getf (j := 5) xm_39 xd_39_33 (by decide +kernel) ok_40 (rfl : sv_ty 1 = some 9) dt_9 f_349.1 hr_348
      obtain ⟨n_362, r_353, e_363, hc_354, hr_364⟩ := iv_call (Or.inr ⟨rfl, rfl⟩) xm_39 xd_39_36 (by decide +kernel) xm_123 rfl (by decide +kernel) hr_352
      obtain ⟨v_355, d_356, er_357, iv_358, ok_359⟩ := ds_123 _ _ _ ok_40 (by unfold sv_I; omega) f_349.2 hc_354
      obtain ⟨_, h_361⟩ := r_353
      have er_357 : _ = some (wk_i v_355) := er_357
      subst er_357
      have hr_365 : ae_exe n_362 39 (36 + 3) 0 0 (ae_args [wk_r k0, wk_r 1] 0) _ h_361 = some r := hr_364
      have rr_366 := iv_ireturn xm_39 xd_39_39 hr_365
      subst rr_366
      exact ⟨_, Or.inl ⟨c_11, ⟨_, _, d_21, ⟨_, _, d_37, Or.inr ⟨c_47, ⟨_, _, d_356, ⟨rfl, rfl⟩⟩⟩⟩⟩⟩, rfl, iv_358, ok_359⟩
  · obtain ⟨n_367, e_368, hr_369⟩ := iv_aload_n xm_39 xd_39_9 q1 hr_14
    obtain ⟨n_370, e_371, hr_372⟩ := iv_iconst xm_39 xd_39_10 (by decide) hr_369
    obtain ⟨n_373, e_374, hr_375⟩ := iv_aload_n xm_39 xd_39_11 q1 hr_372
    have f_376 := dc_fi (j := 5) ok (rfl : sv_ty 1 = some 9) dt_9 rfl
    obtain ⟨n_377, e_378, hr_379⟩ := iv_getf (j := 5) xm_39 xd_39_12 (by decide +kernel) ok (rfl : sv_ty 1 = some 9) dt_9 f_376.1 hr_375
    obtain ⟨n_389, r_380, e_390, hc_381, hr_391⟩ := iv_call (Or.inr ⟨rfl, rfl⟩) xm_39 xd_39_15 (by decide +kernel) xm_123 rfl (by decide +kernel) hr_379
    obtain ⟨v_382, d_383, er_384, iv_385, ok_386⟩ := ds_123 _ _ _ ok (by unfold sv_I; omega) f_376.2 hc_381
    obtain ⟨_, h_388⟩ := r_380
    have er_384 : _ = some (wk_i v_382) := er_384
    subst er_384
    have hr_392 : ae_exe n_389 39 (15 + 3) 0 0 (ae_args [wk_r k0, wk_r 1] 0) _ h_388 = some r := hr_391
    have rr_393 := iv_ireturn xm_39 xd_39_18 hr_392
    subst rr_393
    exact ⟨_, Or.inr ⟨c_11, ⟨_, _, d_383, ⟨rfl, rfl⟩⟩⟩, rfl, iv_385, ok_386⟩
/-! method 36 -/
theorem xm_36 : ae_m 36 = some (wk_M 36) := rfl
theorem xd_36_0 : decode (wk_M 36).2.2.1 0 = .ok (.aload_n 1, 1) := zd_by (by decide +kernel)
theorem xd_36_1 : decode (wk_M 36).2.2.1 1 = .ok (.ldc 70, 2) := zd_by (by decide +kernel)
theorem xd_36_3 : decode (wk_M 36).2.2.1 3 = .ok (.invokevirtual 72, 3) := zd_by (by decide +kernel)
theorem xd_36_6 : decode (wk_M 36).2.2.1 6 = .ok (.ifCond .eq 9, 3) := zd_by (by decide +kernel)
theorem xd_36_9 : decode (wk_M 36).2.2.1 9 = .ok (.aload_n 0, 1) := zd_by (by decide +kernel)
theorem xd_36_10 : decode (wk_M 36).2.2.1 10 = .ok (.aload_n 1, 1) := zd_by (by decide +kernel)
theorem xd_36_11 : decode (wk_M 36).2.2.1 11 = .ok (.invokevirtual 76, 3) := zd_by (by decide +kernel)
theorem xd_36_14 : decode (wk_M 36).2.2.1 14 = .ok (.ireturn, 1) := zd_by (by decide +kernel)
theorem xd_36_15 : decode (wk_M 36).2.2.1 15 = .ok (.aload_n 1, 1) := zd_by (by decide +kernel)
theorem xd_36_16 : decode (wk_M 36).2.2.1 16 = .ok (.ldc 79, 2) := zd_by (by decide +kernel)
theorem xd_36_18 : decode (wk_M 36).2.2.1 18 = .ok (.invokevirtual 72, 3) := zd_by (by decide +kernel)
theorem xd_36_21 : decode (wk_M 36).2.2.1 21 = .ok (.ifCond .eq 9, 3) := zd_by (by decide +kernel)
theorem xd_36_24 : decode (wk_M 36).2.2.1 24 = .ok (.aload_n 0, 1) := zd_by (by decide +kernel)
theorem xd_36_25 : decode (wk_M 36).2.2.1 25 = .ok (.aload_n 1, 1) := zd_by (by decide +kernel)
theorem xd_36_26 : decode (wk_M 36).2.2.1 26 = .ok (.invokevirtual 81, 3) := zd_by (by decide +kernel)
theorem xd_36_29 : decode (wk_M 36).2.2.1 29 = .ok (.ireturn, 1) := zd_by (by decide +kernel)
theorem xd_36_30 : decode (wk_M 36).2.2.1 30 = .ok (.aload_n 1, 1) := zd_by (by decide +kernel)
theorem xd_36_31 : decode (wk_M 36).2.2.1 31 = .ok (.ldc 84, 2) := zd_by (by decide +kernel)
theorem xd_36_33 : decode (wk_M 36).2.2.1 33 = .ok (.invokevirtual 72, 3) := zd_by (by decide +kernel)
theorem xd_36_36 : decode (wk_M 36).2.2.1 36 = .ok (.ifCond .eq 9, 3) := zd_by (by decide +kernel)
theorem xd_36_39 : decode (wk_M 36).2.2.1 39 = .ok (.aload_n 0, 1) := zd_by (by decide +kernel)
theorem xd_36_40 : decode (wk_M 36).2.2.1 40 = .ok (.aload_n 1, 1) := zd_by (by decide +kernel)
theorem xd_36_41 : decode (wk_M 36).2.2.1 41 = .ok (.invokevirtual 86, 3) := zd_by (by decide +kernel)
theorem xd_36_44 : decode (wk_M 36).2.2.1 44 = .ok (.ireturn, 1) := zd_by (by decide +kernel)
theorem xd_36_45 : decode (wk_M 36).2.2.1 45 = .ok (.aload_n 1, 1) := zd_by (by decide +kernel)
theorem xd_36_46 : decode (wk_M 36).2.2.1 46 = .ok (.ldc 89, 2) := zd_by (by decide +kernel)
theorem xd_36_48 : decode (wk_M 36).2.2.1 48 = .ok (.invokevirtual 72, 3) := zd_by (by decide +kernel)
theorem xd_36_51 : decode (wk_M 36).2.2.1 51 = .ok (.ifCond .eq 9, 3) := zd_by (by decide +kernel)
theorem xd_36_54 : decode (wk_M 36).2.2.1 54 = .ok (.aload_n 0, 1) := zd_by (by decide +kernel)
theorem xd_36_55 : decode (wk_M 36).2.2.1 55 = .ok (.aload_n 1, 1) := zd_by (by decide +kernel)
theorem xd_36_56 : decode (wk_M 36).2.2.1 56 = .ok (.invokevirtual 91, 3) := zd_by (by decide +kernel)
theorem xd_36_59 : decode (wk_M 36).2.2.1 59 = .ok (.ireturn, 1) := zd_by (by decide +kernel)
theorem xd_36_60 : decode (wk_M 36).2.2.1 60 = .ok (.aload_n 1, 1) := zd_by (by decide +kernel)
theorem xd_36_61 : decode (wk_M 36).2.2.1 61 = .ok (.iconst 1, 1) := zd_by (by decide +kernel)
theorem xd_36_62 : decode (wk_M 36).2.2.1 62 = .ok (.aload_n 1, 1) := zd_by (by decide +kernel)
theorem xd_36_63 : decode (wk_M 36).2.2.1 63 = .ok (.getfield 94, 3) := zd_by (by decide +kernel)
theorem xd_36_66 : decode (wk_M 36).2.2.1 66 = .ok (.invokevirtual 97, 3) := zd_by (by decide +kernel)
theorem xd_36_69 : decode (wk_M 36).2.2.1 69 = .ok (.ireturn, 1) := zd_by (by decide +kernel)
abbrev D_36 (k0 : Nat) (m : dc_M) (v : Int) (m' : dc_M) : Prop := ∃ v_9 m_14, D_121 262 m v_9 m_14 ∧ ((((v_9 : Int) = 0 ∧ (∃ v_32 m_37, D_121 260 m_14 v_32 m_37 ∧ ((((v_32 : Int) = 0 ∧ (∃ v_55 m_60, D_121 264 m_37 v_55 m_60 ∧ ((((v_55 : Int) = 0 ∧ (∃ v_78 m_83, D_121 261 m_60 v_78 m_83 ∧ ((((v_78 : Int) = 0 ∧ (∃ v_108 m_113, D_123 1 ((m_83 1 5)) m_83 v_108 m_113 ∧ (v = v_108 ∧ m' = m_113))) ∨ (¬ ((v_78 : Int) = 0) ∧ (∃ v_128 m_133, D_42 k0 m_83 v_128 m_133 ∧ (v = v_128 ∧ m' = m_133))))))) ∨ (¬ ((v_55 : Int) = 0) ∧ (∃ v_148 m_153, D_41 k0 m_60 v_148 m_153 ∧ (v = v_148 ∧ m' = m_153))))))) ∨ (¬ ((v_32 : Int) = 0) ∧ (∃ v_168 m_173, D_40 k0 m_37 v_168 m_173 ∧ (v = v_168 ∧ m' = m_173))))))) ∨ (¬ ((v_9 : Int) = 0) ∧ (∃ v_188 m_193, D_39 k0 m_14 v_188 m_193 ∧ (v = v_188 ∧ m' = m_193)))))
theorem ds_36 (n : Nat) (k0 : Nat) {h : ae_H} {r : ae_R} (ok : dc_ok h) (t_k0 : sv_ty k0 = some 2) (hr : ae_exe n 36 0 0 0 (ae_args [wk_r k0, wk_r 1] 0) [] h = some r) : ∃ v, D_36 k0 (dc_m h) v (dc_m r.2) ∧ r.1 = some (wk_i v) ∧ sv_I v ∧ dc_ok r.2 := by
  have q0 : ae_lk (ae_args [wk_r k0, wk_r 1] 0) 0 = some (wk_r k0) := rfl
  have q1 : ae_lk (ae_args [wk_r k0, wk_r 1] 0) 1 = some (wk_r 1) := rfl
  obtain ⟨n_1, e_2, hr_3⟩ := iv_aload_n xm_36 xd_36_0 q1 hr
  obtain ⟨n_4, e_5, hr_6⟩ := iv_out (j := 6) (z := 0) (Or.inl ⟨rfl, rfl, by decide +kernel⟩) xm_36 xd_36_1 hr_3
  obtain ⟨n_16, r_7, e_17, hc_8, hr_18⟩ := iv_call (Or.inr ⟨rfl, rfl⟩) xm_36 xd_36_3 (by decide +kernel) xm_121 rfl (by decide +kernel) hr_6
  obtain ⟨v_9, d_10, er_11, iv_12, ok_13⟩ := ds_121 _ _ ok ⟨by decide, by decide⟩ hc_8
  obtain ⟨_, h_15⟩ := r_7
  have er_11 : _ = some (wk_i v_9) := er_11
  subst er_11
  have hr_19 : ae_exe n_16 36 (3 + 3) 0 0 (ae_args [wk_r k0, wk_r 1] 0) _ h_15 = some r := hr_18
  rcases iv_if 15 xm_36 xd_36_6 (by decide) iv_12 hr_19 with ⟨c_20, n_21, e_22, hr_23⟩ | ⟨c_20, n_21, e_22, hr_23⟩
  · obtain ⟨n_24, e_25, hr_26⟩ := iv_aload_n xm_36 xd_36_15 q1 hr_23
    obtain ⟨n_27, e_28, hr_29⟩ := iv_out (j := 4) (z := 0) (Or.inl ⟨rfl, rfl, by decide +kernel⟩) xm_36 xd_36_16 hr_26
    obtain ⟨n_39, r_30, e_40, hc_31, hr_41⟩ := iv_call (Or.inr ⟨rfl, rfl⟩) xm_36 xd_36_18 (by decide +kernel) xm_121 rfl (by decide +kernel) hr_29
    obtain ⟨v_32, d_33, er_34, iv_35, ok_36⟩ := ds_121 _ _ ok_13 ⟨by decide, by decide⟩ hc_31
    obtain ⟨_, h_38⟩ := r_30
    have er_34 : _ = some (wk_i v_32) := er_34
    subst er_34
    have hr_42 : ae_exe n_39 36 (18 + 3) 0 0 (ae_args [wk_r k0, wk_r 1] 0) _ h_38 = some r := hr_41
    rcases iv_if 30 xm_36 xd_36_21 (by decide) iv_35 hr_42 with ⟨c_43, n_44, e_45, hr_46⟩ | ⟨c_43, n_44, e_45, hr_46⟩
    · obtain ⟨n_47, e_48, hr_49⟩ := iv_aload_n xm_36 xd_36_30 q1 hr_46
      obtain ⟨n_50, e_51, hr_52⟩ := iv_out (j := 8) (z := 0) (Or.inl ⟨rfl, rfl, by decide +kernel⟩) xm_36 xd_36_31 hr_49
      obtain ⟨n_62, r_53, e_63, hc_54, hr_64⟩ := iv_call (Or.inr ⟨rfl, rfl⟩) xm_36 xd_36_33 (by decide +kernel) xm_121 rfl (by decide +kernel) hr_52
      obtain ⟨v_55, d_56, er_57, iv_58, ok_59⟩ := ds_121 _ _ ok_36 ⟨by decide, by decide⟩ hc_54
      obtain ⟨_, h_61⟩ := r_53
      have er_57 : _ = some (wk_i v_55) := er_57
      subst er_57
      have hr_65 : ae_exe n_62 36 (33 + 3) 0 0 (ae_args [wk_r k0, wk_r 1] 0) _ h_61 = some r := hr_64
      rcases iv_if 45 xm_36 xd_36_36 (by decide) iv_58 hr_65 with ⟨c_66, n_67, e_68, hr_69⟩ | ⟨c_66, n_67, e_68, hr_69⟩
      · obtain ⟨n_70, e_71, hr_72⟩ := iv_aload_n xm_36 xd_36_45 q1 hr_69
        obtain ⟨n_73, e_74, hr_75⟩ := iv_out (j := 5) (z := 0) (Or.inl ⟨rfl, rfl, by decide +kernel⟩) xm_36 xd_36_46 hr_72
        obtain ⟨n_85, r_76, e_86, hc_77, hr_87⟩ := iv_call (Or.inr ⟨rfl, rfl⟩) xm_36 xd_36_48 (by decide +kernel) xm_121 rfl (by decide +kernel) hr_75
        obtain ⟨v_78, d_79, er_80, iv_81, ok_82⟩ := ds_121 _ _ ok_59 ⟨by decide, by decide⟩ hc_77
        obtain ⟨_, h_84⟩ := r_76
        have er_80 : _ = some (wk_i v_78) := er_80
        subst er_80
        have hr_88 : ae_exe n_85 36 (48 + 3) 0 0 (ae_args [wk_r k0, wk_r 1] 0) _ h_84 = some r := hr_87
        rcases iv_if 60 xm_36 xd_36_51 (by decide) iv_81 hr_88 with ⟨c_89, n_90, e_91, hr_92⟩ | ⟨c_89, n_90, e_91, hr_92⟩
        · obtain ⟨n_93, e_94, hr_95⟩ := iv_aload_n xm_36 xd_36_60 q1 hr_92
          obtain ⟨n_96, e_97, hr_98⟩ := iv_iconst xm_36 xd_36_61 (by decide) hr_95
          obtain ⟨n_99, e_100, hr_101⟩ := iv_aload_n xm_36 xd_36_62 q1 hr_98
          have f_102 := dc_fi (j := 5) ok_82 (rfl : sv_ty 1 = some 9) dt_9 rfl
          obtain ⟨n_103, e_104, hr_105⟩ := iv_getf (j := 5) xm_36 xd_36_63 (by decide +kernel) ok_82 (rfl : sv_ty 1 = some 9) dt_9 f_102.1 hr_101
          obtain ⟨n_115, r_106, e_116, hc_107, hr_117⟩ := iv_call (Or.inr ⟨rfl, rfl⟩) xm_36 xd_36_66 (by decide +kernel) xm_123 rfl (by decide +kernel) hr_105
          obtain ⟨v_108, d_109, er_110, iv_111, ok_112⟩ := ds_123 _ _ _ ok_82 (by unfold sv_I; omega) f_102.2 hc_107
          obtain ⟨_, h_114⟩ := r_106
          have er_110 : _ = some (wk_i v_108) := er_110
          subst er_110
          have hr_118 : ae_exe n_115 36 (66 + 3) 0 0 (ae_args [wk_r k0, wk_r 1] 0) _ h_114 = some r := hr_117
          have rr_119 := iv_ireturn xm_36 xd_36_69 hr_118
          subst rr_119
          exact ⟨_, ⟨_, _, d_10, Or.inl ⟨c_20, ⟨_, _, d_33, Or.inl ⟨c_43, ⟨_, _, d_56, Or.inl ⟨c_66, ⟨_, _, d_79, Or.inl ⟨c_89, ⟨_, _, d_109, ⟨rfl, rfl⟩⟩⟩⟩⟩⟩⟩⟩⟩⟩, rfl, iv_111, ok_112⟩
        · obtain ⟨n_120, e_121, hr_122⟩ := iv_aload_n xm_36 xd_36_54 q0 hr_92
          obtain ⟨n_123, e_124, hr_125⟩ := iv_aload_n xm_36 xd_36_55 q1 hr_122
          obtain ⟨n_135, r_126, e_136, hc_127, hr_137⟩ := iv_call (Or.inr ⟨rfl, rfl⟩) xm_36 xd_36_56 (by decide +kernel) xm_42 rfl (by decide +kernel) hr_125
          obtain ⟨v_128, d_129, er_130, iv_131, ok_132⟩ := ds_42 _ _ ok_82 t_k0 hc_127
          obtain ⟨_, h_134⟩ := r_126
          have er_130 : _ = some (wk_i v_128) := er_130
          subst er_130
          have hr_138 : ae_exe n_135 36 (56 + 3) 0 0 (ae_args [wk_r k0, wk_r 1] 0) _ h_134 = some r := hr_137
          have rr_139 := iv_ireturn xm_36 xd_36_59 hr_138
          subst rr_139
          exact ⟨_, ⟨_, _, d_10, Or.inl ⟨c_20, ⟨_, _, d_33, Or.inl ⟨c_43, ⟨_, _, d_56, Or.inl ⟨c_66, ⟨_, _, d_79, Or.inr ⟨c_89, ⟨_, _, d_129, ⟨rfl, rfl⟩⟩⟩⟩⟩⟩⟩⟩⟩⟩, rfl, iv_131, ok_132⟩
      · obtain ⟨n_140, e_141, hr_142⟩ := iv_aload_n xm_36 xd_36_39 q0 hr_69
        obtain ⟨n_143, e_144, hr_145⟩ := iv_aload_n xm_36 xd_36_40 q1 hr_142
        obtain ⟨n_155, r_146, e_156, hc_147, hr_157⟩ := iv_call (Or.inr ⟨rfl, rfl⟩) xm_36 xd_36_41 (by decide +kernel) xm_41 rfl (by decide +kernel) hr_145
        obtain ⟨v_148, d_149, er_150, iv_151, ok_152⟩ := ds_41 _ _ ok_59 t_k0 hc_147
        obtain ⟨_, h_154⟩ := r_146
        have er_150 : _ = some (wk_i v_148) := er_150
        subst er_150
        have hr_158 : ae_exe n_155 36 (41 + 3) 0 0 (ae_args [wk_r k0, wk_r 1] 0) _ h_154 = some r := hr_157
        have rr_159 := iv_ireturn xm_36 xd_36_44 hr_158
        subst rr_159
        exact ⟨_, ⟨_, _, d_10, Or.inl ⟨c_20, ⟨_, _, d_33, Or.inl ⟨c_43, ⟨_, _, d_56, Or.inr ⟨c_66, ⟨_, _, d_149, ⟨rfl, rfl⟩⟩⟩⟩⟩⟩⟩⟩, rfl, iv_151, ok_152⟩
    · obtain ⟨n_160, e_161, hr_162⟩ := iv_aload_n xm_36 xd_36_24 q0 hr_46
      obtain ⟨n_163, e_164, hr_165⟩ := iv_aload_n xm_36 xd_36_25 q1 hr_162
      obtain ⟨n_175, r_166, e_176, hc_167, hr_177⟩ := iv_call (Or.inr ⟨rfl, rfl⟩) xm_36 xd_36_26 (by decide +kernel) xm_40 rfl (by decide +kernel) hr_165
      obtain ⟨v_168, d_169, er_170, iv_171, ok_172⟩ := ds_40 _ _ ok_36 t_k0 hc_167
      obtain ⟨_, h_174⟩ := r_166
      have er_170 : _ = some (wk_i v_168) := er_170
      subst er_170
      have hr_178 : ae_exe n_175 36 (26 + 3) 0 0 (ae_args [wk_r k0, wk_r 1] 0) _ h_174 = some r := hr_177
      have rr_179 := iv_ireturn xm_36 xd_36_29 hr_178
      subst rr_179
      exact ⟨_, ⟨_, _, d_10, Or.inl ⟨c_20, ⟨_, _, d_33, Or.inr ⟨c_43, ⟨_, _, d_169, ⟨rfl, rfl⟩⟩⟩⟩⟩⟩, rfl, iv_171, ok_172⟩
  · obtain ⟨n_180, e_181, hr_182⟩ := iv_aload_n xm_36 xd_36_9 q0 hr_23
    obtain ⟨n_183, e_184, hr_185⟩ := iv_aload_n xm_36 xd_36_10 q1 hr_182
    obtain ⟨n_195, r_186, e_196, hc_187, hr_197⟩ := iv_call (Or.inr ⟨rfl, rfl⟩) xm_36 xd_36_11 (by decide +kernel) xm_39 rfl (by decide +kernel) hr_185
    obtain ⟨v_188, d_189, er_190, iv_191, ok_192⟩ := ds_39 _ _ ok_13 t_k0 hc_187
    obtain ⟨_, h_194⟩ := r_186
    have er_190 : _ = some (wk_i v_188) := er_190
    subst er_190
    have hr_198 : ae_exe n_195 36 (11 + 3) 0 0 (ae_args [wk_r k0, wk_r 1] 0) _ h_194 = some r := hr_197
    have rr_199 := iv_ireturn xm_36 xd_36_14 hr_198
    subst rr_199
    exact ⟨_, ⟨_, _, d_10, Or.inr ⟨c_20, ⟨_, _, d_189, ⟨rfl, rfl⟩⟩⟩⟩, rfl, iv_191, ok_192⟩
/-! method 35 -/
theorem xm_35 : ae_m 35 = some (wk_M 35) := rfl
theorem xd_35_0 : decode (wk_M 35).2.2.1 0 = .ok (.aload_n 0, 1) := zd_by (by decide +kernel)
theorem xd_35_1 : decode (wk_M 35).2.2.1 1 = .ok (.iconst 0, 1) := zd_by (by decide +kernel)
theorem xd_35_2 : decode (wk_M 35).2.2.1 2 = .ok (.putfield 36, 3) := zd_by (by decide +kernel)
theorem xd_35_5 : decode (wk_M 35).2.2.1 5 = .ok (.aload_n 0, 1) := zd_by (by decide +kernel)
theorem xd_35_6 : decode (wk_M 35).2.2.1 6 = .ok (.iconst 0, 1) := zd_by (by decide +kernel)
theorem xd_35_7 : decode (wk_M 35).2.2.1 7 = .ok (.putfield 40, 3) := zd_by (by decide +kernel)
theorem xd_35_10 : decode (wk_M 35).2.2.1 10 = .ok (.aload_n 0, 1) := zd_by (by decide +kernel)
theorem xd_35_11 : decode (wk_M 35).2.2.1 11 = .ok (.getfield 21, 3) := zd_by (by decide +kernel)
theorem xd_35_14 : decode (wk_M 35).2.2.1 14 = .ok (.iconst 0, 1) := zd_by (by decide +kernel)
theorem xd_35_15 : decode (wk_M 35).2.2.1 15 = .ok (.invokestatic 43, 3) := zd_by (by decide +kernel)
theorem xd_35_18 : decode (wk_M 35).2.2.1 18 = .ok (.aload_n 1, 1) := zd_by (by decide +kernel)
theorem xd_35_19 : decode (wk_M 35).2.2.1 19 = .ok (.sipush 300, 3) := zd_by (by decide +kernel)
theorem xd_35_22 : decode (wk_M 35).2.2.1 22 = .ok (.invokevirtual 49, 3) := zd_by (by decide +kernel)
theorem xd_35_25 : decode (wk_M 35).2.2.1 25 = .ok (.iconst 0, 1) := zd_by (by decide +kernel)
theorem xd_35_26 : decode (wk_M 35).2.2.1 26 = .ok (.istore_n 2, 1) := zd_by (by decide +kernel)
theorem xd_35_27 : decode (wk_M 35).2.2.1 27 = .ok (.iload_n 2, 1) := zd_by (by decide +kernel)
theorem xd_35_28 : decode (wk_M 35).2.2.1 28 = .ok (.sipush 300, 3) := zd_by (by decide +kernel)
theorem xd_35_31 : decode (wk_M 35).2.2.1 31 = .ok (.if_icmp .gt 40, 3) := zd_by (by decide +kernel)
theorem xd_35_34 : decode (wk_M 35).2.2.1 34 = .ok (.aload_n 1, 1) := zd_by (by decide +kernel)
theorem xd_35_35 : decode (wk_M 35).2.2.1 35 = .ok (.getfield 55, 3) := zd_by (by decide +kernel)
theorem xd_35_38 : decode (wk_M 35).2.2.1 38 = .ok (.ifCond .ne 8, 3) := zd_by (by decide +kernel)
theorem xd_35_41 : decode (wk_M 35).2.2.1 41 = .ok (.aload_n 1, 1) := zd_by (by decide +kernel)
theorem xd_35_42 : decode (wk_M 35).2.2.1 42 = .ok (.invokevirtual 58, 3) := zd_by (by decide +kernel)
theorem xd_35_45 : decode (wk_M 35).2.2.1 45 = .ok (.ireturn, 1) := zd_by (by decide +kernel)
theorem xd_35_46 : decode (wk_M 35).2.2.1 46 = .ok (.aload_n 0, 1) := zd_by (by decide +kernel)
theorem xd_35_47 : decode (wk_M 35).2.2.1 47 = .ok (.aload_n 1, 1) := zd_by (by decide +kernel)
theorem xd_35_48 : decode (wk_M 35).2.2.1 48 = .ok (.invokevirtual 62, 3) := zd_by (by decide +kernel)
theorem xd_35_51 : decode (wk_M 35).2.2.1 51 = .ok (.ifCond .eq 12, 3) := zd_by (by decide +kernel)
theorem xd_35_54 : decode (wk_M 35).2.2.1 54 = .ok (.aload_n 1, 1) := zd_by (by decide +kernel)
theorem xd_35_55 : decode (wk_M 35).2.2.1 55 = .ok (.bipush 59, 2) := zd_by (by decide +kernel)
theorem xd_35_57 : decode (wk_M 35).2.2.1 57 = .ok (.invokevirtual 66, 3) := zd_by (by decide +kernel)
theorem xd_35_60 : decode (wk_M 35).2.2.1 60 = .ok (.ifCond .ne 5, 3) := zd_by (by decide +kernel)
theorem xd_35_63 : decode (wk_M 35).2.2.1 63 = .ok (.iconst 0, 1) := zd_by (by decide +kernel)
theorem xd_35_64 : decode (wk_M 35).2.2.1 64 = .ok (.ireturn, 1) := zd_by (by decide +kernel)
theorem xd_35_65 : decode (wk_M 35).2.2.1 65 = .ok (.iinc 2 1, 3) := zd_by (by decide +kernel)
theorem xd_35_68 : decode (wk_M 35).2.2.1 68 = .ok (.goto (-41), 3) := zd_by (by decide +kernel)
theorem xd_35_71 : decode (wk_M 35).2.2.1 71 = .ok (.iconst 0, 1) := zd_by (by decide +kernel)
theorem xd_35_72 : decode (wk_M 35).2.2.1 72 = .ok (.ireturn, 1) := zd_by (by decide +kernel)
def LM_35 (k0 : Nat) : Nat → Nat → Int → dc_M → Int → dc_M → Prop
  | 0, _, _, _, _, _ => False
  | c + 1, tag, l2, m, v, m' => match tag with
    | _ => (((l2 : Int) > 300 ∧ (v = 0 ∧ m' = m)) ∨ (¬ ((l2 : Int) > 300) ∧ (((((m 1 4) : Int) ≠ 0 ∧ (∃ v_34 m_39, D_36 k0 m v_34 m_39 ∧ ((((v_34 : Int) = 0 ∧ (v = 0 ∧ m' = m_39)) ∨ (¬ ((v_34 : Int) = 0) ∧ (∃ v_61 m_66, D_125 59 m_39 v_61 m_66 ∧ ((((v_61 : Int) ≠ 0 ∧ (LM_35 k0 c 27 (dc_w (l2 + 1)) m_66 v m')) ∨ (¬ ((v_61 : Int) ≠ 0) ∧ (v = 0 ∧ m' = m_66)))))))))) ∨ (¬ (((m 1 4) : Int) ≠ 0) ∧ (∃ v_96 m_101, D_124 m v_96 m_101 ∧ (v = v_96 ∧ m' = m_101)))))))
theorem lm_35_27 {k0 : Nat} {c : Nat} {l2 : Int} {m : dc_M} {v : Int} {m' : dc_M} : LM_35 k0 (c + 1) 27 l2 m v m' ↔ (((l2 : Int) > 300 ∧ (v = 0 ∧ m' = m)) ∨ (¬ ((l2 : Int) > 300) ∧ (((((m 1 4) : Int) ≠ 0 ∧ (∃ v_34 m_39, D_36 k0 m v_34 m_39 ∧ ((((v_34 : Int) = 0 ∧ (v = 0 ∧ m' = m_39)) ∨ (¬ ((v_34 : Int) = 0) ∧ (∃ v_61 m_66, D_125 59 m_39 v_61 m_66 ∧ ((((v_61 : Int) ≠ 0 ∧ (LM_35 k0 c 27 (dc_w (l2 + 1)) m_66 v m')) ∨ (¬ ((v_61 : Int) ≠ 0) ∧ (v = 0 ∧ m' = m_66)))))))))) ∨ (¬ (((m 1 4) : Int) ≠ 0) ∧ (∃ v_96 m_101, D_124 m v_96 m_101 ∧ (v = v_96 ∧ m' = m_101))))))) := Iff.rfl
theorem dl_35 {k0 : Nat} (t_k0 : sv_ty k0 = some 2) : ∀ N : Nat, (∀ (n : Nat) (lv : ae_L) (h : ae_H) (r : ae_R) (l2 : Int), n ≤ N → dc_ok h → sv_I l2 → ae_lk lv 0 = some (wk_r k0) → ae_lk lv 1 = some (wk_r 1) → ae_lk lv 2 = some (wk_i l2) → ae_exe n 35 27 0 0 lv [] h = some r → ∃ v, (∃ c, LM_35 k0 c 27 l2 (dc_m h) v (dc_m r.2)) ∧ r.1 = some (wk_i v) ∧ sv_I v ∧ dc_ok r.2) := by
  intro N
  induction N with
  | zero =>
    exact fun n lv h r l2 hn ok il2 q0 q1 q2 hr => by
      have e : n = 0 := by omega
      subst e
      cases hr
  | succ N ih =>
    have ih0 := ih
    intro n lv h r l2 hn ok il2 q0 q1 q2 hr
    obtain ⟨n_1, e_2, hr_3⟩ := iv_iload_n xm_35 xd_35_27 q2 hr
    obtain ⟨n_4, e_5, hr_6⟩ := iv_sipush xm_35 xd_35_28 (by decide) hr_3
    rcases iv_icmp 71 xm_35 xd_35_31 (by decide) il2 (by unfold sv_I; omega) hr_6 with ⟨c_7, n_8, e_9, hr_10⟩ | ⟨c_7, n_8, e_9, hr_10⟩
    · obtain ⟨n_11, e_12, hr_13⟩ := iv_iconst xm_35 xd_35_71 (by decide) hr_10
      have rr_14 := iv_ireturn xm_35 xd_35_72 hr_13
      subst rr_14
      exact ⟨_, ⟨0 + 1, lm_35_27.mpr (Or.inl ⟨c_7, ⟨rfl, rfl⟩⟩)⟩, rfl, (by unfold sv_I; omega), ok⟩
    · obtain ⟨n_15, e_16, hr_17⟩ := iv_aload_n xm_35 xd_35_34 q1 hr_10
      have f_18 := dc_fi (j := 4) ok (rfl : sv_ty 1 = some 9) dt_9 rfl
      obtain ⟨n_19, e_20, hr_21⟩ := iv_getf (j := 4) xm_35 xd_35_35 (by decide +kernel) ok (rfl : sv_ty 1 = some 9) dt_9 f_18.1 hr_17
      rcases iv_if 46 xm_35 xd_35_38 (by decide) f_18.2 hr_21 with ⟨c_22, n_23, e_24, hr_25⟩ | ⟨c_22, n_23, e_24, hr_25⟩
      · obtain ⟨n_26, e_27, hr_28⟩ := iv_aload_n xm_35 xd_35_46 q0 hr_25
        obtain ⟨n_29, e_30, hr_31⟩ := iv_aload_n xm_35 xd_35_47 q1 hr_28
        obtain ⟨n_41, r_32, e_42, hc_33, hr_43⟩ := iv_call (Or.inr ⟨rfl, rfl⟩) xm_35 xd_35_48 (by decide +kernel) xm_36 rfl (by decide +kernel) hr_31
        obtain ⟨v_34, d_35, er_36, iv_37, ok_38⟩ := ds_36 _ _ ok t_k0 hc_33
        obtain ⟨_, h_40⟩ := r_32
        have er_36 : _ = some (wk_i v_34) := er_36
        subst er_36
        have hr_44 : ae_exe n_41 35 (48 + 3) 0 0 lv _ h_40 = some r := hr_43
        rcases iv_if 63 xm_35 xd_35_51 (by decide) iv_37 hr_44 with ⟨c_45, n_46, e_47, hr_48⟩ | ⟨c_45, n_46, e_47, hr_48⟩
        · obtain ⟨n_49, e_50, hr_51⟩ := iv_iconst xm_35 xd_35_63 (by decide) hr_48
          have rr_52 := iv_ireturn xm_35 xd_35_64 hr_51
          subst rr_52
          exact ⟨_, ⟨0 + 1, lm_35_27.mpr (Or.inr ⟨c_7, Or.inl ⟨c_22, ⟨_, _, d_35, Or.inl ⟨c_45, ⟨rfl, rfl⟩⟩⟩⟩⟩)⟩, rfl, (by unfold sv_I; omega), ok_38⟩
        · obtain ⟨n_53, e_54, hr_55⟩ := iv_aload_n xm_35 xd_35_54 q1 hr_48
          obtain ⟨n_56, e_57, hr_58⟩ := iv_bipush xm_35 xd_35_55 (by decide) hr_55
          obtain ⟨n_68, r_59, e_69, hc_60, hr_70⟩ := iv_call (Or.inr ⟨rfl, rfl⟩) xm_35 xd_35_57 (by decide +kernel) xm_125 rfl (by decide +kernel) hr_58
          obtain ⟨v_61, d_62, er_63, iv_64, ok_65⟩ := ds_125 _ _ ok_38 (by unfold sv_I; omega) hc_60
          obtain ⟨_, h_67⟩ := r_59
          have er_63 : _ = some (wk_i v_61) := er_63
          subst er_63
          have hr_71 : ae_exe n_68 35 (57 + 3) 0 0 lv _ h_67 = some r := hr_70
          rcases iv_if 65 xm_35 xd_35_60 (by decide) iv_64 hr_71 with ⟨c_72, n_73, e_74, hr_75⟩ | ⟨c_72, n_73, e_74, hr_75⟩
          · obtain ⟨lv_77, sl_76, n_78, e_79, hr_80⟩ := iw_iinc xm_35 xd_35_65 (by decide +kernel) (by decide) q2 hr_75
            have l_81 := sl_76.2 0 _ q0 (by decide) (Or.inl rfl)
            have l_82 := sl_76.2 1 _ q1 (by decide) (Or.inl rfl)
            have l_83 := sl_76.1
            obtain ⟨n_84, e_85, hr_86⟩ := iv_goto 27 xm_35 xd_35_68 (by decide) hr_80
            obtain ⟨v, ⟨c, hL⟩, e1, e2, e3⟩ := ih0 _ lv_77 h_67 _ _ (by omega) ok_65 (dc_w_I _) l_81 l_82 l_83 hr_86
            exact ⟨v, ⟨c + 1, lm_35_27.mpr (Or.inr ⟨c_7, Or.inl ⟨c_22, ⟨_, _, d_35, Or.inr ⟨c_45, ⟨_, _, d_62, Or.inl ⟨c_72, hL⟩⟩⟩⟩⟩⟩)⟩, e1, e2, e3⟩
          · obtain ⟨n_87, e_88, hr_89⟩ := iv_iconst xm_35 xd_35_63 (by decide) hr_75
            have rr_90 := iv_ireturn xm_35 xd_35_64 hr_89
            subst rr_90
            exact ⟨_, ⟨0 + 1, lm_35_27.mpr (Or.inr ⟨c_7, Or.inl ⟨c_22, ⟨_, _, d_35, Or.inr ⟨c_45, ⟨_, _, d_62, Or.inr ⟨c_72, ⟨rfl, rfl⟩⟩⟩⟩⟩⟩⟩)⟩, rfl, (by unfold sv_I; omega), ok_65⟩
      · obtain ⟨n_91, e_92, hr_93⟩ := iv_aload_n xm_35 xd_35_41 q1 hr_25
        obtain ⟨n_103, r_94, e_104, hc_95, hr_105⟩ := iv_call (Or.inr ⟨rfl, rfl⟩) xm_35 xd_35_42 (by decide +kernel) xm_124 rfl (by decide +kernel) hr_93
        obtain ⟨v_96, d_97, er_98, iv_99, ok_100⟩ := ds_124 _  ok hc_95
        obtain ⟨_, h_102⟩ := r_94
        have er_98 : _ = some (wk_i v_96) := er_98
        subst er_98
        have hr_106 : ae_exe n_103 35 (42 + 3) 0 0 lv _ h_102 = some r := hr_105
        have rr_107 := iv_ireturn xm_35 xd_35_45 hr_106
        subst rr_107
        exact ⟨_, ⟨0 + 1, lm_35_27.mpr (Or.inr ⟨c_7, Or.inr ⟨c_22, ⟨_, _, d_97, ⟨rfl, rfl⟩⟩⟩⟩)⟩, rfl, iv_99, ok_100⟩
abbrev D_35 (k0 : Nat) (m : dc_M) (v : Int) (m' : dc_M) : Prop := ∃ m_117, m_117 = dc_up m k0 3 0 ∧ (∃ m_130, m_130 = dc_up m_117 k0 9 0 ∧ (∃ m_149, m_149 = dc_fill m_130 (k0 + 4) 4 0 ∧ (∃ v_163 m_168, D_116 300 m_149 v_163 m_168 ∧ (∃ c, LM_35 k0 c 27 0 m_168 v m'))))
theorem ds_35 (n : Nat) (k0 : Nat) {h : ae_H} {r : ae_R} (ok : dc_ok h) (t_k0 : sv_ty k0 = some 2) (hr : ae_exe n 35 0 0 0 (ae_args [wk_r k0, wk_r 1] 0) [] h = some r) : ∃ v, D_35 k0 (dc_m h) v (dc_m r.2) ∧ r.1 = some (wk_i v) ∧ sv_I v ∧ dc_ok r.2 := by
  have q0 : ae_lk (ae_args [wk_r k0, wk_r 1] 0) 0 = some (wk_r k0) := rfl
  have q1 : ae_lk (ae_args [wk_r k0, wk_r 1] 0) 1 = some (wk_r 1) := rfl
  obtain ⟨n_108, e_109, hr_110⟩ := iv_aload_n xm_35 xd_35_0 q0 hr
  obtain ⟨n_111, e_112, hr_113⟩ := iv_iconst xm_35 xd_35_1 (by decide) hr_110
  obtain ⟨h_114, ok_115, em_116, n_118, e_119, hr_120⟩ := iv_puti (j := 3) (fk := 0) xm_35 xd_35_2 (by decide +kernel) ok t_k0 dt_2 rfl (by decide +kernel) rfl (by unfold sv_I; omega) hr_113
  obtain ⟨n_121, e_122, hr_123⟩ := iv_aload_n xm_35 xd_35_5 q0 hr_120
  obtain ⟨n_124, e_125, hr_126⟩ := iv_iconst xm_35 xd_35_6 (by decide) hr_123
  obtain ⟨h_127, ok_128, em_129, n_131, e_132, hr_133⟩ := iv_puti (j := 9) (fk := 0) xm_35 xd_35_7 (by decide +kernel) ok_115 t_k0 dt_2 rfl (by decide +kernel) rfl (by unfold sv_I; omega) hr_126
  obtain ⟨n_134, e_135, hr_136⟩ := iv_aload_n xm_35 xd_35_10 q0 hr_133
  have f_137 := dc_fr (j := 4) ok_128 t_k0 dt_2 rfl
  obtain ⟨n_138, e_139, hr_140⟩ := iv_getf (j := 4) xm_35 xd_35_11 (by decide +kernel) ok_128 t_k0 dt_2 f_137 hr_136
  obtain ⟨n_141, e_142, hr_143⟩ := iv_iconst xm_35 xd_35_14 (by decide) hr_140
  obtain ⟨n_151, r_144, e_152, hc_145, hr_153⟩ := iv_call (Or.inl ⟨rfl, rfl⟩) xm_35 xd_35_15 (by decide +kernel) xm_285 rfl (by decide +kernel) hr_143
  obtain ⟨er_146, ok_147, em_148⟩ := iv_fill ok_128 (do_2_4 t_k0) dt_43 (by decide) (by unfold sv_I; omega) hc_145
  obtain ⟨_, h_150⟩ := r_144
  have er_146 : _ = none := er_146
  subst er_146
  have hr_154 : ae_exe n_151 35 (15 + 3) 0 0 (ae_args [wk_r k0, wk_r 1] 0) _ h_150 = some r := hr_153
  obtain ⟨n_155, e_156, hr_157⟩ := iv_aload_n xm_35 xd_35_18 q1 hr_154
  obtain ⟨n_158, e_159, hr_160⟩ := iv_sipush xm_35 xd_35_19 (by decide) hr_157
  obtain ⟨n_170, r_161, e_171, hc_162, hr_172⟩ := iv_call (Or.inr ⟨rfl, rfl⟩) xm_35 xd_35_22 (by decide +kernel) xm_116 rfl (by decide +kernel) hr_160
  obtain ⟨v_163, d_164, er_165, iv_166, ok_167⟩ := ds_116 _ _ ok_147 (by unfold sv_I; omega) hc_162
  obtain ⟨_, h_169⟩ := r_161
  have er_165 : _ = none := er_165
  subst er_165
  have hr_173 : ae_exe n_170 35 (22 + 3) 0 0 (ae_args [wk_r k0, wk_r 1] 0) _ h_169 = some r := hr_172
  obtain ⟨n_174, e_175, hr_176⟩ := iv_iconst xm_35 xd_35_25 (by decide) hr_173
  obtain ⟨lv_178, sl_177, n_179, e_180, hr_181⟩ := iv_istore_n xm_35 xd_35_26 (by decide +kernel) hr_176
  have l_182 := sl_177.2 0 _ q0 (by decide) (Or.inl rfl)
  have l_183 := sl_177.2 1 _ q1 (by decide) (Or.inl rfl)
  have l_184 := sl_177.1
  obtain ⟨v, ⟨c, hL⟩, e1, e2, e3⟩ := (dl_35 t_k0 _) _ lv_178 h_169 _ _ (Nat.le_refl _) ok_167 (by unfold sv_I; omega) l_182 l_183 l_184 hr_181
  exact ⟨v, ⟨_, em_116, ⟨_, em_129, ⟨_, em_148, ⟨_, _, d_164, ⟨_, hL⟩⟩⟩⟩⟩, e1, e2, e3⟩
