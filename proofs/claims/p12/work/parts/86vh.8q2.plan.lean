/-! method 283 -/
theorem xm_283 : ae_m 283 = some (wk_M 283) := rfl
theorem xd_283_0 : decode (wk_M 283).2.2.1 0 = .ok (.iload_n 0, 1) := zd_by (by decide +kernel)
theorem xd_283_1 : decode (wk_M 283).2.2.1 1 = .ok (.iload_n 0, 1) := zd_by (by decide +kernel)
theorem xd_283_2 : decode (wk_M 283).2.2.1 2 = .ok (.iconst 1, 1) := zd_by (by decide +kernel)
theorem xd_283_3 : decode (wk_M 283).2.2.1 3 = .ok (.iushr, 1) := zd_by (by decide +kernel)
theorem xd_283_4 : decode (wk_M 283).2.2.1 4 = .ok (.ldc_w 265, 3) := zd_by (by decide +kernel)
theorem xd_283_7 : decode (wk_M 283).2.2.1 7 = .ok (.iand, 1) := zd_by (by decide +kernel)
theorem xd_283_8 : decode (wk_M 283).2.2.1 8 = .ok (.isub, 1) := zd_by (by decide +kernel)
theorem xd_283_9 : decode (wk_M 283).2.2.1 9 = .ok (.istore_n 0, 1) := zd_by (by decide +kernel)
theorem xd_283_10 : decode (wk_M 283).2.2.1 10 = .ok (.iload_n 0, 1) := zd_by (by decide +kernel)
theorem xd_283_11 : decode (wk_M 283).2.2.1 11 = .ok (.ldc_w 266, 3) := zd_by (by decide +kernel)
theorem xd_283_14 : decode (wk_M 283).2.2.1 14 = .ok (.iand, 1) := zd_by (by decide +kernel)
theorem xd_283_15 : decode (wk_M 283).2.2.1 15 = .ok (.iload_n 0, 1) := zd_by (by decide +kernel)
theorem xd_283_16 : decode (wk_M 283).2.2.1 16 = .ok (.iconst 2, 1) := zd_by (by decide +kernel)
theorem xd_283_17 : decode (wk_M 283).2.2.1 17 = .ok (.iushr, 1) := zd_by (by decide +kernel)
theorem xd_283_18 : decode (wk_M 283).2.2.1 18 = .ok (.ldc_w 266, 3) := zd_by (by decide +kernel)
theorem xd_283_21 : decode (wk_M 283).2.2.1 21 = .ok (.iand, 1) := zd_by (by decide +kernel)
theorem xd_283_22 : decode (wk_M 283).2.2.1 22 = .ok (.iadd, 1) := zd_by (by decide +kernel)
theorem xd_283_23 : decode (wk_M 283).2.2.1 23 = .ok (.istore_n 0, 1) := zd_by (by decide +kernel)
theorem xd_283_24 : decode (wk_M 283).2.2.1 24 = .ok (.iload_n 0, 1) := zd_by (by decide +kernel)
theorem xd_283_25 : decode (wk_M 283).2.2.1 25 = .ok (.iload_n 0, 1) := zd_by (by decide +kernel)
theorem xd_283_26 : decode (wk_M 283).2.2.1 26 = .ok (.iconst 4, 1) := zd_by (by decide +kernel)
theorem xd_283_27 : decode (wk_M 283).2.2.1 27 = .ok (.iushr, 1) := zd_by (by decide +kernel)
theorem xd_283_28 : decode (wk_M 283).2.2.1 28 = .ok (.iadd, 1) := zd_by (by decide +kernel)
theorem xd_283_29 : decode (wk_M 283).2.2.1 29 = .ok (.ldc_w 267, 3) := zd_by (by decide +kernel)
theorem xd_283_32 : decode (wk_M 283).2.2.1 32 = .ok (.iand, 1) := zd_by (by decide +kernel)
theorem xd_283_33 : decode (wk_M 283).2.2.1 33 = .ok (.istore_n 0, 1) := zd_by (by decide +kernel)
theorem xd_283_34 : decode (wk_M 283).2.2.1 34 = .ok (.iload_n 0, 1) := zd_by (by decide +kernel)
theorem xd_283_35 : decode (wk_M 283).2.2.1 35 = .ok (.iload_n 0, 1) := zd_by (by decide +kernel)
theorem xd_283_36 : decode (wk_M 283).2.2.1 36 = .ok (.bipush 8, 2) := zd_by (by decide +kernel)
theorem xd_283_38 : decode (wk_M 283).2.2.1 38 = .ok (.iushr, 1) := zd_by (by decide +kernel)
theorem xd_283_39 : decode (wk_M 283).2.2.1 39 = .ok (.iadd, 1) := zd_by (by decide +kernel)
theorem xd_283_40 : decode (wk_M 283).2.2.1 40 = .ok (.istore_n 0, 1) := zd_by (by decide +kernel)
theorem xd_283_41 : decode (wk_M 283).2.2.1 41 = .ok (.iload_n 0, 1) := zd_by (by decide +kernel)
theorem xd_283_42 : decode (wk_M 283).2.2.1 42 = .ok (.iload_n 0, 1) := zd_by (by decide +kernel)
theorem xd_283_43 : decode (wk_M 283).2.2.1 43 = .ok (.bipush 16, 2) := zd_by (by decide +kernel)
theorem xd_283_45 : decode (wk_M 283).2.2.1 45 = .ok (.iushr, 1) := zd_by (by decide +kernel)
theorem xd_283_46 : decode (wk_M 283).2.2.1 46 = .ok (.iadd, 1) := zd_by (by decide +kernel)
theorem xd_283_47 : decode (wk_M 283).2.2.1 47 = .ok (.istore_n 0, 1) := zd_by (by decide +kernel)
theorem xd_283_48 : decode (wk_M 283).2.2.1 48 = .ok (.iload_n 0, 1) := zd_by (by decide +kernel)
theorem xd_283_49 : decode (wk_M 283).2.2.1 49 = .ok (.bipush 63, 2) := zd_by (by decide +kernel)
theorem xd_283_51 : decode (wk_M 283).2.2.1 51 = .ok (.iand, 1) := zd_by (by decide +kernel)
theorem xd_283_52 : decode (wk_M 283).2.2.1 52 = .ok (.ireturn, 1) := zd_by (by decide +kernel)
abbrev D_283 (x0 : Int) (m : dc_M) (v : Int) (m' : dc_M) : Prop := v = (sv_g (sv_u (dc_w ((dc_w ((sv_g (sv_u (dc_w ((dc_w ((sv_g (sv_u (dc_w (x0 - (sv_g (sv_u (sv_g (ae_ushr (sv_u x0) (sv_u 1))) &&& sv_u 1431655765)))) &&& sv_u 858993459)) + (sv_g (sv_u (sv_g (ae_ushr (sv_u (dc_w (x0 - (sv_g (sv_u (sv_g (ae_ushr (sv_u x0) (sv_u 1))) &&& sv_u 1431655765))))) (sv_u 2))) &&& sv_u 858993459)))) + (sv_g (ae_ushr (sv_u (dc_w ((sv_g (sv_u (dc_w (x0 - (sv_g (sv_u (sv_g (ae_ushr (sv_u x0) (sv_u 1))) &&& sv_u 1431655765)))) &&& sv_u 858993459)) + (sv_g (sv_u (sv_g (ae_ushr (sv_u (dc_w (x0 - (sv_g (sv_u (sv_g (ae_ushr (sv_u x0) (sv_u 1))) &&& sv_u 1431655765))))) (sv_u 2))) &&& sv_u 858993459))))) (sv_u 4))))) &&& sv_u 252645135)) + (sv_g (ae_ushr (sv_u (sv_g (sv_u (dc_w ((dc_w ((sv_g (sv_u (dc_w (x0 - (sv_g (sv_u (sv_g (ae_ushr (sv_u x0) (sv_u 1))) &&& sv_u 1431655765)))) &&& sv_u 858993459)) + (sv_g (sv_u (sv_g (ae_ushr (sv_u (dc_w (x0 - (sv_g (sv_u (sv_g (ae_ushr (sv_u x0) (sv_u 1))) &&& sv_u 1431655765))))) (sv_u 2))) &&& sv_u 858993459)))) + (sv_g (ae_ushr (sv_u (dc_w ((sv_g (sv_u (dc_w (x0 - (sv_g (sv_u (sv_g (ae_ushr (sv_u x0) (sv_u 1))) &&& sv_u 1431655765)))) &&& sv_u 858993459)) + (sv_g (sv_u (sv_g (ae_ushr (sv_u (dc_w (x0 - (sv_g (sv_u (sv_g (ae_ushr (sv_u x0) (sv_u 1))) &&& sv_u 1431655765))))) (sv_u 2))) &&& sv_u 858993459))))) (sv_u 4))))) &&& sv_u 252645135))) (sv_u 8))))) + (sv_g (ae_ushr (sv_u (dc_w ((sv_g (sv_u (dc_w ((dc_w ((sv_g (sv_u (dc_w (x0 - (sv_g (sv_u (sv_g (ae_ushr (sv_u x0) (sv_u 1))) &&& sv_u 1431655765)))) &&& sv_u 858993459)) + (sv_g (sv_u (sv_g (ae_ushr (sv_u (dc_w (x0 - (sv_g (sv_u (sv_g (ae_ushr (sv_u x0) (sv_u 1))) &&& sv_u 1431655765))))) (sv_u 2))) &&& sv_u 858993459)))) + (sv_g (ae_ushr (sv_u (dc_w ((sv_g (sv_u (dc_w (x0 - (sv_g (sv_u (sv_g (ae_ushr (sv_u x0) (sv_u 1))) &&& sv_u 1431655765)))) &&& sv_u 858993459)) + (sv_g (sv_u (sv_g (ae_ushr (sv_u (dc_w (x0 - (sv_g (sv_u (sv_g (ae_ushr (sv_u x0) (sv_u 1))) &&& sv_u 1431655765))))) (sv_u 2))) &&& sv_u 858993459))))) (sv_u 4))))) &&& sv_u 252645135)) + (sv_g (ae_ushr (sv_u (sv_g (sv_u (dc_w ((dc_w ((sv_g (sv_u (dc_w (x0 - (sv_g (sv_u (sv_g (ae_ushr (sv_u x0) (sv_u 1))) &&& sv_u 1431655765)))) &&& sv_u 858993459)) + (sv_g (sv_u (sv_g (ae_ushr (sv_u (dc_w (x0 - (sv_g (sv_u (sv_g (ae_ushr (sv_u x0) (sv_u 1))) &&& sv_u 1431655765))))) (sv_u 2))) &&& sv_u 858993459)))) + (sv_g (ae_ushr (sv_u (dc_w ((sv_g (sv_u (dc_w (x0 - (sv_g (sv_u (sv_g (ae_ushr (sv_u x0) (sv_u 1))) &&& sv_u 1431655765)))) &&& sv_u 858993459)) + (sv_g (sv_u (sv_g (ae_ushr (sv_u (dc_w (x0 - (sv_g (sv_u (sv_g (ae_ushr (sv_u x0) (sv_u 1))) &&& sv_u 1431655765))))) (sv_u 2))) &&& sv_u 858993459))))) (sv_u 4))))) &&& sv_u 252645135))) (sv_u 8)))))) (sv_u 16))))) &&& sv_u 63)) ∧ m' = m
theorem ds_283 (n : Nat) (x0 : Int) {h : ae_H} {r : ae_R} (ok : dc_ok h) (ix0 : sv_I x0) (hr : ae_exe n 283 0 0 0 (ae_args [wk_i x0] 0) [] h = some r) : ∃ v, D_283 x0 (dc_m h) v (dc_m r.2) ∧ r.1 = some (wk_i v) ∧ sv_I v ∧ dc_ok r.2 := by
  have q0 : ae_lk (ae_args [wk_i x0] 0) 0 = some (wk_i x0) := rfl
  obtain ⟨n_1, e_2, hr_3⟩ := iv_iload_n xm_283 xd_283_0 q0 hr
  obtain ⟨n_4, e_5, hr_6⟩ := iv_iload_n xm_283 xd_283_1 q0 hr_3
  obtain ⟨n_7, e_8, hr_9⟩ := iv_iconst xm_283 xd_283_2 (by decide) hr_6
  obtain ⟨n_10, e_11, hr_12⟩ := iv_ibin (f := ae_ushr) (Or.inr (Or.inr (Or.inl ⟨rfl, rfl⟩))) (Nat.lt_of_le_of_lt (Nat.shiftRight_le _ _) (sv_u_lt _)) xm_283 xd_283_3 hr_9
  obtain ⟨n_13, e_14, hr_15⟩ := iv_ldc (v := 1431655765) (z := 0) (Or.inr ⟨rfl, rfl⟩) xm_283 xd_283_4 (by decide +kernel) (by decide) hr_12
  rw [show sv_g 1431655765 = 1431655765 by decide] at hr_15
  obtain ⟨n_16, e_17, hr_18⟩ := iv_iand xm_283 xd_283_7 hr_15
  obtain ⟨n_19, e_20, hr_21⟩ := iw_isub xm_283 xd_283_8 hr_18
  obtain ⟨lv_23, sl_22, n_24, e_25, hr_26⟩ := iv_istore_n xm_283 xd_283_9 (by decide +kernel) hr_21
  have l_27 := sl_22.1
  obtain ⟨n_28, e_29, hr_30⟩ := iv_iload_n xm_283 xd_283_10 l_27 hr_26
  obtain ⟨n_31, e_32, hr_33⟩ := iv_ldc (v := 858993459) (z := 0) (Or.inr ⟨rfl, rfl⟩) xm_283 xd_283_11 (by decide +kernel) (by decide) hr_30
  rw [show sv_g 858993459 = 858993459 by decide] at hr_33
  obtain ⟨n_34, e_35, hr_36⟩ := iv_iand xm_283 xd_283_14 hr_33
  obtain ⟨n_37, e_38, hr_39⟩ := iv_iload_n xm_283 xd_283_15 l_27 hr_36
  obtain ⟨n_40, e_41, hr_42⟩ := iv_iconst xm_283 xd_283_16 (by decide) hr_39
  obtain ⟨n_43, e_44, hr_45⟩ := iv_ibin (f := ae_ushr) (Or.inr (Or.inr (Or.inl ⟨rfl, rfl⟩))) (Nat.lt_of_le_of_lt (Nat.shiftRight_le _ _) (sv_u_lt _)) xm_283 xd_283_17 hr_42
  obtain ⟨n_46, e_47, hr_48⟩ := iv_ldc (v := 858993459) (z := 0) (Or.inr ⟨rfl, rfl⟩) xm_283 xd_283_18 (by decide +kernel) (by decide) hr_45
  rw [show sv_g 858993459 = 858993459 by decide] at hr_48
  obtain ⟨n_49, e_50, hr_51⟩ := iv_iand xm_283 xd_283_21 hr_48
  obtain ⟨n_52, e_53, hr_54⟩ := iw_iadd xm_283 xd_283_22 hr_51
  obtain ⟨lv_56, sl_55, n_57, e_58, hr_59⟩ := iv_istore_n xm_283 xd_283_23 (by decide +kernel) hr_54
  have l_60 := sl_55.1
  obtain ⟨n_61, e_62, hr_63⟩ := iv_iload_n xm_283 xd_283_24 l_60 hr_59
  obtain ⟨n_64, e_65, hr_66⟩ := iv_iload_n xm_283 xd_283_25 l_60 hr_63
  obtain ⟨n_67, e_68, hr_69⟩ := iv_iconst xm_283 xd_283_26 (by decide) hr_66
  obtain ⟨n_70, e_71, hr_72⟩ := iv_ibin (f := ae_ushr) (Or.inr (Or.inr (Or.inl ⟨rfl, rfl⟩))) (Nat.lt_of_le_of_lt (Nat.shiftRight_le _ _) (sv_u_lt _)) xm_283 xd_283_27 hr_69
  obtain ⟨n_73, e_74, hr_75⟩ := iw_iadd xm_283 xd_283_28 hr_72
  obtain ⟨n_76, e_77, hr_78⟩ := iv_ldc (v := 252645135) (z := 0) (Or.inr ⟨rfl, rfl⟩) xm_283 xd_283_29 (by decide +kernel) (by decide) hr_75
  rw [show sv_g 252645135 = 252645135 by decide] at hr_78
  obtain ⟨n_79, e_80, hr_81⟩ := iv_iand xm_283 xd_283_32 hr_78
  obtain ⟨lv_83, sl_82, n_84, e_85, hr_86⟩ := iv_istore_n xm_283 xd_283_33 (by decide +kernel) hr_81
  have l_87 := sl_82.1
  obtain ⟨n_88, e_89, hr_90⟩ := iv_iload_n xm_283 xd_283_34 l_87 hr_86
  obtain ⟨n_91, e_92, hr_93⟩ := iv_iload_n xm_283 xd_283_35 l_87 hr_90
  obtain ⟨n_94, e_95, hr_96⟩ := iv_bipush xm_283 xd_283_36 (by decide) hr_93
  obtain ⟨n_97, e_98, hr_99⟩ := iv_ibin (f := ae_ushr) (Or.inr (Or.inr (Or.inl ⟨rfl, rfl⟩))) (Nat.lt_of_le_of_lt (Nat.shiftRight_le _ _) (sv_u_lt _)) xm_283 xd_283_38 hr_96
  obtain ⟨n_100, e_101, hr_102⟩ := iw_iadd xm_283 xd_283_39 hr_99
  obtain ⟨lv_104, sl_103, n_105, e_106, hr_107⟩ := iv_istore_n xm_283 xd_283_40 (by decide +kernel) hr_102
  have l_108 := sl_103.1
  obtain ⟨n_109, e_110, hr_111⟩ := iv_iload_n xm_283 xd_283_41 l_108 hr_107
  obtain ⟨n_112, e_113, hr_114⟩ := iv_iload_n xm_283 xd_283_42 l_108 hr_111
  obtain ⟨n_115, e_116, hr_117⟩ := iv_bipush xm_283 xd_283_43 (by decide) hr_114
  obtain ⟨n_118, e_119, hr_120⟩ := iv_ibin (f := ae_ushr) (Or.inr (Or.inr (Or.inl ⟨rfl, rfl⟩))) (Nat.lt_of_le_of_lt (Nat.shiftRight_le _ _) (sv_u_lt _)) xm_283 xd_283_45 hr_117
  obtain ⟨n_121, e_122, hr_123⟩ := iw_iadd xm_283 xd_283_46 hr_120
  obtain ⟨lv_125, sl_124, n_126, e_127, hr_128⟩ := iv_istore_n xm_283 xd_283_47 (by decide +kernel) hr_123
  have l_129 := sl_124.1
  obtain ⟨n_130, e_131, hr_132⟩ := iv_iload_n xm_283 xd_283_48 l_129 hr_128
  obtain ⟨n_133, e_134, hr_135⟩ := iv_bipush xm_283 xd_283_49 (by decide) hr_132
  obtain ⟨n_136, e_137, hr_138⟩ := iv_iand xm_283 xd_283_51 hr_135
  have rr_139 := iv_ireturn xm_283 xd_283_52 hr_138
  subst rr_139
  exact ⟨_, ⟨rfl, rfl⟩, rfl, (sv_g_I (Nat.lt_of_le_of_lt Nat.and_le_right (sv_u_lt _))), ok⟩
/-! method 83 -/
theorem xm_83 : ae_m 83 = some (wk_M 83) := rfl
theorem xd_83_0 : decode (wk_M 83).2.2.1 0 = .ok (.aload_n 0, 1) := zd_by (by decide +kernel)
theorem xd_83_1 : decode (wk_M 83).2.2.1 1 = .ok (.dup, 1) := zd_by (by decide +kernel)
theorem xd_83_2 : decode (wk_M 83).2.2.1 2 = .ok (.getfield 72, 3) := zd_by (by decide +kernel)
theorem xd_83_5 : decode (wk_M 83).2.2.1 5 = .ok (.aload_n 0, 1) := zd_by (by decide +kernel)
theorem xd_83_6 : decode (wk_M 83).2.2.1 6 = .ok (.getfield 37, 3) := zd_by (by decide +kernel)
theorem xd_83_9 : decode (wk_M 83).2.2.1 9 = .ok (.iload_n 1, 1) := zd_by (by decide +kernel)
theorem xd_83_10 : decode (wk_M 83).2.2.1 10 = .ok (.iload_n 2, 1) := zd_by (by decide +kernel)
theorem xd_83_11 : decode (wk_M 83).2.2.1 11 = .ok (.invokevirtual 84, 3) := zd_by (by decide +kernel)
theorem xd_83_14 : decode (wk_M 83).2.2.1 14 = .ok (.iand, 1) := zd_by (by decide +kernel)
theorem xd_83_15 : decode (wk_M 83).2.2.1 15 = .ok (.putfield 72, 3) := zd_by (by decide +kernel)
theorem xd_83_18 : decode (wk_M 83).2.2.1 18 = .ok (.return_, 1) := zd_by (by decide +kernel)
abbrev D_83 (x0 : Int) (x1 : Int) (m : dc_M) (v : Int) (m' : dc_M) : Prop := ∃ v_26 m_31, D_2 ((m 46 10).toNat) x0 x1 m v_26 m_31 ∧ (∃ m_43, m_43 = dc_up m_31 46 9 (sv_g (sv_u (m 46 9) &&& sv_u v_26)) ∧ (v = 0 ∧ m' = m_43))
theorem ds_83 (n : Nat) (x0 : Int) (x1 : Int) {h : ae_H} {r : ae_R} (ok : dc_ok h) (ix0 : sv_I x0) (ix1 : sv_I x1) (hr : ae_exe n 83 0 0 0 (ae_args [wk_r 46, wk_i x0, wk_i x1] 0) [] h = some r) : ∃ v, D_83 x0 x1 (dc_m h) v (dc_m r.2) ∧ r.1 = none ∧ sv_I v ∧ dc_ok r.2 := by
  have q0 : ae_lk (ae_args [wk_r 46, wk_i x0, wk_i x1] 0) 0 = some (wk_r 46) := rfl
  have q1 : ae_lk (ae_args [wk_r 46, wk_i x0, wk_i x1] 0) 1 = some (wk_i x0) := rfl
  have q2 : ae_lk (ae_args [wk_r 46, wk_i x0, wk_i x1] 0) 2 = some (wk_i x1) := rfl
  obtain ⟨n_1, e_2, hr_3⟩ := iv_aload_n xm_83 xd_83_0 q0 hr
  obtain ⟨n_4, e_5, hr_6⟩ := iv_dup xm_83 xd_83_1 rfl hr_3
  have f_7 := dc_fi (j := 9) ok (rfl : sv_ty 46 = some 6) dt_6 rfl
  obtain ⟨n_8, e_9, hr_10⟩ := iv_getf (j := 9) xm_83 xd_83_2 (by decide +kernel) ok (rfl : sv_ty 46 = some 6) dt_6 f_7.1 hr_6
  obtain ⟨n_11, e_12, hr_13⟩ := iv_aload_n xm_83 xd_83_5 q0 hr_10
  have f_14 := dc_ft (j := 10) ok (rfl : sv_ty 46 = some 6) dt_6 rfl
  obtain ⟨n_15, e_16, hr_17⟩ := iv_getf (j := 10) xm_83 xd_83_6 (by decide +kernel) ok (rfl : sv_ty 46 = some 6) dt_6 f_14.1 hr_13
  obtain ⟨n_18, e_19, hr_20⟩ := iv_iload_n xm_83 xd_83_9 q1 hr_17
  obtain ⟨n_21, e_22, hr_23⟩ := iv_iload_n xm_83 xd_83_10 q2 hr_20
  obtain ⟨n_33, r_24, e_34, hc_25, hr_35⟩ := iv_call (Or.inr ⟨rfl, rfl⟩) xm_83 xd_83_11 (by decide +kernel) xm_2 rfl (by decide +kernel) hr_23
  obtain ⟨v_26, d_27, er_28, iv_29, ok_30⟩ := ds_2 _ _ _ _ ok f_14.2 ix0 ix1 hc_25
  obtain ⟨_, h_32⟩ := r_24
  have er_28 : _ = some (wk_i v_26) := er_28
  subst er_28
  have hr_36 : ae_exe n_33 83 (11 + 3) 0 0 (ae_args [wk_r 46, wk_i x0, wk_i x1] 0) _ h_32 = some r := hr_35
  obtain ⟨n_37, e_38, hr_39⟩ := iv_iand xm_83 xd_83_14 hr_36
  obtain ⟨h_40, ok_41, em_42, n_44, e_45, hr_46⟩ := iv_puti (j := 9) (fk := 1) xm_83 xd_83_15 (by decide +kernel) ok_30 (rfl : sv_ty 46 = some 6) dt_6 rfl (by decide +kernel) rfl (sv_g_I (Nat.lt_of_le_of_lt Nat.and_le_right (sv_u_lt _))) hr_39
  have rr_47 := iv_return xm_83 xd_83_18 hr_46 rfl
  subst rr_47
  exact ⟨_, ⟨_, _, d_27, ⟨_, em_42, ⟨rfl, rfl⟩⟩⟩, rfl, (by unfold sv_I; omega), ok_41⟩
/-! method 88 -/
theorem xm_88 : ae_m 88 = some (wk_M 88) := rfl
theorem xd_88_0 : decode (wk_M 88).2.2.1 0 = .ok (.iconst 0, 1) := zd_by (by decide +kernel)
theorem xd_88_1 : decode (wk_M 88).2.2.1 1 = .ok (.istore_n 2, 1) := zd_by (by decide +kernel)
theorem xd_88_2 : decode (wk_M 88).2.2.1 2 = .ok (.iload_n 2, 1) := zd_by (by decide +kernel)
theorem xd_88_3 : decode (wk_M 88).2.2.1 3 = .ok (.aload_n 0, 1) := zd_by (by decide +kernel)
theorem xd_88_4 : decode (wk_M 88).2.2.1 4 = .ok (.getfield 61, 3) := zd_by (by decide +kernel)
theorem xd_88_7 : decode (wk_M 88).2.2.1 7 = .ok (.if_icmp .ge 29, 3) := zd_by (by decide +kernel)
theorem xd_88_10 : decode (wk_M 88).2.2.1 10 = .ok (.aload_n 0, 1) := zd_by (by decide +kernel)
theorem xd_88_11 : decode (wk_M 88).2.2.1 11 = .ok (.getfield 31, 3) := zd_by (by decide +kernel)
theorem xd_88_14 : decode (wk_M 88).2.2.1 14 = .ok (.iload_n 2, 1) := zd_by (by decide +kernel)
theorem xd_88_15 : decode (wk_M 88).2.2.1 15 = .ok (.iaload, 1) := zd_by (by decide +kernel)
theorem xd_88_16 : decode (wk_M 88).2.2.1 16 = .ok (.iload_n 1, 1) := zd_by (by decide +kernel)
theorem xd_88_17 : decode (wk_M 88).2.2.1 17 = .ok (.if_icmp .ne 13, 3) := zd_by (by decide +kernel)
theorem xd_88_20 : decode (wk_M 88).2.2.1 20 = .ok (.aload_n 0, 1) := zd_by (by decide +kernel)
theorem xd_88_21 : decode (wk_M 88).2.2.1 21 = .ok (.getfield 34, 3) := zd_by (by decide +kernel)
theorem xd_88_24 : decode (wk_M 88).2.2.1 24 = .ok (.iload_n 2, 1) := zd_by (by decide +kernel)
theorem xd_88_25 : decode (wk_M 88).2.2.1 25 = .ok (.iaload, 1) := zd_by (by decide +kernel)
theorem xd_88_26 : decode (wk_M 88).2.2.1 26 = .ok (.iconst 3, 1) := zd_by (by decide +kernel)
theorem xd_88_27 : decode (wk_M 88).2.2.1 27 = .ok (.if_icmp .lt 9, 3) := zd_by (by decide +kernel)
theorem xd_88_30 : decode (wk_M 88).2.2.1 30 = .ok (.iinc 2 1, 3) := zd_by (by decide +kernel)
theorem xd_88_33 : decode (wk_M 88).2.2.1 33 = .ok (.goto (-31), 3) := zd_by (by decide +kernel)
theorem xd_88_36 : decode (wk_M 88).2.2.1 36 = .ok (.iload_n 2, 1) := zd_by (by decide +kernel)
theorem xd_88_37 : decode (wk_M 88).2.2.1 37 = .ok (.iconst 4, 1) := zd_by (by decide +kernel)
theorem xd_88_38 : decode (wk_M 88).2.2.1 38 = .ok (.if_icmp .lt 10, 3) := zd_by (by decide +kernel)
theorem xd_88_41 : decode (wk_M 88).2.2.1 41 = .ok (.aload_n 0, 1) := zd_by (by decide +kernel)
theorem xd_88_42 : decode (wk_M 88).2.2.1 42 = .ok (.iconst 0, 1) := zd_by (by decide +kernel)
theorem xd_88_43 : decode (wk_M 88).2.2.1 43 = .ok (.putfield 72, 3) := zd_by (by decide +kernel)
theorem xd_88_46 : decode (wk_M 88).2.2.1 46 = .ok (.iconst (-1), 1) := zd_by (by decide +kernel)
theorem xd_88_47 : decode (wk_M 88).2.2.1 47 = .ok (.ireturn, 1) := zd_by (by decide +kernel)
theorem xd_88_48 : decode (wk_M 88).2.2.1 48 = .ok (.iload_n 2, 1) := zd_by (by decide +kernel)
theorem xd_88_49 : decode (wk_M 88).2.2.1 49 = .ok (.aload_n 0, 1) := zd_by (by decide +kernel)
theorem xd_88_50 : decode (wk_M 88).2.2.1 50 = .ok (.getfield 61, 3) := zd_by (by decide +kernel)
theorem xd_88_53 : decode (wk_M 88).2.2.1 53 = .ok (.if_icmp .ne 37, 3) := zd_by (by decide +kernel)
theorem xd_88_56 : decode (wk_M 88).2.2.1 56 = .ok (.aload_n 0, 1) := zd_by (by decide +kernel)
theorem xd_88_57 : decode (wk_M 88).2.2.1 57 = .ok (.getfield 31, 3) := zd_by (by decide +kernel)
theorem xd_88_60 : decode (wk_M 88).2.2.1 60 = .ok (.iload_n 2, 1) := zd_by (by decide +kernel)
theorem xd_88_61 : decode (wk_M 88).2.2.1 61 = .ok (.iload_n 1, 1) := zd_by (by decide +kernel)
theorem xd_88_62 : decode (wk_M 88).2.2.1 62 = .ok (.iastore, 1) := zd_by (by decide +kernel)
theorem xd_88_63 : decode (wk_M 88).2.2.1 63 = .ok (.aload_n 0, 1) := zd_by (by decide +kernel)
theorem xd_88_64 : decode (wk_M 88).2.2.1 64 = .ok (.getfield 34, 3) := zd_by (by decide +kernel)
theorem xd_88_67 : decode (wk_M 88).2.2.1 67 = .ok (.iload_n 2, 1) := zd_by (by decide +kernel)
theorem xd_88_68 : decode (wk_M 88).2.2.1 68 = .ok (.iconst 0, 1) := zd_by (by decide +kernel)
theorem xd_88_69 : decode (wk_M 88).2.2.1 69 = .ok (.iastore, 1) := zd_by (by decide +kernel)
theorem xd_88_70 : decode (wk_M 88).2.2.1 70 = .ok (.aload_n 0, 1) := zd_by (by decide +kernel)
theorem xd_88_71 : decode (wk_M 88).2.2.1 71 = .ok (.dup, 1) := zd_by (by decide +kernel)
theorem xd_88_72 : decode (wk_M 88).2.2.1 72 = .ok (.getfield 61, 3) := zd_by (by decide +kernel)
theorem xd_88_75 : decode (wk_M 88).2.2.1 75 = .ok (.iconst 1, 1) := zd_by (by decide +kernel)
theorem xd_88_76 : decode (wk_M 88).2.2.1 76 = .ok (.iadd, 1) := zd_by (by decide +kernel)
theorem xd_88_77 : decode (wk_M 88).2.2.1 77 = .ok (.putfield 61, 3) := zd_by (by decide +kernel)
theorem xd_88_80 : decode (wk_M 88).2.2.1 80 = .ok (.aload_n 0, 1) := zd_by (by decide +kernel)
theorem xd_88_81 : decode (wk_M 88).2.2.1 81 = .ok (.iload_n 1, 1) := zd_by (by decide +kernel)
theorem xd_88_82 : decode (wk_M 88).2.2.1 82 = .ok (.sipush 144, 3) := zd_by (by decide +kernel)
theorem xd_88_85 : decode (wk_M 88).2.2.1 85 = .ok (.iload_n 2, 1) := zd_by (by decide +kernel)
theorem xd_88_86 : decode (wk_M 88).2.2.1 86 = .ok (.iadd, 1) := zd_by (by decide +kernel)
theorem xd_88_87 : decode (wk_M 88).2.2.1 87 = .ok (.invokevirtual 91, 3) := zd_by (by decide +kernel)
theorem xd_88_90 : decode (wk_M 88).2.2.1 90 = .ok (.iload_n 2, 1) := zd_by (by decide +kernel)
theorem xd_88_91 : decode (wk_M 88).2.2.1 91 = .ok (.iconst 3, 1) := zd_by (by decide +kernel)
theorem xd_88_92 : decode (wk_M 88).2.2.1 92 = .ok (.imul, 1) := zd_by (by decide +kernel)
theorem xd_88_93 : decode (wk_M 88).2.2.1 93 = .ok (.aload_n 0, 1) := zd_by (by decide +kernel)
theorem xd_88_94 : decode (wk_M 88).2.2.1 94 = .ok (.getfield 34, 3) := zd_by (by decide +kernel)
theorem xd_88_97 : decode (wk_M 88).2.2.1 97 = .ok (.iload_n 2, 1) := zd_by (by decide +kernel)
theorem xd_88_98 : decode (wk_M 88).2.2.1 98 = .ok (.iaload, 1) := zd_by (by decide +kernel)
theorem xd_88_99 : decode (wk_M 88).2.2.1 99 = .ok (.iadd, 1) := zd_by (by decide +kernel)
theorem xd_88_100 : decode (wk_M 88).2.2.1 100 = .ok (.istore_n 3, 1) := zd_by (by decide +kernel)
theorem xd_88_101 : decode (wk_M 88).2.2.1 101 = .ok (.aload_n 0, 1) := zd_by (by decide +kernel)
theorem xd_88_102 : decode (wk_M 88).2.2.1 102 = .ok (.getfield 34, 3) := zd_by (by decide +kernel)
theorem xd_88_105 : decode (wk_M 88).2.2.1 105 = .ok (.iload_n 2, 1) := zd_by (by decide +kernel)
theorem xd_88_106 : decode (wk_M 88).2.2.1 106 = .ok (.dup2, 1) := zd_by (by decide +kernel)
theorem xd_88_107 : decode (wk_M 88).2.2.1 107 = .ok (.iaload, 1) := zd_by (by decide +kernel)
theorem xd_88_108 : decode (wk_M 88).2.2.1 108 = .ok (.iconst 1, 1) := zd_by (by decide +kernel)
theorem xd_88_109 : decode (wk_M 88).2.2.1 109 = .ok (.iadd, 1) := zd_by (by decide +kernel)
theorem xd_88_110 : decode (wk_M 88).2.2.1 110 = .ok (.iastore, 1) := zd_by (by decide +kernel)
theorem xd_88_111 : decode (wk_M 88).2.2.1 111 = .ok (.iload_n 3, 1) := zd_by (by decide +kernel)
theorem xd_88_112 : decode (wk_M 88).2.2.1 112 = .ok (.ireturn, 1) := zd_by (by decide +kernel)
def LM_88 (x0 : Int) : Nat → Nat → Int → dc_M → Int → dc_M → Prop
  | 0, _, _, _, _, _ => False
  | c + 1, tag, l2, m, v, m' => match tag with
    | _ => (((l2 : Int) ≥ (m 46 7) ∧ ((((l2 : Int) < 4 ∧ ((((l2 : Int) ≠ (m 46 7) ∧ ((0 ≤ (l2 : Int) ∧ (l2 : Int) < 4) ∧ ((0 ≤ (l2 : Int) ∧ (l2 : Int) < 4) ∧ ((0 ≤ (l2 : Int) ∧ (l2 : Int) < 4) ∧ ∃ m_103, m_103 = dc_up m 54 l2 (dc_w ((m 54 l2) + 1)) ∧ (v = (dc_w ((dc_w (l2 * 3)) + (m 54 l2))) ∧ m' = m_103))))) ∨ (¬ ((l2 : Int) ≠ (m 46 7)) ∧ ((0 ≤ (l2 : Int) ∧ (l2 : Int) < 4) ∧ ∃ m_128, m_128 = dc_up m 53 l2 x0 ∧ ((0 ≤ (l2 : Int) ∧ (l2 : Int) < 4) ∧ ∃ m_149, m_149 = dc_up m_128 54 l2 0 ∧ (∃ m_172, m_172 = dc_up m_149 46 7 (dc_w ((m_149 46 7) + 1)) ∧ (∃ v_193 m_198, D_83 x0 ((dc_w (144 + l2))) m_172 v_193 m_198 ∧ ((0 ≤ (l2 : Int) ∧ (l2 : Int) < 4) ∧ ((0 ≤ (l2 : Int) ∧ (l2 : Int) < 4) ∧ ((0 ≤ (l2 : Int) ∧ (l2 : Int) < 4) ∧ ∃ m_268, m_268 = dc_up m_198 54 l2 (dc_w ((m_198 54 l2) + 1)) ∧ (v = (dc_w ((dc_w (l2 * 3)) + (m_198 54 l2))) ∧ m' = m_268)))))))))))) ∨ (¬ ((l2 : Int) < 4) ∧ (∃ m_285, m_285 = dc_up m 46 9 0 ∧ (v = (-1) ∧ m' = m_285)))))) ∨ (¬ ((l2 : Int) ≥ (m 46 7)) ∧ ((0 ≤ (l2 : Int) ∧ (l2 : Int) < 4) ∧ (((((m 53 l2) : Int) ≠ x0 ∧ (LM_88 x0 c 2 (dc_w (l2 + 1)) m v m')) ∨ (¬ (((m 53 l2) : Int) ≠ x0) ∧ ((0 ≤ (l2 : Int) ∧ (l2 : Int) < 4) ∧ (((((m 54 l2) : Int) < 3 ∧ ((((l2 : Int) < 4 ∧ ((((l2 : Int) ≠ (m 46 7) ∧ ((0 ≤ (l2 : Int) ∧ (l2 : Int) < 4) ∧ ((0 ≤ (l2 : Int) ∧ (l2 : Int) < 4) ∧ ((0 ≤ (l2 : Int) ∧ (l2 : Int) < 4) ∧ ∃ m_436, m_436 = dc_up m 54 l2 (dc_w ((m 54 l2) + 1)) ∧ (v = (dc_w ((dc_w (l2 * 3)) + (m 54 l2))) ∧ m' = m_436))))) ∨ (¬ ((l2 : Int) ≠ (m 46 7)) ∧ ((0 ≤ (l2 : Int) ∧ (l2 : Int) < 4) ∧ ∃ m_461, m_461 = dc_up m 53 l2 x0 ∧ ((0 ≤ (l2 : Int) ∧ (l2 : Int) < 4) ∧ ∃ m_482, m_482 = dc_up m_461 54 l2 0 ∧ (∃ m_505, m_505 = dc_up m_482 46 7 (dc_w ((m_482 46 7) + 1)) ∧ (∃ v_526 m_531, D_83 x0 ((dc_w (144 + l2))) m_505 v_526 m_531 ∧ ((0 ≤ (l2 : Int) ∧ (l2 : Int) < 4) ∧ ((0 ≤ (l2 : Int) ∧ (l2 : Int) < 4) ∧ ((0 ≤ (l2 : Int) ∧ (l2 : Int) < 4) ∧ ∃ m_601, m_601 = dc_up m_531 54 l2 (dc_w ((m_531 54 l2) + 1)) ∧ (v = (dc_w ((dc_w (l2 * 3)) + (m_531 54 l2))) ∧ m' = m_601)))))))))))) ∨ (¬ ((l2 : Int) < 4) ∧ (∃ m_618, m_618 = dc_up m 46 9 0 ∧ (v = (-1) ∧ m' = m_618)))))) ∨ (¬ (((m 54 l2) : Int) < 3) ∧ (LM_88 x0 c 2 (dc_w (l2 + 1)) m v m')))))))))))
theorem lm_88_2 {x0 : Int} {c : Nat} {l2 : Int} {m : dc_M} {v : Int} {m' : dc_M} : LM_88 x0 (c + 1) 2 l2 m v m' ↔ (((l2 : Int) ≥ (m 46 7) ∧ ((((l2 : Int) < 4 ∧ ((((l2 : Int) ≠ (m 46 7) ∧ ((0 ≤ (l2 : Int) ∧ (l2 : Int) < 4) ∧ ((0 ≤ (l2 : Int) ∧ (l2 : Int) < 4) ∧ ((0 ≤ (l2 : Int) ∧ (l2 : Int) < 4) ∧ ∃ m_103, m_103 = dc_up m 54 l2 (dc_w ((m 54 l2) + 1)) ∧ (v = (dc_w ((dc_w (l2 * 3)) + (m 54 l2))) ∧ m' = m_103))))) ∨ (¬ ((l2 : Int) ≠ (m 46 7)) ∧ ((0 ≤ (l2 : Int) ∧ (l2 : Int) < 4) ∧ ∃ m_128, m_128 = dc_up m 53 l2 x0 ∧ ((0 ≤ (l2 : Int) ∧ (l2 : Int) < 4) ∧ ∃ m_149, m_149 = dc_up m_128 54 l2 0 ∧ (∃ m_172, m_172 = dc_up m_149 46 7 (dc_w ((m_149 46 7) + 1)) ∧ (∃ v_193 m_198, D_83 x0 ((dc_w (144 + l2))) m_172 v_193 m_198 ∧ ((0 ≤ (l2 : Int) ∧ (l2 : Int) < 4) ∧ ((0 ≤ (l2 : Int) ∧ (l2 : Int) < 4) ∧ ((0 ≤ (l2 : Int) ∧ (l2 : Int) < 4) ∧ ∃ m_268, m_268 = dc_up m_198 54 l2 (dc_w ((m_198 54 l2) + 1)) ∧ (v = (dc_w ((dc_w (l2 * 3)) + (m_198 54 l2))) ∧ m' = m_268)))))))))))) ∨ (¬ ((l2 : Int) < 4) ∧ (∃ m_285, m_285 = dc_up m 46 9 0 ∧ (v = (-1) ∧ m' = m_285)))))) ∨ (¬ ((l2 : Int) ≥ (m 46 7)) ∧ ((0 ≤ (l2 : Int) ∧ (l2 : Int) < 4) ∧ (((((m 53 l2) : Int) ≠ x0 ∧ (LM_88 x0 c 2 (dc_w (l2 + 1)) m v m')) ∨ (¬ (((m 53 l2) : Int) ≠ x0) ∧ ((0 ≤ (l2 : Int) ∧ (l2 : Int) < 4) ∧ (((((m 54 l2) : Int) < 3 ∧ ((((l2 : Int) < 4 ∧ ((((l2 : Int) ≠ (m 46 7) ∧ ((0 ≤ (l2 : Int) ∧ (l2 : Int) < 4) ∧ ((0 ≤ (l2 : Int) ∧ (l2 : Int) < 4) ∧ ((0 ≤ (l2 : Int) ∧ (l2 : Int) < 4) ∧ ∃ m_436, m_436 = dc_up m 54 l2 (dc_w ((m 54 l2) + 1)) ∧ (v = (dc_w ((dc_w (l2 * 3)) + (m 54 l2))) ∧ m' = m_436))))) ∨ (¬ ((l2 : Int) ≠ (m 46 7)) ∧ ((0 ≤ (l2 : Int) ∧ (l2 : Int) < 4) ∧ ∃ m_461, m_461 = dc_up m 53 l2 x0 ∧ ((0 ≤ (l2 : Int) ∧ (l2 : Int) < 4) ∧ ∃ m_482, m_482 = dc_up m_461 54 l2 0 ∧ (∃ m_505, m_505 = dc_up m_482 46 7 (dc_w ((m_482 46 7) + 1)) ∧ (∃ v_526 m_531, D_83 x0 ((dc_w (144 + l2))) m_505 v_526 m_531 ∧ ((0 ≤ (l2 : Int) ∧ (l2 : Int) < 4) ∧ ((0 ≤ (l2 : Int) ∧ (l2 : Int) < 4) ∧ ((0 ≤ (l2 : Int) ∧ (l2 : Int) < 4) ∧ ∃ m_601, m_601 = dc_up m_531 54 l2 (dc_w ((m_531 54 l2) + 1)) ∧ (v = (dc_w ((dc_w (l2 * 3)) + (m_531 54 l2))) ∧ m' = m_601)))))))))))) ∨ (¬ ((l2 : Int) < 4) ∧ (∃ m_618, m_618 = dc_up m 46 9 0 ∧ (v = (-1) ∧ m' = m_618)))))) ∨ (¬ (((m 54 l2) : Int) < 3) ∧ (LM_88 x0 c 2 (dc_w (l2 + 1)) m v m'))))))))))) := Iff.rfl
theorem dl_88 {x0 : Int} (ix0 : sv_I x0) : ∀ N : Nat, (∀ (n : Nat) (lv : ae_L) (h : ae_H) (r : ae_R) (l2 : Int), n ≤ N → dc_ok h → sv_I l2 → ae_lk lv 0 = some (wk_r 46) → ae_lk lv 1 = some (wk_i x0) → ae_lk lv 2 = some (wk_i l2) → ae_exe n 88 2 0 0 lv [] h = some r → ∃ v, (∃ c, LM_88 x0 c 2 l2 (dc_m h) v (dc_m r.2)) ∧ r.1 = some (wk_i v) ∧ sv_I v ∧ dc_ok r.2) := by
  intro N
  induction N with
  | zero =>
    exact fun n lv h r l2 hn ok il2 q0 q1 q2 hr => by
      have e : n = 0 := by omega
      subst e
      cases hr
  | succ N ih =>
    have ih0 := ih
    intro n lv h r l2 hn ok il2 q0 q1 q2 hr
    obtain ⟨n_1, e_2, hr_3⟩ := iv_iload_n xm_88 xd_88_2 q2 hr
    obtain ⟨n_4, e_5, hr_6⟩ := iv_aload_n xm_88 xd_88_3 q0 hr_3
    have f_7 := dc_fi (j := 7) ok (rfl : sv_ty 46 = some 6) dt_6 rfl
    obtain ⟨n_8, e_9, hr_10⟩ := iv_getf (j := 7) xm_88 xd_88_4 (by decide +kernel) ok (rfl : sv_ty 46 = some 6) dt_6 f_7.1 hr_6
    rcases iv_icmp 36 xm_88 xd_88_7 (by decide) il2 f_7.2 hr_10 with ⟨c_11, n_12, e_13, hr_14⟩ | ⟨c_11, n_12, e_13, hr_14⟩
    · obtain ⟨n_15, e_16, hr_17⟩ := iv_iload_n xm_88 xd_88_36 q2 hr_14
      obtain ⟨n_18, e_19, hr_20⟩ := iv_iconst xm_88 xd_88_37 (by decide) hr_17
      rcases iv_icmp 48 xm_88 xd_88_38 (by decide) il2 (by unfold sv_I; omega) hr_20 with ⟨c_21, n_22, e_23, hr_24⟩ | ⟨c_21, n_22, e_23, hr_24⟩
      · obtain ⟨n_25, e_26, hr_27⟩ := iv_iload_n xm_88 xd_88_48 q2 hr_24
        obtain ⟨n_28, e_29, hr_30⟩ := iv_aload_n xm_88 xd_88_49 q0 hr_27
        have f_31 := dc_fi (j := 7) ok (rfl : sv_ty 46 = some 6) dt_6 rfl
        obtain ⟨n_32, e_33, hr_34⟩ := iv_getf (j := 7) xm_88 xd_88_50 (by decide +kernel) ok (rfl : sv_ty 46 = some 6) dt_6 f_31.1 hr_30
        rcases iv_icmp 90 xm_88 xd_88_53 (by decide) il2 f_31.2 hr_34 with ⟨c_35, n_36, e_37, hr_38⟩ | ⟨c_35, n_36, e_37, hr_38⟩
        · obtain ⟨n_39, e_40, hr_41⟩ := iv_iload_n xm_88 xd_88_90 q2 hr_38
          obtain ⟨n_42, e_43, hr_44⟩ := iv_iconst xm_88 xd_88_91 (by decide) hr_41
          obtain ⟨n_45, e_46, hr_47⟩ := iw_imul xm_88 xd_88_92 hr_44
          obtain ⟨n_48, e_49, hr_50⟩ := iv_aload_n xm_88 xd_88_93 q0 hr_47
          have f_51 := dc_fr (j := 6) ok (rfl : sv_ty 46 = some 6) dt_6 rfl
          obtain ⟨n_52, e_53, hr_54⟩ := iv_getf (j := 6) xm_88 xd_88_94 (by decide +kernel) ok (rfl : sv_ty 46 = some 6) dt_6 f_51 hr_50
          obtain ⟨n_55, e_56, hr_57⟩ := iv_iload_n xm_88 xd_88_97 q2 hr_54
          obtain ⟨q_58, qi_59, n_60, e_61, hr_62⟩ := iv_iald xm_88 xd_88_98 ok (rfl : sv_ty 54 = some 52) dt_52 (by decide) il2 hr_57
          obtain ⟨n_63, e_64, hr_65⟩ := iw_iadd xm_88 xd_88_99 hr_62
          obtain ⟨lv_67, sl_66, n_68, e_69, hr_70⟩ := iv_istore_n xm_88 xd_88_100 (by decide +kernel) hr_65
          have l_71 := sl_66.2 0 _ q0 (by decide) (Or.inl rfl)
          have l_72 := sl_66.2 1 _ q1 (by decide) (Or.inl rfl)
          have l_73 := sl_66.2 2 _ q2 (by decide) (Or.inl rfl)
          have l_74 := sl_66.1
          obtain ⟨n_75, e_76, hr_77⟩ := iv_aload_n xm_88 xd_88_101 l_71 hr_70
          have f_78 := dc_fr (j := 6) ok (rfl : sv_ty 46 = some 6) dt_6 rfl
          obtain ⟨n_79, e_80, hr_81⟩ := iv_getf (j := 6) xm_88 xd_88_102 (by decide +kernel) ok (rfl : sv_ty 46 = some 6) dt_6 f_78 hr_77
          obtain ⟨n_82, e_83, hr_84⟩ := iv_iload_n xm_88 xd_88_105 l_73 hr_81
          obtain ⟨n_85, e_86, hr_87⟩ := iv_dup2 xm_88 xd_88_106 rfl rfl hr_84
          obtain ⟨q_88, qi_89, n_90, e_91, hr_92⟩ := iv_iald xm_88 xd_88_107 ok (rfl : sv_ty 54 = some 52) dt_52 (by decide) il2 hr_87
          obtain ⟨n_93, e_94, hr_95⟩ := iv_iconst xm_88 xd_88_108 (by decide) hr_92
          obtain ⟨n_96, e_97, hr_98⟩ := iw_iadd xm_88 xd_88_109 hr_95
          obtain ⟨q_99, h_100, ok_101, em_102, n_104, e_105, hr_106⟩ := iv_iast xm_88 xd_88_110 ok (rfl : sv_ty 54 = some 52) dt_52 (by decide) il2 (dc_w_I _) hr_98
          obtain ⟨n_107, e_108, hr_109⟩ := iv_iload_n xm_88 xd_88_111 l_74 hr_106
          have rr_110 := iv_ireturn xm_88 xd_88_112 hr_109
          subst rr_110
          exact ⟨_, ⟨0 + 1, lm_88_2.mpr (Or.inl ⟨c_11, Or.inl ⟨c_21, Or.inl ⟨c_35, ⟨q_58, ⟨q_88, ⟨q_99, _, em_102, ⟨rfl, rfl⟩⟩⟩⟩⟩⟩⟩)⟩, rfl, (dc_w_I _), ok_101⟩
        · obtain ⟨n_111, e_112, hr_113⟩ := iv_aload_n xm_88 xd_88_56 q0 hr_38
          have f_114 := dc_fr (j := 5) ok (rfl : sv_ty 46 = some 6) dt_6 rfl
          obtain ⟨n_115, e_116, hr_117⟩ := iv_getf (j := 5) xm_88 xd_88_57 (by decide +kernel) ok (rfl : sv_ty 46 = some 6) dt_6 f_114 hr_113
          obtain ⟨n_118, e_119, hr_120⟩ := iv_iload_n xm_88 xd_88_60 q2 hr_117
          obtain ⟨n_121, e_122, hr_123⟩ := iv_iload_n xm_88 xd_88_61 q1 hr_120
          obtain ⟨q_124, h_125, ok_126, em_127, n_129, e_130, hr_131⟩ := iv_iast xm_88 xd_88_62 ok (rfl : sv_ty 53 = some 51) dt_51 (by decide) il2 ix0 hr_123
          obtain ⟨n_132, e_133, hr_134⟩ := iv_aload_n xm_88 xd_88_63 q0 hr_131
          have f_135 := dc_fr (j := 6) ok_126 (rfl : sv_ty 46 = some 6) dt_6 rfl
          obtain ⟨n_136, e_137, hr_138⟩ := iv_getf (j := 6) xm_88 xd_88_64 (by decide +kernel) ok_126 (rfl : sv_ty 46 = some 6) dt_6 f_135 hr_134
          obtain ⟨n_139, e_140, hr_141⟩ := iv_iload_n xm_88 xd_88_67 q2 hr_138
          obtain ⟨n_142, e_143, hr_144⟩ := iv_iconst xm_88 xd_88_68 (by decide) hr_141
          obtain ⟨q_145, h_146, ok_147, em_148, n_150, e_151, hr_152⟩ := iv_iast xm_88 xd_88_69 ok_126 (rfl : sv_ty 54 = some 52) dt_52 (by decide) il2 (by unfold sv_I; omega) hr_144
          obtain ⟨n_153, e_154, hr_155⟩ := iv_aload_n xm_88 xd_88_70 q0 hr_152
          obtain ⟨n_156, e_157, hr_158⟩ := iv_dup xm_88 xd_88_71 rfl hr_155
          have f_159 := dc_fi (j := 7) ok_147 (rfl : sv_ty 46 = some 6) dt_6 rfl
          obtain ⟨n_160, e_161, hr_162⟩ := iv_getf (j := 7) xm_88 xd_88_72 (by decide +kernel) ok_147 (rfl : sv_ty 46 = some 6) dt_6 f_159.1 hr_158
          obtain ⟨n_163, e_164, hr_165⟩ := iv_iconst xm_88 xd_88_75 (by decide) hr_162
          obtain ⟨n_166, e_167, hr_168⟩ := iw_iadd xm_88 xd_88_76 hr_165
          obtain ⟨h_169, ok_170, em_171, n_173, e_174, hr_175⟩ := iv_puti (j := 7) (fk := 0) xm_88 xd_88_77 (by decide +kernel) ok_147 (rfl : sv_ty 46 = some 6) dt_6 rfl (by decide +kernel) rfl (dc_w_I _) hr_168
          obtain ⟨n_176, e_177, hr_178⟩ := iv_aload_n xm_88 xd_88_80 q0 hr_175
          obtain ⟨n_179, e_180, hr_181⟩ := iv_iload_n xm_88 xd_88_81 q1 hr_178
          obtain ⟨n_182, e_183, hr_184⟩ := iv_sipush xm_88 xd_88_82 (by decide) hr_181
          obtain ⟨n_185, e_186, hr_187⟩ := iv_iload_n xm_88 xd_88_85 q2 hr_184
          obtain ⟨n_188, e_189, hr_190⟩ := iw_iadd xm_88 xd_88_86 hr_187
          obtain ⟨n_200, r_191, e_201, hc_192, hr_202⟩ := iv_call (Or.inr ⟨rfl, rfl⟩) xm_88 xd_88_87 (by decide +kernel) xm_83 rfl (by decide +kernel) hr_190
          obtain ⟨v_193, d_194, er_195, iv_196, ok_197⟩ := ds_83 _ _ _ ok_170 ix0 (dc_w_I _) hc_192
          obtain ⟨_, h_199⟩ := r_191
          have er_195 : _ = none := er_195
          subst er_195
          have hr_203 : ae_exe n_200 88 (87 + 3) 0 0 lv _ h_199 = some r := hr_202
          obtain ⟨n_204, e_205, hr_206⟩ := iv_iload_n xm_88 xd_88_90 q2 hr_203
          obtain ⟨n_207, e_208, hr_209⟩ := iv_iconst xm_88 xd_88_91 (by decide) hr_206
          obtain ⟨n_210, e_211, hr_212⟩ := iw_imul xm_88 xd_88_92 hr_209
          obtain ⟨n_213, e_214, hr_215⟩ := iv_aload_n xm_88 xd_88_93 q0 hr_212
          have f_216 := dc_fr (j := 6) ok_197 (rfl : sv_ty 46 = some 6) dt_6 rfl
          obtain ⟨n_217, e_218, hr_219⟩ := iv_getf (j := 6) xm_88 xd_88_94 (by decide +kernel) ok_197 (rfl : sv_ty 46 = some 6) dt_6 f_216 hr_215
          obtain ⟨n_220, e_221, hr_222⟩ := iv_iload_n xm_88 xd_88_97 q2 hr_219
          obtain ⟨q_223, qi_224, n_225, e_226, hr_227⟩ := iv_iald xm_88 xd_88_98 ok_197 (rfl : sv_ty 54 = some 52) dt_52 (by decide) il2 hr_222
          obtain ⟨n_228, e_229, hr_230⟩ := iw_iadd xm_88 xd_88_99 hr_227
          obtain ⟨lv_232, sl_231, n_233, e_234, hr_235⟩ := iv_istore_n xm_88 xd_88_100 (by decide +kernel) hr_230
          have l_236 := sl_231.2 0 _ q0 (by decide) (Or.inl rfl)
          have l_237 := sl_231.2 1 _ q1 (by decide) (Or.inl rfl)
          have l_238 := sl_231.2 2 _ q2 (by decide) (Or.inl rfl)
          have l_239 := sl_231.1
          obtain ⟨n_240, e_241, hr_242⟩ := iv_aload_n xm_88 xd_88_101 l_236 hr_235
          have f_243 := dc_fr (j := 6) ok_197 (rfl : sv_ty 46 = some 6) dt_6 rfl
          obtain ⟨n_244, e_245, hr_246⟩ := iv_getf (j := 6) xm_88 xd_88_102 (by decide +kernel) ok_197 (rfl : sv_ty 46 = some 6) dt_6 f_243 hr_242
          obtain ⟨n_247, e_248, hr_249⟩ := iv_iload_n xm_88 xd_88_105 l_238 hr_246
          obtain ⟨n_250, e_251, hr_252⟩ := iv_dup2 xm_88 xd_88_106 rfl rfl hr_249
          obtain ⟨q_253, qi_254, n_255, e_256, hr_257⟩ := iv_iald xm_88 xd_88_107 ok_197 (rfl : sv_ty 54 = some 52) dt_52 (by decide) il2 hr_252
          obtain ⟨n_258, e_259, hr_260⟩ := iv_iconst xm_88 xd_88_108 (by decide) hr_257
          obtain ⟨n_261, e_262, hr_263⟩ := iw_iadd xm_88 xd_88_109 hr_260
          obtain ⟨q_264, h_265, ok_266, em_267, n_269, e_270, hr_271⟩ := iv_iast xm_88 xd_88_110 ok_197 (rfl : sv_ty 54 = some 52) dt_52 (by decide) il2 (dc_w_I _) hr_263
          obtain ⟨n_272, e_273, hr_274⟩ := iv_iload_n xm_88 xd_88_111 l_239 hr_271
          have rr_275 := iv_ireturn xm_88 xd_88_112 hr_274
          subst rr_275
          exact ⟨_, ⟨0 + 1, lm_88_2.mpr (Or.inl ⟨c_11, Or.inl ⟨c_21, Or.inr ⟨c_35, ⟨q_124, _, em_127, ⟨q_145, _, em_148, ⟨_, em_171, ⟨_, _, d_194, ⟨q_223, ⟨q_253, ⟨q_264, _, em_267, ⟨rfl, rfl⟩⟩⟩⟩⟩⟩⟩⟩⟩⟩⟩)⟩, rfl, (dc_w_I _), ok_266⟩
      · obtain ⟨n_276, e_277, hr_278⟩ := iv_aload_n xm_88 xd_88_41 q0 hr_24
        obtain ⟨n_279, e_280, hr_281⟩ := iv_iconst xm_88 xd_88_42 (by decide) hr_278
        obtain ⟨h_282, ok_283, em_284, n_286, e_287, hr_288⟩ := iv_puti (j := 9) (fk := 1) xm_88 xd_88_43 (by decide +kernel) ok (rfl : sv_ty 46 = some 6) dt_6 rfl (by decide +kernel) rfl (by unfold sv_I; omega) hr_281
        obtain ⟨n_289, e_290, hr_291⟩ := iv_iconst xm_88 xd_88_46 (by decide) hr_288
        have rr_292 := iv_ireturn xm_88 xd_88_47 hr_291
        subst rr_292
        exact ⟨_, ⟨0 + 1, lm_88_2.mpr (Or.inl ⟨c_11, Or.inr ⟨c_21, ⟨_, em_284, ⟨rfl, rfl⟩⟩⟩⟩)⟩, rfl, (by unfold sv_I; omega), ok_283⟩
    · obtain ⟨n_293, e_294, hr_295⟩ := iv_aload_n xm_88 xd_88_10 q0 hr_14
      have f_296 := dc_fr (j := 5) ok (rfl : sv_ty 46 = some 6) dt_6 rfl
      obtain ⟨n_297, e_298, hr_299⟩ := iv_getf (j := 5) xm_88 xd_88_11 (by decide +kernel) ok (rfl : sv_ty 46 = some 6) dt_6 f_296 hr_295
      obtain ⟨n_300, e_301, hr_302⟩ := iv_iload_n xm_88 xd_88_14 q2 hr_299
      obtain ⟨q_303, qi_304, n_305, e_306, hr_307⟩ := iv_iald xm_88 xd_88_15 ok (rfl : sv_ty 53 = some 51) dt_51 (by decide) il2 hr_302
      obtain ⟨n_308, e_309, hr_310⟩ := iv_iload_n xm_88 xd_88_16 q1 hr_307
      rcases iv_icmp 30 xm_88 xd_88_17 (by decide) qi_304 ix0 hr_310 with ⟨c_311, n_312, e_313, hr_314⟩ | ⟨c_311, n_312, e_313, hr_314⟩
      · obtain ⟨lv_316, sl_315, n_317, e_318, hr_319⟩ := iw_iinc xm_88 xd_88_30 (by decide +kernel) (by decide) q2 hr_314
        have l_320 := sl_315.2 0 _ q0 (by decide) (Or.inl rfl)
        have l_321 := sl_315.2 1 _ q1 (by decide) (Or.inl rfl)
        have l_322 := sl_315.1
        obtain ⟨n_323, e_324, hr_325⟩ := iv_goto 2 xm_88 xd_88_33 (by decide) hr_319
        obtain ⟨v, ⟨c, hL⟩, e1, e2, e3⟩ := ih0 _ lv_316 h _ _ (by omega) ok (dc_w_I _) l_320 l_321 l_322 hr_325
        exact ⟨v, ⟨c + 1, lm_88_2.mpr (Or.inr ⟨c_11, ⟨q_303, Or.inl ⟨c_311, hL⟩⟩⟩)⟩, e1, e2, e3⟩
      · obtain ⟨n_326, e_327, hr_328⟩ := iv_aload_n xm_88 xd_88_20 q0 hr_314
        have f_329 := dc_fr (j := 6) ok (rfl : sv_ty 46 = some 6) dt_6 rfl
        obtain ⟨n_330, e_331, hr_332⟩ := iv_getf (j := 6) xm_88 xd_88_21 (by decide +kernel) ok (rfl : sv_ty 46 = some 6) dt_6 f_329 hr_328
        obtain ⟨n_333, e_334, hr_335⟩ := iv_iload_n xm_88 xd_88_24 q2 hr_332
        obtain ⟨q_336, qi_337, n_338, e_339, hr_340⟩ := iv_iald xm_88 xd_88_25 ok (rfl : sv_ty 54 = some 52) dt_52 (by decide) il2 hr_335
        obtain ⟨n_341, e_342, hr_343⟩ := iv_iconst xm_88 xd_88_26 (by decide) hr_340
        rcases iv_icmp 36 xm_88 xd_88_27 (by decide) qi_337 (by unfold sv_I; omega) hr_343 with ⟨c_344, n_345, e_346, hr_347⟩ | ⟨c_344, n_345, e_346, hr_347⟩
        · obtain ⟨n_348, e_349, hr_350⟩ := iv_iload_n xm_88 xd_88_36 q2 hr_347
          obtain ⟨n_351, e_352, hr_353⟩ := iv_iconst xm_88 xd_88_37 (by decide) hr_350
          rcases iv_icmp 48 xm_88 xd_88_38 (by decide) il2 (by unfold sv_I; omega) hr_353 with ⟨c_354, n_355, e_356, hr_357⟩ | ⟨c_354, n_355, e_356, hr_357⟩
          · obtain ⟨n_358, e_359, hr_360⟩ := iv_iload_n xm_88 xd_88_48 q2 hr_357
            obtain ⟨n_361, e_362, hr_363⟩ := iv_aload_n xm_88 xd_88_49 q0 hr_360
            have f_364 := dc_fi (j := 7) ok (rfl : sv_ty 46 = some 6) dt_6 rfl
            obtain ⟨n_365, e_366, hr_367⟩ := iv_getf (j := 7) xm_88 xd_88_50 (by decide +kernel) ok (rfl : sv_ty 46 = some 6) dt_6 f_364.1 hr_363
            rcases iv_icmp 90 xm_88 xd_88_53 (by decide) il2 f_364.2 hr_367 with ⟨c_368, n_369, e_370, hr_371⟩ | ⟨c_368, n_369, e_370, hr_371⟩
            · obtain ⟨n_372, e_373, hr_374⟩ := iv_iload_n xm_88 xd_88_90 q2 hr_371
              obtain ⟨n_375, e_376, hr_377⟩ := iv_iconst xm_88 xd_88_91 (by decide) hr_374
              obtain ⟨n_378, e_379, hr_380⟩ := iw_imul xm_88 xd_88_92 hr_377
              obtain ⟨n_381, e_382, hr_383⟩ := iv_aload_n xm_88 xd_88_93 q0 hr_380
              have f_384 := dc_fr (j := 6) ok (rfl : sv_ty 46 = some 6) dt_6 rfl
              obtain ⟨n_385, e_386, hr_387⟩ := iv_getf (j := 6) xm_88 xd_88_94 (by decide +kernel) ok (rfl : sv_ty 46 = some 6) dt_6 f_384 hr_383
              obtain ⟨n_388, e_389, hr_390⟩ := iv_iload_n xm_88 xd_88_97 q2 hr_387
              obtain ⟨q_391, qi_392, n_393, e_394, hr_395⟩ := iv_iald xm_88 xd_88_98 ok (rfl : sv_ty 54 = some 52) dt_52 (by decide) il2 hr_390
              obtain ⟨n_396, e_397, hr_398⟩ := iw_iadd xm_88 xd_88_99 hr_395
              obtain ⟨lv_400, sl_399, n_401, e_402, hr_403⟩ := iv_istore_n xm_88 xd_88_100 (by decide +kernel) hr_398
              have l_404 := sl_399.2 0 _ q0 (by decide) (Or.inl rfl)
              have l_405 := sl_399.2 1 _ q1 (by decide) (Or.inl rfl)
              have l_406 := sl_399.2 2 _ q2 (by decide) (Or.inl rfl)
              have l_407 := sl_399.1
              obtain ⟨n_408, e_409, hr_410⟩ := iv_aload_n xm_88 xd_88_101 l_404 hr_403
              have f_411 := dc_fr (j := 6) ok (rfl : sv_ty 46 = some 6) dt_6 rfl
              obtain ⟨n_412, e_413, hr_414⟩ := iv_getf (j := 6) xm_88 xd_88_102 (by decide +kernel) ok (rfl : sv_ty 46 = some 6) dt_6 f_411 hr_410
              obtain ⟨n_415, e_416, hr_417⟩ := iv_iload_n xm_88 xd_88_105 l_406 hr_414
              obtain ⟨n_418, e_419, hr_420⟩ := iv_dup2 xm_88 xd_88_106 rfl rfl hr_417
              obtain ⟨q_421, qi_422, n_423, e_424, hr_425⟩ := iv_iald xm_88 xd_88_107 ok (rfl : sv_ty 54 = some 52) dt_52 (by decide) il2 hr_420
              obtain ⟨n_426, e_427, hr_428⟩ := iv_iconst xm_88 xd_88_108 (by decide) hr_425
              obtain ⟨n_429, e_430, hr_431⟩ := iw_iadd xm_88 xd_88_109 hr_428
              obtain ⟨q_432, h_433, ok_434, em_435, n_437, e_438, hr_439⟩ := iv_iast xm_88 xd_88_110 ok (rfl : sv_ty 54 = some 52) dt_52 (by decide) il2 (dc_w_I _) hr_431
              obtain ⟨n_440, e_441, hr_442⟩ := iv_iload_n xm_88 xd_88_111 l_407 hr_439
              have rr_443 := iv_ireturn xm_88 xd_88_112 hr_442
              subst rr_443
              exact ⟨_, ⟨0 + 1, lm_88_2.mpr (Or.inr ⟨c_11, ⟨q_303, Or.inr ⟨c_311, ⟨q_336, Or.inl ⟨c_344, Or.inl ⟨c_354, Or.inl ⟨c_368, ⟨q_391, ⟨q_421, ⟨q_432, _, em_435, ⟨rfl, rfl⟩⟩⟩⟩⟩⟩⟩⟩⟩⟩⟩)⟩, rfl, (dc_w_I _), ok_434⟩
            · obtain ⟨n_444, e_445, hr_446⟩ := iv_aload_n xm_88 xd_88_56 q0 hr_371
              have f_447 := dc_fr (j := 5) ok (rfl : sv_ty 46 = some 6) dt_6 rfl
              obtain ⟨n_448, e_449, hr_450⟩ := iv_getf (j := 5) xm_88 xd_88_57 (by decide +kernel) ok (rfl : sv_ty 46 = some 6) dt_6 f_447 hr_446
              obtain ⟨n_451, e_452, hr_453⟩ := iv_iload_n xm_88 xd_88_60 q2 hr_450
              obtain ⟨n_454, e_455, hr_456⟩ := iv_iload_n xm_88 xd_88_61 q1 hr_453
              obtain ⟨q_457, h_458, ok_459, em_460, n_462, e_463, hr_464⟩ := iv_iast xm_88 xd_88_62 ok (rfl : sv_ty 53 = some 51) dt_51 (by decide) il2 ix0 hr_456
              obtain ⟨n_465, e_466, hr_467⟩ := iv_aload_n xm_88 xd_88_63 q0 hr_464
              have f_468 := dc_fr (j := 6) ok_459 (rfl : sv_ty 46 = some 6) dt_6 rfl
              obtain ⟨n_469, e_470, hr_471⟩ := iv_getf (j := 6) xm_88 xd_88_64 (by decide +kernel) ok_459 (rfl : sv_ty 46 = some 6) dt_6 f_468 hr_467
              obtain ⟨n_472, e_473, hr_474⟩ := iv_iload_n xm_88 xd_88_67 q2 hr_471
              obtain ⟨n_475, e_476, hr_477⟩ := iv_iconst xm_88 xd_88_68 (by decide) hr_474
              obtain ⟨q_478, h_479, ok_480, em_481, n_483, e_484, hr_485⟩ := iv_iast xm_88 xd_88_69 ok_459 (rfl : sv_ty 54 = some 52) dt_52 (by decide) il2 (by unfold sv_I; omega) hr_477
              obtain ⟨n_486, e_487, hr_488⟩ := iv_aload_n xm_88 xd_88_70 q0 hr_485
              obtain ⟨n_489, e_490, hr_491⟩ := iv_dup xm_88 xd_88_71 rfl hr_488
              have f_492 := dc_fi (j := 7) ok_480 (rfl : sv_ty 46 = some 6) dt_6 rfl
              obtain ⟨n_493, e_494, hr_495⟩ := iv_getf (j := 7) xm_88 xd_88_72 (by decide +kernel) ok_480 (rfl : sv_ty 46 = some 6) dt_6 f_492.1 hr_491
              obtain ⟨n_496, e_497, hr_498⟩ := iv_iconst xm_88 xd_88_75 (by decide) hr_495
              obtain ⟨n_499, e_500, hr_501⟩ := iw_iadd xm_88 xd_88_76 hr_498
              obtain ⟨h_502, ok_503, em_504, n_506, e_507, hr_508⟩ := iv_puti (j := 7) (fk := 0) xm_88 xd_88_77 (by decide +kernel) ok_480 (rfl : sv_ty 46 = some 6) dt_6 rfl (by decide +kernel) rfl (dc_w_I _) hr_501
              obtain ⟨n_509, e_510, hr_511⟩ := iv_aload_n xm_88 xd_88_80 q0 hr_508
              obtain ⟨n_512, e_513, hr_514⟩ := iv_iload_n xm_88 xd_88_81 q1 hr_511
              obtain ⟨n_515, e_516, hr_517⟩ := iv_sipush xm_88 xd_88_82 (by decide) hr_514
              obtain ⟨n_518, e_519, hr_520⟩ := iv_iload_n xm_88 xd_88_85 q2 hr_517
              obtain ⟨n_521, e_522, hr_523⟩ := iw_iadd xm_88 xd_88_86 hr_520
              obtain ⟨n_533, r_524, e_534, hc_525, hr_535⟩ := iv_call (Or.inr ⟨rfl, rfl⟩) xm_88 xd_88_87 (by decide +kernel) xm_83 rfl (by decide +kernel) hr_523
              obtain ⟨v_526, d_527, er_528, iv_529, ok_530⟩ := ds_83 _ _ _ ok_503 ix0 (dc_w_I _) hc_525
              obtain ⟨_, h_532⟩ := r_524
              have er_528 : _ = none := er_528
              subst er_528
              have hr_536 : ae_exe n_533 88 (87 + 3) 0 0 lv _ h_532 = some r := hr_535
              obtain ⟨n_537, e_538, hr_539⟩ := iv_iload_n xm_88 xd_88_90 q2 hr_536
              obtain ⟨n_540, e_541, hr_542⟩ := iv_iconst xm_88 xd_88_91 (by decide) hr_539
              obtain ⟨n_543, e_544, hr_545⟩ := iw_imul xm_88 xd_88_92 hr_542
              obtain ⟨n_546, e_547, hr_548⟩ := iv_aload_n xm_88 xd_88_93 q0 hr_545
              have f_549 := dc_fr (j := 6) ok_530 (rfl : sv_ty 46 = some 6) dt_6 rfl
              obtain ⟨n_550, e_551, hr_552⟩ := iv_getf (j := 6) xm_88 xd_88_94 (by decide +kernel) ok_530 (rfl : sv_ty 46 = some 6) dt_6 f_549 hr_548
              obtain ⟨n_553, e_554, hr_555⟩ := iv_iload_n xm_88 xd_88_97 q2 hr_552
              obtain ⟨q_556, qi_557, n_558, e_559, hr_560⟩ := iv_iald xm_88 xd_88_98 ok_530 (rfl : sv_ty 54 = some 52) dt_52 (by decide) il2 hr_555
              obtain ⟨n_561, e_562, hr_563⟩ := iw_iadd xm_88 xd_88_99 hr_560
              obtain ⟨lv_565, sl_564, n_566, e_567, hr_568⟩ := iv_istore_n xm_88 xd_88_100 (by decide +kernel) hr_563
              have l_569 := sl_564.2 0 _ q0 (by decide) (Or.inl rfl)
              have l_570 := sl_564.2 1 _ q1 (by decide) (Or.inl rfl)
              have l_571 := sl_564.2 2 _ q2 (by decide) (Or.inl rfl)
              have l_572 := sl_564.1
              obtain ⟨n_573, e_574, hr_575⟩ := iv_aload_n xm_88 xd_88_101 l_569 hr_568
              have f_576 := dc_fr (j := 6) ok_530 (rfl : sv_ty 46 = some 6) dt_6 rfl
              obtain ⟨n_577, e_578, hr_579⟩ := iv_getf (j := 6) xm_88 xd_88_102 (by decide +kernel) ok_530 (rfl : sv_ty 46 = some 6) dt_6 f_576 hr_575
              obtain ⟨n_580, e_581, hr_582⟩ := iv_iload_n xm_88 xd_88_105 l_571 hr_579
              obtain ⟨n_583, e_584, hr_585⟩ := iv_dup2 xm_88 xd_88_106 rfl rfl hr_582
              obtain ⟨q_586, qi_587, n_588, e_589, hr_590⟩ := iv_iald xm_88 xd_88_107 ok_530 (rfl : sv_ty 54 = some 52) dt_52 (by decide) il2 hr_585
              obtain ⟨n_591, e_592, hr_593⟩ := iv_iconst xm_88 xd_88_108 (by decide) hr_590
              obtain ⟨n_594, e_595, hr_596⟩ := iw_iadd xm_88 xd_88_109 hr_593
              obtain ⟨q_597, h_598, ok_599, em_600, n_602, e_603, hr_604⟩ := iv_iast xm_88 xd_88_110 ok_530 (rfl : sv_ty 54 = some 52) dt_52 (by decide) il2 (dc_w_I _) hr_596
              obtain ⟨n_605, e_606, hr_607⟩ := iv_iload_n xm_88 xd_88_111 l_572 hr_604
              have rr_608 := iv_ireturn xm_88 xd_88_112 hr_607
              subst rr_608
              exact ⟨_, ⟨0 + 1, lm_88_2.mpr (Or.inr ⟨c_11, ⟨q_303, Or.inr ⟨c_311, ⟨q_336, Or.inl ⟨c_344, Or.inl ⟨c_354, Or.inr ⟨c_368, ⟨q_457, _, em_460, ⟨q_478, _, em_481, ⟨_, em_504, ⟨_, _, d_527, ⟨q_556, ⟨q_586, ⟨q_597, _, em_600, ⟨rfl, rfl⟩⟩⟩⟩⟩⟩⟩⟩⟩⟩⟩⟩⟩⟩⟩)⟩, rfl, (dc_w_I _), ok_599⟩
          · obtain ⟨n_609, e_610, hr_611⟩ := iv_aload_n xm_88 xd_88_41 q0 hr_357
            obtain ⟨n_612, e_613, hr_614⟩ := iv_iconst xm_88 xd_88_42 (by decide) hr_611
            obtain ⟨h_615, ok_616, em_617, n_619, e_620, hr_621⟩ := iv_puti (j := 9) (fk := 1) xm_88 xd_88_43 (by decide +kernel) ok (rfl : sv_ty 46 = some 6) dt_6 rfl (by decide +kernel) rfl (by unfold sv_I; omega) hr_614
            obtain ⟨n_622, e_623, hr_624⟩ := iv_iconst xm_88 xd_88_46 (by decide) hr_621
            have rr_625 := iv_ireturn xm_88 xd_88_47 hr_624
            subst rr_625
            exact ⟨_, ⟨0 + 1, lm_88_2.mpr (Or.inr ⟨c_11, ⟨q_303, Or.inr ⟨c_311, ⟨q_336, Or.inl ⟨c_344, Or.inr ⟨c_354, ⟨_, em_617, ⟨rfl, rfl⟩⟩⟩⟩⟩⟩⟩⟩)⟩, rfl, (by unfold sv_I; omega), ok_616⟩
        · obtain ⟨lv_627, sl_626, n_628, e_629, hr_630⟩ := iw_iinc xm_88 xd_88_30 (by decide +kernel) (by decide) q2 hr_347
          have l_631 := sl_626.2 0 _ q0 (by decide) (Or.inl rfl)
          have l_632 := sl_626.2 1 _ q1 (by decide) (Or.inl rfl)
          have l_633 := sl_626.1
          obtain ⟨n_634, e_635, hr_636⟩ := iv_goto 2 xm_88 xd_88_33 (by decide) hr_630
          obtain ⟨v, ⟨c, hL⟩, e1, e2, e3⟩ := ih0 _ lv_627 h _ _ (by omega) ok (dc_w_I _) l_631 l_632 l_633 hr_636
          exact ⟨v, ⟨c + 1, lm_88_2.mpr (Or.inr ⟨c_11, ⟨q_303, Or.inr ⟨c_311, ⟨q_336, Or.inr ⟨c_344, hL⟩⟩⟩⟩⟩)⟩, e1, e2, e3⟩
abbrev D_88 (x0 : Int) (m : dc_M) (v : Int) (m' : dc_M) : Prop := ∃ c, LM_88 x0 c 2 0 m v m'
theorem ds_88 (n : Nat) (x0 : Int) {h : ae_H} {r : ae_R} (ok : dc_ok h) (ix0 : sv_I x0) (hr : ae_exe n 88 0 0 0 (ae_args [wk_r 46, wk_i x0] 0) [] h = some r) : ∃ v, D_88 x0 (dc_m h) v (dc_m r.2) ∧ r.1 = some (wk_i v) ∧ sv_I v ∧ dc_ok r.2 := by
  have q0 : ae_lk (ae_args [wk_r 46, wk_i x0] 0) 0 = some (wk_r 46) := rfl
  have q1 : ae_lk (ae_args [wk_r 46, wk_i x0] 0) 1 = some (wk_i x0) := rfl
  obtain ⟨n_637, e_638, hr_639⟩ := iv_iconst xm_88 xd_88_0 (by decide) hr
  obtain ⟨lv_641, sl_640, n_642, e_643, hr_644⟩ := iv_istore_n xm_88 xd_88_1 (by decide +kernel) hr_639
  have l_645 := sl_640.2 0 _ q0 (by decide) (Or.inl rfl)
  have l_646 := sl_640.2 1 _ q1 (by decide) (Or.inl rfl)
  have l_647 := sl_640.1
  obtain ⟨v, ⟨c, hL⟩, e1, e2, e3⟩ := (dl_88 ix0 _) _ lv_641 h _ _ (Nat.le_refl _) ok (by unfold sv_I; omega) l_645 l_646 l_647 hr_644
  exact ⟨v, ⟨_, hL⟩, e1, e2, e3⟩
/-! method 84 -/
theorem xm_84 : ae_m 84 = some (wk_M 84) := rfl
theorem xd_84_0 : decode (wk_M 84).2.2.1 0 = .ok (.iconst 0, 1) := zd_by (by decide +kernel)
theorem xd_84_1 : decode (wk_M 84).2.2.1 1 = .ok (.istore_n 2, 1) := zd_by (by decide +kernel)
theorem xd_84_2 : decode (wk_M 84).2.2.1 2 = .ok (.iconst 1, 1) := zd_by (by decide +kernel)
theorem xd_84_3 : decode (wk_M 84).2.2.1 3 = .ok (.istore_n 3, 1) := zd_by (by decide +kernel)
theorem xd_84_4 : decode (wk_M 84).2.2.1 4 = .ok (.iload_n 3, 1) := zd_by (by decide +kernel)
theorem xd_84_5 : decode (wk_M 84).2.2.1 5 = .ok (.iconst 3, 1) := zd_by (by decide +kernel)
theorem xd_84_6 : decode (wk_M 84).2.2.1 6 = .ok (.if_icmp .gt 71, 3) := zd_by (by decide +kernel)
theorem xd_84_9 : decode (wk_M 84).2.2.1 9 = .ok (.aload_n 1, 1) := zd_by (by decide +kernel)
theorem xd_84_10 : decode (wk_M 84).2.2.1 10 = .ok (.getfield 88, 3) := zd_by (by decide +kernel)
theorem xd_84_13 : decode (wk_M 84).2.2.1 13 = .ok (.iload_n 3, 1) := zd_by (by decide +kernel)
theorem xd_84_14 : decode (wk_M 84).2.2.1 14 = .ok (.iaload, 1) := zd_by (by decide +kernel)
theorem xd_84_15 : decode (wk_M 84).2.2.1 15 = .ok (.istore 4, 2) := zd_by (by decide +kernel)
theorem xd_84_17 : decode (wk_M 84).2.2.1 17 = .ok (.iload 4, 2) := zd_by (by decide +kernel)
theorem xd_84_19 : decode (wk_M 84).2.2.1 19 = .ok (.ifCond .eq 52, 3) := zd_by (by decide +kernel)
theorem xd_84_22 : decode (wk_M 84).2.2.1 22 = .ok (.aload_n 0, 1) := zd_by (by decide +kernel)
theorem xd_84_23 : decode (wk_M 84).2.2.1 23 = .ok (.iconst 0, 1) := zd_by (by decide +kernel)
theorem xd_84_24 : decode (wk_M 84).2.2.1 24 = .ok (.iload 4, 2) := zd_by (by decide +kernel)
theorem xd_84_26 : decode (wk_M 84).2.2.1 26 = .ok (.iadd, 1) := zd_by (by decide +kernel)
theorem xd_84_27 : decode (wk_M 84).2.2.1 27 = .ok (.iconst 1, 1) := zd_by (by decide +kernel)
theorem xd_84_28 : decode (wk_M 84).2.2.1 28 = .ok (.isub, 1) := zd_by (by decide +kernel)
theorem xd_84_29 : decode (wk_M 84).2.2.1 29 = .ok (.sipush 148, 3) := zd_by (by decide +kernel)
theorem xd_84_32 : decode (wk_M 84).2.2.1 32 = .ok (.iload_n 2, 1) := zd_by (by decide +kernel)
theorem xd_84_33 : decode (wk_M 84).2.2.1 33 = .ok (.iadd, 1) := zd_by (by decide +kernel)
theorem xd_84_34 : decode (wk_M 84).2.2.1 34 = .ok (.invokevirtual 91, 3) := zd_by (by decide +kernel)
theorem xd_84_37 : decode (wk_M 84).2.2.1 37 = .ok (.aload_n 0, 1) := zd_by (by decide +kernel)
theorem xd_84_38 : decode (wk_M 84).2.2.1 38 = .ok (.bipush 20, 2) := zd_by (by decide +kernel)
theorem xd_84_40 : decode (wk_M 84).2.2.1 40 = .ok (.iload 4, 2) := zd_by (by decide +kernel)
theorem xd_84_42 : decode (wk_M 84).2.2.1 42 = .ok (.iadd, 1) := zd_by (by decide +kernel)
theorem xd_84_43 : decode (wk_M 84).2.2.1 43 = .ok (.iconst 1, 1) := zd_by (by decide +kernel)
theorem xd_84_44 : decode (wk_M 84).2.2.1 44 = .ok (.isub, 1) := zd_by (by decide +kernel)
theorem xd_84_45 : decode (wk_M 84).2.2.1 45 = .ok (.sipush 152, 3) := zd_by (by decide +kernel)
theorem xd_84_48 : decode (wk_M 84).2.2.1 48 = .ok (.iload_n 2, 1) := zd_by (by decide +kernel)
theorem xd_84_49 : decode (wk_M 84).2.2.1 49 = .ok (.iadd, 1) := zd_by (by decide +kernel)
theorem xd_84_50 : decode (wk_M 84).2.2.1 50 = .ok (.invokevirtual 91, 3) := zd_by (by decide +kernel)
theorem xd_84_53 : decode (wk_M 84).2.2.1 53 = .ok (.aload_n 0, 1) := zd_by (by decide +kernel)
theorem xd_84_54 : decode (wk_M 84).2.2.1 54 = .ok (.bipush 61, 2) := zd_by (by decide +kernel)
theorem xd_84_56 : decode (wk_M 84).2.2.1 56 = .ok (.iload_n 2, 1) := zd_by (by decide +kernel)
theorem xd_84_57 : decode (wk_M 84).2.2.1 57 = .ok (.iadd, 1) := zd_by (by decide +kernel)
theorem xd_84_58 : decode (wk_M 84).2.2.1 58 = .ok (.sipush 156, 3) := zd_by (by decide +kernel)
theorem xd_84_61 : decode (wk_M 84).2.2.1 61 = .ok (.iload_n 3, 1) := zd_by (by decide +kernel)
theorem xd_84_62 : decode (wk_M 84).2.2.1 62 = .ok (.iadd, 1) := zd_by (by decide +kernel)
theorem xd_84_63 : decode (wk_M 84).2.2.1 63 = .ok (.iconst 1, 1) := zd_by (by decide +kernel)
theorem xd_84_64 : decode (wk_M 84).2.2.1 64 = .ok (.isub, 1) := zd_by (by decide +kernel)
theorem xd_84_65 : decode (wk_M 84).2.2.1 65 = .ok (.invokevirtual 91, 3) := zd_by (by decide +kernel)
theorem xd_84_68 : decode (wk_M 84).2.2.1 68 = .ok (.iinc 2 1, 3) := zd_by (by decide +kernel)
theorem xd_84_71 : decode (wk_M 84).2.2.1 71 = .ok (.iinc 3 1, 3) := zd_by (by decide +kernel)
theorem xd_84_74 : decode (wk_M 84).2.2.1 74 = .ok (.goto (-70), 3) := zd_by (by decide +kernel)
theorem xd_84_77 : decode (wk_M 84).2.2.1 77 = .ok (.return_, 1) := zd_by (by decide +kernel)
def LM_84 (k1 : Nat) : Nat → Nat → Int → Int → dc_M → Int → dc_M → Prop
  | 0, _, _, _, _, _, _ => False
  | c + 1, tag, l2, l3, m, v, m' => match tag with
    | _ => (((l3 : Int) > 3 ∧ (v = 0 ∧ m' = m)) ∨ (¬ ((l3 : Int) > 3) ∧ ((0 ≤ (l3 : Int) ∧ (l3 : Int) < 4) ∧ (((((m (k1 + 4) l3) : Int) = 0 ∧ (LM_84 k1 c 4 l2 (dc_w (l3 + 1)) m v m')) ∨ (¬ (((m (k1 + 4) l3) : Int) = 0) ∧ (∃ v_86 m_91, D_83 ((dc_w ((dc_w (0 + (m (k1 + 4) l3))) - 1))) ((dc_w (148 + l2))) m v_86 m_91 ∧ (∃ v_126 m_131, D_83 ((dc_w ((dc_w (20 + (m (k1 + 4) l3))) - 1))) ((dc_w (152 + l2))) m_91 v_126 m_131 ∧ (∃ v_166 m_171, D_83 ((dc_w (61 + l2))) ((dc_w ((dc_w (156 + l3)) - 1))) m_131 v_166 m_171 ∧ (LM_84 k1 c 4 (dc_w (l2 + 1)) (dc_w (l3 + 1)) m_171 v m'))))))))))
theorem lm_84_4 {k1 : Nat} {c : Nat} {l2 : Int} {l3 : Int} {m : dc_M} {v : Int} {m' : dc_M} : LM_84 k1 (c + 1) 4 l2 l3 m v m' ↔ (((l3 : Int) > 3 ∧ (v = 0 ∧ m' = m)) ∨ (¬ ((l3 : Int) > 3) ∧ ((0 ≤ (l3 : Int) ∧ (l3 : Int) < 4) ∧ (((((m (k1 + 4) l3) : Int) = 0 ∧ (LM_84 k1 c 4 l2 (dc_w (l3 + 1)) m v m')) ∨ (¬ (((m (k1 + 4) l3) : Int) = 0) ∧ (∃ v_86 m_91, D_83 ((dc_w ((dc_w (0 + (m (k1 + 4) l3))) - 1))) ((dc_w (148 + l2))) m v_86 m_91 ∧ (∃ v_126 m_131, D_83 ((dc_w ((dc_w (20 + (m (k1 + 4) l3))) - 1))) ((dc_w (152 + l2))) m_91 v_126 m_131 ∧ (∃ v_166 m_171, D_83 ((dc_w (61 + l2))) ((dc_w ((dc_w (156 + l3)) - 1))) m_131 v_166 m_171 ∧ (LM_84 k1 c 4 (dc_w (l2 + 1)) (dc_w (l3 + 1)) m_171 v m')))))))))) := Iff.rfl
theorem dl_84 {k1 : Nat} (t_k1 : sv_ty k1 = some 2) : ∀ N : Nat, (∀ (n : Nat) (lv : ae_L) (h : ae_H) (r : ae_R) (l2 : Int) (l3 : Int), n ≤ N → dc_ok h → sv_I l2 → sv_I l3 → ae_lk lv 0 = some (wk_r 46) → ae_lk lv 1 = some (wk_r k1) → ae_lk lv 2 = some (wk_i l2) → ae_lk lv 3 = some (wk_i l3) → ae_exe n 84 4 0 0 lv [] h = some r → ∃ v, (∃ c, LM_84 k1 c 4 l2 l3 (dc_m h) v (dc_m r.2)) ∧ r.1 = none ∧ sv_I v ∧ dc_ok r.2) := by
  intro N
  induction N with
  | zero =>
    exact fun n lv h r l2 l3 hn ok il2 il3 q0 q1 q2 q3 hr => by
      have e : n = 0 := by omega
      subst e
      cases hr
  | succ N ih =>
    have ih0 := ih
    intro n lv h r l2 l3 hn ok il2 il3 q0 q1 q2 q3 hr
    obtain ⟨n_1, e_2, hr_3⟩ := iv_iload_n xm_84 xd_84_4 q3 hr
    obtain ⟨n_4, e_5, hr_6⟩ := iv_iconst xm_84 xd_84_5 (by decide) hr_3
    rcases iv_icmp 77 xm_84 xd_84_6 (by decide) il3 (by unfold sv_I; omega) hr_6 with ⟨c_7, n_8, e_9, hr_10⟩ | ⟨c_7, n_8, e_9, hr_10⟩
    · have rr_11 := iv_return xm_84 xd_84_77 hr_10 rfl
      subst rr_11
      exact ⟨_, ⟨0 + 1, lm_84_4.mpr (Or.inl ⟨c_7, ⟨rfl, rfl⟩⟩)⟩, rfl, (by unfold sv_I; omega), ok⟩
    · obtain ⟨n_12, e_13, hr_14⟩ := iv_aload_n xm_84 xd_84_9 q1 hr_10
      have f_15 := dc_fr (j := 4) ok t_k1 dt_2 rfl
      obtain ⟨n_16, e_17, hr_18⟩ := iv_getf (j := 4) xm_84 xd_84_10 (by decide +kernel) ok t_k1 dt_2 f_15 hr_14
      obtain ⟨n_19, e_20, hr_21⟩ := iv_iload_n xm_84 xd_84_13 q3 hr_18
      obtain ⟨q_22, qi_23, n_24, e_25, hr_26⟩ := iv_iald xm_84 xd_84_14 ok (do_2_4 t_k1) dt_43 (by decide) il3 hr_21
      obtain ⟨lv_28, sl_27, n_29, e_30, hr_31⟩ := iv_istore xm_84 xd_84_15 (by decide +kernel) hr_26
      have l_32 := sl_27.2 0 _ q0 (by decide) (Or.inl rfl)
      have l_33 := sl_27.2 1 _ q1 (by decide) (Or.inl rfl)
      have l_34 := sl_27.2 2 _ q2 (by decide) (Or.inl rfl)
      have l_35 := sl_27.2 3 _ q3 (by decide) (Or.inl rfl)
      have l_36 := sl_27.1
      obtain ⟨n_37, e_38, hr_39⟩ := iv_iload xm_84 xd_84_17 l_36 hr_31
      rcases iv_if 71 xm_84 xd_84_19 (by decide) qi_23 hr_39 with ⟨c_40, n_41, e_42, hr_43⟩ | ⟨c_40, n_41, e_42, hr_43⟩
      · obtain ⟨lv_45, sl_44, n_46, e_47, hr_48⟩ := iw_iinc xm_84 xd_84_71 (by decide +kernel) (by decide) l_35 hr_43
        have l_49 := sl_44.2 0 _ l_32 (by decide) (Or.inl rfl)
        have l_50 := sl_44.2 1 _ l_33 (by decide) (Or.inl rfl)
        have l_51 := sl_44.2 2 _ l_34 (by decide) (Or.inl rfl)
        have l_52 := sl_44.2 4 _ l_36 (by decide) (Or.inl rfl)
        have l_53 := sl_44.1
        obtain ⟨n_54, e_55, hr_56⟩ := iv_goto 4 xm_84 xd_84_74 (by decide) hr_48
        obtain ⟨v, ⟨c, hL⟩, e1, e2, e3⟩ := ih0 _ lv_45 h _ _ _ (by omega) ok il2 (dc_w_I _) l_49 l_50 l_51 l_53 hr_56
        exact ⟨v, ⟨c + 1, lm_84_4.mpr (Or.inr ⟨c_7, ⟨q_22, Or.inl ⟨c_40, hL⟩⟩⟩)⟩, e1, e2, e3⟩
      · obtain ⟨n_57, e_58, hr_59⟩ := iv_aload_n xm_84 xd_84_22 l_32 hr_43
        obtain ⟨n_60, e_61, hr_62⟩ := iv_iconst xm_84 xd_84_23 (by decide) hr_59
        obtain ⟨n_63, e_64, hr_65⟩ := iv_iload xm_84 xd_84_24 l_36 hr_62
        obtain ⟨n_66, e_67, hr_68⟩ := iw_iadd xm_84 xd_84_26 hr_65
        obtain ⟨n_69, e_70, hr_71⟩ := iv_iconst xm_84 xd_84_27 (by decide) hr_68
        obtain ⟨n_72, e_73, hr_74⟩ := iw_isub xm_84 xd_84_28 hr_71
        obtain ⟨n_75, e_76, hr_77⟩ := iv_sipush xm_84 xd_84_29 (by decide) hr_74
        obtain ⟨n_78, e_79, hr_80⟩ := iv_iload_n xm_84 xd_84_32 l_34 hr_77
        obtain ⟨n_81, e_82, hr_83⟩ := iw_iadd xm_84 xd_84_33 hr_80
        obtain ⟨n_93, r_84, e_94, hc_85, hr_95⟩ := iv_call (Or.inr ⟨rfl, rfl⟩) xm_84 xd_84_34 (by decide +kernel) xm_83 rfl (by decide +kernel) hr_83
        obtain ⟨v_86, d_87, er_88, iv_89, ok_90⟩ := ds_83 _ _ _ ok (dc_w_I _) (dc_w_I _) hc_85
        obtain ⟨_, h_92⟩ := r_84
        have er_88 : _ = none := er_88
        subst er_88
        have hr_96 : ae_exe n_93 84 (34 + 3) 0 0 lv_28 _ h_92 = some r := hr_95
        obtain ⟨n_97, e_98, hr_99⟩ := iv_aload_n xm_84 xd_84_37 l_32 hr_96
        obtain ⟨n_100, e_101, hr_102⟩ := iv_bipush xm_84 xd_84_38 (by decide) hr_99
        obtain ⟨n_103, e_104, hr_105⟩ := iv_iload xm_84 xd_84_40 l_36 hr_102
        obtain ⟨n_106, e_107, hr_108⟩ := iw_iadd xm_84 xd_84_42 hr_105
        obtain ⟨n_109, e_110, hr_111⟩ := iv_iconst xm_84 xd_84_43 (by decide) hr_108
        obtain ⟨n_112, e_113, hr_114⟩ := iw_isub xm_84 xd_84_44 hr_111
        obtain ⟨n_115, e_116, hr_117⟩ := iv_sipush xm_84 xd_84_45 (by decide) hr_114
        obtain ⟨n_118, e_119, hr_120⟩ := iv_iload_n xm_84 xd_84_48 l_34 hr_117
        obtain ⟨n_121, e_122, hr_123⟩ := iw_iadd xm_84 xd_84_49 hr_120
        obtain ⟨n_133, r_124, e_134, hc_125, hr_135⟩ := iv_call (Or.inr ⟨rfl, rfl⟩) xm_84 xd_84_50 (by decide +kernel) xm_83 rfl (by decide +kernel) hr_123
        obtain ⟨v_126, d_127, er_128, iv_129, ok_130⟩ := ds_83 _ _ _ ok_90 (dc_w_I _) (dc_w_I _) hc_125
        obtain ⟨_, h_132⟩ := r_124
        have er_128 : _ = none := er_128
        subst er_128
        have hr_136 : ae_exe n_133 84 (50 + 3) 0 0 lv_28 _ h_132 = some r := hr_135
        obtain ⟨n_137, e_138, hr_139⟩ := iv_aload_n xm_84 xd_84_53 l_32 hr_136
        obtain ⟨n_140, e_141, hr_142⟩ := iv_bipush xm_84 xd_84_54 (by decide) hr_139
        obtain ⟨n_143, e_144, hr_145⟩ := iv_iload_n xm_84 xd_84_56 l_34 hr_142
        obtain ⟨n_146, e_147, hr_148⟩ := iw_iadd xm_84 xd_84_57 hr_145
        obtain ⟨n_149, e_150, hr_151⟩ := iv_sipush xm_84 xd_84_58 (by decide) hr_148
        obtain ⟨n_152, e_153, hr_154⟩ := iv_iload_n xm_84 xd_84_61 l_35 hr_151
        obtain ⟨n_155, e_156, hr_157⟩ := iw_iadd xm_84 xd_84_62 hr_154
        obtain ⟨n_158, e_159, hr_160⟩ := iv_iconst xm_84 xd_84_63 (by decide) hr_157
        obtain ⟨n_161, e_162, hr_163⟩ := iw_isub xm_84 xd_84_64 hr_160
        obtain ⟨n_173, r_164, e_174, hc_165, hr_175⟩ := iv_call (Or.inr ⟨rfl, rfl⟩) xm_84 xd_84_65 (by decide +kernel) xm_83 rfl (by decide +kernel) hr_163
        obtain ⟨v_166, d_167, er_168, iv_169, ok_170⟩ := ds_83 _ _ _ ok_130 (dc_w_I _) (dc_w_I _) hc_165
        obtain ⟨_, h_172⟩ := r_164
        have er_168 : _ = none := er_168
        subst er_168
        have hr_176 : ae_exe n_173 84 (65 + 3) 0 0 lv_28 _ h_172 = some r := hr_175
        obtain ⟨lv_178, sl_177, n_179, e_180, hr_181⟩ := iw_iinc xm_84 xd_84_68 (by decide +kernel) (by decide) l_34 hr_176
        have l_182 := sl_177.2 0 _ l_32 (by decide) (Or.inl rfl)
        have l_183 := sl_177.2 1 _ l_33 (by decide) (Or.inl rfl)
        have l_184 := sl_177.2 3 _ l_35 (by decide) (Or.inl rfl)
        have l_185 := sl_177.2 4 _ l_36 (by decide) (Or.inl rfl)
        have l_186 := sl_177.1
        obtain ⟨lv_188, sl_187, n_189, e_190, hr_191⟩ := iw_iinc xm_84 xd_84_71 (by decide +kernel) (by decide) l_184 hr_181
        have l_192 := sl_187.2 0 _ l_182 (by decide) (Or.inl rfl)
        have l_193 := sl_187.2 1 _ l_183 (by decide) (Or.inl rfl)
        have l_194 := sl_187.2 2 _ l_186 (by decide) (Or.inl rfl)
        have l_195 := sl_187.2 4 _ l_185 (by decide) (Or.inl rfl)
        have l_196 := sl_187.1
        obtain ⟨n_197, e_198, hr_199⟩ := iv_goto 4 xm_84 xd_84_74 (by decide) hr_191
        obtain ⟨v, ⟨c, hL⟩, e1, e2, e3⟩ := ih0 _ lv_188 h_172 _ _ _ (by omega) ok_170 (dc_w_I _) (dc_w_I _) l_192 l_193 l_194 l_196 hr_199
        exact ⟨v, ⟨c + 1, lm_84_4.mpr (Or.inr ⟨c_7, ⟨q_22, Or.inr ⟨c_40, ⟨_, _, d_87, ⟨_, _, d_127, ⟨_, _, d_167, hL⟩⟩⟩⟩⟩⟩)⟩, e1, e2, e3⟩
abbrev D_84 (k1 : Nat) (m : dc_M) (v : Int) (m' : dc_M) : Prop := ∃ c, LM_84 k1 c 4 0 1 m v m'
theorem ds_84 (n : Nat) (k1 : Nat) {h : ae_H} {r : ae_R} (ok : dc_ok h) (t_k1 : sv_ty k1 = some 2) (hr : ae_exe n 84 0 0 0 (ae_args [wk_r 46, wk_r k1] 0) [] h = some r) : ∃ v, D_84 k1 (dc_m h) v (dc_m r.2) ∧ r.1 = none ∧ sv_I v ∧ dc_ok r.2 := by
  have q0 : ae_lk (ae_args [wk_r 46, wk_r k1] 0) 0 = some (wk_r 46) := rfl
  have q1 : ae_lk (ae_args [wk_r 46, wk_r k1] 0) 1 = some (wk_r k1) := rfl
  obtain ⟨n_200, e_201, hr_202⟩ := iv_iconst xm_84 xd_84_0 (by decide) hr
  obtain ⟨lv_204, sl_203, n_205, e_206, hr_207⟩ := iv_istore_n xm_84 xd_84_1 (by decide +kernel) hr_202
  have l_208 := sl_203.2 0 _ q0 (by decide) (Or.inl rfl)
  have l_209 := sl_203.2 1 _ q1 (by decide) (Or.inl rfl)
  have l_210 := sl_203.1
  obtain ⟨n_211, e_212, hr_213⟩ := iv_iconst xm_84 xd_84_2 (by decide) hr_207
  obtain ⟨lv_215, sl_214, n_216, e_217, hr_218⟩ := iv_istore_n xm_84 xd_84_3 (by decide +kernel) hr_213
  have l_219 := sl_214.2 0 _ l_208 (by decide) (Or.inl rfl)
  have l_220 := sl_214.2 1 _ l_209 (by decide) (Or.inl rfl)
  have l_221 := sl_214.2 2 _ l_210 (by decide) (Or.inl rfl)
  have l_222 := sl_214.1
  obtain ⟨v, ⟨c, hL⟩, e1, e2, e3⟩ := (dl_84 t_k1 _) _ lv_215 h _ _ _ (Nat.le_refl _) ok (by unfold sv_I; omega) (by unfold sv_I; omega) l_219 l_220 l_221 l_222 hr_218
  exact ⟨v, ⟨_, hL⟩, e1, e2, e3⟩
/-! method 86 -/
theorem xm_86 : ae_m 86 = some (wk_M 86) := rfl
theorem xd_86_0 : decode (wk_M 86).2.2.1 0 = .ok (.aload_n 1, 1) := zd_by (by decide +kernel)
theorem xd_86_1 : decode (wk_M 86).2.2.1 1 = .ok (.getfield 102, 3) := zd_by (by decide +kernel)
theorem xd_86_4 : decode (wk_M 86).2.2.1 4 = .ok (.iload_n 2, 1) := zd_by (by decide +kernel)
theorem xd_86_5 : decode (wk_M 86).2.2.1 5 = .ok (.iaload, 1) := zd_by (by decide +kernel)
theorem xd_86_6 : decode (wk_M 86).2.2.1 6 = .ok (.istore 4, 2) := zd_by (by decide +kernel)
theorem xd_86_8 : decode (wk_M 86).2.2.1 8 = .ok (.iload 4, 2) := zd_by (by decide +kernel)
theorem xd_86_10 : decode (wk_M 86).2.2.1 10 = .ok (.iconst (-1), 1) := zd_by (by decide +kernel)
theorem xd_86_11 : decode (wk_M 86).2.2.1 11 = .ok (.if_icmp .ne 19, 3) := zd_by (by decide +kernel)
theorem xd_86_14 : decode (wk_M 86).2.2.1 14 = .ok (.aload_n 0, 1) := zd_by (by decide +kernel)
theorem xd_86_15 : decode (wk_M 86).2.2.1 15 = .ok (.bipush 60, 2) := zd_by (by decide +kernel)
theorem xd_86_17 : decode (wk_M 86).2.2.1 17 = .ok (.bipush 96, 2) := zd_by (by decide +kernel)
theorem xd_86_19 : decode (wk_M 86).2.2.1 19 = .ok (.iload_n 3, 1) := zd_by (by decide +kernel)
theorem xd_86_20 : decode (wk_M 86).2.2.1 20 = .ok (.bipush 6, 2) := zd_by (by decide +kernel)
theorem xd_86_22 : decode (wk_M 86).2.2.1 22 = .ok (.imul, 1) := zd_by (by decide +kernel)
theorem xd_86_23 : decode (wk_M 86).2.2.1 23 = .ok (.iadd, 1) := zd_by (by decide +kernel)
theorem xd_86_24 : decode (wk_M 86).2.2.1 24 = .ok (.invokevirtual 91, 3) := zd_by (by decide +kernel)
theorem xd_86_27 : decode (wk_M 86).2.2.1 27 = .ok (.goto 57, 3) := zd_by (by decide +kernel)
theorem xd_86_30 : decode (wk_M 86).2.2.1 30 = .ok (.aload_n 1, 1) := zd_by (by decide +kernel)
theorem xd_86_31 : decode (wk_M 86).2.2.1 31 = .ok (.getfield 105, 3) := zd_by (by decide +kernel)
theorem xd_86_34 : decode (wk_M 86).2.2.1 34 = .ok (.iload 4, 2) := zd_by (by decide +kernel)
theorem xd_86_36 : decode (wk_M 86).2.2.1 36 = .ok (.iaload, 1) := zd_by (by decide +kernel)
theorem xd_86_37 : decode (wk_M 86).2.2.1 37 = .ok (.istore 5, 2) := zd_by (by decide +kernel)
theorem xd_86_39 : decode (wk_M 86).2.2.1 39 = .ok (.iload 5, 2) := zd_by (by decide +kernel)
theorem xd_86_41 : decode (wk_M 86).2.2.1 41 = .ok (.istore 6, 2) := zd_by (by decide +kernel)
theorem xd_86_43 : decode (wk_M 86).2.2.1 43 = .ok (.iload 6, 2) := zd_by (by decide +kernel)
theorem xd_86_45 : decode (wk_M 86).2.2.1 45 = .ok (.aload_n 1, 1) := zd_by (by decide +kernel)
theorem xd_86_46 : decode (wk_M 86).2.2.1 46 = .ok (.getfield 108, 3) := zd_by (by decide +kernel)
theorem xd_86_49 : decode (wk_M 86).2.2.1 49 = .ok (.iload 4, 2) := zd_by (by decide +kernel)
theorem xd_86_51 : decode (wk_M 86).2.2.1 51 = .ok (.iaload, 1) := zd_by (by decide +kernel)
theorem xd_86_52 : decode (wk_M 86).2.2.1 52 = .ok (.if_icmp .lt 32, 3) := zd_by (by decide +kernel)
theorem xd_86_55 : decode (wk_M 86).2.2.1 55 = .ok (.aload_n 0, 1) := zd_by (by decide +kernel)
theorem xd_86_56 : decode (wk_M 86).2.2.1 56 = .ok (.iconst 0, 1) := zd_by (by decide +kernel)
theorem xd_86_57 : decode (wk_M 86).2.2.1 57 = .ok (.iload 6, 2) := zd_by (by decide +kernel)
theorem xd_86_59 : decode (wk_M 86).2.2.1 59 = .ok (.iadd, 1) := zd_by (by decide +kernel)
theorem xd_86_60 : decode (wk_M 86).2.2.1 60 = .ok (.iconst 1, 1) := zd_by (by decide +kernel)
theorem xd_86_61 : decode (wk_M 86).2.2.1 61 = .ok (.isub, 1) := zd_by (by decide +kernel)
theorem xd_86_62 : decode (wk_M 86).2.2.1 62 = .ok (.bipush 96, 2) := zd_by (by decide +kernel)
theorem xd_86_64 : decode (wk_M 86).2.2.1 64 = .ok (.iload_n 3, 1) := zd_by (by decide +kernel)
theorem xd_86_65 : decode (wk_M 86).2.2.1 65 = .ok (.bipush 6, 2) := zd_by (by decide +kernel)
theorem xd_86_67 : decode (wk_M 86).2.2.1 67 = .ok (.imul, 1) := zd_by (by decide +kernel)
theorem xd_86_68 : decode (wk_M 86).2.2.1 68 = .ok (.iadd, 1) := zd_by (by decide +kernel)
theorem xd_86_69 : decode (wk_M 86).2.2.1 69 = .ok (.iload 5, 2) := zd_by (by decide +kernel)
theorem xd_86_71 : decode (wk_M 86).2.2.1 71 = .ok (.iadd, 1) := zd_by (by decide +kernel)
theorem xd_86_72 : decode (wk_M 86).2.2.1 72 = .ok (.iload 6, 2) := zd_by (by decide +kernel)
theorem xd_86_74 : decode (wk_M 86).2.2.1 74 = .ok (.isub, 1) := zd_by (by decide +kernel)
theorem xd_86_75 : decode (wk_M 86).2.2.1 75 = .ok (.invokevirtual 91, 3) := zd_by (by decide +kernel)
theorem xd_86_78 : decode (wk_M 86).2.2.1 78 = .ok (.iinc 6 (-1), 3) := zd_by (by decide +kernel)
theorem xd_86_81 : decode (wk_M 86).2.2.1 81 = .ok (.goto (-38), 3) := zd_by (by decide +kernel)
theorem xd_86_84 : decode (wk_M 86).2.2.1 84 = .ok (.aload_n 1, 1) := zd_by (by decide +kernel)
theorem xd_86_85 : decode (wk_M 86).2.2.1 85 = .ok (.getfield 111, 3) := zd_by (by decide +kernel)
theorem xd_86_88 : decode (wk_M 86).2.2.1 88 = .ok (.iload_n 2, 1) := zd_by (by decide +kernel)
theorem xd_86_89 : decode (wk_M 86).2.2.1 89 = .ok (.iaload, 1) := zd_by (by decide +kernel)
theorem xd_86_90 : decode (wk_M 86).2.2.1 90 = .ok (.istore 5, 2) := zd_by (by decide +kernel)
theorem xd_86_92 : decode (wk_M 86).2.2.1 92 = .ok (.iload 5, 2) := zd_by (by decide +kernel)
theorem xd_86_94 : decode (wk_M 86).2.2.1 94 = .ok (.ifCond .ne 14, 3) := zd_by (by decide +kernel)
theorem xd_86_97 : decode (wk_M 86).2.2.1 97 = .ok (.aload_n 0, 1) := zd_by (by decide +kernel)
theorem xd_86_98 : decode (wk_M 86).2.2.1 98 = .ok (.bipush 60, 2) := zd_by (by decide +kernel)
theorem xd_86_100 : decode (wk_M 86).2.2.1 100 = .ok (.bipush 120, 2) := zd_by (by decide +kernel)
theorem xd_86_102 : decode (wk_M 86).2.2.1 102 = .ok (.iload_n 3, 1) := zd_by (by decide +kernel)
theorem xd_86_103 : decode (wk_M 86).2.2.1 103 = .ok (.iadd, 1) := zd_by (by decide +kernel)
theorem xd_86_104 : decode (wk_M 86).2.2.1 104 = .ok (.invokevirtual 91, 3) := zd_by (by decide +kernel)
theorem xd_86_107 : decode (wk_M 86).2.2.1 107 = .ok (.return_, 1) := zd_by (by decide +kernel)
theorem xd_86_108 : decode (wk_M 86).2.2.1 108 = .ok (.aload_n 0, 1) := zd_by (by decide +kernel)
theorem xd_86_109 : decode (wk_M 86).2.2.1 109 = .ok (.bipush 40, 2) := zd_by (by decide +kernel)
theorem xd_86_111 : decode (wk_M 86).2.2.1 111 = .ok (.iload 5, 2) := zd_by (by decide +kernel)
theorem xd_86_113 : decode (wk_M 86).2.2.1 113 = .ok (.iadd, 1) := zd_by (by decide +kernel)
theorem xd_86_114 : decode (wk_M 86).2.2.1 114 = .ok (.iconst 1, 1) := zd_by (by decide +kernel)
theorem xd_86_115 : decode (wk_M 86).2.2.1 115 = .ok (.isub, 1) := zd_by (by decide +kernel)
theorem xd_86_116 : decode (wk_M 86).2.2.1 116 = .ok (.invokevirtual 114, 3) := zd_by (by decide +kernel)
theorem xd_86_119 : decode (wk_M 86).2.2.1 119 = .ok (.istore 6, 2) := zd_by (by decide +kernel)
theorem xd_86_121 : decode (wk_M 86).2.2.1 121 = .ok (.iload 6, 2) := zd_by (by decide +kernel)
theorem xd_86_123 : decode (wk_M 86).2.2.1 123 = .ok (.iconst (-1), 1) := zd_by (by decide +kernel)
theorem xd_86_124 : decode (wk_M 86).2.2.1 124 = .ok (.if_icmp .eq 43, 3) := zd_by (by decide +kernel)
theorem xd_86_127 : decode (wk_M 86).2.2.1 127 = .ok (.aload_n 0, 1) := zd_by (by decide +kernel)
theorem xd_86_128 : decode (wk_M 86).2.2.1 128 = .ok (.bipush 60, 2) := zd_by (by decide +kernel)
theorem xd_86_130 : decode (wk_M 86).2.2.1 130 = .ok (.sipush 181, 3) := zd_by (by decide +kernel)
theorem xd_86_133 : decode (wk_M 86).2.2.1 133 = .ok (.iload 6, 2) := zd_by (by decide +kernel)
theorem xd_86_135 : decode (wk_M 86).2.2.1 135 = .ok (.iadd, 1) := zd_by (by decide +kernel)
theorem xd_86_136 : decode (wk_M 86).2.2.1 136 = .ok (.invokevirtual 91, 3) := zd_by (by decide +kernel)
theorem xd_86_139 : decode (wk_M 86).2.2.1 139 = .ok (.aload_n 0, 1) := zd_by (by decide +kernel)
theorem xd_86_140 : decode (wk_M 86).2.2.1 140 = .ok (.sipush 193, 3) := zd_by (by decide +kernel)
theorem xd_86_143 : decode (wk_M 86).2.2.1 143 = .ok (.iload 6, 2) := zd_by (by decide +kernel)
theorem xd_86_145 : decode (wk_M 86).2.2.1 145 = .ok (.iadd, 1) := zd_by (by decide +kernel)
theorem xd_86_146 : decode (wk_M 86).2.2.1 146 = .ok (.bipush 120, 2) := zd_by (by decide +kernel)
theorem xd_86_148 : decode (wk_M 86).2.2.1 148 = .ok (.iload_n 3, 1) := zd_by (by decide +kernel)
theorem xd_86_149 : decode (wk_M 86).2.2.1 149 = .ok (.iadd, 1) := zd_by (by decide +kernel)
theorem xd_86_150 : decode (wk_M 86).2.2.1 150 = .ok (.invokevirtual 91, 3) := zd_by (by decide +kernel)
theorem xd_86_153 : decode (wk_M 86).2.2.1 153 = .ok (.aload_n 0, 1) := zd_by (by decide +kernel)
theorem xd_86_154 : decode (wk_M 86).2.2.1 154 = .ok (.sipush 205, 3) := zd_by (by decide +kernel)
theorem xd_86_157 : decode (wk_M 86).2.2.1 157 = .ok (.iload 6, 2) := zd_by (by decide +kernel)
theorem xd_86_159 : decode (wk_M 86).2.2.1 159 = .ok (.iadd, 1) := zd_by (by decide +kernel)
theorem xd_86_160 : decode (wk_M 86).2.2.1 160 = .ok (.bipush 124, 2) := zd_by (by decide +kernel)
theorem xd_86_162 : decode (wk_M 86).2.2.1 162 = .ok (.iload_n 3, 1) := zd_by (by decide +kernel)
theorem xd_86_163 : decode (wk_M 86).2.2.1 163 = .ok (.iadd, 1) := zd_by (by decide +kernel)
theorem xd_86_164 : decode (wk_M 86).2.2.1 164 = .ok (.invokevirtual 91, 3) := zd_by (by decide +kernel)
theorem xd_86_167 : decode (wk_M 86).2.2.1 167 = .ok (.return_, 1) := zd_by (by decide +kernel)
def LM_86 (k1 : Nat) (x1 : Int) (x2 : Int) : Nat → Nat → Int → Int → Int → dc_M → Int → dc_M → Prop
  | 0, _, _, _, _, _, _, _ => False
  | c + 1, tag, l4, l5, l6, m, v, m' => match tag with
    | _ => (0 ≤ (l4 : Int) ∧ (l4 : Int) < 6) ∧ ((((l6 : Int) < (m (k1 + 2) l4) ∧ ((0 ≤ (x1 : Int) ∧ (x1 : Int) < 8) ∧ (((((m (k1 + 8) x1) : Int) ≠ 0 ∧ (∃ v_77 m_82, D_88 ((dc_w ((dc_w (40 + (m (k1 + 8) x1))) - 1))) m v_77 m_82 ∧ ((((v_77 : Int) = (-1) ∧ (v = 0 ∧ m' = m_82)) ∨ (¬ ((v_77 : Int) = (-1)) ∧ (∃ v_128 m_133, D_83 60 ((dc_w (181 + v_77))) m_82 v_128 m_133 ∧ (∃ v_162 m_167, D_83 ((dc_w (193 + v_77))) ((dc_w (120 + x2))) m_133 v_162 m_167 ∧ (∃ v_196 m_201, D_83 ((dc_w (205 + v_77))) ((dc_w (124 + x2))) m_167 v_196 m_201 ∧ (v = 0 ∧ m' = m_201))))))))) ∨ (¬ (((m (k1 + 8) x1) : Int) ≠ 0) ∧ (∃ v_225 m_230, D_83 60 ((dc_w (120 + x2))) m v_225 m_230 ∧ (v = 0 ∧ m' = m_230))))))) ∨ (¬ ((l6 : Int) < (m (k1 + 2) l4)) ∧ (∃ v_284 m_289, D_83 ((dc_w ((dc_w (0 + l6)) - 1))) ((dc_w ((dc_w ((dc_w (96 + (dc_w (x2 * 6)))) + l5)) - l6))) m v_284 m_289 ∧ (LM_86 k1 x1 x2 c 43 l4 l5 (dc_w (l6 + (-1))) m_289 v m')))))
theorem lm_86_43 {k1 : Nat} {x1 : Int} {x2 : Int} {c : Nat} {l4 : Int} {l5 : Int} {l6 : Int} {m : dc_M} {v : Int} {m' : dc_M} : LM_86 k1 x1 x2 (c + 1) 43 l4 l5 l6 m v m' ↔ (0 ≤ (l4 : Int) ∧ (l4 : Int) < 6) ∧ ((((l6 : Int) < (m (k1 + 2) l4) ∧ ((0 ≤ (x1 : Int) ∧ (x1 : Int) < 8) ∧ (((((m (k1 + 8) x1) : Int) ≠ 0 ∧ (∃ v_77 m_82, D_88 ((dc_w ((dc_w (40 + (m (k1 + 8) x1))) - 1))) m v_77 m_82 ∧ ((((v_77 : Int) = (-1) ∧ (v = 0 ∧ m' = m_82)) ∨ (¬ ((v_77 : Int) = (-1)) ∧ (∃ v_128 m_133, D_83 60 ((dc_w (181 + v_77))) m_82 v_128 m_133 ∧ (∃ v_162 m_167, D_83 ((dc_w (193 + v_77))) ((dc_w (120 + x2))) m_133 v_162 m_167 ∧ (∃ v_196 m_201, D_83 ((dc_w (205 + v_77))) ((dc_w (124 + x2))) m_167 v_196 m_201 ∧ (v = 0 ∧ m' = m_201))))))))) ∨ (¬ (((m (k1 + 8) x1) : Int) ≠ 0) ∧ (∃ v_225 m_230, D_83 60 ((dc_w (120 + x2))) m v_225 m_230 ∧ (v = 0 ∧ m' = m_230))))))) ∨ (¬ ((l6 : Int) < (m (k1 + 2) l4)) ∧ (∃ v_284 m_289, D_83 ((dc_w ((dc_w (0 + l6)) - 1))) ((dc_w ((dc_w ((dc_w (96 + (dc_w (x2 * 6)))) + l5)) - l6))) m v_284 m_289 ∧ (LM_86 k1 x1 x2 c 43 l4 l5 (dc_w (l6 + (-1))) m_289 v m'))))) := Iff.rfl
theorem dl_86 {k1 : Nat} {x1 : Int} {x2 : Int} (t_k1 : sv_ty k1 = some 2) (ix1 : sv_I x1) (ix2 : sv_I x2) : ∀ N : Nat, (∀ (n : Nat) (lv : ae_L) (h : ae_H) (r : ae_R) (l4 : Int) (l5 : Int) (l6 : Int), n ≤ N → dc_ok h → sv_I l4 → sv_I l5 → sv_I l6 → ae_lk lv 0 = some (wk_r 46) → ae_lk lv 1 = some (wk_r k1) → ae_lk lv 2 = some (wk_i x1) → ae_lk lv 3 = some (wk_i x2) → ae_lk lv 4 = some (wk_i l4) → ae_lk lv 5 = some (wk_i l5) → ae_lk lv 6 = some (wk_i l6) → ae_exe n 86 43 0 0 lv [] h = some r → ∃ v, (∃ c, LM_86 k1 x1 x2 c 43 l4 l5 l6 (dc_m h) v (dc_m r.2)) ∧ r.1 = none ∧ sv_I v ∧ dc_ok r.2) := by
  intro N
  induction N with
  | zero =>
    exact fun n lv h r l4 l5 l6 hn ok il4 il5 il6 q0 q1 q2 q3 q4 q5 q6 hr => by
      have e : n = 0 := by omega
      subst e
      cases hr
  | succ N ih =>
    have ih0 := ih
    intro n lv h r l4 l5 l6 hn ok il4 il5 il6 q0 q1 q2 q3 q4 q5 q6 hr
    obtain ⟨n_1, e_2, hr_3⟩ := iv_iload xm_86 xd_86_43 q6 hr
    obtain ⟨n_4, e_5, hr_6⟩ := iv_aload_n xm_86 xd_86_45 q1 hr_3
    have f_7 := dc_fr (j := 1) ok t_k1 dt_2 rfl
    obtain ⟨n_8, e_9, hr_10⟩ := iv_getf (j := 1) xm_86 xd_86_46 (by decide +kernel) ok t_k1 dt_2 f_7 hr_6
    obtain ⟨n_11, e_12, hr_13⟩ := iv_iload xm_86 xd_86_49 q4 hr_10
    obtain ⟨q_14, qi_15, n_16, e_17, hr_18⟩ := iv_iald xm_86 xd_86_51 ok (do_2_1 t_k1) dt_41 (by decide) il4 hr_13
    rcases iv_icmp 84 xm_86 xd_86_52 (by decide) il6 qi_15 hr_18 with ⟨c_19, n_20, e_21, hr_22⟩ | ⟨c_19, n_20, e_21, hr_22⟩
    · obtain ⟨n_23, e_24, hr_25⟩ := iv_aload_n xm_86 xd_86_84 q1 hr_22
      have f_26 := dc_fr (j := 8) ok t_k1 dt_2 rfl
      obtain ⟨n_27, e_28, hr_29⟩ := iv_getf (j := 8) xm_86 xd_86_85 (by decide +kernel) ok t_k1 dt_2 f_26 hr_25
      obtain ⟨n_30, e_31, hr_32⟩ := iv_iload_n xm_86 xd_86_88 q2 hr_29
      obtain ⟨q_33, qi_34, n_35, e_36, hr_37⟩ := iv_iald xm_86 xd_86_89 ok (do_2_8 t_k1) dt_47 (by decide) ix1 hr_32
      obtain ⟨lv_39, sl_38, n_40, e_41, hr_42⟩ := iv_istore xm_86 xd_86_90 (by decide +kernel) hr_37
      have l_43 := sl_38.2 0 _ q0 (by decide) (Or.inl rfl)
      have l_44 := sl_38.2 1 _ q1 (by decide) (Or.inl rfl)
      have l_45 := sl_38.2 2 _ q2 (by decide) (Or.inl rfl)
      have l_46 := sl_38.2 3 _ q3 (by decide) (Or.inl rfl)
      have l_47 := sl_38.2 4 _ q4 (by decide) (Or.inl rfl)
      have l_48 := sl_38.2 6 _ q6 (by decide) (Or.inl rfl)
      have l_49 := sl_38.1
      obtain ⟨n_50, e_51, hr_52⟩ := iv_iload xm_86 xd_86_92 l_49 hr_42
      rcases iv_if 108 xm_86 xd_86_94 (by decide) qi_34 hr_52 with ⟨c_53, n_54, e_55, hr_56⟩ | ⟨c_53, n_54, e_55, hr_56⟩
      · obtain ⟨n_57, e_58, hr_59⟩ := iv_aload_n xm_86 xd_86_108 l_43 hr_56
        obtain ⟨n_60, e_61, hr_62⟩ := iv_bipush xm_86 xd_86_109 (by decide) hr_59
        obtain ⟨n_63, e_64, hr_65⟩ := iv_iload xm_86 xd_86_111 l_49 hr_62
        obtain ⟨n_66, e_67, hr_68⟩ := iw_iadd xm_86 xd_86_113 hr_65
        obtain ⟨n_69, e_70, hr_71⟩ := iv_iconst xm_86 xd_86_114 (by decide) hr_68
        obtain ⟨n_72, e_73, hr_74⟩ := iw_isub xm_86 xd_86_115 hr_71
        obtain ⟨n_84, r_75, e_85, hc_76, hr_86⟩ := iv_call (Or.inr ⟨rfl, rfl⟩) xm_86 xd_86_116 (by decide +kernel) xm_88 rfl (by decide +kernel) hr_74
        obtain ⟨v_77, d_78, er_79, iv_80, ok_81⟩ := ds_88 _ _ ok (dc_w_I _) hc_76
        obtain ⟨_, h_83⟩ := r_75
        have er_79 : _ = some (wk_i v_77) := er_79
        subst er_79
        have hr_87 : ae_exe n_84 86 (116 + 3) 0 0 lv_39 _ h_83 = some r := hr_86
        obtain ⟨lv_89, sl_88, n_90, e_91, hr_92⟩ := iv_istore xm_86 xd_86_119 (by decide +kernel) hr_87
        have l_93 := sl_88.2 0 _ l_43 (by decide) (Or.inl rfl)
        have l_94 := sl_88.2 1 _ l_44 (by decide) (Or.inl rfl)
        have l_95 := sl_88.2 2 _ l_45 (by decide) (Or.inl rfl)
        have l_96 := sl_88.2 3 _ l_46 (by decide) (Or.inl rfl)
        have l_97 := sl_88.2 4 _ l_47 (by decide) (Or.inl rfl)
        have l_98 := sl_88.2 5 _ l_49 (by decide) (Or.inl rfl)
        have l_99 := sl_88.1
        obtain ⟨n_100, e_101, hr_102⟩ := iv_iload xm_86 xd_86_121 l_99 hr_92
        obtain ⟨n_103, e_104, hr_105⟩ := iv_iconst xm_86 xd_86_123 (by decide) hr_102
        rcases iv_icmp 167 xm_86 xd_86_124 (by decide) iv_80 (by unfold sv_I; omega) hr_105 with ⟨c_106, n_107, e_108, hr_109⟩ | ⟨c_106, n_107, e_108, hr_109⟩
        · have rr_110 := iv_return xm_86 xd_86_167 hr_109 rfl
          subst rr_110
          exact ⟨_, ⟨0 + 1, lm_86_43.mpr (⟨q_14, Or.inl ⟨c_19, ⟨q_33, Or.inl ⟨c_53, ⟨_, _, d_78, Or.inl ⟨c_106, ⟨rfl, rfl⟩⟩⟩⟩⟩⟩⟩)⟩, rfl, (by unfold sv_I; omega), ok_81⟩
        · obtain ⟨n_111, e_112, hr_113⟩ := iv_aload_n xm_86 xd_86_127 l_93 hr_109
          obtain ⟨n_114, e_115, hr_116⟩ := iv_bipush xm_86 xd_86_128 (by decide) hr_113
          obtain ⟨n_117, e_118, hr_119⟩ := iv_sipush xm_86 xd_86_130 (by decide) hr_116
          obtain ⟨n_120, e_121, hr_122⟩ := iv_iload xm_86 xd_86_133 l_99 hr_119
          obtain ⟨n_123, e_124, hr_125⟩ := iw_iadd xm_86 xd_86_135 hr_122
          obtain ⟨n_135, r_126, e_136, hc_127, hr_137⟩ := iv_call (Or.inr ⟨rfl, rfl⟩) xm_86 xd_86_136 (by decide +kernel) xm_83 rfl (by decide +kernel) hr_125
          obtain ⟨v_128, d_129, er_130, iv_131, ok_132⟩ := ds_83 _ _ _ ok_81 (by unfold sv_I; omega) (dc_w_I _) hc_127
          obtain ⟨_, h_134⟩ := r_126
          have er_130 : _ = none := er_130
          subst er_130
          have hr_138 : ae_exe n_135 86 (136 + 3) 0 0 lv_89 _ h_134 = some r := hr_137
          obtain ⟨n_139, e_140, hr_141⟩ := iv_aload_n xm_86 xd_86_139 l_93 hr_138
          obtain ⟨n_142, e_143, hr_144⟩ := iv_sipush xm_86 xd_86_140 (by decide) hr_141
          obtain ⟨n_145, e_146, hr_147⟩ := iv_iload xm_86 xd_86_143 l_99 hr_144
          obtain ⟨n_148, e_149, hr_150⟩ := iw_iadd xm_86 xd_86_145 hr_147
          obtain ⟨n_151, e_152, hr_153⟩ := iv_bipush xm_86 xd_86_146 (by decide) hr_150
          obtain ⟨n_154, e_155, hr_156⟩ := iv_iload_n xm_86 xd_86_148 l_96 hr_153
          obtain ⟨n_157, e_158, hr_159⟩ := iw_iadd xm_86 xd_86_149 hr_156
          obtain ⟨n_169, r_160, e_170, hc_161, hr_171⟩ := iv_call (Or.inr ⟨rfl, rfl⟩) xm_86 xd_86_150 (by decide +kernel) xm_83 rfl (by decide +kernel) hr_159
          obtain ⟨v_162, d_163, er_164, iv_165, ok_166⟩ := ds_83 _ _ _ ok_132 (dc_w_I _) (dc_w_I _) hc_161
          obtain ⟨_, h_168⟩ := r_160
          have er_164 : _ = none := er_164
          subst er_164
          have hr_172 : ae_exe n_169 86 (150 + 3) 0 0 lv_89 _ h_168 = some r := hr_171
          obtain ⟨n_173, e_174, hr_175⟩ := iv_aload_n xm_86 xd_86_153 l_93 hr_172
          obtain ⟨n_176, e_177, hr_178⟩ := iv_sipush xm_86 xd_86_154 (by decide) hr_175
          obtain ⟨n_179, e_180, hr_181⟩ := iv_iload xm_86 xd_86_157 l_99 hr_178
          obtain ⟨n_182, e_183, hr_184⟩ := iw_iadd xm_86 xd_86_159 hr_181
          obtain ⟨n_185, e_186, hr_187⟩ := iv_bipush xm_86 xd_86_160 (by decide) hr_184
          obtain ⟨n_188, e_189, hr_190⟩ := iv_iload_n xm_86 xd_86_162 l_96 hr_187
          obtain ⟨n_191, e_192, hr_193⟩ := iw_iadd xm_86 xd_86_163 hr_190
          obtain ⟨n_203, r_194, e_204, hc_195, hr_205⟩ := iv_call (Or.inr ⟨rfl, rfl⟩) xm_86 xd_86_164 (by decide +kernel) xm_83 rfl (by decide +kernel) hr_193
          obtain ⟨v_196, d_197, er_198, iv_199, ok_200⟩ := ds_83 _ _ _ ok_166 (dc_w_I _) (dc_w_I _) hc_195
          obtain ⟨_, h_202⟩ := r_194
          have er_198 : _ = none := er_198
          subst er_198
          have hr_206 : ae_exe n_203 86 (164 + 3) 0 0 lv_89 _ h_202 = some r := hr_205
          have rr_207 := iv_return xm_86 xd_86_167 hr_206 rfl
          subst rr_207
          exact ⟨_, ⟨0 + 1, lm_86_43.mpr (⟨q_14, Or.inl ⟨c_19, ⟨q_33, Or.inl ⟨c_53, ⟨_, _, d_78, Or.inr ⟨c_106, ⟨_, _, d_129, ⟨_, _, d_163, ⟨_, _, d_197, ⟨rfl, rfl⟩⟩⟩⟩⟩⟩⟩⟩⟩⟩)⟩, rfl, (by unfold sv_I; omega), ok_200⟩
      · obtain ⟨n_208, e_209, hr_210⟩ := iv_aload_n xm_86 xd_86_97 l_43 hr_56
        obtain ⟨n_211, e_212, hr_213⟩ := iv_bipush xm_86 xd_86_98 (by decide) hr_210
        obtain ⟨n_214, e_215, hr_216⟩ := iv_bipush xm_86 xd_86_100 (by decide) hr_213
        obtain ⟨n_217, e_218, hr_219⟩ := iv_iload_n xm_86 xd_86_102 l_46 hr_216
        obtain ⟨n_220, e_221, hr_222⟩ := iw_iadd xm_86 xd_86_103 hr_219
        obtain ⟨n_232, r_223, e_233, hc_224, hr_234⟩ := iv_call (Or.inr ⟨rfl, rfl⟩) xm_86 xd_86_104 (by decide +kernel) xm_83 rfl (by decide +kernel) hr_222
        obtain ⟨v_225, d_226, er_227, iv_228, ok_229⟩ := ds_83 _ _ _ ok (by unfold sv_I; omega) (dc_w_I _) hc_224
        obtain ⟨_, h_231⟩ := r_223
        have er_227 : _ = none := er_227
        subst er_227
        have hr_235 : ae_exe n_232 86 (104 + 3) 0 0 lv_39 _ h_231 = some r := hr_234
        have rr_236 := iv_return xm_86 xd_86_107 hr_235 rfl
        subst rr_236
        exact ⟨_, ⟨0 + 1, lm_86_43.mpr (⟨q_14, Or.inl ⟨c_19, ⟨q_33, Or.inr ⟨c_53, ⟨_, _, d_226, ⟨rfl, rfl⟩⟩⟩⟩⟩⟩)⟩, rfl, (by unfold sv_I; omega), ok_229⟩
    · obtain ⟨n_237, e_238, hr_239⟩ := iv_aload_n xm_86 xd_86_55 q0 hr_22
      obtain ⟨n_240, e_241, hr_242⟩ := iv_iconst xm_86 xd_86_56 (by decide) hr_239
      obtain ⟨n_243, e_244, hr_245⟩ := iv_iload xm_86 xd_86_57 q6 hr_242
      obtain ⟨n_246, e_247, hr_248⟩ := iw_iadd xm_86 xd_86_59 hr_245
      obtain ⟨n_249, e_250, hr_251⟩ := iv_iconst xm_86 xd_86_60 (by decide) hr_248
      obtain ⟨n_252, e_253, hr_254⟩ := iw_isub xm_86 xd_86_61 hr_251
      obtain ⟨n_255, e_256, hr_257⟩ := iv_bipush xm_86 xd_86_62 (by decide) hr_254
      obtain ⟨n_258, e_259, hr_260⟩ := iv_iload_n xm_86 xd_86_64 q3 hr_257
      obtain ⟨n_261, e_262, hr_263⟩ := iv_bipush xm_86 xd_86_65 (by decide) hr_260
      obtain ⟨n_264, e_265, hr_266⟩ := iw_imul xm_86 xd_86_67 hr_263
      obtain ⟨n_267, e_268, hr_269⟩ := iw_iadd xm_86 xd_86_68 hr_266
      obtain ⟨n_270, e_271, hr_272⟩ := iv_iload xm_86 xd_86_69 q5 hr_269
      obtain ⟨n_273, e_274, hr_275⟩ := iw_iadd xm_86 xd_86_71 hr_272
      obtain ⟨n_276, e_277, hr_278⟩ := iv_iload xm_86 xd_86_72 q6 hr_275
      obtain ⟨n_279, e_280, hr_281⟩ := iw_isub xm_86 xd_86_74 hr_278
      obtain ⟨n_291, r_282, e_292, hc_283, hr_293⟩ := iv_call (Or.inr ⟨rfl, rfl⟩) xm_86 xd_86_75 (by decide +kernel) xm_83 rfl (by decide +kernel) hr_281
      obtain ⟨v_284, d_285, er_286, iv_287, ok_288⟩ := ds_83 _ _ _ ok (dc_w_I _) (dc_w_I _) hc_283
      obtain ⟨_, h_290⟩ := r_282
      have er_286 : _ = none := er_286
      subst er_286
      have hr_294 : ae_exe n_291 86 (75 + 3) 0 0 lv _ h_290 = some r := hr_293
      obtain ⟨lv_296, sl_295, n_297, e_298, hr_299⟩ := iw_iinc xm_86 xd_86_78 (by decide +kernel) (by decide) q6 hr_294
      have l_300 := sl_295.2 0 _ q0 (by decide) (Or.inl rfl)
      have l_301 := sl_295.2 1 _ q1 (by decide) (Or.inl rfl)
      have l_302 := sl_295.2 2 _ q2 (by decide) (Or.inl rfl)
      have l_303 := sl_295.2 3 _ q3 (by decide) (Or.inl rfl)
      have l_304 := sl_295.2 4 _ q4 (by decide) (Or.inl rfl)
      have l_305 := sl_295.2 5 _ q5 (by decide) (Or.inl rfl)
      have l_306 := sl_295.1
      obtain ⟨n_307, e_308, hr_309⟩ := iv_goto 43 xm_86 xd_86_81 (by decide) hr_299
      obtain ⟨v, ⟨c, hL⟩, e1, e2, e3⟩ := ih0 _ lv_296 h_290 _ _ _ _ (by omega) ok_288 il4 il5 (dc_w_I _) l_300 l_301 l_302 l_303 l_304 l_305 l_306 hr_309
      exact ⟨v, ⟨c + 1, lm_86_43.mpr (⟨q_14, Or.inr ⟨c_19, ⟨_, _, d_285, hL⟩⟩⟩)⟩, e1, e2, e3⟩
abbrev D_86 (k1 : Nat) (x1 : Int) (x2 : Int) (m : dc_M) (v : Int) (m' : dc_M) : Prop := (0 ≤ (x1 : Int) ∧ (x1 : Int) < 8) ∧ (((((m (k1 + 5) x1) : Int) ≠ (-1) ∧ ((0 ≤ ((m (k1 + 5) x1) : Int) ∧ ((m (k1 + 5) x1) : Int) < 6) ∧ (∃ c, LM_86 k1 x1 x2 c 43 (m (k1 + 5) x1) (m (k1 + 3) (m (k1 + 5) x1)) (m (k1 + 3) (m (k1 + 5) x1)) m v m'))) ∨ (¬ (((m (k1 + 5) x1) : Int) ≠ (-1)) ∧ (∃ v_409 m_414, D_83 60 ((dc_w (96 + (dc_w (x2 * 6))))) m v_409 m_414 ∧ ((0 ≤ (x1 : Int) ∧ (x1 : Int) < 8) ∧ (((((m_414 (k1 + 8) x1) : Int) ≠ 0 ∧ (∃ v_476 m_481, D_88 ((dc_w ((dc_w (40 + (m_414 (k1 + 8) x1))) - 1))) m_414 v_476 m_481 ∧ ((((v_476 : Int) = (-1) ∧ (v = 0 ∧ m' = m_481)) ∨ (¬ ((v_476 : Int) = (-1)) ∧ (∃ v_527 m_532, D_83 60 ((dc_w (181 + v_476))) m_481 v_527 m_532 ∧ (∃ v_561 m_566, D_83 ((dc_w (193 + v_476))) ((dc_w (120 + x2))) m_532 v_561 m_566 ∧ (∃ v_595 m_600, D_83 ((dc_w (205 + v_476))) ((dc_w (124 + x2))) m_566 v_595 m_600 ∧ (v = 0 ∧ m' = m_600))))))))) ∨ (¬ (((m_414 (k1 + 8) x1) : Int) ≠ 0) ∧ (∃ v_624 m_629, D_83 60 ((dc_w (120 + x2))) m_414 v_624 m_629 ∧ (v = 0 ∧ m' = m_629))))))))))
theorem ds_86 (n : Nat) (k1 : Nat) (x1 : Int) (x2 : Int) {h : ae_H} {r : ae_R} (ok : dc_ok h) (t_k1 : sv_ty k1 = some 2) (ix1 : sv_I x1) (ix2 : sv_I x2) (hr : ae_exe n 86 0 0 0 (ae_args [wk_r 46, wk_r k1, wk_i x1, wk_i x2] 0) [] h = some r) : ∃ v, D_86 k1 x1 x2 (dc_m h) v (dc_m r.2) ∧ r.1 = none ∧ sv_I v ∧ dc_ok r.2 := by
  have q0 : ae_lk (ae_args [wk_r 46, wk_r k1, wk_i x1, wk_i x2] 0) 0 = some (wk_r 46) := rfl
  have q1 : ae_lk (ae_args [wk_r 46, wk_r k1, wk_i x1, wk_i x2] 0) 1 = some (wk_r k1) := rfl
  have q2 : ae_lk (ae_args [wk_r 46, wk_r k1, wk_i x1, wk_i x2] 0) 2 = some (wk_i x1) := rfl
  have q3 : ae_lk (ae_args [wk_r 46, wk_r k1, wk_i x1, wk_i x2] 0) 3 = some (wk_i x2) := rfl
  obtain ⟨n_310, e_311, hr_312⟩ := iv_aload_n xm_86 xd_86_0 q1 hr
  have f_313 := dc_fr (j := 5) ok t_k1 dt_2 rfl
  obtain ⟨n_314, e_315, hr_316⟩ := iv_getf (j := 5) xm_86 xd_86_1 (by decide +kernel) ok t_k1 dt_2 f_313 hr_312
  obtain ⟨n_317, e_318, hr_319⟩ := iv_iload_n xm_86 xd_86_4 q2 hr_316
  obtain ⟨q_320, qi_321, n_322, e_323, hr_324⟩ := iv_iald xm_86 xd_86_5 ok (do_2_5 t_k1) dt_44 (by decide) ix1 hr_319
  obtain ⟨lv_326, sl_325, n_327, e_328, hr_329⟩ := iv_istore xm_86 xd_86_6 (by decide +kernel) hr_324
  have l_330 := sl_325.2 0 _ q0 (by decide) (Or.inl rfl)
  have l_331 := sl_325.2 1 _ q1 (by decide) (Or.inl rfl)
  have l_332 := sl_325.2 2 _ q2 (by decide) (Or.inl rfl)
  have l_333 := sl_325.2 3 _ q3 (by decide) (Or.inl rfl)
  have l_334 := sl_325.1
  obtain ⟨n_335, e_336, hr_337⟩ := iv_iload xm_86 xd_86_8 l_334 hr_329
  obtain ⟨n_338, e_339, hr_340⟩ := iv_iconst xm_86 xd_86_10 (by decide) hr_337
  rcases iv_icmp 30 xm_86 xd_86_11 (by decide) qi_321 (by unfold sv_I; omega) hr_340 with ⟨c_341, n_342, e_343, hr_344⟩ | ⟨c_341, n_342, e_343, hr_344⟩
  · obtain ⟨n_345, e_346, hr_347⟩ := iv_aload_n xm_86 xd_86_30 l_331 hr_344
    have f_348 := dc_fr (j := 2) ok t_k1 dt_2 rfl
    obtain ⟨n_349, e_350, hr_351⟩ := iv_getf (j := 2) xm_86 xd_86_31 (by decide +kernel) ok t_k1 dt_2 f_348 hr_347
    obtain ⟨n_352, e_353, hr_354⟩ := iv_iload xm_86 xd_86_34 l_334 hr_351
    obtain ⟨q_355, qi_356, n_357, e_358, hr_359⟩ := iv_iald xm_86 xd_86_36 ok (do_2_2 t_k1) dt_42 (by decide) qi_321 hr_354
    obtain ⟨lv_361, sl_360, n_362, e_363, hr_364⟩ := iv_istore xm_86 xd_86_37 (by decide +kernel) hr_359
    have l_365 := sl_360.2 0 _ l_330 (by decide) (Or.inl rfl)
    have l_366 := sl_360.2 1 _ l_331 (by decide) (Or.inl rfl)
    have l_367 := sl_360.2 2 _ l_332 (by decide) (Or.inl rfl)
    have l_368 := sl_360.2 3 _ l_333 (by decide) (Or.inl rfl)
    have l_369 := sl_360.2 4 _ l_334 (by decide) (Or.inl rfl)
    have l_370 := sl_360.1
    obtain ⟨n_371, e_372, hr_373⟩ := iv_iload xm_86 xd_86_39 l_370 hr_364
    obtain ⟨lv_375, sl_374, n_376, e_377, hr_378⟩ := iv_istore xm_86 xd_86_41 (by decide +kernel) hr_373
    have l_379 := sl_374.2 0 _ l_365 (by decide) (Or.inl rfl)
    have l_380 := sl_374.2 1 _ l_366 (by decide) (Or.inl rfl)
    have l_381 := sl_374.2 2 _ l_367 (by decide) (Or.inl rfl)
    have l_382 := sl_374.2 3 _ l_368 (by decide) (Or.inl rfl)
    have l_383 := sl_374.2 4 _ l_369 (by decide) (Or.inl rfl)
    have l_384 := sl_374.2 5 _ l_370 (by decide) (Or.inl rfl)
    have l_385 := sl_374.1
    obtain ⟨v, ⟨c, hL⟩, e1, e2, e3⟩ := (dl_86 t_k1 ix1 ix2 _) _ lv_375 h _ _ _ _ (Nat.le_refl _) ok qi_321 qi_356 qi_356 l_379 l_380 l_381 l_382 l_383 l_384 l_385 hr_378
    exact ⟨v, ⟨q_320, Or.inl ⟨c_341, ⟨q_355, ⟨_, hL⟩⟩⟩⟩, e1, e2, e3⟩
  · obtain ⟨n_386, e_387, hr_388⟩ := iv_aload_n xm_86 xd_86_14 l_330 hr_344
    obtain ⟨n_389, e_390, hr_391⟩ := iv_bipush xm_86 xd_86_15 (by decide) hr_388
    obtain ⟨n_392, e_393, hr_394⟩ := iv_bipush xm_86 xd_86_17 (by decide) hr_391
    obtain ⟨n_395, e_396, hr_397⟩ := iv_iload_n xm_86 xd_86_19 l_333 hr_394
    obtain ⟨n_398, e_399, hr_400⟩ := iv_bipush xm_86 xd_86_20 (by decide) hr_397
    obtain ⟨n_401, e_402, hr_403⟩ := iw_imul xm_86 xd_86_22 hr_400
    obtain ⟨n_404, e_405, hr_406⟩ := iw_iadd xm_86 xd_86_23 hr_403
    obtain ⟨n_416, r_407, e_417, hc_408, hr_418⟩ := iv_call (Or.inr ⟨rfl, rfl⟩) xm_86 xd_86_24 (by decide +kernel) xm_83 rfl (by decide +kernel) hr_406
    obtain ⟨v_409, d_410, er_411, iv_412, ok_413⟩ := ds_83 _ _ _ ok (by unfold sv_I; omega) (dc_w_I _) hc_408
    obtain ⟨_, h_415⟩ := r_407
    have er_411 : _ = none := er_411
    subst er_411
    have hr_419 : ae_exe n_416 86 (24 + 3) 0 0 lv_326 _ h_415 = some r := hr_418
    obtain ⟨n_420, e_421, hr_422⟩ := iv_goto 84 xm_86 xd_86_27 (by decide) hr_419
    obtain ⟨n_423, e_424, hr_425⟩ := iv_aload_n xm_86 xd_86_84 l_331 hr_422
    have f_426 := dc_fr (j := 8) ok_413 t_k1 dt_2 rfl
    obtain ⟨n_427, e_428, hr_429⟩ := iv_getf (j := 8) xm_86 xd_86_85 (by decide +kernel) ok_413 t_k1 dt_2 f_426 hr_425
    obtain ⟨n_430, e_431, hr_432⟩ := iv_iload_n xm_86 xd_86_88 l_332 hr_429
    obtain ⟨q_433, qi_434, n_435, e_436, hr_437⟩ := iv_iald xm_86 xd_86_89 ok_413 (do_2_8 t_k1) dt_47 (by decide) ix1 hr_432
    obtain ⟨lv_439, sl_438, n_440, e_441, hr_442⟩ := iv_istore xm_86 xd_86_90 (by decide +kernel) hr_437
    have l_443 := sl_438.2 0 _ l_330 (by decide) (Or.inl rfl)
    have l_444 := sl_438.2 1 _ l_331 (by decide) (Or.inl rfl)
    have l_445 := sl_438.2 2 _ l_332 (by decide) (Or.inl rfl)
    have l_446 := sl_438.2 3 _ l_333 (by decide) (Or.inl rfl)
    have l_447 := sl_438.2 4 _ l_334 (by decide) (Or.inl rfl)
    have l_448 := sl_438.1
    obtain ⟨n_449, e_450, hr_451⟩ := iv_iload xm_86 xd_86_92 l_448 hr_442
    rcases iv_if 108 xm_86 xd_86_94 (by decide) qi_434 hr_451 with ⟨c_452, n_453, e_454, hr_455⟩ | ⟨c_452, n_453, e_454, hr_455⟩
    · obtain ⟨n_456, e_457, hr_458⟩ := iv_aload_n xm_86 xd_86_108 l_443 hr_455
      obtain ⟨n_459, e_460, hr_461⟩ := iv_bipush xm_86 xd_86_109 (by decide) hr_458
      obtain ⟨n_462, e_463, hr_464⟩ := iv_iload xm_86 xd_86_111 l_448 hr_461
      obtain ⟨n_465, e_466, hr_467⟩ := iw_iadd xm_86 xd_86_113 hr_464
      obtain ⟨n_468, e_469, hr_470⟩ := iv_iconst xm_86 xd_86_114 (by decide) hr_467
      obtain ⟨n_471, e_472, hr_473⟩ := iw_isub xm_86 xd_86_115 hr_470
      obtain ⟨n_483, r_474, e_484, hc_475, hr_485⟩ := iv_call (Or.inr ⟨rfl, rfl⟩) xm_86 xd_86_116 (by decide +kernel) xm_88 rfl (by decide +kernel) hr_473
      obtain ⟨v_476, d_477, er_478, iv_479, ok_480⟩ := ds_88 _ _ ok_413 (dc_w_I _) hc_475
      obtain ⟨_, h_482⟩ := r_474
      have er_478 : _ = some (wk_i v_476) := er_478
      subst er_478
      have hr_486 : ae_exe n_483 86 (116 + 3) 0 0 lv_439 _ h_482 = some r := hr_485
      obtain ⟨lv_488, sl_487, n_489, e_490, hr_491⟩ := iv_istore xm_86 xd_86_119 (by decide +kernel) hr_486
      have l_492 := sl_487.2 0 _ l_443 (by decide) (Or.inl rfl)
      have l_493 := sl_487.2 1 _ l_444 (by decide) (Or.inl rfl)
      have l_494 := sl_487.2 2 _ l_445 (by decide) (Or.inl rfl)
      have l_495 := sl_487.2 3 _ l_446 (by decide) (Or.inl rfl)
      have l_496 := sl_487.2 4 _ l_447 (by decide) (Or.inl rfl)
      have l_497 := sl_487.2 5 _ l_448 (by decide) (Or.inl rfl)
      have l_498 := sl_487.1
      obtain ⟨n_499, e_500, hr_501⟩ := iv_iload xm_86 xd_86_121 l_498 hr_491
      obtain ⟨n_502, e_503, hr_504⟩ := iv_iconst xm_86 xd_86_123 (by decide) hr_501
      rcases iv_icmp 167 xm_86 xd_86_124 (by decide) iv_479 (by unfold sv_I; omega) hr_504 with ⟨c_505, n_506, e_507, hr_508⟩ | ⟨c_505, n_506, e_507, hr_508⟩
      · have rr_509 := iv_return xm_86 xd_86_167 hr_508 rfl
        subst rr_509
        exact ⟨_, ⟨q_320, Or.inr ⟨c_341, ⟨_, _, d_410, ⟨q_433, Or.inl ⟨c_452, ⟨_, _, d_477, Or.inl ⟨c_505, ⟨rfl, rfl⟩⟩⟩⟩⟩⟩⟩⟩, rfl, (by unfold sv_I; omega), ok_480⟩
      · obtain ⟨n_510, e_511, hr_512⟩ := iv_aload_n xm_86 xd_86_127 l_492 hr_508
        obtain ⟨n_513, e_514, hr_515⟩ := iv_bipush xm_86 xd_86_128 (by decide) hr_512
        obtain ⟨n_516, e_517, hr_518⟩ := iv_sipush xm_86 xd_86_130 (by decide) hr_515
        obtain ⟨n_519, e_520, hr_521⟩ := iv_iload xm_86 xd_86_133 l_498 hr_518
        obtain ⟨n_522, e_523, hr_524⟩ := iw_iadd xm_86 xd_86_135 hr_521
        obtain ⟨n_534, r_525, e_535, hc_526, hr_536⟩ := iv_call (Or.inr ⟨rfl, rfl⟩) xm_86 xd_86_136 (by decide +kernel) xm_83 rfl (by decide +kernel) hr_524
        obtain ⟨v_527, d_528, er_529, iv_530, ok_531⟩ := ds_83 _ _ _ ok_480 (by unfold sv_I; omega) (dc_w_I _) hc_526
        obtain ⟨_, h_533⟩ := r_525
        have er_529 : _ = none := er_529
        subst er_529
        have hr_537 : ae_exe n_534 86 (136 + 3) 0 0 lv_488 _ h_533 = some r := hr_536
        obtain ⟨n_538, e_539, hr_540⟩ := iv_aload_n xm_86 xd_86_139 l_492 hr_537
        obtain ⟨n_541, e_542, hr_543⟩ := iv_sipush xm_86 xd_86_140 (by decide) hr_540
        obtain ⟨n_544, e_545, hr_546⟩ := iv_iload xm_86 xd_86_143 l_498 hr_543
        obtain ⟨n_547, e_548, hr_549⟩ := iw_iadd xm_86 xd_86_145 hr_546
        obtain ⟨n_550, e_551, hr_552⟩ := iv_bipush xm_86 xd_86_146 (by decide) hr_549
        obtain ⟨n_553, e_554, hr_555⟩ := iv_iload_n xm_86 xd_86_148 l_495 hr_552
        obtain ⟨n_556, e_557, hr_558⟩ := iw_iadd xm_86 xd_86_149 hr_555
        obtain ⟨n_568, r_559, e_569, hc_560, hr_570⟩ := iv_call (Or.inr ⟨rfl, rfl⟩) xm_86 xd_86_150 (by decide +kernel) xm_83 rfl (by decide +kernel) hr_558
        obtain ⟨v_561, d_562, er_563, iv_564, ok_565⟩ := ds_83 _ _ _ ok_531 (dc_w_I _) (dc_w_I _) hc_560
        obtain ⟨_, h_567⟩ := r_559
        have er_563 : _ = none := er_563
        subst er_563
        have hr_571 : ae_exe n_568 86 (150 + 3) 0 0 lv_488 _ h_567 = some r := hr_570
        obtain ⟨n_572, e_573, hr_574⟩ := iv_aload_n xm_86 xd_86_153 l_492 hr_571
        obtain ⟨n_575, e_576, hr_577⟩ := iv_sipush xm_86 xd_86_154 (by decide) hr_574
        obtain ⟨n_578, e_579, hr_580⟩ := iv_iload xm_86 xd_86_157 l_498 hr_577
        obtain ⟨n_581, e_582, hr_583⟩ := iw_iadd xm_86 xd_86_159 hr_580
        obtain ⟨n_584, e_585, hr_586⟩ := iv_bipush xm_86 xd_86_160 (by decide) hr_583
        obtain ⟨n_587, e_588, hr_589⟩ := iv_iload_n xm_86 xd_86_162 l_495 hr_586
        obtain ⟨n_590, e_591, hr_592⟩ := iw_iadd xm_86 xd_86_163 hr_589
        obtain ⟨n_602, r_593, e_603, hc_594, hr_604⟩ := iv_call (Or.inr ⟨rfl, rfl⟩) xm_86 xd_86_164 (by decide +kernel) xm_83 rfl (by decide +kernel) hr_592
        obtain ⟨v_595, d_596, er_597, iv_598, ok_599⟩ := ds_83 _ _ _ ok_565 (dc_w_I _) (dc_w_I _) hc_594
        obtain ⟨_, h_601⟩ := r_593
        have er_597 : _ = none := er_597
        subst er_597
        have hr_605 : ae_exe n_602 86 (164 + 3) 0 0 lv_488 _ h_601 = some r := hr_604
        have rr_606 := iv_return xm_86 xd_86_167 hr_605 rfl
        subst rr_606
        exact ⟨_, ⟨q_320, Or.inr ⟨c_341, ⟨_, _, d_410, ⟨q_433, Or.inl ⟨c_452, ⟨_, _, d_477, Or.inr ⟨c_505, ⟨_, _, d_528, ⟨_, _, d_562, ⟨_, _, d_596, ⟨rfl, rfl⟩⟩⟩⟩⟩⟩⟩⟩⟩⟩⟩, rfl, (by unfold sv_I; omega), ok_599⟩
    · obtain ⟨n_607, e_608, hr_609⟩ := iv_aload_n xm_86 xd_86_97 l_443 hr_455
      obtain ⟨n_610, e_611, hr_612⟩ := iv_bipush xm_86 xd_86_98 (by decide) hr_609
      obtain ⟨n_613, e_614, hr_615⟩ := iv_bipush xm_86 xd_86_100 (by decide) hr_612
      obtain ⟨n_616, e_617, hr_618⟩ := iv_iload_n xm_86 xd_86_102 l_446 hr_615
      obtain ⟨n_619, e_620, hr_621⟩ := iw_iadd xm_86 xd_86_103 hr_618
      obtain ⟨n_631, r_622, e_632, hc_623, hr_633⟩ := iv_call (Or.inr ⟨rfl, rfl⟩) xm_86 xd_86_104 (by decide +kernel) xm_83 rfl (by decide +kernel) hr_621
      obtain ⟨v_624, d_625, er_626, iv_627, ok_628⟩ := ds_83 _ _ _ ok_413 (by unfold sv_I; omega) (dc_w_I _) hc_623
      obtain ⟨_, h_630⟩ := r_622
      have er_626 : _ = none := er_626
      subst er_626
      have hr_634 : ae_exe n_631 86 (104 + 3) 0 0 lv_439 _ h_630 = some r := hr_633
      have rr_635 := iv_return xm_86 xd_86_107 hr_634 rfl
      subst rr_635
      exact ⟨_, ⟨q_320, Or.inr ⟨c_341, ⟨_, _, d_410, ⟨q_433, Or.inr ⟨c_452, ⟨_, _, d_625, ⟨rfl, rfl⟩⟩⟩⟩⟩⟩⟩, rfl, (by unfold sv_I; omega), ok_628⟩
/-! method 87 -/
theorem xm_87 : ae_m 87 = some (wk_M 87) := rfl
theorem xd_87_0 : decode (wk_M 87).2.2.1 0 = .ok (.bipush 65, 2) := zd_by (by decide +kernel)
theorem xd_87_2 : decode (wk_M 87).2.2.1 2 = .ok (.aload_n 1, 1) := zd_by (by decide +kernel)
theorem xd_87_3 : decode (wk_M 87).2.2.1 3 = .ok (.getfield 117, 3) := zd_by (by decide +kernel)
theorem xd_87_6 : decode (wk_M 87).2.2.1 6 = .ok (.iload_n 2, 1) := zd_by (by decide +kernel)
theorem xd_87_7 : decode (wk_M 87).2.2.1 7 = .ok (.iaload, 1) := zd_by (by decide +kernel)
theorem xd_87_8 : decode (wk_M 87).2.2.1 8 = .ok (.iadd, 1) := zd_by (by decide +kernel)
theorem xd_87_9 : decode (wk_M 87).2.2.1 9 = .ok (.iconst 1, 1) := zd_by (by decide +kernel)
theorem xd_87_10 : decode (wk_M 87).2.2.1 10 = .ok (.isub, 1) := zd_by (by decide +kernel)
theorem xd_87_11 : decode (wk_M 87).2.2.1 11 = .ok (.istore 4, 2) := zd_by (by decide +kernel)
theorem xd_87_13 : decode (wk_M 87).2.2.1 13 = .ok (.aload_n 1, 1) := zd_by (by decide +kernel)
theorem xd_87_14 : decode (wk_M 87).2.2.1 14 = .ok (.getfield 120, 3) := zd_by (by decide +kernel)
theorem xd_87_17 : decode (wk_M 87).2.2.1 17 = .ok (.iload_n 2, 1) := zd_by (by decide +kernel)
theorem xd_87_18 : decode (wk_M 87).2.2.1 18 = .ok (.iaload, 1) := zd_by (by decide +kernel)
theorem xd_87_19 : decode (wk_M 87).2.2.1 19 = .ok (.iconst 1, 1) := zd_by (by decide +kernel)
theorem xd_87_20 : decode (wk_M 87).2.2.1 20 = .ok (.isub, 1) := zd_by (by decide +kernel)
theorem xd_87_21 : decode (wk_M 87).2.2.1 21 = .ok (.istore 5, 2) := zd_by (by decide +kernel)
theorem xd_87_23 : decode (wk_M 87).2.2.1 23 = .ok (.iload 5, 2) := zd_by (by decide +kernel)
theorem xd_87_25 : decode (wk_M 87).2.2.1 25 = .ok (.ifCond .lt 102, 3) := zd_by (by decide +kernel)
theorem xd_87_28 : decode (wk_M 87).2.2.1 28 = .ok (.aload_n 0, 1) := zd_by (by decide +kernel)
theorem xd_87_29 : decode (wk_M 87).2.2.1 29 = .ok (.getfield 72, 3) := zd_by (by decide +kernel)
theorem xd_87_32 : decode (wk_M 87).2.2.1 32 = .ok (.ifCond .eq 95, 3) := zd_by (by decide +kernel)
theorem xd_87_35 : decode (wk_M 87).2.2.1 35 = .ok (.aload_n 0, 1) := zd_by (by decide +kernel)
theorem xd_87_36 : decode (wk_M 87).2.2.1 36 = .ok (.iload 4, 2) := zd_by (by decide +kernel)
theorem xd_87_38 : decode (wk_M 87).2.2.1 38 = .ok (.invokevirtual 114, 3) := zd_by (by decide +kernel)
theorem xd_87_41 : decode (wk_M 87).2.2.1 41 = .ok (.istore 6, 2) := zd_by (by decide +kernel)
theorem xd_87_43 : decode (wk_M 87).2.2.1 43 = .ok (.aload_n 0, 1) := zd_by (by decide +kernel)
theorem xd_87_44 : decode (wk_M 87).2.2.1 44 = .ok (.dup, 1) := zd_by (by decide +kernel)
theorem xd_87_45 : decode (wk_M 87).2.2.1 45 = .ok (.getfield 72, 3) := zd_by (by decide +kernel)
theorem xd_87_48 : decode (wk_M 87).2.2.1 48 = .ok (.aload_n 0, 1) := zd_by (by decide +kernel)
theorem xd_87_49 : decode (wk_M 87).2.2.1 49 = .ok (.getfield 64, 3) := zd_by (by decide +kernel)
theorem xd_87_52 : decode (wk_M 87).2.2.1 52 = .ok (.bipush 12, 2) := zd_by (by decide +kernel)
theorem xd_87_54 : decode (wk_M 87).2.2.1 54 = .ok (.if_icmp .ge 7, 3) := zd_by (by decide +kernel)
theorem xd_87_57 : decode (wk_M 87).2.2.1 57 = .ok (.iconst 1, 1) := zd_by (by decide +kernel)
theorem xd_87_58 : decode (wk_M 87).2.2.1 58 = .ok (.goto 4, 3) := zd_by (by decide +kernel)
theorem xd_87_61 : decode (wk_M 87).2.2.1 61 = .ok (.iconst 0, 1) := zd_by (by decide +kernel)
theorem xd_87_62 : decode (wk_M 87).2.2.1 62 = .ok (.iand, 1) := zd_by (by decide +kernel)
theorem xd_87_63 : decode (wk_M 87).2.2.1 63 = .ok (.putfield 72, 3) := zd_by (by decide +kernel)
theorem xd_87_66 : decode (wk_M 87).2.2.1 66 = .ok (.aload_n 0, 1) := zd_by (by decide +kernel)
theorem xd_87_67 : decode (wk_M 87).2.2.1 67 = .ok (.getfield 72, 3) := zd_by (by decide +kernel)
theorem xd_87_70 : decode (wk_M 87).2.2.1 70 = .ok (.ifCond .eq 51, 3) := zd_by (by decide +kernel)
theorem xd_87_73 : decode (wk_M 87).2.2.1 73 = .ok (.aload_n 0, 1) := zd_by (by decide +kernel)
theorem xd_87_74 : decode (wk_M 87).2.2.1 74 = .ok (.bipush 68, 2) := zd_by (by decide +kernel)
theorem xd_87_76 : decode (wk_M 87).2.2.1 76 = .ok (.iload_n 3, 1) := zd_by (by decide +kernel)
theorem xd_87_77 : decode (wk_M 87).2.2.1 77 = .ok (.bipush 6, 2) := zd_by (by decide +kernel)
theorem xd_87_79 : decode (wk_M 87).2.2.1 79 = .ok (.imul, 1) := zd_by (by decide +kernel)
theorem xd_87_80 : decode (wk_M 87).2.2.1 80 = .ok (.iadd, 1) := zd_by (by decide +kernel)
theorem xd_87_81 : decode (wk_M 87).2.2.1 81 = .ok (.iload 5, 2) := zd_by (by decide +kernel)
theorem xd_87_83 : decode (wk_M 87).2.2.1 83 = .ok (.iadd, 1) := zd_by (by decide +kernel)
theorem xd_87_84 : decode (wk_M 87).2.2.1 84 = .ok (.sipush 181, 3) := zd_by (by decide +kernel)
theorem xd_87_87 : decode (wk_M 87).2.2.1 87 = .ok (.iload 6, 2) := zd_by (by decide +kernel)
theorem xd_87_89 : decode (wk_M 87).2.2.1 89 = .ok (.iadd, 1) := zd_by (by decide +kernel)
theorem xd_87_90 : decode (wk_M 87).2.2.1 90 = .ok (.invokevirtual 91, 3) := zd_by (by decide +kernel)
theorem xd_87_93 : decode (wk_M 87).2.2.1 93 = .ok (.aload_n 0, 1) := zd_by (by decide +kernel)
theorem xd_87_94 : decode (wk_M 87).2.2.1 94 = .ok (.sipush 205, 3) := zd_by (by decide +kernel)
theorem xd_87_97 : decode (wk_M 87).2.2.1 97 = .ok (.iload 6, 2) := zd_by (by decide +kernel)
theorem xd_87_99 : decode (wk_M 87).2.2.1 99 = .ok (.iadd, 1) := zd_by (by decide +kernel)
theorem xd_87_100 : decode (wk_M 87).2.2.1 100 = .ok (.sipush 132, 3) := zd_by (by decide +kernel)
theorem xd_87_103 : decode (wk_M 87).2.2.1 103 = .ok (.aload_n 0, 1) := zd_by (by decide +kernel)
theorem xd_87_104 : decode (wk_M 87).2.2.1 104 = .ok (.getfield 64, 3) := zd_by (by decide +kernel)
theorem xd_87_107 : decode (wk_M 87).2.2.1 107 = .ok (.iadd, 1) := zd_by (by decide +kernel)
theorem xd_87_108 : decode (wk_M 87).2.2.1 108 = .ok (.invokevirtual 91, 3) := zd_by (by decide +kernel)
theorem xd_87_111 : decode (wk_M 87).2.2.1 111 = .ok (.aload_n 0, 1) := zd_by (by decide +kernel)
theorem xd_87_112 : decode (wk_M 87).2.2.1 112 = .ok (.dup, 1) := zd_by (by decide +kernel)
theorem xd_87_113 : decode (wk_M 87).2.2.1 113 = .ok (.getfield 64, 3) := zd_by (by decide +kernel)
theorem xd_87_116 : decode (wk_M 87).2.2.1 116 = .ok (.iconst 1, 1) := zd_by (by decide +kernel)
theorem xd_87_117 : decode (wk_M 87).2.2.1 117 = .ok (.iadd, 1) := zd_by (by decide +kernel)
theorem xd_87_118 : decode (wk_M 87).2.2.1 118 = .ok (.putfield 64, 3) := zd_by (by decide +kernel)
theorem xd_87_121 : decode (wk_M 87).2.2.1 121 = .ok (.iinc 5 (-1), 3) := zd_by (by decide +kernel)
theorem xd_87_124 : decode (wk_M 87).2.2.1 124 = .ok (.goto (-101), 3) := zd_by (by decide +kernel)
theorem xd_87_127 : decode (wk_M 87).2.2.1 127 = .ok (.aload_n 0, 1) := zd_by (by decide +kernel)
theorem xd_87_128 : decode (wk_M 87).2.2.1 128 = .ok (.iload 4, 2) := zd_by (by decide +kernel)
theorem xd_87_130 : decode (wk_M 87).2.2.1 130 = .ok (.sipush 128, 3) := zd_by (by decide +kernel)
theorem xd_87_133 : decode (wk_M 87).2.2.1 133 = .ok (.iload_n 3, 1) := zd_by (by decide +kernel)
theorem xd_87_134 : decode (wk_M 87).2.2.1 134 = .ok (.iadd, 1) := zd_by (by decide +kernel)
theorem xd_87_135 : decode (wk_M 87).2.2.1 135 = .ok (.invokevirtual 91, 3) := zd_by (by decide +kernel)
theorem xd_87_138 : decode (wk_M 87).2.2.1 138 = .ok (.return_, 1) := zd_by (by decide +kernel)
def LM_87 (k1 : Nat) (x1 : Int) (x2 : Int) : Nat → Nat → Int → Int → dc_M → Int → dc_M → Prop
  | 0, _, _, _, _, _, _ => False
  | c + 1, tag, l4, l5, m, v, m' => match tag with
    | _ => (((l5 : Int) < 0 ∧ (∃ v_25 m_30, D_83 l4 ((dc_w (128 + x2))) m v_25 m_30 ∧ (v = 0 ∧ m' = m_30))) ∨ (¬ ((l5 : Int) < 0) ∧ (((((m 46 9) : Int) = 0 ∧ (∃ v_65 m_70, D_83 l4 ((dc_w (128 + x2))) m v_65 m_70 ∧ (v = 0 ∧ m' = m_70))) ∨ (¬ (((m 46 9) : Int) = 0) ∧ (∃ v_85 m_90, D_88 l4 m v_85 m_90 ∧ (((((m_90 46 8) : Int) ≥ 12 ∧ (∃ m_141, m_141 = dc_up m_90 46 9 (sv_g (sv_u (m_90 46 9) &&& sv_u 0)) ∧ (((((m_141 46 9) : Int) = 0 ∧ (LM_87 k1 x1 x2 c 23 l4 (dc_w (l5 + (-1))) m_141 v m')) ∨ (¬ (((m_141 46 9) : Int) = 0) ∧ (∃ v_206 m_211, D_83 ((dc_w ((dc_w (68 + (dc_w (x2 * 6)))) + l5))) ((dc_w (181 + v_85))) m_141 v_206 m_211 ∧ (∃ v_244 m_249, D_83 ((dc_w (205 + v_85))) ((dc_w (132 + (m_211 46 8)))) m_211 v_244 m_249 ∧ (∃ m_274, m_274 = dc_up m_249 46 8 (dc_w ((m_249 46 8) + 1)) ∧ (LM_87 k1 x1 x2 c 23 l4 (dc_w (l5 + (-1))) m_274 v m'))))))))) ∨ (¬ (((m_90 46 8) : Int) ≥ 12) ∧ (∃ m_305, m_305 = dc_up m_90 46 9 (sv_g (sv_u (m_90 46 9) &&& sv_u 1)) ∧ (((((m_305 46 9) : Int) = 0 ∧ (LM_87 k1 x1 x2 c 23 l4 (dc_w (l5 + (-1))) m_305 v m')) ∨ (¬ (((m_305 46 9) : Int) = 0) ∧ (∃ v_370 m_375, D_83 ((dc_w ((dc_w (68 + (dc_w (x2 * 6)))) + l5))) ((dc_w (181 + v_85))) m_305 v_370 m_375 ∧ (∃ v_408 m_413, D_83 ((dc_w (205 + v_85))) ((dc_w (132 + (m_375 46 8)))) m_375 v_408 m_413 ∧ (∃ m_438, m_438 = dc_up m_413 46 8 (dc_w ((m_413 46 8) + 1)) ∧ (LM_87 k1 x1 x2 c 23 l4 (dc_w (l5 + (-1))) m_438 v m')))))))))))))))))
theorem lm_87_23 {k1 : Nat} {x1 : Int} {x2 : Int} {c : Nat} {l4 : Int} {l5 : Int} {m : dc_M} {v : Int} {m' : dc_M} : LM_87 k1 x1 x2 (c + 1) 23 l4 l5 m v m' ↔ (((l5 : Int) < 0 ∧ (∃ v_25 m_30, D_83 l4 ((dc_w (128 + x2))) m v_25 m_30 ∧ (v = 0 ∧ m' = m_30))) ∨ (¬ ((l5 : Int) < 0) ∧ (((((m 46 9) : Int) = 0 ∧ (∃ v_65 m_70, D_83 l4 ((dc_w (128 + x2))) m v_65 m_70 ∧ (v = 0 ∧ m' = m_70))) ∨ (¬ (((m 46 9) : Int) = 0) ∧ (∃ v_85 m_90, D_88 l4 m v_85 m_90 ∧ (((((m_90 46 8) : Int) ≥ 12 ∧ (∃ m_141, m_141 = dc_up m_90 46 9 (sv_g (sv_u (m_90 46 9) &&& sv_u 0)) ∧ (((((m_141 46 9) : Int) = 0 ∧ (LM_87 k1 x1 x2 c 23 l4 (dc_w (l5 + (-1))) m_141 v m')) ∨ (¬ (((m_141 46 9) : Int) = 0) ∧ (∃ v_206 m_211, D_83 ((dc_w ((dc_w (68 + (dc_w (x2 * 6)))) + l5))) ((dc_w (181 + v_85))) m_141 v_206 m_211 ∧ (∃ v_244 m_249, D_83 ((dc_w (205 + v_85))) ((dc_w (132 + (m_211 46 8)))) m_211 v_244 m_249 ∧ (∃ m_274, m_274 = dc_up m_249 46 8 (dc_w ((m_249 46 8) + 1)) ∧ (LM_87 k1 x1 x2 c 23 l4 (dc_w (l5 + (-1))) m_274 v m'))))))))) ∨ (¬ (((m_90 46 8) : Int) ≥ 12) ∧ (∃ m_305, m_305 = dc_up m_90 46 9 (sv_g (sv_u (m_90 46 9) &&& sv_u 1)) ∧ (((((m_305 46 9) : Int) = 0 ∧ (LM_87 k1 x1 x2 c 23 l4 (dc_w (l5 + (-1))) m_305 v m')) ∨ (¬ (((m_305 46 9) : Int) = 0) ∧ (∃ v_370 m_375, D_83 ((dc_w ((dc_w (68 + (dc_w (x2 * 6)))) + l5))) ((dc_w (181 + v_85))) m_305 v_370 m_375 ∧ (∃ v_408 m_413, D_83 ((dc_w (205 + v_85))) ((dc_w (132 + (m_375 46 8)))) m_375 v_408 m_413 ∧ (∃ m_438, m_438 = dc_up m_413 46 8 (dc_w ((m_413 46 8) + 1)) ∧ (LM_87 k1 x1 x2 c 23 l4 (dc_w (l5 + (-1))) m_438 v m'))))))))))))))))) := Iff.rfl
theorem dl_87 {k1 : Nat} {x1 : Int} {x2 : Int} (t_k1 : sv_ty k1 = some 2) (ix1 : sv_I x1) (ix2 : sv_I x2) : ∀ N : Nat, (∀ (n : Nat) (lv : ae_L) (h : ae_H) (r : ae_R) (l4 : Int) (l5 : Int), n ≤ N → dc_ok h → sv_I l4 → sv_I l5 → ae_lk lv 0 = some (wk_r 46) → ae_lk lv 1 = some (wk_r k1) → ae_lk lv 2 = some (wk_i x1) → ae_lk lv 3 = some (wk_i x2) → ae_lk lv 4 = some (wk_i l4) → ae_lk lv 5 = some (wk_i l5) → ae_exe n 87 23 0 0 lv [] h = some r → ∃ v, (∃ c, LM_87 k1 x1 x2 c 23 l4 l5 (dc_m h) v (dc_m r.2)) ∧ r.1 = none ∧ sv_I v ∧ dc_ok r.2) := by
  intro N
  induction N with
  | zero =>
    exact fun n lv h r l4 l5 hn ok il4 il5 q0 q1 q2 q3 q4 q5 hr => by
      have e : n = 0 := by omega
      subst e
      cases hr
  | succ N ih =>
    have ih0 := ih
    intro n lv h r l4 l5 hn ok il4 il5 q0 q1 q2 q3 q4 q5 hr
    obtain ⟨n_1, e_2, hr_3⟩ := iv_iload xm_87 xd_87_23 q5 hr
    rcases iv_if 127 xm_87 xd_87_25 (by decide) il5 hr_3 with ⟨c_4, n_5, e_6, hr_7⟩ | ⟨c_4, n_5, e_6, hr_7⟩
    · obtain ⟨n_8, e_9, hr_10⟩ := iv_aload_n xm_87 xd_87_127 q0 hr_7
      obtain ⟨n_11, e_12, hr_13⟩ := iv_iload xm_87 xd_87_128 q4 hr_10
      obtain ⟨n_14, e_15, hr_16⟩ := iv_sipush xm_87 xd_87_130 (by decide) hr_13
      obtain ⟨n_17, e_18, hr_19⟩ := iv_iload_n xm_87 xd_87_133 q3 hr_16
      obtain ⟨n_20, e_21, hr_22⟩ := iw_iadd xm_87 xd_87_134 hr_19
      obtain ⟨n_32, r_23, e_33, hc_24, hr_34⟩ := iv_call (Or.inr ⟨rfl, rfl⟩) xm_87 xd_87_135 (by decide +kernel) xm_83 rfl (by decide +kernel) hr_22
      obtain ⟨v_25, d_26, er_27, iv_28, ok_29⟩ := ds_83 _ _ _ ok il4 (dc_w_I _) hc_24
      obtain ⟨_, h_31⟩ := r_23
      have er_27 : _ = none := er_27
      subst er_27
      have hr_35 : ae_exe n_32 87 (135 + 3) 0 0 lv _ h_31 = some r := hr_34
      have rr_36 := iv_return xm_87 xd_87_138 hr_35 rfl
      subst rr_36
      exact ⟨_, ⟨0 + 1, lm_87_23.mpr (Or.inl ⟨c_4, ⟨_, _, d_26, ⟨rfl, rfl⟩⟩⟩)⟩, rfl, (by unfold sv_I; omega), ok_29⟩
    · obtain ⟨n_37, e_38, hr_39⟩ := iv_aload_n xm_87 xd_87_28 q0 hr_7
      have f_40 := dc_fi (j := 9) ok (rfl : sv_ty 46 = some 6) dt_6 rfl
      obtain ⟨n_41, e_42, hr_43⟩ := iv_getf (j := 9) xm_87 xd_87_29 (by decide +kernel) ok (rfl : sv_ty 46 = some 6) dt_6 f_40.1 hr_39
      rcases iv_if 127 xm_87 xd_87_32 (by decide) f_40.2 hr_43 with ⟨c_44, n_45, e_46, hr_47⟩ | ⟨c_44, n_45, e_46, hr_47⟩
      · obtain ⟨n_48, e_49, hr_50⟩ := iv_aload_n xm_87 xd_87_127 q0 hr_47
        obtain ⟨n_51, e_52, hr_53⟩ := iv_iload xm_87 xd_87_128 q4 hr_50
        obtain ⟨n_54, e_55, hr_56⟩ := iv_sipush xm_87 xd_87_130 (by decide) hr_53
        obtain ⟨n_57, e_58, hr_59⟩ := iv_iload_n xm_87 xd_87_133 q3 hr_56
        obtain ⟨n_60, e_61, hr_62⟩ := iw_iadd xm_87 xd_87_134 hr_59
        obtain ⟨n_72, r_63, e_73, hc_64, hr_74⟩ := iv_call (Or.inr ⟨rfl, rfl⟩) xm_87 xd_87_135 (by decide +kernel) xm_83 rfl (by decide +kernel) hr_62
        obtain ⟨v_65, d_66, er_67, iv_68, ok_69⟩ := ds_83 _ _ _ ok il4 (dc_w_I _) hc_64
        obtain ⟨_, h_71⟩ := r_63
        have er_67 : _ = none := er_67
        subst er_67
        have hr_75 : ae_exe n_72 87 (135 + 3) 0 0 lv _ h_71 = some r := hr_74
        have rr_76 := iv_return xm_87 xd_87_138 hr_75 rfl
        subst rr_76
        exact ⟨_, ⟨0 + 1, lm_87_23.mpr (Or.inr ⟨c_4, Or.inl ⟨c_44, ⟨_, _, d_66, ⟨rfl, rfl⟩⟩⟩⟩)⟩, rfl, (by unfold sv_I; omega), ok_69⟩
      · obtain ⟨n_77, e_78, hr_79⟩ := iv_aload_n xm_87 xd_87_35 q0 hr_47
        obtain ⟨n_80, e_81, hr_82⟩ := iv_iload xm_87 xd_87_36 q4 hr_79
        obtain ⟨n_92, r_83, e_93, hc_84, hr_94⟩ := iv_call (Or.inr ⟨rfl, rfl⟩) xm_87 xd_87_38 (by decide +kernel) xm_88 rfl (by decide +kernel) hr_82
        obtain ⟨v_85, d_86, er_87, iv_88, ok_89⟩ := ds_88 _ _ ok il4 hc_84
        obtain ⟨_, h_91⟩ := r_83
        have er_87 : _ = some (wk_i v_85) := er_87
        subst er_87
        have hr_95 : ae_exe n_92 87 (38 + 3) 0 0 lv _ h_91 = some r := hr_94
        obtain ⟨lv_97, sl_96, n_98, e_99, hr_100⟩ := iv_istore xm_87 xd_87_41 (by decide +kernel) hr_95
        have l_101 := sl_96.2 0 _ q0 (by decide) (Or.inl rfl)
        have l_102 := sl_96.2 1 _ q1 (by decide) (Or.inl rfl)
        have l_103 := sl_96.2 2 _ q2 (by decide) (Or.inl rfl)
        have l_104 := sl_96.2 3 _ q3 (by decide) (Or.inl rfl)
        have l_105 := sl_96.2 4 _ q4 (by decide) (Or.inl rfl)
        have l_106 := sl_96.2 5 _ q5 (by decide) (Or.inl rfl)
        have l_107 := sl_96.1
        obtain ⟨n_108, e_109, hr_110⟩ := iv_aload_n xm_87 xd_87_43 l_101 hr_100
        obtain ⟨n_111, e_112, hr_113⟩ := iv_dup xm_87 xd_87_44 rfl hr_110
        have f_114 := dc_fi (j := 9) ok_89 (rfl : sv_ty 46 = some 6) dt_6 rfl
        obtain ⟨n_115, e_116, hr_117⟩ := iv_getf (j := 9) xm_87 xd_87_45 (by decide +kernel) ok_89 (rfl : sv_ty 46 = some 6) dt_6 f_114.1 hr_113
        obtain ⟨n_118, e_119, hr_120⟩ := iv_aload_n xm_87 xd_87_48 l_101 hr_117
        have f_121 := dc_fi (j := 8) ok_89 (rfl : sv_ty 46 = some 6) dt_6 rfl
        obtain ⟨n_122, e_123, hr_124⟩ := iv_getf (j := 8) xm_87 xd_87_49 (by decide +kernel) ok_89 (rfl : sv_ty 46 = some 6) dt_6 f_121.1 hr_120
        obtain ⟨n_125, e_126, hr_127⟩ := iv_bipush xm_87 xd_87_52 (by decide) hr_124
        rcases iv_icmp 61 xm_87 xd_87_54 (by decide) f_121.2 (by unfold sv_I; omega) hr_127 with ⟨c_128, n_129, e_130, hr_131⟩ | ⟨c_128, n_129, e_130, hr_131⟩
        · obtain ⟨n_132, e_133, hr_134⟩ := iv_iconst xm_87 xd_87_61 (by decide) hr_131
          obtain ⟨n_135, e_136, hr_137⟩ := iv_iand xm_87 xd_87_62 hr_134
          obtain ⟨h_138, ok_139, em_140, n_142, e_143, hr_144⟩ := iv_puti (j := 9) (fk := 1) xm_87 xd_87_63 (by decide +kernel) ok_89 (rfl : sv_ty 46 = some 6) dt_6 rfl (by decide +kernel) rfl (sv_g_I (Nat.lt_of_le_of_lt Nat.and_le_right (sv_u_lt _))) hr_137
          obtain ⟨n_145, e_146, hr_147⟩ := iv_aload_n xm_87 xd_87_66 l_101 hr_144
          have f_148 := dc_fi (j := 9) ok_139 (rfl : sv_ty 46 = some 6) dt_6 rfl
          obtain ⟨n_149, e_150, hr_151⟩ := iv_getf (j := 9) xm_87 xd_87_67 (by decide +kernel) ok_139 (rfl : sv_ty 46 = some 6) dt_6 f_148.1 hr_147
          rcases iv_if 121 xm_87 xd_87_70 (by decide) f_148.2 hr_151 with ⟨c_152, n_153, e_154, hr_155⟩ | ⟨c_152, n_153, e_154, hr_155⟩
          · obtain ⟨lv_157, sl_156, n_158, e_159, hr_160⟩ := iw_iinc xm_87 xd_87_121 (by decide +kernel) (by decide) l_106 hr_155
            have l_161 := sl_156.2 0 _ l_101 (by decide) (Or.inl rfl)
            have l_162 := sl_156.2 1 _ l_102 (by decide) (Or.inl rfl)
            have l_163 := sl_156.2 2 _ l_103 (by decide) (Or.inl rfl)
            have l_164 := sl_156.2 3 _ l_104 (by decide) (Or.inl rfl)
            have l_165 := sl_156.2 4 _ l_105 (by decide) (Or.inl rfl)
            have l_166 := sl_156.2 6 _ l_107 (by decide) (Or.inl rfl)
            have l_167 := sl_156.1
            obtain ⟨n_168, e_169, hr_170⟩ := iv_goto 23 xm_87 xd_87_124 (by decide) hr_160
            obtain ⟨v, ⟨c, hL⟩, e1, e2, e3⟩ := ih0 _ lv_157 h_138 _ _ _ (by omega) ok_139 il4 (dc_w_I _) l_161 l_162 l_163 l_164 l_165 l_167 hr_170
            exact ⟨v, ⟨c + 1, lm_87_23.mpr (Or.inr ⟨c_4, Or.inr ⟨c_44, ⟨_, _, d_86, Or.inl ⟨c_128, ⟨_, em_140, Or.inl ⟨c_152, hL⟩⟩⟩⟩⟩⟩)⟩, e1, e2, e3⟩
          · obtain ⟨n_171, e_172, hr_173⟩ := iv_aload_n xm_87 xd_87_73 l_101 hr_155
            obtain ⟨n_174, e_175, hr_176⟩ := iv_bipush xm_87 xd_87_74 (by decide) hr_173
            obtain ⟨n_177, e_178, hr_179⟩ := iv_iload_n xm_87 xd_87_76 l_104 hr_176
            obtain ⟨n_180, e_181, hr_182⟩ := iv_bipush xm_87 xd_87_77 (by decide) hr_179
            obtain ⟨n_183, e_184, hr_185⟩ := iw_imul xm_87 xd_87_79 hr_182
            obtain ⟨n_186, e_187, hr_188⟩ := iw_iadd xm_87 xd_87_80 hr_185
            obtain ⟨n_189, e_190, hr_191⟩ := iv_iload xm_87 xd_87_81 l_106 hr_188
            obtain ⟨n_192, e_193, hr_194⟩ := iw_iadd xm_87 xd_87_83 hr_191
            obtain ⟨n_195, e_196, hr_197⟩ := iv_sipush xm_87 xd_87_84 (by decide) hr_194
            obtain ⟨n_198, e_199, hr_200⟩ := iv_iload xm_87 xd_87_87 l_107 hr_197
            obtain ⟨n_201, e_202, hr_203⟩ := iw_iadd xm_87 xd_87_89 hr_200
            obtain ⟨n_213, r_204, e_214, hc_205, hr_215⟩ := iv_call (Or.inr ⟨rfl, rfl⟩) xm_87 xd_87_90 (by decide +kernel) xm_83 rfl (by decide +kernel) hr_203
            obtain ⟨v_206, d_207, er_208, iv_209, ok_210⟩ := ds_83 _ _ _ ok_139 (dc_w_I _) (dc_w_I _) hc_205
            obtain ⟨_, h_212⟩ := r_204
            have er_208 : _ = none := er_208
            subst er_208
            have hr_216 : ae_exe n_213 87 (90 + 3) 0 0 lv_97 _ h_212 = some r := hr_215
            obtain ⟨n_217, e_218, hr_219⟩ := iv_aload_n xm_87 xd_87_93 l_101 hr_216
            obtain ⟨n_220, e_221, hr_222⟩ := iv_sipush xm_87 xd_87_94 (by decide) hr_219
            obtain ⟨n_223, e_224, hr_225⟩ := iv_iload xm_87 xd_87_97 l_107 hr_222
            obtain ⟨n_226, e_227, hr_228⟩ := iw_iadd xm_87 xd_87_99 hr_225
            obtain ⟨n_229, e_230, hr_231⟩ := iv_sipush xm_87 xd_87_100 (by decide) hr_228
            obtain ⟨n_232, e_233, hr_234⟩ := iv_aload_n xm_87 xd_87_103 l_101 hr_231
            have f_235 := dc_fi (j := 8) ok_210 (rfl : sv_ty 46 = some 6) dt_6 rfl
            obtain ⟨n_236, e_237, hr_238⟩ := iv_getf (j := 8) xm_87 xd_87_104 (by decide +kernel) ok_210 (rfl : sv_ty 46 = some 6) dt_6 f_235.1 hr_234
            obtain ⟨n_239, e_240, hr_241⟩ := iw_iadd xm_87 xd_87_107 hr_238
            obtain ⟨n_251, r_242, e_252, hc_243, hr_253⟩ := iv_call (Or.inr ⟨rfl, rfl⟩) xm_87 xd_87_108 (by decide +kernel) xm_83 rfl (by decide +kernel) hr_241
            obtain ⟨v_244, d_245, er_246, iv_247, ok_248⟩ := ds_83 _ _ _ ok_210 (dc_w_I _) (dc_w_I _) hc_243
            obtain ⟨_, h_250⟩ := r_242
            have er_246 : _ = none := er_246
            subst er_246
            have hr_254 : ae_exe n_251 87 (108 + 3) 0 0 lv_97 _ h_250 = some r := hr_253
            obtain ⟨n_255, e_256, hr_257⟩ := iv_aload_n xm_87 xd_87_111 l_101 hr_254
            obtain ⟨n_258, e_259, hr_260⟩ := iv_dup xm_87 xd_87_112 rfl hr_257
            have f_261 := dc_fi (j := 8) ok_248 (rfl : sv_ty 46 = some 6) dt_6 rfl
            obtain ⟨n_262, e_263, hr_264⟩ := iv_getf (j := 8) xm_87 xd_87_113 (by decide +kernel) ok_248 (rfl : sv_ty 46 = some 6) dt_6 f_261.1 hr_260
            obtain ⟨n_265, e_266, hr_267⟩ := iv_iconst xm_87 xd_87_116 (by decide) hr_264
            obtain ⟨n_268, e_269, hr_270⟩ := iw_iadd xm_87 xd_87_117 hr_267
            obtain ⟨h_271, ok_272, em_273, n_275, e_276, hr_277⟩ := iv_puti (j := 8) (fk := 0) xm_87 xd_87_118 (by decide +kernel) ok_248 (rfl : sv_ty 46 = some 6) dt_6 rfl (by decide +kernel) rfl (dc_w_I _) hr_270
            obtain ⟨lv_279, sl_278, n_280, e_281, hr_282⟩ := iw_iinc xm_87 xd_87_121 (by decide +kernel) (by decide) l_106 hr_277
            have l_283 := sl_278.2 0 _ l_101 (by decide) (Or.inl rfl)
            have l_284 := sl_278.2 1 _ l_102 (by decide) (Or.inl rfl)
            have l_285 := sl_278.2 2 _ l_103 (by decide) (Or.inl rfl)
            have l_286 := sl_278.2 3 _ l_104 (by decide) (Or.inl rfl)
            have l_287 := sl_278.2 4 _ l_105 (by decide) (Or.inl rfl)
            have l_288 := sl_278.2 6 _ l_107 (by decide) (Or.inl rfl)
            have l_289 := sl_278.1
            obtain ⟨n_290, e_291, hr_292⟩ := iv_goto 23 xm_87 xd_87_124 (by decide) hr_282
            obtain ⟨v, ⟨c, hL⟩, e1, e2, e3⟩ := ih0 _ lv_279 h_271 _ _ _ (by omega) ok_272 il4 (dc_w_I _) l_283 l_284 l_285 l_286 l_287 l_289 hr_292
            exact ⟨v, ⟨c + 1, lm_87_23.mpr (Or.inr ⟨c_4, Or.inr ⟨c_44, ⟨_, _, d_86, Or.inl ⟨c_128, ⟨_, em_140, Or.inr ⟨c_152, ⟨_, _, d_207, ⟨_, _, d_245, ⟨_, em_273, hL⟩⟩⟩⟩⟩⟩⟩⟩⟩)⟩, e1, e2, e3⟩
        · obtain ⟨n_293, e_294, hr_295⟩ := iv_iconst xm_87 xd_87_57 (by decide) hr_131
          obtain ⟨n_296, e_297, hr_298⟩ := iv_goto 62 xm_87 xd_87_58 (by decide) hr_295
          obtain ⟨n_299, e_300, hr_301⟩ := iv_iand xm_87 xd_87_62 hr_298
          obtain ⟨h_302, ok_303, em_304, n_306, e_307, hr_308⟩ := iv_puti (j := 9) (fk := 1) xm_87 xd_87_63 (by decide +kernel) ok_89 (rfl : sv_ty 46 = some 6) dt_6 rfl (by decide +kernel) rfl (sv_g_I (Nat.lt_of_le_of_lt Nat.and_le_right (sv_u_lt _))) hr_301
          obtain ⟨n_309, e_310, hr_311⟩ := iv_aload_n xm_87 xd_87_66 l_101 hr_308
          have f_312 := dc_fi (j := 9) ok_303 (rfl : sv_ty 46 = some 6) dt_6 rfl
          obtain ⟨n_313, e_314, hr_315⟩ := iv_getf (j := 9) xm_87 xd_87_67 (by decide +kernel) ok_303 (rfl : sv_ty 46 = some 6) dt_6 f_312.1 hr_311
          rcases iv_if 121 xm_87 xd_87_70 (by decide) f_312.2 hr_315 with ⟨c_316, n_317, e_318, hr_319⟩ | ⟨c_316, n_317, e_318, hr_319⟩
          · obtain ⟨lv_321, sl_320, n_322, e_323, hr_324⟩ := iw_iinc xm_87 xd_87_121 (by decide +kernel) (by decide) l_106 hr_319
            have l_325 := sl_320.2 0 _ l_101 (by decide) (Or.inl rfl)
            have l_326 := sl_320.2 1 _ l_102 (by decide) (Or.inl rfl)
            have l_327 := sl_320.2 2 _ l_103 (by decide) (Or.inl rfl)
            have l_328 := sl_320.2 3 _ l_104 (by decide) (Or.inl rfl)
            have l_329 := sl_320.2 4 _ l_105 (by decide) (Or.inl rfl)
            have l_330 := sl_320.2 6 _ l_107 (by decide) (Or.inl rfl)
            have l_331 := sl_320.1
            obtain ⟨n_332, e_333, hr_334⟩ := iv_goto 23 xm_87 xd_87_124 (by decide) hr_324
            obtain ⟨v, ⟨c, hL⟩, e1, e2, e3⟩ := ih0 _ lv_321 h_302 _ _ _ (by omega) ok_303 il4 (dc_w_I _) l_325 l_326 l_327 l_328 l_329 l_331 hr_334
            exact ⟨v, ⟨c + 1, lm_87_23.mpr (Or.inr ⟨c_4, Or.inr ⟨c_44, ⟨_, _, d_86, Or.inr ⟨c_128, ⟨_, em_304, Or.inl ⟨c_316, hL⟩⟩⟩⟩⟩⟩)⟩, e1, e2, e3⟩
          · obtain ⟨n_335, e_336, hr_337⟩ := iv_aload_n xm_87 xd_87_73 l_101 hr_319
            obtain ⟨n_338, e_339, hr_340⟩ := iv_bipush xm_87 xd_87_74 (by decide) hr_337
            obtain ⟨n_341, e_342, hr_343⟩ := iv_iload_n xm_87 xd_87_76 l_104 hr_340
            obtain ⟨n_344, e_345, hr_346⟩ := iv_bipush xm_87 xd_87_77 (by decide) hr_343
            obtain ⟨n_347, e_348, hr_349⟩ := iw_imul xm_87 xd_87_79 hr_346
            obtain ⟨n_350, e_351, hr_352⟩ := iw_iadd xm_87 xd_87_80 hr_349
            obtain ⟨n_353, e_354, hr_355⟩ := iv_iload xm_87 xd_87_81 l_106 hr_352
            obtain ⟨n_356, e_357, hr_358⟩ := iw_iadd xm_87 xd_87_83 hr_355
            obtain ⟨n_359, e_360, hr_361⟩ := iv_sipush xm_87 xd_87_84 (by decide) hr_358
            obtain ⟨n_362, e_363, hr_364⟩ := iv_iload xm_87 xd_87_87 l_107 hr_361
            obtain ⟨n_365, e_366, hr_367⟩ := iw_iadd xm_87 xd_87_89 hr_364
            obtain ⟨n_377, r_368, e_378, hc_369, hr_379⟩ := iv_call (Or.inr ⟨rfl, rfl⟩) xm_87 xd_87_90 (by decide +kernel) xm_83 rfl (by decide +kernel) hr_367
            obtain ⟨v_370, d_371, er_372, iv_373, ok_374⟩ := ds_83 _ _ _ ok_303 (dc_w_I _) (dc_w_I _) hc_369
            obtain ⟨_, h_376⟩ := r_368
            have er_372 : _ = none := er_372
            subst er_372
            have hr_380 : ae_exe n_377 87 (90 + 3) 0 0 lv_97 _ h_376 = some r := hr_379
            obtain ⟨n_381, e_382, hr_383⟩ := iv_aload_n xm_87 xd_87_93 l_101 hr_380
            obtain ⟨n_384, e_385, hr_386⟩ := iv_sipush xm_87 xd_87_94 (by decide) hr_383
            obtain ⟨n_387, e_388, hr_389⟩ := iv_iload xm_87 xd_87_97 l_107 hr_386
            obtain ⟨n_390, e_391, hr_392⟩ := iw_iadd xm_87 xd_87_99 hr_389
            obtain ⟨n_393, e_394, hr_395⟩ := iv_sipush xm_87 xd_87_100 (by decide) hr_392
            obtain ⟨n_396, e_397, hr_398⟩ := iv_aload_n xm_87 xd_87_103 l_101 hr_395
            have f_399 := dc_fi (j := 8) ok_374 (rfl : sv_ty 46 = some 6) dt_6 rfl
            obtain ⟨n_400, e_401, hr_402⟩ := iv_getf (j := 8) xm_87 xd_87_104 (by decide +kernel) ok_374 (rfl : sv_ty 46 = some 6) dt_6 f_399.1 hr_398
            obtain ⟨n_403, e_404, hr_405⟩ := iw_iadd xm_87 xd_87_107 hr_402
            obtain ⟨n_415, r_406, e_416, hc_407, hr_417⟩ := iv_call (Or.inr ⟨rfl, rfl⟩) xm_87 xd_87_108 (by decide +kernel) xm_83 rfl (by decide +kernel) hr_405
            obtain ⟨v_408, d_409, er_410, iv_411, ok_412⟩ := ds_83 _ _ _ ok_374 (dc_w_I _) (dc_w_I _) hc_407
            obtain ⟨_, h_414⟩ := r_406
            have er_410 : _ = none := er_410
            subst er_410
            have hr_418 : ae_exe n_415 87 (108 + 3) 0 0 lv_97 _ h_414 = some r := hr_417
            obtain ⟨n_419, e_420, hr_421⟩ := iv_aload_n xm_87 xd_87_111 l_101 hr_418
            obtain ⟨n_422, e_423, hr_424⟩ := iv_dup xm_87 xd_87_112 rfl hr_421
            have f_425 := dc_fi (j := 8) ok_412 (rfl : sv_ty 46 = some 6) dt_6 rfl
            obtain ⟨n_426, e_427, hr_428⟩ := iv_getf (j := 8) xm_87 xd_87_113 (by decide +kernel) ok_412 (rfl : sv_ty 46 = some 6) dt_6 f_425.1 hr_424
            obtain ⟨n_429, e_430, hr_431⟩ := iv_iconst xm_87 xd_87_116 (by decide) hr_428
            obtain ⟨n_432, e_433, hr_434⟩ := iw_iadd xm_87 xd_87_117 hr_431
            obtain ⟨h_435, ok_436, em_437, n_439, e_440, hr_441⟩ := iv_puti (j := 8) (fk := 0) xm_87 xd_87_118 (by decide +kernel) ok_412 (rfl : sv_ty 46 = some 6) dt_6 rfl (by decide +kernel) rfl (dc_w_I _) hr_434
            obtain ⟨lv_443, sl_442, n_444, e_445, hr_446⟩ := iw_iinc xm_87 xd_87_121 (by decide +kernel) (by decide) l_106 hr_441
            have l_447 := sl_442.2 0 _ l_101 (by decide) (Or.inl rfl)
            have l_448 := sl_442.2 1 _ l_102 (by decide) (Or.inl rfl)
            have l_449 := sl_442.2 2 _ l_103 (by decide) (Or.inl rfl)
            have l_450 := sl_442.2 3 _ l_104 (by decide) (Or.inl rfl)
            have l_451 := sl_442.2 4 _ l_105 (by decide) (Or.inl rfl)
            have l_452 := sl_442.2 6 _ l_107 (by decide) (Or.inl rfl)
            have l_453 := sl_442.1
            obtain ⟨n_454, e_455, hr_456⟩ := iv_goto 23 xm_87 xd_87_124 (by decide) hr_446
            obtain ⟨v, ⟨c, hL⟩, e1, e2, e3⟩ := ih0 _ lv_443 h_435 _ _ _ (by omega) ok_436 il4 (dc_w_I _) l_447 l_448 l_449 l_450 l_451 l_453 hr_456
            exact ⟨v, ⟨c + 1, lm_87_23.mpr (Or.inr ⟨c_4, Or.inr ⟨c_44, ⟨_, _, d_86, Or.inr ⟨c_128, ⟨_, em_304, Or.inr ⟨c_316, ⟨_, _, d_371, ⟨_, _, d_409, ⟨_, em_437, hL⟩⟩⟩⟩⟩⟩⟩⟩⟩)⟩, e1, e2, e3⟩
abbrev D_87 (k1 : Nat) (x1 : Int) (x2 : Int) (m : dc_M) (v : Int) (m' : dc_M) : Prop := (0 ≤ (x1 : Int) ∧ (x1 : Int) < 8) ∧ ((0 ≤ (x1 : Int) ∧ (x1 : Int) < 8) ∧ (∃ c, LM_87 k1 x1 x2 c 23 (dc_w ((dc_w (65 + (m (k1 + 7) x1))) - 1)) (dc_w ((m (k1 + 6) x1) - 1)) m v m'))
theorem ds_87 (n : Nat) (k1 : Nat) (x1 : Int) (x2 : Int) {h : ae_H} {r : ae_R} (ok : dc_ok h) (t_k1 : sv_ty k1 = some 2) (ix1 : sv_I x1) (ix2 : sv_I x2) (hr : ae_exe n 87 0 0 0 (ae_args [wk_r 46, wk_r k1, wk_i x1, wk_i x2] 0) [] h = some r) : ∃ v, D_87 k1 x1 x2 (dc_m h) v (dc_m r.2) ∧ r.1 = none ∧ sv_I v ∧ dc_ok r.2 := by
  have q0 : ae_lk (ae_args [wk_r 46, wk_r k1, wk_i x1, wk_i x2] 0) 0 = some (wk_r 46) := rfl
  have q1 : ae_lk (ae_args [wk_r 46, wk_r k1, wk_i x1, wk_i x2] 0) 1 = some (wk_r k1) := rfl
  have q2 : ae_lk (ae_args [wk_r 46, wk_r k1, wk_i x1, wk_i x2] 0) 2 = some (wk_i x1) := rfl
  have q3 : ae_lk (ae_args [wk_r 46, wk_r k1, wk_i x1, wk_i x2] 0) 3 = some (wk_i x2) := rfl
  obtain ⟨n_457, e_458, hr_459⟩ := iv_bipush xm_87 xd_87_0 (by decide) hr
  obtain ⟨n_460, e_461, hr_462⟩ := iv_aload_n xm_87 xd_87_2 q1 hr_459
  have f_463 := dc_fr (j := 7) ok t_k1 dt_2 rfl
  obtain ⟨n_464, e_465, hr_466⟩ := iv_getf (j := 7) xm_87 xd_87_3 (by decide +kernel) ok t_k1 dt_2 f_463 hr_462
  obtain ⟨n_467, e_468, hr_469⟩ := iv_iload_n xm_87 xd_87_6 q2 hr_466
  obtain ⟨q_470, qi_471, n_472, e_473, hr_474⟩ := iv_iald xm_87 xd_87_7 ok (do_2_7 t_k1) dt_46 (by decide) ix1 hr_469
  obtain ⟨n_475, e_476, hr_477⟩ := iw_iadd xm_87 xd_87_8 hr_474
  obtain ⟨n_478, e_479, hr_480⟩ := iv_iconst xm_87 xd_87_9 (by decide) hr_477
  obtain ⟨n_481, e_482, hr_483⟩ := iw_isub xm_87 xd_87_10 hr_480
  obtain ⟨lv_485, sl_484, n_486, e_487, hr_488⟩ := iv_istore xm_87 xd_87_11 (by decide +kernel) hr_483
  have l_489 := sl_484.2 0 _ q0 (by decide) (Or.inl rfl)
  have l_490 := sl_484.2 1 _ q1 (by decide) (Or.inl rfl)
  have l_491 := sl_484.2 2 _ q2 (by decide) (Or.inl rfl)
  have l_492 := sl_484.2 3 _ q3 (by decide) (Or.inl rfl)
  have l_493 := sl_484.1
  obtain ⟨n_494, e_495, hr_496⟩ := iv_aload_n xm_87 xd_87_13 l_490 hr_488
  have f_497 := dc_fr (j := 6) ok t_k1 dt_2 rfl
  obtain ⟨n_498, e_499, hr_500⟩ := iv_getf (j := 6) xm_87 xd_87_14 (by decide +kernel) ok t_k1 dt_2 f_497 hr_496
  obtain ⟨n_501, e_502, hr_503⟩ := iv_iload_n xm_87 xd_87_17 l_491 hr_500
  obtain ⟨q_504, qi_505, n_506, e_507, hr_508⟩ := iv_iald xm_87 xd_87_18 ok (do_2_6 t_k1) dt_45 (by decide) ix1 hr_503
  obtain ⟨n_509, e_510, hr_511⟩ := iv_iconst xm_87 xd_87_19 (by decide) hr_508
  obtain ⟨n_512, e_513, hr_514⟩ := iw_isub xm_87 xd_87_20 hr_511
  obtain ⟨lv_516, sl_515, n_517, e_518, hr_519⟩ := iv_istore xm_87 xd_87_21 (by decide +kernel) hr_514
  have l_520 := sl_515.2 0 _ l_489 (by decide) (Or.inl rfl)
  have l_521 := sl_515.2 1 _ l_490 (by decide) (Or.inl rfl)
  have l_522 := sl_515.2 2 _ l_491 (by decide) (Or.inl rfl)
  have l_523 := sl_515.2 3 _ l_492 (by decide) (Or.inl rfl)
  have l_524 := sl_515.2 4 _ l_493 (by decide) (Or.inl rfl)
  have l_525 := sl_515.1
  obtain ⟨v, ⟨c, hL⟩, e1, e2, e3⟩ := (dl_87 t_k1 ix1 ix2 _) _ lv_516 h _ _ _ (Nat.le_refl _) ok (dc_w_I _) (dc_w_I _) l_520 l_521 l_522 l_523 l_524 l_525 hr_519
  exact ⟨v, ⟨q_470, ⟨q_504, ⟨_, hL⟩⟩⟩, e1, e2, e3⟩
/-! method 85 -/
theorem xm_85 : ae_m 85 = some (wk_M 85) := rfl
theorem xd_85_0 : decode (wk_M 85).2.2.1 0 = .ok (.iconst 0, 1) := zd_by (by decide +kernel)
theorem xd_85_1 : decode (wk_M 85).2.2.1 1 = .ok (.istore 4, 2) := zd_by (by decide +kernel)
theorem xd_85_3 : decode (wk_M 85).2.2.1 3 = .ok (.iconst 0, 1) := zd_by (by decide +kernel)
theorem xd_85_4 : decode (wk_M 85).2.2.1 4 = .ok (.istore 5, 2) := zd_by (by decide +kernel)
theorem xd_85_6 : decode (wk_M 85).2.2.1 6 = .ok (.iload 5, 2) := zd_by (by decide +kernel)
theorem xd_85_8 : decode (wk_M 85).2.2.1 8 = .ok (.aload_n 1, 1) := zd_by (by decide +kernel)
theorem xd_85_9 : decode (wk_M 85).2.2.1 9 = .ok (.getfield 47, 3) := zd_by (by decide +kernel)
theorem xd_85_12 : decode (wk_M 85).2.2.1 12 = .ok (.if_icmp .ge 53, 3) := zd_by (by decide +kernel)
theorem xd_85_15 : decode (wk_M 85).2.2.1 15 = .ok (.aload_n 0, 1) := zd_by (by decide +kernel)
theorem xd_85_16 : decode (wk_M 85).2.2.1 16 = .ok (.getfield 72, 3) := zd_by (by decide +kernel)
theorem xd_85_19 : decode (wk_M 85).2.2.1 19 = .ok (.ifCond .eq 46, 3) := zd_by (by decide +kernel)
theorem xd_85_22 : decode (wk_M 85).2.2.1 22 = .ok (.iload_n 2, 1) := zd_by (by decide +kernel)
theorem xd_85_23 : decode (wk_M 85).2.2.1 23 = .ok (.iload 5, 2) := zd_by (by decide +kernel)
theorem xd_85_25 : decode (wk_M 85).2.2.1 25 = .ok (.ishr, 1) := zd_by (by decide +kernel)
theorem xd_85_26 : decode (wk_M 85).2.2.1 26 = .ok (.iconst 1, 1) := zd_by (by decide +kernel)
theorem xd_85_27 : decode (wk_M 85).2.2.1 27 = .ok (.iand, 1) := zd_by (by decide +kernel)
theorem xd_85_28 : decode (wk_M 85).2.2.1 28 = .ok (.ifCond .eq 31, 3) := zd_by (by decide +kernel)
theorem xd_85_31 : decode (wk_M 85).2.2.1 31 = .ok (.iload_n 3, 1) := zd_by (by decide +kernel)
theorem xd_85_32 : decode (wk_M 85).2.2.1 32 = .ok (.ifCond .eq 15, 3) := zd_by (by decide +kernel)
theorem xd_85_35 : decode (wk_M 85).2.2.1 35 = .ok (.aload_n 0, 1) := zd_by (by decide +kernel)
theorem xd_85_36 : decode (wk_M 85).2.2.1 36 = .ok (.aload_n 1, 1) := zd_by (by decide +kernel)
theorem xd_85_37 : decode (wk_M 85).2.2.1 37 = .ok (.iload 5, 2) := zd_by (by decide +kernel)
theorem xd_85_39 : decode (wk_M 85).2.2.1 39 = .ok (.iload 4, 2) := zd_by (by decide +kernel)
theorem xd_85_41 : decode (wk_M 85).2.2.1 41 = .ok (.invokevirtual 95, 3) := zd_by (by decide +kernel)
theorem xd_85_44 : decode (wk_M 85).2.2.1 44 = .ok (.goto 12, 3) := zd_by (by decide +kernel)
theorem xd_85_47 : decode (wk_M 85).2.2.1 47 = .ok (.aload_n 0, 1) := zd_by (by decide +kernel)
theorem xd_85_48 : decode (wk_M 85).2.2.1 48 = .ok (.aload_n 1, 1) := zd_by (by decide +kernel)
theorem xd_85_49 : decode (wk_M 85).2.2.1 49 = .ok (.iload 5, 2) := zd_by (by decide +kernel)
theorem xd_85_51 : decode (wk_M 85).2.2.1 51 = .ok (.iload 4, 2) := zd_by (by decide +kernel)
theorem xd_85_53 : decode (wk_M 85).2.2.1 53 = .ok (.invokevirtual 99, 3) := zd_by (by decide +kernel)
theorem xd_85_56 : decode (wk_M 85).2.2.1 56 = .ok (.iinc 4 1, 3) := zd_by (by decide +kernel)
theorem xd_85_59 : decode (wk_M 85).2.2.1 59 = .ok (.iinc 5 1, 3) := zd_by (by decide +kernel)
theorem xd_85_62 : decode (wk_M 85).2.2.1 62 = .ok (.goto (-56), 3) := zd_by (by decide +kernel)
theorem xd_85_65 : decode (wk_M 85).2.2.1 65 = .ok (.return_, 1) := zd_by (by decide +kernel)
def LM_85 (k1 : Nat) (x1 : Int) (x2 : Int) : Nat → Nat → Int → Int → dc_M → Int → dc_M → Prop
  | 0, _, _, _, _, _, _ => False
  | c + 1, tag, l4, l5, m, v, m' => match tag with
    | _ => (((l5 : Int) ≥ (m k1 9) ∧ (v = 0 ∧ m' = m)) ∨ (¬ ((l5 : Int) ≥ (m k1 9)) ∧ (((((m 46 9) : Int) = 0 ∧ (v = 0 ∧ m' = m)) ∨ (¬ (((m 46 9) : Int) = 0) ∧ (((((sv_g (sv_u (sv_g (ae_shr (sv_u x1) (sv_u l5))) &&& sv_u 1)) : Int) = 0 ∧ (LM_85 k1 x1 x2 c 6 l4 (dc_w (l5 + 1)) m v m')) ∨ (¬ (((sv_g (sv_u (sv_g (ae_shr (sv_u x1) (sv_u l5))) &&& sv_u 1)) : Int) = 0) ∧ ((((x2 : Int) = 0 ∧ (∃ v_82 m_87, D_87 k1 l5 l4 m v_82 m_87 ∧ (LM_85 k1 x1 x2 c 6 (dc_w (l4 + 1)) (dc_w (l5 + 1)) m_87 v m'))) ∨ (¬ ((x2 : Int) = 0) ∧ (∃ v_132 m_137, D_86 k1 l5 l4 m v_132 m_137 ∧ (LM_85 k1 x1 x2 c 6 (dc_w (l4 + 1)) (dc_w (l5 + 1)) m_137 v m')))))))))))))
theorem lm_85_6 {k1 : Nat} {x1 : Int} {x2 : Int} {c : Nat} {l4 : Int} {l5 : Int} {m : dc_M} {v : Int} {m' : dc_M} : LM_85 k1 x1 x2 (c + 1) 6 l4 l5 m v m' ↔ (((l5 : Int) ≥ (m k1 9) ∧ (v = 0 ∧ m' = m)) ∨ (¬ ((l5 : Int) ≥ (m k1 9)) ∧ (((((m 46 9) : Int) = 0 ∧ (v = 0 ∧ m' = m)) ∨ (¬ (((m 46 9) : Int) = 0) ∧ (((((sv_g (sv_u (sv_g (ae_shr (sv_u x1) (sv_u l5))) &&& sv_u 1)) : Int) = 0 ∧ (LM_85 k1 x1 x2 c 6 l4 (dc_w (l5 + 1)) m v m')) ∨ (¬ (((sv_g (sv_u (sv_g (ae_shr (sv_u x1) (sv_u l5))) &&& sv_u 1)) : Int) = 0) ∧ ((((x2 : Int) = 0 ∧ (∃ v_82 m_87, D_87 k1 l5 l4 m v_82 m_87 ∧ (LM_85 k1 x1 x2 c 6 (dc_w (l4 + 1)) (dc_w (l5 + 1)) m_87 v m'))) ∨ (¬ ((x2 : Int) = 0) ∧ (∃ v_132 m_137, D_86 k1 l5 l4 m v_132 m_137 ∧ (LM_85 k1 x1 x2 c 6 (dc_w (l4 + 1)) (dc_w (l5 + 1)) m_137 v m'))))))))))))) := Iff.rfl
theorem dl_85 {k1 : Nat} {x1 : Int} {x2 : Int} (t_k1 : sv_ty k1 = some 2) (ix1 : sv_I x1) (ix2 : sv_I x2) : ∀ N : Nat, (∀ (n : Nat) (lv : ae_L) (h : ae_H) (r : ae_R) (l4 : Int) (l5 : Int), n ≤ N → dc_ok h → sv_I l4 → sv_I l5 → ae_lk lv 0 = some (wk_r 46) → ae_lk lv 1 = some (wk_r k1) → ae_lk lv 2 = some (wk_i x1) → ae_lk lv 3 = some (wk_i x2) → ae_lk lv 4 = some (wk_i l4) → ae_lk lv 5 = some (wk_i l5) → ae_exe n 85 6 0 0 lv [] h = some r → ∃ v, (∃ c, LM_85 k1 x1 x2 c 6 l4 l5 (dc_m h) v (dc_m r.2)) ∧ r.1 = none ∧ sv_I v ∧ dc_ok r.2) := by
  intro N
  induction N with
  | zero =>
    exact fun n lv h r l4 l5 hn ok il4 il5 q0 q1 q2 q3 q4 q5 hr => by
      have e : n = 0 := by omega
      subst e
      cases hr
  | succ N ih =>
    have ih0 := ih
    intro n lv h r l4 l5 hn ok il4 il5 q0 q1 q2 q3 q4 q5 hr
    obtain ⟨n_1, e_2, hr_3⟩ := iv_iload xm_85 xd_85_6 q5 hr
    obtain ⟨n_4, e_5, hr_6⟩ := iv_aload_n xm_85 xd_85_8 q1 hr_3
    have f_7 := dc_fi (j := 9) ok t_k1 dt_2 rfl
    obtain ⟨n_8, e_9, hr_10⟩ := iv_getf (j := 9) xm_85 xd_85_9 (by decide +kernel) ok t_k1 dt_2 f_7.1 hr_6
    rcases iv_icmp 65 xm_85 xd_85_12 (by decide) il5 f_7.2 hr_10 with ⟨c_11, n_12, e_13, hr_14⟩ | ⟨c_11, n_12, e_13, hr_14⟩
    · have rr_15 := iv_return xm_85 xd_85_65 hr_14 rfl
      subst rr_15
      exact ⟨_, ⟨0 + 1, lm_85_6.mpr (Or.inl ⟨c_11, ⟨rfl, rfl⟩⟩)⟩, rfl, (by unfold sv_I; omega), ok⟩
    · obtain ⟨n_16, e_17, hr_18⟩ := iv_aload_n xm_85 xd_85_15 q0 hr_14
      have f_19 := dc_fi (j := 9) ok (rfl : sv_ty 46 = some 6) dt_6 rfl
      obtain ⟨n_20, e_21, hr_22⟩ := iv_getf (j := 9) xm_85 xd_85_16 (by decide +kernel) ok (rfl : sv_ty 46 = some 6) dt_6 f_19.1 hr_18
      rcases iv_if 65 xm_85 xd_85_19 (by decide) f_19.2 hr_22 with ⟨c_23, n_24, e_25, hr_26⟩ | ⟨c_23, n_24, e_25, hr_26⟩
      · have rr_27 := iv_return xm_85 xd_85_65 hr_26 rfl
        subst rr_27
        exact ⟨_, ⟨0 + 1, lm_85_6.mpr (Or.inr ⟨c_11, Or.inl ⟨c_23, ⟨rfl, rfl⟩⟩⟩)⟩, rfl, (by unfold sv_I; omega), ok⟩
      · obtain ⟨n_28, e_29, hr_30⟩ := iv_iload_n xm_85 xd_85_22 q2 hr_26
        obtain ⟨n_31, e_32, hr_33⟩ := iv_iload xm_85 xd_85_23 q5 hr_30
        obtain ⟨n_34, e_35, hr_36⟩ := iv_ibin (f := ae_shr) (Or.inl ⟨rfl, rfl⟩) (ae_shr_lt (sv_u_lt _)) xm_85 xd_85_25 hr_33
        obtain ⟨n_37, e_38, hr_39⟩ := iv_iconst xm_85 xd_85_26 (by decide) hr_36
        obtain ⟨n_40, e_41, hr_42⟩ := iv_iand xm_85 xd_85_27 hr_39
        rcases iv_if 59 xm_85 xd_85_28 (by decide) (sv_g_I (Nat.lt_of_le_of_lt Nat.and_le_right (sv_u_lt _))) hr_42 with ⟨c_43, n_44, e_45, hr_46⟩ | ⟨c_43, n_44, e_45, hr_46⟩
        · obtain ⟨lv_48, sl_47, n_49, e_50, hr_51⟩ := iw_iinc xm_85 xd_85_59 (by decide +kernel) (by decide) q5 hr_46
          have l_52 := sl_47.2 0 _ q0 (by decide) (Or.inl rfl)
          have l_53 := sl_47.2 1 _ q1 (by decide) (Or.inl rfl)
          have l_54 := sl_47.2 2 _ q2 (by decide) (Or.inl rfl)
          have l_55 := sl_47.2 3 _ q3 (by decide) (Or.inl rfl)
          have l_56 := sl_47.2 4 _ q4 (by decide) (Or.inl rfl)
          have l_57 := sl_47.1
          obtain ⟨n_58, e_59, hr_60⟩ := iv_goto 6 xm_85 xd_85_62 (by decide) hr_51
          obtain ⟨v, ⟨c, hL⟩, e1, e2, e3⟩ := ih0 _ lv_48 h _ _ _ (by omega) ok il4 (dc_w_I _) l_52 l_53 l_54 l_55 l_56 l_57 hr_60
          exact ⟨v, ⟨c + 1, lm_85_6.mpr (Or.inr ⟨c_11, Or.inr ⟨c_23, Or.inl ⟨c_43, hL⟩⟩⟩)⟩, e1, e2, e3⟩
        · obtain ⟨n_61, e_62, hr_63⟩ := iv_iload_n xm_85 xd_85_31 q3 hr_46
          rcases iv_if 47 xm_85 xd_85_32 (by decide) ix2 hr_63 with ⟨c_64, n_65, e_66, hr_67⟩ | ⟨c_64, n_65, e_66, hr_67⟩
          · obtain ⟨n_68, e_69, hr_70⟩ := iv_aload_n xm_85 xd_85_47 q0 hr_67
            obtain ⟨n_71, e_72, hr_73⟩ := iv_aload_n xm_85 xd_85_48 q1 hr_70
            obtain ⟨n_74, e_75, hr_76⟩ := iv_iload xm_85 xd_85_49 q5 hr_73
            obtain ⟨n_77, e_78, hr_79⟩ := iv_iload xm_85 xd_85_51 q4 hr_76
            obtain ⟨n_89, r_80, e_90, hc_81, hr_91⟩ := iv_call (Or.inr ⟨rfl, rfl⟩) xm_85 xd_85_53 (by decide +kernel) xm_87 rfl (by decide +kernel) hr_79
            obtain ⟨v_82, d_83, er_84, iv_85, ok_86⟩ := ds_87 _ _ _ _ ok t_k1 il5 il4 hc_81
            obtain ⟨_, h_88⟩ := r_80
            have er_84 : _ = none := er_84
            subst er_84
            have hr_92 : ae_exe n_89 85 (53 + 3) 0 0 lv _ h_88 = some r := hr_91
            obtain ⟨lv_94, sl_93, n_95, e_96, hr_97⟩ := iw_iinc xm_85 xd_85_56 (by decide +kernel) (by decide) q4 hr_92
            have l_98 := sl_93.2 0 _ q0 (by decide) (Or.inl rfl)
            have l_99 := sl_93.2 1 _ q1 (by decide) (Or.inl rfl)
            have l_100 := sl_93.2 2 _ q2 (by decide) (Or.inl rfl)
            have l_101 := sl_93.2 3 _ q3 (by decide) (Or.inl rfl)
            have l_102 := sl_93.2 5 _ q5 (by decide) (Or.inl rfl)
            have l_103 := sl_93.1
            obtain ⟨lv_105, sl_104, n_106, e_107, hr_108⟩ := iw_iinc xm_85 xd_85_59 (by decide +kernel) (by decide) l_102 hr_97
            have l_109 := sl_104.2 0 _ l_98 (by decide) (Or.inl rfl)
            have l_110 := sl_104.2 1 _ l_99 (by decide) (Or.inl rfl)
            have l_111 := sl_104.2 2 _ l_100 (by decide) (Or.inl rfl)
            have l_112 := sl_104.2 3 _ l_101 (by decide) (Or.inl rfl)
            have l_113 := sl_104.2 4 _ l_103 (by decide) (Or.inl rfl)
            have l_114 := sl_104.1
            obtain ⟨n_115, e_116, hr_117⟩ := iv_goto 6 xm_85 xd_85_62 (by decide) hr_108
            obtain ⟨v, ⟨c, hL⟩, e1, e2, e3⟩ := ih0 _ lv_105 h_88 _ _ _ (by omega) ok_86 (dc_w_I _) (dc_w_I _) l_109 l_110 l_111 l_112 l_113 l_114 hr_117
            exact ⟨v, ⟨c + 1, lm_85_6.mpr (Or.inr ⟨c_11, Or.inr ⟨c_23, Or.inr ⟨c_43, Or.inl ⟨c_64, ⟨_, _, d_83, hL⟩⟩⟩⟩⟩)⟩, e1, e2, e3⟩
          · obtain ⟨n_118, e_119, hr_120⟩ := iv_aload_n xm_85 xd_85_35 q0 hr_67
            obtain ⟨n_121, e_122, hr_123⟩ := iv_aload_n xm_85 xd_85_36 q1 hr_120
            obtain ⟨n_124, e_125, hr_126⟩ := iv_iload xm_85 xd_85_37 q5 hr_123
            obtain ⟨n_127, e_128, hr_129⟩ := iv_iload xm_85 xd_85_39 q4 hr_126
            obtain ⟨n_139, r_130, e_140, hc_131, hr_141⟩ := iv_call (Or.inr ⟨rfl, rfl⟩) xm_85 xd_85_41 (by decide +kernel) xm_86 rfl (by decide +kernel) hr_129
            obtain ⟨v_132, d_133, er_134, iv_135, ok_136⟩ := ds_86 _ _ _ _ ok t_k1 il5 il4 hc_131
            obtain ⟨_, h_138⟩ := r_130
            have er_134 : _ = none := er_134
            subst er_134
            have hr_142 : ae_exe n_139 85 (41 + 3) 0 0 lv _ h_138 = some r := hr_141
            obtain ⟨n_143, e_144, hr_145⟩ := iv_goto 56 xm_85 xd_85_44 (by decide) hr_142
            obtain ⟨lv_147, sl_146, n_148, e_149, hr_150⟩ := iw_iinc xm_85 xd_85_56 (by decide +kernel) (by decide) q4 hr_145
            have l_151 := sl_146.2 0 _ q0 (by decide) (Or.inl rfl)
            have l_152 := sl_146.2 1 _ q1 (by decide) (Or.inl rfl)
            have l_153 := sl_146.2 2 _ q2 (by decide) (Or.inl rfl)
            have l_154 := sl_146.2 3 _ q3 (by decide) (Or.inl rfl)
            have l_155 := sl_146.2 5 _ q5 (by decide) (Or.inl rfl)
            have l_156 := sl_146.1
            obtain ⟨lv_158, sl_157, n_159, e_160, hr_161⟩ := iw_iinc xm_85 xd_85_59 (by decide +kernel) (by decide) l_155 hr_150
            have l_162 := sl_157.2 0 _ l_151 (by decide) (Or.inl rfl)
            have l_163 := sl_157.2 1 _ l_152 (by decide) (Or.inl rfl)
            have l_164 := sl_157.2 2 _ l_153 (by decide) (Or.inl rfl)
            have l_165 := sl_157.2 3 _ l_154 (by decide) (Or.inl rfl)
            have l_166 := sl_157.2 4 _ l_156 (by decide) (Or.inl rfl)
            have l_167 := sl_157.1
            obtain ⟨n_168, e_169, hr_170⟩ := iv_goto 6 xm_85 xd_85_62 (by decide) hr_161
            obtain ⟨v, ⟨c, hL⟩, e1, e2, e3⟩ := ih0 _ lv_158 h_138 _ _ _ (by omega) ok_136 (dc_w_I _) (dc_w_I _) l_162 l_163 l_164 l_165 l_166 l_167 hr_170
            exact ⟨v, ⟨c + 1, lm_85_6.mpr (Or.inr ⟨c_11, Or.inr ⟨c_23, Or.inr ⟨c_43, Or.inr ⟨c_64, ⟨_, _, d_133, hL⟩⟩⟩⟩⟩)⟩, e1, e2, e3⟩
abbrev D_85 (k1 : Nat) (x1 : Int) (x2 : Int) (m : dc_M) (v : Int) (m' : dc_M) : Prop := ∃ c, LM_85 k1 x1 x2 c 6 0 0 m v m'
theorem ds_85 (n : Nat) (k1 : Nat) (x1 : Int) (x2 : Int) {h : ae_H} {r : ae_R} (ok : dc_ok h) (t_k1 : sv_ty k1 = some 2) (ix1 : sv_I x1) (ix2 : sv_I x2) (hr : ae_exe n 85 0 0 0 (ae_args [wk_r 46, wk_r k1, wk_i x1, wk_i x2] 0) [] h = some r) : ∃ v, D_85 k1 x1 x2 (dc_m h) v (dc_m r.2) ∧ r.1 = none ∧ sv_I v ∧ dc_ok r.2 := by
  have q0 : ae_lk (ae_args [wk_r 46, wk_r k1, wk_i x1, wk_i x2] 0) 0 = some (wk_r 46) := rfl
  have q1 : ae_lk (ae_args [wk_r 46, wk_r k1, wk_i x1, wk_i x2] 0) 1 = some (wk_r k1) := rfl
  have q2 : ae_lk (ae_args [wk_r 46, wk_r k1, wk_i x1, wk_i x2] 0) 2 = some (wk_i x1) := rfl
  have q3 : ae_lk (ae_args [wk_r 46, wk_r k1, wk_i x1, wk_i x2] 0) 3 = some (wk_i x2) := rfl
  obtain ⟨n_171, e_172, hr_173⟩ := iv_iconst xm_85 xd_85_0 (by decide) hr
  obtain ⟨lv_175, sl_174, n_176, e_177, hr_178⟩ := iv_istore xm_85 xd_85_1 (by decide +kernel) hr_173
  have l_179 := sl_174.2 0 _ q0 (by decide) (Or.inl rfl)
  have l_180 := sl_174.2 1 _ q1 (by decide) (Or.inl rfl)
  have l_181 := sl_174.2 2 _ q2 (by decide) (Or.inl rfl)
  have l_182 := sl_174.2 3 _ q3 (by decide) (Or.inl rfl)
  have l_183 := sl_174.1
  obtain ⟨n_184, e_185, hr_186⟩ := iv_iconst xm_85 xd_85_3 (by decide) hr_178
  obtain ⟨lv_188, sl_187, n_189, e_190, hr_191⟩ := iv_istore xm_85 xd_85_4 (by decide +kernel) hr_186
  have l_192 := sl_187.2 0 _ l_179 (by decide) (Or.inl rfl)
  have l_193 := sl_187.2 1 _ l_180 (by decide) (Or.inl rfl)
  have l_194 := sl_187.2 2 _ l_181 (by decide) (Or.inl rfl)
  have l_195 := sl_187.2 3 _ l_182 (by decide) (Or.inl rfl)
  have l_196 := sl_187.2 4 _ l_183 (by decide) (Or.inl rfl)
  have l_197 := sl_187.1
  obtain ⟨v, ⟨c, hL⟩, e1, e2, e3⟩ := (dl_85 t_k1 ix1 ix2 _) _ lv_188 h _ _ _ (Nat.le_refl _) ok (by unfold sv_I; omega) (by unfold sv_I; omega) l_192 l_193 l_194 l_195 l_196 l_197 hr_191
  exact ⟨v, ⟨_, hL⟩, e1, e2, e3⟩
/-! method 82 -/
theorem xm_82 : ae_m 82 = some (wk_M 82) := rfl
theorem xd_82_0 : decode (wk_M 82).2.2.1 0 = .ok (.aload_n 0, 1) := zd_by (by decide +kernel)
theorem xd_82_1 : decode (wk_M 82).2.2.1 1 = .ok (.aload_n 3, 1) := zd_by (by decide +kernel)
theorem xd_82_2 : decode (wk_M 82).2.2.1 2 = .ok (.putfield 37, 3) := zd_by (by decide +kernel)
theorem xd_82_5 : decode (wk_M 82).2.2.1 5 = .ok (.aload_n 0, 1) := zd_by (by decide +kernel)
theorem xd_82_6 : decode (wk_M 82).2.2.1 6 = .ok (.getfield 37, 3) := zd_by (by decide +kernel)
theorem xd_82_9 : decode (wk_M 82).2.2.1 9 = .ok (.iconst 0, 1) := zd_by (by decide +kernel)
theorem xd_82_10 : decode (wk_M 82).2.2.1 10 = .ok (.putfield 58, 3) := zd_by (by decide +kernel)
theorem xd_82_13 : decode (wk_M 82).2.2.1 13 = .ok (.aload_n 0, 1) := zd_by (by decide +kernel)
theorem xd_82_14 : decode (wk_M 82).2.2.1 14 = .ok (.iconst 0, 1) := zd_by (by decide +kernel)
theorem xd_82_15 : decode (wk_M 82).2.2.1 15 = .ok (.putfield 61, 3) := zd_by (by decide +kernel)
theorem xd_82_18 : decode (wk_M 82).2.2.1 18 = .ok (.aload_n 0, 1) := zd_by (by decide +kernel)
theorem xd_82_19 : decode (wk_M 82).2.2.1 19 = .ok (.iconst 0, 1) := zd_by (by decide +kernel)
theorem xd_82_20 : decode (wk_M 82).2.2.1 20 = .ok (.putfield 64, 3) := zd_by (by decide +kernel)
theorem xd_82_23 : decode (wk_M 82).2.2.1 23 = .ok (.aload_n 0, 1) := zd_by (by decide +kernel)
theorem xd_82_24 : decode (wk_M 82).2.2.1 24 = .ok (.iload_n 2, 1) := zd_by (by decide +kernel)
theorem xd_82_25 : decode (wk_M 82).2.2.1 25 = .ok (.invokestatic 67, 3) := zd_by (by decide +kernel)
theorem xd_82_28 : decode (wk_M 82).2.2.1 28 = .ok (.iconst 4, 1) := zd_by (by decide +kernel)
theorem xd_82_29 : decode (wk_M 82).2.2.1 29 = .ok (.if_icmp .gt 7, 3) := zd_by (by decide +kernel)
theorem xd_82_32 : decode (wk_M 82).2.2.1 32 = .ok (.iconst 1, 1) := zd_by (by decide +kernel)
theorem xd_82_33 : decode (wk_M 82).2.2.1 33 = .ok (.goto 4, 3) := zd_by (by decide +kernel)
theorem xd_82_36 : decode (wk_M 82).2.2.1 36 = .ok (.iconst 0, 1) := zd_by (by decide +kernel)
theorem xd_82_37 : decode (wk_M 82).2.2.1 37 = .ok (.putfield 72, 3) := zd_by (by decide +kernel)
theorem xd_82_40 : decode (wk_M 82).2.2.1 40 = .ok (.aload_n 0, 1) := zd_by (by decide +kernel)
theorem xd_82_41 : decode (wk_M 82).2.2.1 41 = .ok (.getfield 72, 3) := zd_by (by decide +kernel)
theorem xd_82_44 : decode (wk_M 82).2.2.1 44 = .ok (.ifCond .eq 22, 3) := zd_by (by decide +kernel)
theorem xd_82_47 : decode (wk_M 82).2.2.1 47 = .ok (.aload_n 0, 1) := zd_by (by decide +kernel)
theorem xd_82_48 : decode (wk_M 82).2.2.1 48 = .ok (.aload_n 1, 1) := zd_by (by decide +kernel)
theorem xd_82_49 : decode (wk_M 82).2.2.1 49 = .ok (.invokevirtual 76, 3) := zd_by (by decide +kernel)
theorem xd_82_52 : decode (wk_M 82).2.2.1 52 = .ok (.aload_n 0, 1) := zd_by (by decide +kernel)
theorem xd_82_53 : decode (wk_M 82).2.2.1 53 = .ok (.aload_n 1, 1) := zd_by (by decide +kernel)
theorem xd_82_54 : decode (wk_M 82).2.2.1 54 = .ok (.iload_n 2, 1) := zd_by (by decide +kernel)
theorem xd_82_55 : decode (wk_M 82).2.2.1 55 = .ok (.iconst 1, 1) := zd_by (by decide +kernel)
theorem xd_82_56 : decode (wk_M 82).2.2.1 56 = .ok (.invokevirtual 80, 3) := zd_by (by decide +kernel)
theorem xd_82_59 : decode (wk_M 82).2.2.1 59 = .ok (.aload_n 0, 1) := zd_by (by decide +kernel)
theorem xd_82_60 : decode (wk_M 82).2.2.1 60 = .ok (.aload_n 1, 1) := zd_by (by decide +kernel)
theorem xd_82_61 : decode (wk_M 82).2.2.1 61 = .ok (.iload_n 2, 1) := zd_by (by decide +kernel)
theorem xd_82_62 : decode (wk_M 82).2.2.1 62 = .ok (.iconst 0, 1) := zd_by (by decide +kernel)
theorem xd_82_63 : decode (wk_M 82).2.2.1 63 = .ok (.invokevirtual 80, 3) := zd_by (by decide +kernel)
theorem xd_82_66 : decode (wk_M 82).2.2.1 66 = .ok (.aload_n 0, 1) := zd_by (by decide +kernel)
theorem xd_82_67 : decode (wk_M 82).2.2.1 67 = .ok (.getfield 72, 3) := zd_by (by decide +kernel)
theorem xd_82_70 : decode (wk_M 82).2.2.1 70 = .ok (.ireturn, 1) := zd_by (by decide +kernel)
abbrev D_82 (k1 : Nat) (x1 : Int) (k3 : Nat) (m : dc_M) (v : Int) (m' : dc_M) : Prop := ∃ m_10, m_10 = dc_up m 46 10 ((k3 : Nat) : Int) ∧ (∃ m_27, m_27 = dc_up m_10 (m_10 46 10).toNat 2 0 ∧ (∃ m_40, m_40 = dc_up m_27 46 7 0 ∧ (∃ m_53, m_53 = dc_up m_40 46 8 0 ∧ (∃ v_65 m_70, D_283 x1 m_53 v_65 m_70 ∧ ((((v_65 : Int) > 4 ∧ (∃ m_89, m_89 = dc_up m_70 46 9 0 ∧ (v = (m_89 46 9) ∧ m' = m_89))) ∨ (¬ ((v_65 : Int) > 4) ∧ (∃ m_121, m_121 = dc_up m_70 46 9 1 ∧ (∃ v_144 m_149, D_84 k1 m_121 v_144 m_149 ∧ (∃ v_169 m_174, D_85 k1 x1 1 m_149 v_169 m_174 ∧ (∃ v_194 m_199, D_85 k1 x1 0 m_174 v_194 m_199 ∧ (v = (m_199 46 9) ∧ m' = m_199))))))))))))
theorem ds_82 (n : Nat) (k1 : Nat) (x1 : Int) (k3 : Nat) {h : ae_H} {r : ae_R} (ok : dc_ok h) (t_k1 : sv_ty k1 = some 2) (ix1 : sv_I x1) (t_k3 : sv_ty k3 = some 0) (hr : ae_exe n 82 0 0 0 (ae_args [wk_r 46, wk_r k1, wk_i x1, wk_r k3] 0) [] h = some r) : ∃ v, D_82 k1 x1 k3 (dc_m h) v (dc_m r.2) ∧ r.1 = some (wk_i v) ∧ sv_I v ∧ dc_ok r.2 := by
  have q0 : ae_lk (ae_args [wk_r 46, wk_r k1, wk_i x1, wk_r k3] 0) 0 = some (wk_r 46) := rfl
  have q1 : ae_lk (ae_args [wk_r 46, wk_r k1, wk_i x1, wk_r k3] 0) 1 = some (wk_r k1) := rfl
  have q2 : ae_lk (ae_args [wk_r 46, wk_r k1, wk_i x1, wk_r k3] 0) 2 = some (wk_i x1) := rfl
  have q3 : ae_lk (ae_args [wk_r 46, wk_r k1, wk_i x1, wk_r k3] 0) 3 = some (wk_r k3) := rfl
  obtain ⟨n_1, e_2, hr_3⟩ := iv_aload_n xm_82 xd_82_0 q0 hr
  obtain ⟨n_4, e_5, hr_6⟩ := iv_aload_n xm_82 xd_82_1 q3 hr_3
  obtain ⟨h_7, ok_8, em_9, n_11, e_12, hr_13⟩ := iv_putf (j := 10) (f := (2, 0)) (fk := 4) xm_82 xd_82_2 (by decide +kernel) ok (rfl : sv_ty 46 = some 6) dt_6 rfl (by decide +kernel) rfl ⟨_, rfl, t_k3⟩ hr_6
  obtain ⟨n_14, e_15, hr_16⟩ := iv_aload_n xm_82 xd_82_5 q0 hr_13
  have f_17 := dc_ft (j := 10) ok_8 (rfl : sv_ty 46 = some 6) dt_6 rfl
  obtain ⟨n_18, e_19, hr_20⟩ := iv_getf (j := 10) xm_82 xd_82_6 (by decide +kernel) ok_8 (rfl : sv_ty 46 = some 6) dt_6 f_17.1 hr_16
  obtain ⟨n_21, e_22, hr_23⟩ := iv_iconst xm_82 xd_82_9 (by decide) hr_20
  obtain ⟨h_24, ok_25, em_26, n_28, e_29, hr_30⟩ := iv_puti (j := 2) (fk := 0) xm_82 xd_82_10 (by decide +kernel) ok_8 f_17.2 dt_0 rfl (by decide +kernel) rfl (by unfold sv_I; omega) hr_23
  obtain ⟨n_31, e_32, hr_33⟩ := iv_aload_n xm_82 xd_82_13 q0 hr_30
  obtain ⟨n_34, e_35, hr_36⟩ := iv_iconst xm_82 xd_82_14 (by decide) hr_33
  obtain ⟨h_37, ok_38, em_39, n_41, e_42, hr_43⟩ := iv_puti (j := 7) (fk := 0) xm_82 xd_82_15 (by decide +kernel) ok_25 (rfl : sv_ty 46 = some 6) dt_6 rfl (by decide +kernel) rfl (by unfold sv_I; omega) hr_36
  obtain ⟨n_44, e_45, hr_46⟩ := iv_aload_n xm_82 xd_82_18 q0 hr_43
  obtain ⟨n_47, e_48, hr_49⟩ := iv_iconst xm_82 xd_82_19 (by decide) hr_46
  obtain ⟨h_50, ok_51, em_52, n_54, e_55, hr_56⟩ := iv_puti (j := 8) (fk := 0) xm_82 xd_82_20 (by decide +kernel) ok_38 (rfl : sv_ty 46 = some 6) dt_6 rfl (by decide +kernel) rfl (by unfold sv_I; omega) hr_49
  obtain ⟨n_57, e_58, hr_59⟩ := iv_aload_n xm_82 xd_82_23 q0 hr_56
  obtain ⟨n_60, e_61, hr_62⟩ := iv_iload_n xm_82 xd_82_24 q2 hr_59
  obtain ⟨n_72, r_63, e_73, hc_64, hr_74⟩ := iv_call (Or.inl ⟨rfl, rfl⟩) xm_82 xd_82_25 (by decide +kernel) xm_283 rfl (by decide +kernel) hr_62
  obtain ⟨v_65, d_66, er_67, iv_68, ok_69⟩ := ds_283 _ _ ok_51 ix1 hc_64
  obtain ⟨_, h_71⟩ := r_63
  have er_67 : _ = some (wk_i v_65) := er_67
  subst er_67
  have hr_75 : ae_exe n_72 82 (25 + 3) 0 0 (ae_args [wk_r 46, wk_r k1, wk_i x1, wk_r k3] 0) _ h_71 = some r := hr_74
  obtain ⟨n_76, e_77, hr_78⟩ := iv_iconst xm_82 xd_82_28 (by decide) hr_75
  rcases iv_icmp 36 xm_82 xd_82_29 (by decide) iv_68 (by unfold sv_I; omega) hr_78 with ⟨c_79, n_80, e_81, hr_82⟩ | ⟨c_79, n_80, e_81, hr_82⟩
  · obtain ⟨n_83, e_84, hr_85⟩ := iv_iconst xm_82 xd_82_36 (by decide) hr_82
    obtain ⟨h_86, ok_87, em_88, n_90, e_91, hr_92⟩ := iv_puti (j := 9) (fk := 1) xm_82 xd_82_37 (by decide +kernel) ok_69 (rfl : sv_ty 46 = some 6) dt_6 rfl (by decide +kernel) rfl (by unfold sv_I; omega) hr_85
    obtain ⟨n_93, e_94, hr_95⟩ := iv_aload_n xm_82 xd_82_40 q0 hr_92
    have f_96 := dc_fi (j := 9) ok_87 (rfl : sv_ty 46 = some 6) dt_6 rfl
    obtain ⟨n_97, e_98, hr_99⟩ := iv_getf (j := 9) xm_82 xd_82_41 (by decide +kernel) ok_87 (rfl : sv_ty 46 = some 6) dt_6 f_96.1 hr_95
    rcases iv_if 66 xm_82 xd_82_44 (by decide) f_96.2 hr_99 with ⟨c_100, n_101, e_102, hr_103⟩ | ⟨c_100, n_101, e_102, hr_103⟩
    rotate_left
    · exact absurd (show ¬ ((0 : Int) = 0) by have z := c_100; rw [em_88, dc_up_s] at z; exact z) (by decide)
    obtain ⟨n_104, e_105, hr_106⟩ := iv_aload_n xm_82 xd_82_66 q0 hr_103
    have f_107 := dc_fi (j := 9) ok_87 (rfl : sv_ty 46 = some 6) dt_6 rfl
    obtain ⟨n_108, e_109, hr_110⟩ := iv_getf (j := 9) xm_82 xd_82_67 (by decide +kernel) ok_87 (rfl : sv_ty 46 = some 6) dt_6 f_107.1 hr_106
    have rr_111 := iv_ireturn xm_82 xd_82_70 hr_110
    subst rr_111
    exact ⟨_, ⟨_, em_9, ⟨_, em_26, ⟨_, em_39, ⟨_, em_52, ⟨_, _, d_66, Or.inl ⟨c_79, ⟨_, em_88, ⟨rfl, rfl⟩⟩⟩⟩⟩⟩⟩⟩, rfl, f_107.2, ok_87⟩
  · obtain ⟨n_112, e_113, hr_114⟩ := iv_iconst xm_82 xd_82_32 (by decide) hr_82
    obtain ⟨n_115, e_116, hr_117⟩ := iv_goto 37 xm_82 xd_82_33 (by decide) hr_114
    obtain ⟨h_118, ok_119, em_120, n_122, e_123, hr_124⟩ := iv_puti (j := 9) (fk := 1) xm_82 xd_82_37 (by decide +kernel) ok_69 (rfl : sv_ty 46 = some 6) dt_6 rfl (by decide +kernel) rfl (by unfold sv_I; omega) hr_117
    obtain ⟨n_125, e_126, hr_127⟩ := iv_aload_n xm_82 xd_82_40 q0 hr_124
    have f_128 := dc_fi (j := 9) ok_119 (rfl : sv_ty 46 = some 6) dt_6 rfl
    obtain ⟨n_129, e_130, hr_131⟩ := iv_getf (j := 9) xm_82 xd_82_41 (by decide +kernel) ok_119 (rfl : sv_ty 46 = some 6) dt_6 f_128.1 hr_127
    rcases iv_if 66 xm_82 xd_82_44 (by decide) f_128.2 hr_131 with ⟨c_132, n_133, e_134, hr_135⟩ | ⟨c_132, n_133, e_134, hr_135⟩
    · exact absurd (show (1 : Int) = 0 by have z := c_132; rw [em_120, dc_up_s] at z; exact z) (by decide)
    obtain ⟨n_136, e_137, hr_138⟩ := iv_aload_n xm_82 xd_82_47 q0 hr_135
    obtain ⟨n_139, e_140, hr_141⟩ := iv_aload_n xm_82 xd_82_48 q1 hr_138
    obtain ⟨n_151, r_142, e_152, hc_143, hr_153⟩ := iv_call (Or.inr ⟨rfl, rfl⟩) xm_82 xd_82_49 (by decide +kernel) xm_84 rfl (by decide +kernel) hr_141
    obtain ⟨v_144, d_145, er_146, iv_147, ok_148⟩ := ds_84 _ _ ok_119 t_k1 hc_143
    obtain ⟨_, h_150⟩ := r_142
    have er_146 : _ = none := er_146
    subst er_146
    have hr_154 : ae_exe n_151 82 (49 + 3) 0 0 (ae_args [wk_r 46, wk_r k1, wk_i x1, wk_r k3] 0) _ h_150 = some r := hr_153
    obtain ⟨n_155, e_156, hr_157⟩ := iv_aload_n xm_82 xd_82_52 q0 hr_154
    obtain ⟨n_158, e_159, hr_160⟩ := iv_aload_n xm_82 xd_82_53 q1 hr_157
    obtain ⟨n_161, e_162, hr_163⟩ := iv_iload_n xm_82 xd_82_54 q2 hr_160
    obtain ⟨n_164, e_165, hr_166⟩ := iv_iconst xm_82 xd_82_55 (by decide) hr_163
    obtain ⟨n_176, r_167, e_177, hc_168, hr_178⟩ := iv_call (Or.inr ⟨rfl, rfl⟩) xm_82 xd_82_56 (by decide +kernel) xm_85 rfl (by decide +kernel) hr_166
    obtain ⟨v_169, d_170, er_171, iv_172, ok_173⟩ := ds_85 _ _ _ _ ok_148 t_k1 ix1 (by unfold sv_I; omega) hc_168
    obtain ⟨_, h_175⟩ := r_167
    have er_171 : _ = none := er_171
    subst er_171
    have hr_179 : ae_exe n_176 82 (56 + 3) 0 0 (ae_args [wk_r 46, wk_r k1, wk_i x1, wk_r k3] 0) _ h_175 = some r := hr_178
    obtain ⟨n_180, e_181, hr_182⟩ := iv_aload_n xm_82 xd_82_59 q0 hr_179
    obtain ⟨n_183, e_184, hr_185⟩ := iv_aload_n xm_82 xd_82_60 q1 hr_182
    obtain ⟨n_186, e_187, hr_188⟩ := iv_iload_n xm_82 xd_82_61 q2 hr_185
    obtain ⟨n_189, e_190, hr_191⟩ := iv_iconst xm_82 xd_82_62 (by decide) hr_188
    obtain ⟨n_201, r_192, e_202, hc_193, hr_203⟩ := iv_call (Or.inr ⟨rfl, rfl⟩) xm_82 xd_82_63 (by decide +kernel) xm_85 rfl (by decide +kernel) hr_191
    obtain ⟨v_194, d_195, er_196, iv_197, ok_198⟩ := ds_85 _ _ _ _ ok_173 t_k1 ix1 (by unfold sv_I; omega) hc_193
    obtain ⟨_, h_200⟩ := r_192
    have er_196 : _ = none := er_196
    subst er_196
    have hr_204 : ae_exe n_201 82 (63 + 3) 0 0 (ae_args [wk_r 46, wk_r k1, wk_i x1, wk_r k3] 0) _ h_200 = some r := hr_203
    obtain ⟨n_205, e_206, hr_207⟩ := iv_aload_n xm_82 xd_82_66 q0 hr_204
    have f_208 := dc_fi (j := 9) ok_198 (rfl : sv_ty 46 = some 6) dt_6 rfl
    obtain ⟨n_209, e_210, hr_211⟩ := iv_getf (j := 9) xm_82 xd_82_67 (by decide +kernel) ok_198 (rfl : sv_ty 46 = some 6) dt_6 f_208.1 hr_207
    have rr_212 := iv_ireturn xm_82 xd_82_70 hr_211
    subst rr_212
    exact ⟨_, ⟨_, em_9, ⟨_, em_26, ⟨_, em_39, ⟨_, em_52, ⟨_, _, d_66, Or.inr ⟨c_79, ⟨_, em_120, ⟨_, _, d_145, ⟨_, _, d_170, ⟨_, _, d_195, ⟨rfl, rfl⟩⟩⟩⟩⟩⟩⟩⟩⟩⟩⟩, rfl, f_208.2, ok_198⟩
/-! method 81 -/
theorem xm_81 : ae_m 81 = some (wk_M 81) := rfl
theorem xd_81_0 : decode (wk_M 81).2.2.1 0 = .ok (.iload_n 1, 1) := zd_by (by decide +kernel)
theorem xd_81_1 : decode (wk_M 81).2.2.1 1 = .ok (.iload_n 1, 1) := zd_by (by decide +kernel)
theorem xd_81_2 : decode (wk_M 81).2.2.1 2 = .ok (.ineg, 1) := zd_by (by decide +kernel)
theorem xd_81_3 : decode (wk_M 81).2.2.1 3 = .ok (.iand, 1) := zd_by (by decide +kernel)
theorem xd_81_4 : decode (wk_M 81).2.2.1 4 = .ok (.istore_n 2, 1) := zd_by (by decide +kernel)
theorem xd_81_5 : decode (wk_M 81).2.2.1 5 = .ok (.iconst 0, 1) := zd_by (by decide +kernel)
theorem xd_81_6 : decode (wk_M 81).2.2.1 6 = .ok (.istore_n 3, 1) := zd_by (by decide +kernel)
theorem xd_81_7 : decode (wk_M 81).2.2.1 7 = .ok (.sipush 1000, 3) := zd_by (by decide +kernel)
theorem xd_81_10 : decode (wk_M 81).2.2.1 10 = .ok (.istore 4, 2) := zd_by (by decide +kernel)
theorem xd_81_12 : decode (wk_M 81).2.2.1 12 = .ok (.iload_n 1, 1) := zd_by (by decide +kernel)
theorem xd_81_13 : decode (wk_M 81).2.2.1 13 = .ok (.istore 5, 2) := zd_by (by decide +kernel)
theorem xd_81_15 : decode (wk_M 81).2.2.1 15 = .ok (.iload 5, 2) := zd_by (by decide +kernel)
theorem xd_81_17 : decode (wk_M 81).2.2.1 17 = .ok (.ifCond .le 75, 3) := zd_by (by decide +kernel)
theorem xd_81_20 : decode (wk_M 81).2.2.1 20 = .ok (.iload 5, 2) := zd_by (by decide +kernel)
theorem xd_81_22 : decode (wk_M 81).2.2.1 22 = .ok (.iload_n 2, 1) := zd_by (by decide +kernel)
theorem xd_81_23 : decode (wk_M 81).2.2.1 23 = .ok (.iand, 1) := zd_by (by decide +kernel)
theorem xd_81_24 : decode (wk_M 81).2.2.1 24 = .ok (.ifCond .eq 17, 3) := zd_by (by decide +kernel)
theorem xd_81_27 : decode (wk_M 81).2.2.1 27 = .ok (.aload_n 0, 1) := zd_by (by decide +kernel)
theorem xd_81_28 : decode (wk_M 81).2.2.1 28 = .ok (.getfield 17, 3) := zd_by (by decide +kernel)
theorem xd_81_31 : decode (wk_M 81).2.2.1 31 = .ok (.iload 5, 2) := zd_by (by decide +kernel)
theorem xd_81_33 : decode (wk_M 81).2.2.1 33 = .ok (.baload, 1) := zd_by (by decide +kernel)
theorem xd_81_34 : decode (wk_M 81).2.2.1 34 = .ok (.ifCond .eq 7, 3) := zd_by (by decide +kernel)
theorem xd_81_37 : decode (wk_M 81).2.2.1 37 = .ok (.iconst 1, 1) := zd_by (by decide +kernel)
theorem xd_81_38 : decode (wk_M 81).2.2.1 38 = .ok (.goto 4, 3) := zd_by (by decide +kernel)
theorem xd_81_41 : decode (wk_M 81).2.2.1 41 = .ok (.iconst 0, 1) := zd_by (by decide +kernel)
theorem xd_81_42 : decode (wk_M 81).2.2.1 42 = .ok (.istore 6, 2) := zd_by (by decide +kernel)
theorem xd_81_44 : decode (wk_M 81).2.2.1 44 = .ok (.iload 6, 2) := zd_by (by decide +kernel)
theorem xd_81_46 : decode (wk_M 81).2.2.1 46 = .ok (.ifCond .eq 35, 3) := zd_by (by decide +kernel)
theorem xd_81_49 : decode (wk_M 81).2.2.1 49 = .ok (.aload_n 0, 1) := zd_by (by decide +kernel)
theorem xd_81_50 : decode (wk_M 81).2.2.1 50 = .ok (.getfield 21, 3) := zd_by (by decide +kernel)
theorem xd_81_53 : decode (wk_M 81).2.2.1 53 = .ok (.iload_n 1, 1) := zd_by (by decide +kernel)
theorem xd_81_54 : decode (wk_M 81).2.2.1 54 = .ok (.iload 5, 2) := zd_by (by decide +kernel)
theorem xd_81_56 : decode (wk_M 81).2.2.1 56 = .ok (.iconst (-1), 1) := zd_by (by decide +kernel)
theorem xd_81_57 : decode (wk_M 81).2.2.1 57 = .ok (.ixor, 1) := zd_by (by decide +kernel)
theorem xd_81_58 : decode (wk_M 81).2.2.1 58 = .ok (.iand, 1) := zd_by (by decide +kernel)
theorem xd_81_59 : decode (wk_M 81).2.2.1 59 = .ok (.iaload, 1) := zd_by (by decide +kernel)
theorem xd_81_60 : decode (wk_M 81).2.2.1 60 = .ok (.iload 4, 2) := zd_by (by decide +kernel)
theorem xd_81_62 : decode (wk_M 81).2.2.1 62 = .ok (.if_icmp .gt 19, 3) := zd_by (by decide +kernel)
theorem xd_81_65 : decode (wk_M 81).2.2.1 65 = .ok (.aload_n 0, 1) := zd_by (by decide +kernel)
theorem xd_81_66 : decode (wk_M 81).2.2.1 66 = .ok (.getfield 21, 3) := zd_by (by decide +kernel)
theorem xd_81_69 : decode (wk_M 81).2.2.1 69 = .ok (.iload_n 1, 1) := zd_by (by decide +kernel)
theorem xd_81_70 : decode (wk_M 81).2.2.1 70 = .ok (.iload 5, 2) := zd_by (by decide +kernel)
theorem xd_81_72 : decode (wk_M 81).2.2.1 72 = .ok (.iconst (-1), 1) := zd_by (by decide +kernel)
theorem xd_81_73 : decode (wk_M 81).2.2.1 73 = .ok (.ixor, 1) := zd_by (by decide +kernel)
theorem xd_81_74 : decode (wk_M 81).2.2.1 74 = .ok (.iand, 1) := zd_by (by decide +kernel)
theorem xd_81_75 : decode (wk_M 81).2.2.1 75 = .ok (.iaload, 1) := zd_by (by decide +kernel)
theorem xd_81_76 : decode (wk_M 81).2.2.1 76 = .ok (.istore 4, 2) := zd_by (by decide +kernel)
theorem xd_81_78 : decode (wk_M 81).2.2.1 78 = .ok (.iload 5, 2) := zd_by (by decide +kernel)
theorem xd_81_80 : decode (wk_M 81).2.2.1 80 = .ok (.istore_n 3, 1) := zd_by (by decide +kernel)
theorem xd_81_81 : decode (wk_M 81).2.2.1 81 = .ok (.iload 5, 2) := zd_by (by decide +kernel)
theorem xd_81_83 : decode (wk_M 81).2.2.1 83 = .ok (.iconst 1, 1) := zd_by (by decide +kernel)
theorem xd_81_84 : decode (wk_M 81).2.2.1 84 = .ok (.isub, 1) := zd_by (by decide +kernel)
theorem xd_81_85 : decode (wk_M 81).2.2.1 85 = .ok (.iload_n 1, 1) := zd_by (by decide +kernel)
theorem xd_81_86 : decode (wk_M 81).2.2.1 86 = .ok (.iand, 1) := zd_by (by decide +kernel)
theorem xd_81_87 : decode (wk_M 81).2.2.1 87 = .ok (.istore 5, 2) := zd_by (by decide +kernel)
theorem xd_81_89 : decode (wk_M 81).2.2.1 89 = .ok (.goto (-74), 3) := zd_by (by decide +kernel)
theorem xd_81_92 : decode (wk_M 81).2.2.1 92 = .ok (.iload 4, 2) := zd_by (by decide +kernel)
theorem xd_81_94 : decode (wk_M 81).2.2.1 94 = .ok (.sipush 1000, 3) := zd_by (by decide +kernel)
theorem xd_81_97 : decode (wk_M 81).2.2.1 97 = .ok (.if_icmp .ge 7, 3) := zd_by (by decide +kernel)
theorem xd_81_100 : decode (wk_M 81).2.2.1 100 = .ok (.iload_n 3, 1) := zd_by (by decide +kernel)
theorem xd_81_101 : decode (wk_M 81).2.2.1 101 = .ok (.goto 4, 3) := zd_by (by decide +kernel)
theorem xd_81_104 : decode (wk_M 81).2.2.1 104 = .ok (.iconst 0, 1) := zd_by (by decide +kernel)
theorem xd_81_105 : decode (wk_M 81).2.2.1 105 = .ok (.ireturn, 1) := zd_by (by decide +kernel)
def LM_81 (x0 : Int) : Nat → Nat → Int → Int → Int → Int → dc_M → Int → dc_M → Prop
  | 0, _, _, _, _, _, _, _, _ => False
  | c + 1, tag, l2, l3, l4, l5, m, v, m' => match tag with
    | _ => (((l5 : Int) ≤ 0 ∧ ((((l4 : Int) ≥ 1000 ∧ (v = 0 ∧ m' = m)) ∨ (¬ ((l4 : Int) ≥ 1000) ∧ (v = l3 ∧ m' = m))))) ∨ (¬ ((l5 : Int) ≤ 0) ∧ (((((sv_g (sv_u l5 &&& sv_u l2)) : Int) = 0 ∧ (LM_81 x0 c 15 l2 l3 l4 (sv_g (sv_u (dc_w (l5 - 1)) &&& sv_u x0)) m v m')) ∨ (¬ (((sv_g (sv_u l5 &&& sv_u l2)) : Int) = 0) ∧ ((0 ≤ (l5 : Int) ∧ (l5 : Int) < 256) ∧ (((((m 48 l5) : Int) = 0 ∧ (LM_81 x0 c 15 l2 l3 l4 (sv_g (sv_u (dc_w (l5 - 1)) &&& sv_u x0)) m v m')) ∨ (¬ (((m 48 l5) : Int) = 0) ∧ ((0 ≤ ((sv_g (sv_u x0 &&& sv_u (-l5 - 1))) : Int) ∧ ((sv_g (sv_u x0 &&& sv_u (-l5 - 1))) : Int) < 256) ∧ (((((m 49 (sv_g (sv_u x0 &&& sv_u (-l5 - 1)))) : Int) > l4 ∧ (LM_81 x0 c 15 l2 l3 l4 (sv_g (sv_u (dc_w (l5 - 1)) &&& sv_u x0)) m v m')) ∨ (¬ (((m 49 (sv_g (sv_u x0 &&& sv_u (-l5 - 1)))) : Int) > l4) ∧ ((0 ≤ ((sv_g (sv_u x0 &&& sv_u (-l5 - 1))) : Int) ∧ ((sv_g (sv_u x0 &&& sv_u (-l5 - 1))) : Int) < 256) ∧ (LM_81 x0 c 15 l2 l5 (m 49 (sv_g (sv_u x0 &&& sv_u (-l5 - 1)))) (sv_g (sv_u (dc_w (l5 - 1)) &&& sv_u x0)) m v m')))))))))))))))
theorem lm_81_15 {x0 : Int} {c : Nat} {l2 : Int} {l3 : Int} {l4 : Int} {l5 : Int} {m : dc_M} {v : Int} {m' : dc_M} : LM_81 x0 (c + 1) 15 l2 l3 l4 l5 m v m' ↔ (((l5 : Int) ≤ 0 ∧ ((((l4 : Int) ≥ 1000 ∧ (v = 0 ∧ m' = m)) ∨ (¬ ((l4 : Int) ≥ 1000) ∧ (v = l3 ∧ m' = m))))) ∨ (¬ ((l5 : Int) ≤ 0) ∧ (((((sv_g (sv_u l5 &&& sv_u l2)) : Int) = 0 ∧ (LM_81 x0 c 15 l2 l3 l4 (sv_g (sv_u (dc_w (l5 - 1)) &&& sv_u x0)) m v m')) ∨ (¬ (((sv_g (sv_u l5 &&& sv_u l2)) : Int) = 0) ∧ ((0 ≤ (l5 : Int) ∧ (l5 : Int) < 256) ∧ (((((m 48 l5) : Int) = 0 ∧ (LM_81 x0 c 15 l2 l3 l4 (sv_g (sv_u (dc_w (l5 - 1)) &&& sv_u x0)) m v m')) ∨ (¬ (((m 48 l5) : Int) = 0) ∧ ((0 ≤ ((sv_g (sv_u x0 &&& sv_u (-l5 - 1))) : Int) ∧ ((sv_g (sv_u x0 &&& sv_u (-l5 - 1))) : Int) < 256) ∧ (((((m 49 (sv_g (sv_u x0 &&& sv_u (-l5 - 1)))) : Int) > l4 ∧ (LM_81 x0 c 15 l2 l3 l4 (sv_g (sv_u (dc_w (l5 - 1)) &&& sv_u x0)) m v m')) ∨ (¬ (((m 49 (sv_g (sv_u x0 &&& sv_u (-l5 - 1)))) : Int) > l4) ∧ ((0 ≤ ((sv_g (sv_u x0 &&& sv_u (-l5 - 1))) : Int) ∧ ((sv_g (sv_u x0 &&& sv_u (-l5 - 1))) : Int) < 256) ∧ (LM_81 x0 c 15 l2 l5 (m 49 (sv_g (sv_u x0 &&& sv_u (-l5 - 1)))) (sv_g (sv_u (dc_w (l5 - 1)) &&& sv_u x0)) m v m'))))))))))))))) := Iff.rfl
theorem dl_81 {x0 : Int} (ix0 : sv_I x0) : ∀ N : Nat, (∀ (n : Nat) (lv : ae_L) (h : ae_H) (r : ae_R) (l2 : Int) (l3 : Int) (l4 : Int) (l5 : Int), n ≤ N → dc_ok h → sv_I l2 → sv_I l3 → sv_I l4 → sv_I l5 → ae_lk lv 0 = some (wk_r 46) → ae_lk lv 1 = some (wk_i x0) → ae_lk lv 2 = some (wk_i l2) → ae_lk lv 3 = some (wk_i l3) → ae_lk lv 4 = some (wk_i l4) → ae_lk lv 5 = some (wk_i l5) → ae_exe n 81 15 0 0 lv [] h = some r → ∃ v, (∃ c, LM_81 x0 c 15 l2 l3 l4 l5 (dc_m h) v (dc_m r.2)) ∧ r.1 = some (wk_i v) ∧ sv_I v ∧ dc_ok r.2) := by
  intro N
  induction N with
  | zero =>
    exact fun n lv h r l2 l3 l4 l5 hn ok il2 il3 il4 il5 q0 q1 q2 q3 q4 q5 hr => by
      have e : n = 0 := by omega
      subst e
      cases hr
  | succ N ih =>
    have ih0 := ih
    intro n lv h r l2 l3 l4 l5 hn ok il2 il3 il4 il5 q0 q1 q2 q3 q4 q5 hr
    obtain ⟨n_1, e_2, hr_3⟩ := iv_iload xm_81 xd_81_15 q5 hr
    rcases iv_if 92 xm_81 xd_81_17 (by decide) il5 hr_3 with ⟨c_4, n_5, e_6, hr_7⟩ | ⟨c_4, n_5, e_6, hr_7⟩
    · obtain ⟨n_8, e_9, hr_10⟩ := iv_iload xm_81 xd_81_92 q4 hr_7
      obtain ⟨n_11, e_12, hr_13⟩ := iv_sipush xm_81 xd_81_94 (by decide) hr_10
      rcases iv_icmp 104 xm_81 xd_81_97 (by decide) il4 (by unfold sv_I; omega) hr_13 with ⟨c_14, n_15, e_16, hr_17⟩ | ⟨c_14, n_15, e_16, hr_17⟩
      · obtain ⟨n_18, e_19, hr_20⟩ := iv_iconst xm_81 xd_81_104 (by decide) hr_17
        have rr_21 := iv_ireturn xm_81 xd_81_105 hr_20
        subst rr_21
        exact ⟨_, ⟨0 + 1, lm_81_15.mpr (Or.inl ⟨c_4, Or.inl ⟨c_14, ⟨rfl, rfl⟩⟩⟩)⟩, rfl, (by unfold sv_I; omega), ok⟩
      · obtain ⟨n_22, e_23, hr_24⟩ := iv_iload_n xm_81 xd_81_100 q3 hr_17
        obtain ⟨n_25, e_26, hr_27⟩ := iv_goto 105 xm_81 xd_81_101 (by decide) hr_24
        have rr_28 := iv_ireturn xm_81 xd_81_105 hr_27
        subst rr_28
        exact ⟨_, ⟨0 + 1, lm_81_15.mpr (Or.inl ⟨c_4, Or.inr ⟨c_14, ⟨rfl, rfl⟩⟩⟩)⟩, rfl, il3, ok⟩
    · obtain ⟨n_29, e_30, hr_31⟩ := iv_iload xm_81 xd_81_20 q5 hr_7
      obtain ⟨n_32, e_33, hr_34⟩ := iv_iload_n xm_81 xd_81_22 q2 hr_31
      obtain ⟨n_35, e_36, hr_37⟩ := iv_iand xm_81 xd_81_23 hr_34
      rcases iv_if 41 xm_81 xd_81_24 (by decide) (sv_g_I (Nat.lt_of_le_of_lt Nat.and_le_right (sv_u_lt _))) hr_37 with ⟨c_38, n_39, e_40, hr_41⟩ | ⟨c_38, n_39, e_40, hr_41⟩
      · obtain ⟨n_42, e_43, hr_44⟩ := iv_iconst xm_81 xd_81_41 (by decide) hr_41
        obtain ⟨lv_46, sl_45, n_47, e_48, hr_49⟩ := iv_istore xm_81 xd_81_42 (by decide +kernel) hr_44
        have l_50 := sl_45.2 0 _ q0 (by decide) (Or.inl rfl)
        have l_51 := sl_45.2 1 _ q1 (by decide) (Or.inl rfl)
        have l_52 := sl_45.2 2 _ q2 (by decide) (Or.inl rfl)
        have l_53 := sl_45.2 3 _ q3 (by decide) (Or.inl rfl)
        have l_54 := sl_45.2 4 _ q4 (by decide) (Or.inl rfl)
        have l_55 := sl_45.2 5 _ q5 (by decide) (Or.inl rfl)
        have l_56 := sl_45.1
        obtain ⟨n_57, e_58, hr_59⟩ := iv_iload xm_81 xd_81_44 l_56 hr_49
        rcases iv_if 81 xm_81 xd_81_46 (by decide) (by unfold sv_I; omega) hr_59 with ⟨c_60, n_61, e_62, hr_63⟩ | ⟨c_60, n_61, e_62, hr_63⟩
        rotate_left
        · exact absurd (show ¬ ((0 : Int) = 0) from c_60) (by decide)
        obtain ⟨n_64, e_65, hr_66⟩ := iv_iload xm_81 xd_81_81 l_55 hr_63
        obtain ⟨n_67, e_68, hr_69⟩ := iv_iconst xm_81 xd_81_83 (by decide) hr_66
        obtain ⟨n_70, e_71, hr_72⟩ := iw_isub xm_81 xd_81_84 hr_69
        obtain ⟨n_73, e_74, hr_75⟩ := iv_iload_n xm_81 xd_81_85 l_51 hr_72
        obtain ⟨n_76, e_77, hr_78⟩ := iv_iand xm_81 xd_81_86 hr_75
        obtain ⟨lv_80, sl_79, n_81, e_82, hr_83⟩ := iv_istore xm_81 xd_81_87 (by decide +kernel) hr_78
        have l_84 := sl_79.2 0 _ l_50 (by decide) (Or.inl rfl)
        have l_85 := sl_79.2 1 _ l_51 (by decide) (Or.inl rfl)
        have l_86 := sl_79.2 2 _ l_52 (by decide) (Or.inl rfl)
        have l_87 := sl_79.2 3 _ l_53 (by decide) (Or.inl rfl)
        have l_88 := sl_79.2 4 _ l_54 (by decide) (Or.inl rfl)
        have l_89 := sl_79.2 6 _ l_56 (by decide) (Or.inl rfl)
        have l_90 := sl_79.1
        obtain ⟨n_91, e_92, hr_93⟩ := iv_goto 15 xm_81 xd_81_89 (by decide) hr_83
        obtain ⟨v, ⟨c, hL⟩, e1, e2, e3⟩ := ih0 _ lv_80 h _ _ _ _ _ (by omega) ok il2 il3 il4 (sv_g_I (Nat.lt_of_le_of_lt Nat.and_le_right (sv_u_lt _))) l_84 l_85 l_86 l_87 l_88 l_90 hr_93
        exact ⟨v, ⟨c + 1, lm_81_15.mpr (Or.inr ⟨c_4, Or.inl ⟨c_38, hL⟩⟩)⟩, e1, e2, e3⟩
      · obtain ⟨n_94, e_95, hr_96⟩ := iv_aload_n xm_81 xd_81_27 q0 hr_41
        have f_97 := dc_fr (j := 2) ok (rfl : sv_ty 46 = some 6) dt_6 rfl
        obtain ⟨n_98, e_99, hr_100⟩ := iv_getf (j := 2) xm_81 xd_81_28 (by decide +kernel) ok (rfl : sv_ty 46 = some 6) dt_6 f_97 hr_96
        obtain ⟨n_101, e_102, hr_103⟩ := iv_iload xm_81 xd_81_31 q5 hr_100
        obtain ⟨q_104, qi_105, n_106, e_107, hr_108⟩ := iv_bald xm_81 xd_81_33 ok (rfl : sv_ty 48 = some 49) dt_49 (Or.inr rfl) (by decide) il5 hr_103
        rcases iv_if 41 xm_81 xd_81_34 (by decide) qi_105 hr_108 with ⟨c_109, n_110, e_111, hr_112⟩ | ⟨c_109, n_110, e_111, hr_112⟩
        · obtain ⟨n_113, e_114, hr_115⟩ := iv_iconst xm_81 xd_81_41 (by decide) hr_112
          obtain ⟨lv_117, sl_116, n_118, e_119, hr_120⟩ := iv_istore xm_81 xd_81_42 (by decide +kernel) hr_115
          have l_121 := sl_116.2 0 _ q0 (by decide) (Or.inl rfl)
          have l_122 := sl_116.2 1 _ q1 (by decide) (Or.inl rfl)
          have l_123 := sl_116.2 2 _ q2 (by decide) (Or.inl rfl)
          have l_124 := sl_116.2 3 _ q3 (by decide) (Or.inl rfl)
          have l_125 := sl_116.2 4 _ q4 (by decide) (Or.inl rfl)
          have l_126 := sl_116.2 5 _ q5 (by decide) (Or.inl rfl)
          have l_127 := sl_116.1
          obtain ⟨n_128, e_129, hr_130⟩ := iv_iload xm_81 xd_81_44 l_127 hr_120
          rcases iv_if 81 xm_81 xd_81_46 (by decide) (by unfold sv_I; omega) hr_130 with ⟨c_131, n_132, e_133, hr_134⟩ | ⟨c_131, n_132, e_133, hr_134⟩
          rotate_left
          · exact absurd (show ¬ ((0 : Int) = 0) from c_131) (by decide)
          obtain ⟨n_135, e_136, hr_137⟩ := iv_iload xm_81 xd_81_81 l_126 hr_134
          obtain ⟨n_138, e_139, hr_140⟩ := iv_iconst xm_81 xd_81_83 (by decide) hr_137
          obtain ⟨n_141, e_142, hr_143⟩ := iw_isub xm_81 xd_81_84 hr_140
          obtain ⟨n_144, e_145, hr_146⟩ := iv_iload_n xm_81 xd_81_85 l_122 hr_143
          obtain ⟨n_147, e_148, hr_149⟩ := iv_iand xm_81 xd_81_86 hr_146
          obtain ⟨lv_151, sl_150, n_152, e_153, hr_154⟩ := iv_istore xm_81 xd_81_87 (by decide +kernel) hr_149
          have l_155 := sl_150.2 0 _ l_121 (by decide) (Or.inl rfl)
          have l_156 := sl_150.2 1 _ l_122 (by decide) (Or.inl rfl)
          have l_157 := sl_150.2 2 _ l_123 (by decide) (Or.inl rfl)
          have l_158 := sl_150.2 3 _ l_124 (by decide) (Or.inl rfl)
          have l_159 := sl_150.2 4 _ l_125 (by decide) (Or.inl rfl)
          have l_160 := sl_150.2 6 _ l_127 (by decide) (Or.inl rfl)
          have l_161 := sl_150.1
          obtain ⟨n_162, e_163, hr_164⟩ := iv_goto 15 xm_81 xd_81_89 (by decide) hr_154
          obtain ⟨v, ⟨c, hL⟩, e1, e2, e3⟩ := ih0 _ lv_151 h _ _ _ _ _ (by omega) ok il2 il3 il4 (sv_g_I (Nat.lt_of_le_of_lt Nat.and_le_right (sv_u_lt _))) l_155 l_156 l_157 l_158 l_159 l_161 hr_164
          exact ⟨v, ⟨c + 1, lm_81_15.mpr (Or.inr ⟨c_4, Or.inr ⟨c_38, ⟨q_104, Or.inl ⟨c_109, hL⟩⟩⟩⟩)⟩, e1, e2, e3⟩
        · obtain ⟨n_165, e_166, hr_167⟩ := iv_iconst xm_81 xd_81_37 (by decide) hr_112
          obtain ⟨n_168, e_169, hr_170⟩ := iv_goto 42 xm_81 xd_81_38 (by decide) hr_167
          obtain ⟨lv_172, sl_171, n_173, e_174, hr_175⟩ := iv_istore xm_81 xd_81_42 (by decide +kernel) hr_170
          have l_176 := sl_171.2 0 _ q0 (by decide) (Or.inl rfl)
          have l_177 := sl_171.2 1 _ q1 (by decide) (Or.inl rfl)
          have l_178 := sl_171.2 2 _ q2 (by decide) (Or.inl rfl)
          have l_179 := sl_171.2 3 _ q3 (by decide) (Or.inl rfl)
          have l_180 := sl_171.2 4 _ q4 (by decide) (Or.inl rfl)
          have l_181 := sl_171.2 5 _ q5 (by decide) (Or.inl rfl)
          have l_182 := sl_171.1
          obtain ⟨n_183, e_184, hr_185⟩ := iv_iload xm_81 xd_81_44 l_182 hr_175
          rcases iv_if 81 xm_81 xd_81_46 (by decide) (by unfold sv_I; omega) hr_185 with ⟨c_186, n_187, e_188, hr_189⟩ | ⟨c_186, n_187, e_188, hr_189⟩
          · exact absurd (show (1 : Int) = 0 from c_186) (by decide)
          obtain ⟨n_190, e_191, hr_192⟩ := iv_aload_n xm_81 xd_81_49 l_176 hr_189
          have f_193 := dc_fr (j := 3) ok (rfl : sv_ty 46 = some 6) dt_6 rfl
          obtain ⟨n_194, e_195, hr_196⟩ := iv_getf (j := 3) xm_81 xd_81_50 (by decide +kernel) ok (rfl : sv_ty 46 = some 6) dt_6 f_193 hr_192
          obtain ⟨n_197, e_198, hr_199⟩ := iv_iload_n xm_81 xd_81_53 l_177 hr_196
          obtain ⟨n_200, e_201, hr_202⟩ := iv_iload xm_81 xd_81_54 l_181 hr_199
          obtain ⟨n_203, e_204, hr_205⟩ := iv_iconst xm_81 xd_81_56 (by decide) hr_202
          obtain ⟨n_206, e_207, hr_208⟩ := iv_inot xm_81 xd_81_57 hr_205
          obtain ⟨n_209, e_210, hr_211⟩ := iv_iand xm_81 xd_81_58 hr_208
          obtain ⟨q_212, qi_213, n_214, e_215, hr_216⟩ := iv_iald xm_81 xd_81_59 ok (rfl : sv_ty 49 = some 50) dt_50 (by decide) (sv_g_I (Nat.lt_of_le_of_lt Nat.and_le_right (sv_u_lt _))) hr_211
          obtain ⟨n_217, e_218, hr_219⟩ := iv_iload xm_81 xd_81_60 l_180 hr_216
          rcases iv_icmp 81 xm_81 xd_81_62 (by decide) qi_213 il4 hr_219 with ⟨c_220, n_221, e_222, hr_223⟩ | ⟨c_220, n_221, e_222, hr_223⟩
          · obtain ⟨n_224, e_225, hr_226⟩ := iv_iload xm_81 xd_81_81 l_181 hr_223
            obtain ⟨n_227, e_228, hr_229⟩ := iv_iconst xm_81 xd_81_83 (by decide) hr_226
            obtain ⟨n_230, e_231, hr_232⟩ := iw_isub xm_81 xd_81_84 hr_229
            obtain ⟨n_233, e_234, hr_235⟩ := iv_iload_n xm_81 xd_81_85 l_177 hr_232
            obtain ⟨n_236, e_237, hr_238⟩ := iv_iand xm_81 xd_81_86 hr_235
            obtain ⟨lv_240, sl_239, n_241, e_242, hr_243⟩ := iv_istore xm_81 xd_81_87 (by decide +kernel) hr_238
            have l_244 := sl_239.2 0 _ l_176 (by decide) (Or.inl rfl)
            have l_245 := sl_239.2 1 _ l_177 (by decide) (Or.inl rfl)
            have l_246 := sl_239.2 2 _ l_178 (by decide) (Or.inl rfl)
            have l_247 := sl_239.2 3 _ l_179 (by decide) (Or.inl rfl)
            have l_248 := sl_239.2 4 _ l_180 (by decide) (Or.inl rfl)
            have l_249 := sl_239.2 6 _ l_182 (by decide) (Or.inl rfl)
            have l_250 := sl_239.1
            obtain ⟨n_251, e_252, hr_253⟩ := iv_goto 15 xm_81 xd_81_89 (by decide) hr_243
            obtain ⟨v, ⟨c, hL⟩, e1, e2, e3⟩ := ih0 _ lv_240 h _ _ _ _ _ (by omega) ok il2 il3 il4 (sv_g_I (Nat.lt_of_le_of_lt Nat.and_le_right (sv_u_lt _))) l_244 l_245 l_246 l_247 l_248 l_250 hr_253
            exact ⟨v, ⟨c + 1, lm_81_15.mpr (Or.inr ⟨c_4, Or.inr ⟨c_38, ⟨q_104, Or.inr ⟨c_109, ⟨q_212, Or.inl ⟨c_220, hL⟩⟩⟩⟩⟩⟩)⟩, e1, e2, e3⟩
          · obtain ⟨n_254, e_255, hr_256⟩ := iv_aload_n xm_81 xd_81_65 l_176 hr_223
            have f_257 := dc_fr (j := 3) ok (rfl : sv_ty 46 = some 6) dt_6 rfl
            obtain ⟨n_258, e_259, hr_260⟩ := iv_getf (j := 3) xm_81 xd_81_66 (by decide +kernel) ok (rfl : sv_ty 46 = some 6) dt_6 f_257 hr_256
            obtain ⟨n_261, e_262, hr_263⟩ := iv_iload_n xm_81 xd_81_69 l_177 hr_260
            obtain ⟨n_264, e_265, hr_266⟩ := iv_iload xm_81 xd_81_70 l_181 hr_263
            obtain ⟨n_267, e_268, hr_269⟩ := iv_iconst xm_81 xd_81_72 (by decide) hr_266
            obtain ⟨n_270, e_271, hr_272⟩ := iv_inot xm_81 xd_81_73 hr_269
            obtain ⟨n_273, e_274, hr_275⟩ := iv_iand xm_81 xd_81_74 hr_272
            obtain ⟨q_276, qi_277, n_278, e_279, hr_280⟩ := iv_iald xm_81 xd_81_75 ok (rfl : sv_ty 49 = some 50) dt_50 (by decide) (sv_g_I (Nat.lt_of_le_of_lt Nat.and_le_right (sv_u_lt _))) hr_275
            obtain ⟨lv_282, sl_281, n_283, e_284, hr_285⟩ := iv_istore xm_81 xd_81_76 (by decide +kernel) hr_280
            have l_286 := sl_281.2 0 _ l_176 (by decide) (Or.inl rfl)
            have l_287 := sl_281.2 1 _ l_177 (by decide) (Or.inl rfl)
            have l_288 := sl_281.2 2 _ l_178 (by decide) (Or.inl rfl)
            have l_289 := sl_281.2 3 _ l_179 (by decide) (Or.inl rfl)
            have l_290 := sl_281.2 5 _ l_181 (by decide) (Or.inl rfl)
            have l_291 := sl_281.2 6 _ l_182 (by decide) (Or.inl rfl)
            have l_292 := sl_281.1
            obtain ⟨n_293, e_294, hr_295⟩ := iv_iload xm_81 xd_81_78 l_290 hr_285
            obtain ⟨lv_297, sl_296, n_298, e_299, hr_300⟩ := iv_istore_n xm_81 xd_81_80 (by decide +kernel) hr_295
            have l_301 := sl_296.2 0 _ l_286 (by decide) (Or.inl rfl)
            have l_302 := sl_296.2 1 _ l_287 (by decide) (Or.inl rfl)
            have l_303 := sl_296.2 2 _ l_288 (by decide) (Or.inl rfl)
            have l_304 := sl_296.2 4 _ l_292 (by decide) (Or.inl rfl)
            have l_305 := sl_296.2 5 _ l_290 (by decide) (Or.inl rfl)
            have l_306 := sl_296.2 6 _ l_291 (by decide) (Or.inl rfl)
            have l_307 := sl_296.1
            obtain ⟨n_308, e_309, hr_310⟩ := iv_iload xm_81 xd_81_81 l_305 hr_300
            obtain ⟨n_311, e_312, hr_313⟩ := iv_iconst xm_81 xd_81_83 (by decide) hr_310
            obtain ⟨n_314, e_315, hr_316⟩ := iw_isub xm_81 xd_81_84 hr_313
            obtain ⟨n_317, e_318, hr_319⟩ := iv_iload_n xm_81 xd_81_85 l_302 hr_316
            obtain ⟨n_320, e_321, hr_322⟩ := iv_iand xm_81 xd_81_86 hr_319
            obtain ⟨lv_324, sl_323, n_325, e_326, hr_327⟩ := iv_istore xm_81 xd_81_87 (by decide +kernel) hr_322
            have l_328 := sl_323.2 0 _ l_301 (by decide) (Or.inl rfl)
            have l_329 := sl_323.2 1 _ l_302 (by decide) (Or.inl rfl)
            have l_330 := sl_323.2 2 _ l_303 (by decide) (Or.inl rfl)
            have l_331 := sl_323.2 3 _ l_307 (by decide) (Or.inl rfl)
            have l_332 := sl_323.2 4 _ l_304 (by decide) (Or.inl rfl)
            have l_333 := sl_323.2 6 _ l_306 (by decide) (Or.inl rfl)
            have l_334 := sl_323.1
            obtain ⟨n_335, e_336, hr_337⟩ := iv_goto 15 xm_81 xd_81_89 (by decide) hr_327
            obtain ⟨v, ⟨c, hL⟩, e1, e2, e3⟩ := ih0 _ lv_324 h _ _ _ _ _ (by omega) ok il2 il5 qi_277 (sv_g_I (Nat.lt_of_le_of_lt Nat.and_le_right (sv_u_lt _))) l_328 l_329 l_330 l_331 l_332 l_334 hr_337
            exact ⟨v, ⟨c + 1, lm_81_15.mpr (Or.inr ⟨c_4, Or.inr ⟨c_38, ⟨q_104, Or.inr ⟨c_109, ⟨q_212, Or.inr ⟨c_220, ⟨q_276, hL⟩⟩⟩⟩⟩⟩⟩)⟩, e1, e2, e3⟩
abbrev D_81 (x0 : Int) (m : dc_M) (v : Int) (m' : dc_M) : Prop := ∃ c, LM_81 x0 c 15 (sv_g (sv_u x0 &&& sv_u (dc_w (-x0)))) 0 1000 x0 m v m'
theorem ds_81 (n : Nat) (x0 : Int) {h : ae_H} {r : ae_R} (ok : dc_ok h) (ix0 : sv_I x0) (hr : ae_exe n 81 0 0 0 (ae_args [wk_r 46, wk_i x0] 0) [] h = some r) : ∃ v, D_81 x0 (dc_m h) v (dc_m r.2) ∧ r.1 = some (wk_i v) ∧ sv_I v ∧ dc_ok r.2 := by
  have q0 : ae_lk (ae_args [wk_r 46, wk_i x0] 0) 0 = some (wk_r 46) := rfl
  have q1 : ae_lk (ae_args [wk_r 46, wk_i x0] 0) 1 = some (wk_i x0) := rfl
  obtain ⟨n_338, e_339, hr_340⟩ := iv_iload_n xm_81 xd_81_0 q1 hr
  obtain ⟨n_341, e_342, hr_343⟩ := iv_iload_n xm_81 xd_81_1 q1 hr_340
  obtain ⟨n_344, e_345, hr_346⟩ := iw_ineg xm_81 xd_81_2 hr_343
  obtain ⟨n_347, e_348, hr_349⟩ := iv_iand xm_81 xd_81_3 hr_346
  obtain ⟨lv_351, sl_350, n_352, e_353, hr_354⟩ := iv_istore_n xm_81 xd_81_4 (by decide +kernel) hr_349
  have l_355 := sl_350.2 0 _ q0 (by decide) (Or.inl rfl)
  have l_356 := sl_350.2 1 _ q1 (by decide) (Or.inl rfl)
  have l_357 := sl_350.1
  obtain ⟨n_358, e_359, hr_360⟩ := iv_iconst xm_81 xd_81_5 (by decide) hr_354
  obtain ⟨lv_362, sl_361, n_363, e_364, hr_365⟩ := iv_istore_n xm_81 xd_81_6 (by decide +kernel) hr_360
  have l_366 := sl_361.2 0 _ l_355 (by decide) (Or.inl rfl)
  have l_367 := sl_361.2 1 _ l_356 (by decide) (Or.inl rfl)
  have l_368 := sl_361.2 2 _ l_357 (by decide) (Or.inl rfl)
  have l_369 := sl_361.1
  obtain ⟨n_370, e_371, hr_372⟩ := iv_sipush xm_81 xd_81_7 (by decide) hr_365
  obtain ⟨lv_374, sl_373, n_375, e_376, hr_377⟩ := iv_istore xm_81 xd_81_10 (by decide +kernel) hr_372
  have l_378 := sl_373.2 0 _ l_366 (by decide) (Or.inl rfl)
  have l_379 := sl_373.2 1 _ l_367 (by decide) (Or.inl rfl)
  have l_380 := sl_373.2 2 _ l_368 (by decide) (Or.inl rfl)
  have l_381 := sl_373.2 3 _ l_369 (by decide) (Or.inl rfl)
  have l_382 := sl_373.1
  obtain ⟨n_383, e_384, hr_385⟩ := iv_iload_n xm_81 xd_81_12 l_379 hr_377
  obtain ⟨lv_387, sl_386, n_388, e_389, hr_390⟩ := iv_istore xm_81 xd_81_13 (by decide +kernel) hr_385
  have l_391 := sl_386.2 0 _ l_378 (by decide) (Or.inl rfl)
  have l_392 := sl_386.2 1 _ l_379 (by decide) (Or.inl rfl)
  have l_393 := sl_386.2 2 _ l_380 (by decide) (Or.inl rfl)
  have l_394 := sl_386.2 3 _ l_381 (by decide) (Or.inl rfl)
  have l_395 := sl_386.2 4 _ l_382 (by decide) (Or.inl rfl)
  have l_396 := sl_386.1
  obtain ⟨v, ⟨c, hL⟩, e1, e2, e3⟩ := (dl_81 ix0 _) _ lv_387 h _ _ _ _ _ (Nat.le_refl _) ok (sv_g_I (Nat.lt_of_le_of_lt Nat.and_le_right (sv_u_lt _))) (by unfold sv_I; omega) (by unfold sv_I; omega) ix0 l_391 l_392 l_393 l_394 l_395 l_396 hr_390
  exact ⟨v, ⟨_, hL⟩, e1, e2, e3⟩
/-! method 80 -/
theorem xm_80 : ae_m 80 = some (wk_M 80) := rfl
theorem xd_80_0 : decode (wk_M 80).2.2.1 0 = .ok (.iconst 1, 1) := zd_by (by decide +kernel)
theorem xd_80_1 : decode (wk_M 80).2.2.1 1 = .ok (.aload_n 1, 1) := zd_by (by decide +kernel)
theorem xd_80_2 : decode (wk_M 80).2.2.1 2 = .ok (.getfield 47, 3) := zd_by (by decide +kernel)
theorem xd_80_5 : decode (wk_M 80).2.2.1 5 = .ok (.ishl, 1) := zd_by (by decide +kernel)
theorem xd_80_6 : decode (wk_M 80).2.2.1 6 = .ok (.iconst 1, 1) := zd_by (by decide +kernel)
theorem xd_80_7 : decode (wk_M 80).2.2.1 7 = .ok (.isub, 1) := zd_by (by decide +kernel)
theorem xd_80_8 : decode (wk_M 80).2.2.1 8 = .ok (.istore_n 2, 1) := zd_by (by decide +kernel)
theorem xd_80_9 : decode (wk_M 80).2.2.1 9 = .ok (.iconst 1, 1) := zd_by (by decide +kernel)
theorem xd_80_10 : decode (wk_M 80).2.2.1 10 = .ok (.istore_n 3, 1) := zd_by (by decide +kernel)
theorem xd_80_11 : decode (wk_M 80).2.2.1 11 = .ok (.iload_n 3, 1) := zd_by (by decide +kernel)
theorem xd_80_12 : decode (wk_M 80).2.2.1 12 = .ok (.iload_n 2, 1) := zd_by (by decide +kernel)
theorem xd_80_13 : decode (wk_M 80).2.2.1 13 = .ok (.if_icmp .gt 62, 3) := zd_by (by decide +kernel)
theorem xd_80_16 : decode (wk_M 80).2.2.1 16 = .ok (.aload_n 0, 1) := zd_by (by decide +kernel)
theorem xd_80_17 : decode (wk_M 80).2.2.1 17 = .ok (.getfield 17, 3) := zd_by (by decide +kernel)
theorem xd_80_20 : decode (wk_M 80).2.2.1 20 = .ok (.iload_n 3, 1) := zd_by (by decide +kernel)
theorem xd_80_21 : decode (wk_M 80).2.2.1 21 = .ok (.aload_n 0, 1) := zd_by (by decide +kernel)
theorem xd_80_22 : decode (wk_M 80).2.2.1 22 = .ok (.aload_n 1, 1) := zd_by (by decide +kernel)
theorem xd_80_23 : decode (wk_M 80).2.2.1 23 = .ok (.iload_n 3, 1) := zd_by (by decide +kernel)
theorem xd_80_24 : decode (wk_M 80).2.2.1 24 = .ok (.aload_n 0, 1) := zd_by (by decide +kernel)
theorem xd_80_25 : decode (wk_M 80).2.2.1 25 = .ok (.getfield 27, 3) := zd_by (by decide +kernel)
theorem xd_80_28 : decode (wk_M 80).2.2.1 28 = .ok (.invokevirtual 50, 3) := zd_by (by decide +kernel)
theorem xd_80_31 : decode (wk_M 80).2.2.1 31 = .ok (.bastore, 1) := zd_by (by decide +kernel)
theorem xd_80_32 : decode (wk_M 80).2.2.1 32 = .ok (.aload_n 0, 1) := zd_by (by decide +kernel)
theorem xd_80_33 : decode (wk_M 80).2.2.1 33 = .ok (.iload_n 3, 1) := zd_by (by decide +kernel)
theorem xd_80_34 : decode (wk_M 80).2.2.1 34 = .ok (.invokevirtual 54, 3) := zd_by (by decide +kernel)
theorem xd_80_37 : decode (wk_M 80).2.2.1 37 = .ok (.istore 4, 2) := zd_by (by decide +kernel)
theorem xd_80_39 : decode (wk_M 80).2.2.1 39 = .ok (.aload_n 0, 1) := zd_by (by decide +kernel)
theorem xd_80_40 : decode (wk_M 80).2.2.1 40 = .ok (.getfield 21, 3) := zd_by (by decide +kernel)
theorem xd_80_43 : decode (wk_M 80).2.2.1 43 = .ok (.iload_n 3, 1) := zd_by (by decide +kernel)
theorem xd_80_44 : decode (wk_M 80).2.2.1 44 = .ok (.iload 4, 2) := zd_by (by decide +kernel)
theorem xd_80_46 : decode (wk_M 80).2.2.1 46 = .ok (.ifCond .ne 9, 3) := zd_by (by decide +kernel)
theorem xd_80_49 : decode (wk_M 80).2.2.1 49 = .ok (.sipush 1000, 3) := zd_by (by decide +kernel)
theorem xd_80_52 : decode (wk_M 80).2.2.1 52 = .ok (.goto 16, 3) := zd_by (by decide +kernel)
theorem xd_80_55 : decode (wk_M 80).2.2.1 55 = .ok (.aload_n 0, 1) := zd_by (by decide +kernel)
theorem xd_80_56 : decode (wk_M 80).2.2.1 56 = .ok (.getfield 21, 3) := zd_by (by decide +kernel)
theorem xd_80_59 : decode (wk_M 80).2.2.1 59 = .ok (.iload_n 3, 1) := zd_by (by decide +kernel)
theorem xd_80_60 : decode (wk_M 80).2.2.1 60 = .ok (.iload 4, 2) := zd_by (by decide +kernel)
theorem xd_80_62 : decode (wk_M 80).2.2.1 62 = .ok (.iconst (-1), 1) := zd_by (by decide +kernel)
theorem xd_80_63 : decode (wk_M 80).2.2.1 63 = .ok (.ixor, 1) := zd_by (by decide +kernel)
theorem xd_80_64 : decode (wk_M 80).2.2.1 64 = .ok (.iand, 1) := zd_by (by decide +kernel)
theorem xd_80_65 : decode (wk_M 80).2.2.1 65 = .ok (.iaload, 1) := zd_by (by decide +kernel)
theorem xd_80_66 : decode (wk_M 80).2.2.1 66 = .ok (.iconst 1, 1) := zd_by (by decide +kernel)
theorem xd_80_67 : decode (wk_M 80).2.2.1 67 = .ok (.iadd, 1) := zd_by (by decide +kernel)
theorem xd_80_68 : decode (wk_M 80).2.2.1 68 = .ok (.iastore, 1) := zd_by (by decide +kernel)
theorem xd_80_69 : decode (wk_M 80).2.2.1 69 = .ok (.iinc 3 1, 3) := zd_by (by decide +kernel)
theorem xd_80_72 : decode (wk_M 80).2.2.1 72 = .ok (.goto (-61), 3) := zd_by (by decide +kernel)
theorem xd_80_75 : decode (wk_M 80).2.2.1 75 = .ok (.aload_n 0, 1) := zd_by (by decide +kernel)
theorem xd_80_76 : decode (wk_M 80).2.2.1 76 = .ok (.iconst 0, 1) := zd_by (by decide +kernel)
theorem xd_80_77 : decode (wk_M 80).2.2.1 77 = .ok (.putfield 43, 3) := zd_by (by decide +kernel)
theorem xd_80_80 : decode (wk_M 80).2.2.1 80 = .ok (.iload_n 2, 1) := zd_by (by decide +kernel)
theorem xd_80_81 : decode (wk_M 80).2.2.1 81 = .ok (.istore_n 3, 1) := zd_by (by decide +kernel)
theorem xd_80_82 : decode (wk_M 80).2.2.1 82 = .ok (.iload_n 3, 1) := zd_by (by decide +kernel)
theorem xd_80_83 : decode (wk_M 80).2.2.1 83 = .ok (.ifCond .eq 67, 3) := zd_by (by decide +kernel)
theorem xd_80_86 : decode (wk_M 80).2.2.1 86 = .ok (.aload_n 0, 1) := zd_by (by decide +kernel)
theorem xd_80_87 : decode (wk_M 80).2.2.1 87 = .ok (.getfield 43, 3) := zd_by (by decide +kernel)
theorem xd_80_90 : decode (wk_M 80).2.2.1 90 = .ok (.iconst (-1), 1) := zd_by (by decide +kernel)
theorem xd_80_91 : decode (wk_M 80).2.2.1 91 = .ok (.if_icmp .eq 59, 3) := zd_by (by decide +kernel)
theorem xd_80_94 : decode (wk_M 80).2.2.1 94 = .ok (.aload_n 0, 1) := zd_by (by decide +kernel)
theorem xd_80_95 : decode (wk_M 80).2.2.1 95 = .ok (.getfield 43, 3) := zd_by (by decide +kernel)
theorem xd_80_98 : decode (wk_M 80).2.2.1 98 = .ok (.bipush 8, 2) := zd_by (by decide +kernel)
theorem xd_80_100 : decode (wk_M 80).2.2.1 100 = .ok (.if_icmp .ge 50, 3) := zd_by (by decide +kernel)
theorem xd_80_103 : decode (wk_M 80).2.2.1 103 = .ok (.aload_n 0, 1) := zd_by (by decide +kernel)
theorem xd_80_104 : decode (wk_M 80).2.2.1 104 = .ok (.iload_n 3, 1) := zd_by (by decide +kernel)
theorem xd_80_105 : decode (wk_M 80).2.2.1 105 = .ok (.invokevirtual 54, 3) := zd_by (by decide +kernel)
theorem xd_80_108 : decode (wk_M 80).2.2.1 108 = .ok (.istore 4, 2) := zd_by (by decide +kernel)
theorem xd_80_110 : decode (wk_M 80).2.2.1 110 = .ok (.aload_n 0, 1) := zd_by (by decide +kernel)
theorem xd_80_111 : decode (wk_M 80).2.2.1 111 = .ok (.getfield 11, 3) := zd_by (by decide +kernel)
theorem xd_80_114 : decode (wk_M 80).2.2.1 114 = .ok (.aload_n 0, 1) := zd_by (by decide +kernel)
theorem xd_80_115 : decode (wk_M 80).2.2.1 115 = .ok (.getfield 43, 3) := zd_by (by decide +kernel)
theorem xd_80_118 : decode (wk_M 80).2.2.1 118 = .ok (.iload 4, 2) := zd_by (by decide +kernel)
theorem xd_80_120 : decode (wk_M 80).2.2.1 120 = .ok (.iastore, 1) := zd_by (by decide +kernel)
theorem xd_80_121 : decode (wk_M 80).2.2.1 121 = .ok (.iload_n 3, 1) := zd_by (by decide +kernel)
theorem xd_80_122 : decode (wk_M 80).2.2.1 122 = .ok (.iload 4, 2) := zd_by (by decide +kernel)
theorem xd_80_124 : decode (wk_M 80).2.2.1 124 = .ok (.iconst (-1), 1) := zd_by (by decide +kernel)
theorem xd_80_125 : decode (wk_M 80).2.2.1 125 = .ok (.ixor, 1) := zd_by (by decide +kernel)
theorem xd_80_126 : decode (wk_M 80).2.2.1 126 = .ok (.iand, 1) := zd_by (by decide +kernel)
theorem xd_80_127 : decode (wk_M 80).2.2.1 127 = .ok (.istore_n 3, 1) := zd_by (by decide +kernel)
theorem xd_80_128 : decode (wk_M 80).2.2.1 128 = .ok (.aload_n 0, 1) := zd_by (by decide +kernel)
theorem xd_80_129 : decode (wk_M 80).2.2.1 129 = .ok (.iload 4, 2) := zd_by (by decide +kernel)
theorem xd_80_131 : decode (wk_M 80).2.2.1 131 = .ok (.ifCond .ne 7, 3) := zd_by (by decide +kernel)
theorem xd_80_134 : decode (wk_M 80).2.2.1 134 = .ok (.iconst (-1), 1) := zd_by (by decide +kernel)
theorem xd_80_135 : decode (wk_M 80).2.2.1 135 = .ok (.goto 9, 3) := zd_by (by decide +kernel)
theorem xd_80_138 : decode (wk_M 80).2.2.1 138 = .ok (.aload_n 0, 1) := zd_by (by decide +kernel)
theorem xd_80_139 : decode (wk_M 80).2.2.1 139 = .ok (.getfield 43, 3) := zd_by (by decide +kernel)
theorem xd_80_142 : decode (wk_M 80).2.2.1 142 = .ok (.iconst 1, 1) := zd_by (by decide +kernel)
theorem xd_80_143 : decode (wk_M 80).2.2.1 143 = .ok (.iadd, 1) := zd_by (by decide +kernel)
theorem xd_80_144 : decode (wk_M 80).2.2.1 144 = .ok (.putfield 43, 3) := zd_by (by decide +kernel)
theorem xd_80_147 : decode (wk_M 80).2.2.1 147 = .ok (.goto (-65), 3) := zd_by (by decide +kernel)
theorem xd_80_150 : decode (wk_M 80).2.2.1 150 = .ok (.return_, 1) := zd_by (by decide +kernel)
def LM_80 (k1 : Nat) : Nat → Nat → Int → Int → dc_M → Int → dc_M → Prop
  | 0, _, _, _, _, _, _ => False
  | c + 1, tag, l2, l3, m, v, m' => match tag with
    | 11 => (((l3 : Int) > l2 ∧ (∃ m_20, m_20 = dc_up m 46 1 0 ∧ (LM_80 k1 c 82 l2 l2 m_20 v m'))) ∨ (¬ ((l3 : Int) > l2) ∧ (∃ v_64 m_69, D_82 k1 l3 50 m v_64 m_69 ∧ ((0 ≤ (l3 : Int) ∧ (l3 : Int) < 256) ∧ ∃ m_79, m_79 = dc_up m_69 48 l3 (dc_z v_64) ∧ (∃ v_91 m_96, D_81 l3 m_79 v_91 m_96 ∧ ((((v_91 : Int) ≠ 0 ∧ ((0 ≤ ((sv_g (sv_u l3 &&& sv_u (-v_91 - 1))) : Int) ∧ ((sv_g (sv_u l3 &&& sv_u (-v_91 - 1))) : Int) < 256) ∧ ((0 ≤ (l3 : Int) ∧ (l3 : Int) < 256) ∧ ∃ m_166, m_166 = dc_up m_96 49 l3 (dc_w ((m_96 49 (sv_g (sv_u l3 &&& sv_u (-v_91 - 1)))) + 1)) ∧ (LM_80 k1 c 11 l2 (dc_w (l3 + 1)) m_166 v m')))) ∨ (¬ ((v_91 : Int) ≠ 0) ∧ ((0 ≤ (l3 : Int) ∧ (l3 : Int) < 256) ∧ ∃ m_193, m_193 = dc_up m_96 49 l3 1000 ∧ (LM_80 k1 c 11 l2 (dc_w (l3 + 1)) m_193 v m'))))))))))
    | _ => (((l3 : Int) = 0 ∧ (v = 0 ∧ m' = m)) ∨ (¬ ((l3 : Int) = 0) ∧ (((((m 46 1) : Int) = (-1) ∧ (v = 0 ∧ m' = m)) ∨ (¬ (((m 46 1) : Int) = (-1)) ∧ (((((m 46 1) : Int) ≥ 8 ∧ (v = 0 ∧ m' = m)) ∨ (¬ (((m 46 1) : Int) ≥ 8) ∧ (∃ v_256 m_261, D_81 l3 m v_256 m_261 ∧ ((0 ≤ ((m_261 46 1) : Int) ∧ ((m_261 46 1) : Int) < 8) ∧ ∃ m_298, m_298 = dc_up m_261 47 (m_261 46 1) v_256 ∧ ((((v_256 : Int) ≠ 0 ∧ (∃ m_353, m_353 = dc_up m_298 46 1 (dc_w ((m_298 46 1) + 1)) ∧ (LM_80 k1 c 82 l2 (sv_g (sv_u l3 &&& sv_u (-v_256 - 1))) m_353 v m'))) ∨ (¬ ((v_256 : Int) ≠ 0) ∧ (∃ m_369, m_369 = dc_up m_298 46 1 (-1) ∧ (LM_80 k1 c 82 l2 (sv_g (sv_u l3 &&& sv_u (-v_256 - 1))) m_369 v m')))))))))))))))
theorem lm_80_11 {k1 : Nat} {c : Nat} {l2 : Int} {l3 : Int} {m : dc_M} {v : Int} {m' : dc_M} : LM_80 k1 (c + 1) 11 l2 l3 m v m' ↔ (((l3 : Int) > l2 ∧ (∃ m_20, m_20 = dc_up m 46 1 0 ∧ (LM_80 k1 c 82 l2 l2 m_20 v m'))) ∨ (¬ ((l3 : Int) > l2) ∧ (∃ v_64 m_69, D_82 k1 l3 50 m v_64 m_69 ∧ ((0 ≤ (l3 : Int) ∧ (l3 : Int) < 256) ∧ ∃ m_79, m_79 = dc_up m_69 48 l3 (dc_z v_64) ∧ (∃ v_91 m_96, D_81 l3 m_79 v_91 m_96 ∧ ((((v_91 : Int) ≠ 0 ∧ ((0 ≤ ((sv_g (sv_u l3 &&& sv_u (-v_91 - 1))) : Int) ∧ ((sv_g (sv_u l3 &&& sv_u (-v_91 - 1))) : Int) < 256) ∧ ((0 ≤ (l3 : Int) ∧ (l3 : Int) < 256) ∧ ∃ m_166, m_166 = dc_up m_96 49 l3 (dc_w ((m_96 49 (sv_g (sv_u l3 &&& sv_u (-v_91 - 1)))) + 1)) ∧ (LM_80 k1 c 11 l2 (dc_w (l3 + 1)) m_166 v m')))) ∨ (¬ ((v_91 : Int) ≠ 0) ∧ ((0 ≤ (l3 : Int) ∧ (l3 : Int) < 256) ∧ ∃ m_193, m_193 = dc_up m_96 49 l3 1000 ∧ (LM_80 k1 c 11 l2 (dc_w (l3 + 1)) m_193 v m')))))))))) := Iff.rfl
theorem lm_80_82 {k1 : Nat} {c : Nat} {l2 : Int} {l3 : Int} {m : dc_M} {v : Int} {m' : dc_M} : LM_80 k1 (c + 1) 82 l2 l3 m v m' ↔ (((l3 : Int) = 0 ∧ (v = 0 ∧ m' = m)) ∨ (¬ ((l3 : Int) = 0) ∧ (((((m 46 1) : Int) = (-1) ∧ (v = 0 ∧ m' = m)) ∨ (¬ (((m 46 1) : Int) = (-1)) ∧ (((((m 46 1) : Int) ≥ 8 ∧ (v = 0 ∧ m' = m)) ∨ (¬ (((m 46 1) : Int) ≥ 8) ∧ (∃ v_256 m_261, D_81 l3 m v_256 m_261 ∧ ((0 ≤ ((m_261 46 1) : Int) ∧ ((m_261 46 1) : Int) < 8) ∧ ∃ m_298, m_298 = dc_up m_261 47 (m_261 46 1) v_256 ∧ ((((v_256 : Int) ≠ 0 ∧ (∃ m_353, m_353 = dc_up m_298 46 1 (dc_w ((m_298 46 1) + 1)) ∧ (LM_80 k1 c 82 l2 (sv_g (sv_u l3 &&& sv_u (-v_256 - 1))) m_353 v m'))) ∨ (¬ ((v_256 : Int) ≠ 0) ∧ (∃ m_369, m_369 = dc_up m_298 46 1 (-1) ∧ (LM_80 k1 c 82 l2 (sv_g (sv_u l3 &&& sv_u (-v_256 - 1))) m_369 v m'))))))))))))))) := Iff.rfl
theorem dl_80 {k1 : Nat} (t_k1 : sv_ty k1 = some 2) : ∀ N : Nat, (∀ (n : Nat) (lv : ae_L) (h : ae_H) (r : ae_R) (l2 : Int) (l3 : Int), n ≤ N → dc_ok h → sv_I l2 → sv_I l3 → ae_lk lv 0 = some (wk_r 46) → ae_lk lv 1 = some (wk_r k1) → ae_lk lv 2 = some (wk_i l2) → ae_lk lv 3 = some (wk_i l3) → ae_exe n 80 11 0 0 lv [] h = some r → ∃ v, (∃ c, LM_80 k1 c 11 l2 l3 (dc_m h) v (dc_m r.2)) ∧ r.1 = none ∧ sv_I v ∧ dc_ok r.2) ∧ (∀ (n : Nat) (lv : ae_L) (h : ae_H) (r : ae_R) (l2 : Int) (l3 : Int), n ≤ N → dc_ok h → sv_I l2 → sv_I l3 → ae_lk lv 0 = some (wk_r 46) → ae_lk lv 1 = some (wk_r k1) → ae_lk lv 2 = some (wk_i l2) → ae_lk lv 3 = some (wk_i l3) → ae_exe n 80 82 0 0 lv [] h = some r → ∃ v, (∃ c, LM_80 k1 c 82 l2 l3 (dc_m h) v (dc_m r.2)) ∧ r.1 = none ∧ sv_I v ∧ dc_ok r.2) := by
  intro N
  induction N with
  | zero =>
    refine ⟨?_, ?_⟩
    · intro n lv h r l2 l3 hn ok il2 il3 q0 q1 q2 q3 hr
      have e : n = 0 := by omega
      subst e
      cases hr
    · intro n lv h r l2 l3 hn ok il2 il3 q0 q1 q2 q3 hr
      have e : n = 0 := by omega
      subst e
      cases hr
  | succ N ih =>
    obtain ⟨ih0, ih1⟩ := ih
    refine ⟨?_, ?_⟩
    · intro n lv h r l2 l3 hn ok il2 il3 q0 q1 q2 q3 hr
      obtain ⟨n_1, e_2, hr_3⟩ := iv_iload_n xm_80 xd_80_11 q3 hr
      obtain ⟨n_4, e_5, hr_6⟩ := iv_iload_n xm_80 xd_80_12 q2 hr_3
      rcases iv_icmp 75 xm_80 xd_80_13 (by decide) il3 il2 hr_6 with ⟨c_7, n_8, e_9, hr_10⟩ | ⟨c_7, n_8, e_9, hr_10⟩
      · obtain ⟨n_11, e_12, hr_13⟩ := iv_aload_n xm_80 xd_80_75 q0 hr_10
        obtain ⟨n_14, e_15, hr_16⟩ := iv_iconst xm_80 xd_80_76 (by decide) hr_13
        obtain ⟨h_17, ok_18, em_19, n_21, e_22, hr_23⟩ := iv_puti (j := 1) (fk := 0) xm_80 xd_80_77 (by decide +kernel) ok (rfl : sv_ty 46 = some 6) dt_6 rfl (by decide +kernel) rfl (by unfold sv_I; omega) hr_16
        obtain ⟨n_24, e_25, hr_26⟩ := iv_iload_n xm_80 xd_80_80 q2 hr_23
        obtain ⟨lv_28, sl_27, n_29, e_30, hr_31⟩ := iv_istore_n xm_80 xd_80_81 (by decide +kernel) hr_26
        have l_32 := sl_27.2 0 _ q0 (by decide) (Or.inl rfl)
        have l_33 := sl_27.2 1 _ q1 (by decide) (Or.inl rfl)
        have l_34 := sl_27.2 2 _ q2 (by decide) (Or.inl rfl)
        have l_35 := sl_27.1
        obtain ⟨v, ⟨c, hL⟩, e1, e2, e3⟩ := ih1 _ lv_28 h_17 _ _ _ (by omega) ok_18 il2 il2 l_32 l_33 l_34 l_35 hr_31
        exact ⟨v, ⟨c + 1, lm_80_11.mpr (Or.inl ⟨c_7, ⟨_, em_19, hL⟩⟩)⟩, e1, e2, e3⟩
      · obtain ⟨n_36, e_37, hr_38⟩ := iv_aload_n xm_80 xd_80_16 q0 hr_10
        have f_39 := dc_fr (j := 2) ok (rfl : sv_ty 46 = some 6) dt_6 rfl
        obtain ⟨n_40, e_41, hr_42⟩ := iv_getf (j := 2) xm_80 xd_80_17 (by decide +kernel) ok (rfl : sv_ty 46 = some 6) dt_6 f_39 hr_38
        obtain ⟨n_43, e_44, hr_45⟩ := iv_iload_n xm_80 xd_80_20 q3 hr_42
        obtain ⟨n_46, e_47, hr_48⟩ := iv_aload_n xm_80 xd_80_21 q0 hr_45
        obtain ⟨n_49, e_50, hr_51⟩ := iv_aload_n xm_80 xd_80_22 q1 hr_48
        obtain ⟨n_52, e_53, hr_54⟩ := iv_iload_n xm_80 xd_80_23 q3 hr_51
        obtain ⟨n_55, e_56, hr_57⟩ := iv_aload_n xm_80 xd_80_24 q0 hr_54
        have f_58 := dc_fr (j := 4) ok (rfl : sv_ty 46 = some 6) dt_6 rfl
        obtain ⟨n_59, e_60, hr_61⟩ := iv_getf (j := 4) xm_80 xd_80_25 (by decide +kernel) ok (rfl : sv_ty 46 = some 6) dt_6 f_58 hr_57
        obtain ⟨n_71, r_62, e_72, hc_63, hr_73⟩ := iv_call (Or.inr ⟨rfl, rfl⟩) xm_80 xd_80_28 (by decide +kernel) xm_82 rfl (by decide +kernel) hr_61
        obtain ⟨v_64, d_65, er_66, iv_67, ok_68⟩ := ds_82 _ _ _ _ ok t_k1 il3 (rfl : sv_ty 50 = some 0) hc_63
        obtain ⟨_, h_70⟩ := r_62
        have er_66 : _ = some (wk_i v_64) := er_66
        subst er_66
        have hr_74 : ae_exe n_71 80 (28 + 3) 0 0 lv _ h_70 = some r := hr_73
        obtain ⟨q_75, h_76, ok_77, em_78, n_80, e_81, hr_82⟩ := iv_bastz xm_80 xd_80_31 ok_68 (rfl : sv_ty 48 = some 49) dt_49 (by decide) il3 hr_74
        obtain ⟨n_83, e_84, hr_85⟩ := iv_aload_n xm_80 xd_80_32 q0 hr_82
        obtain ⟨n_86, e_87, hr_88⟩ := iv_iload_n xm_80 xd_80_33 q3 hr_85
        obtain ⟨n_98, r_89, e_99, hc_90, hr_100⟩ := iv_call (Or.inr ⟨rfl, rfl⟩) xm_80 xd_80_34 (by decide +kernel) xm_81 rfl (by decide +kernel) hr_88
        obtain ⟨v_91, d_92, er_93, iv_94, ok_95⟩ := ds_81 _ _ ok_77 il3 hc_90
        obtain ⟨_, h_97⟩ := r_89
        have er_93 : _ = some (wk_i v_91) := er_93
        subst er_93
        have hr_101 : ae_exe n_98 80 (34 + 3) 0 0 lv _ h_97 = some r := hr_100
        obtain ⟨lv_103, sl_102, n_104, e_105, hr_106⟩ := iv_istore xm_80 xd_80_37 (by decide +kernel) hr_101
        have l_107 := sl_102.2 0 _ q0 (by decide) (Or.inl rfl)
        have l_108 := sl_102.2 1 _ q1 (by decide) (Or.inl rfl)
        have l_109 := sl_102.2 2 _ q2 (by decide) (Or.inl rfl)
        have l_110 := sl_102.2 3 _ q3 (by decide) (Or.inl rfl)
        have l_111 := sl_102.1
        obtain ⟨n_112, e_113, hr_114⟩ := iv_aload_n xm_80 xd_80_39 l_107 hr_106
        have f_115 := dc_fr (j := 3) ok_95 (rfl : sv_ty 46 = some 6) dt_6 rfl
        obtain ⟨n_116, e_117, hr_118⟩ := iv_getf (j := 3) xm_80 xd_80_40 (by decide +kernel) ok_95 (rfl : sv_ty 46 = some 6) dt_6 f_115 hr_114
        obtain ⟨n_119, e_120, hr_121⟩ := iv_iload_n xm_80 xd_80_43 l_110 hr_118
        obtain ⟨n_122, e_123, hr_124⟩ := iv_iload xm_80 xd_80_44 l_111 hr_121
        rcases iv_if 55 xm_80 xd_80_46 (by decide) iv_94 hr_124 with ⟨c_125, n_126, e_127, hr_128⟩ | ⟨c_125, n_126, e_127, hr_128⟩
        · obtain ⟨n_129, e_130, hr_131⟩ := iv_aload_n xm_80 xd_80_55 l_107 hr_128
          have f_132 := dc_fr (j := 3) ok_95 (rfl : sv_ty 46 = some 6) dt_6 rfl
          obtain ⟨n_133, e_134, hr_135⟩ := iv_getf (j := 3) xm_80 xd_80_56 (by decide +kernel) ok_95 (rfl : sv_ty 46 = some 6) dt_6 f_132 hr_131
          obtain ⟨n_136, e_137, hr_138⟩ := iv_iload_n xm_80 xd_80_59 l_110 hr_135
          obtain ⟨n_139, e_140, hr_141⟩ := iv_iload xm_80 xd_80_60 l_111 hr_138
          obtain ⟨n_142, e_143, hr_144⟩ := iv_iconst xm_80 xd_80_62 (by decide) hr_141
          obtain ⟨n_145, e_146, hr_147⟩ := iv_inot xm_80 xd_80_63 hr_144
          obtain ⟨n_148, e_149, hr_150⟩ := iv_iand xm_80 xd_80_64 hr_147
          obtain ⟨q_151, qi_152, n_153, e_154, hr_155⟩ := iv_iald xm_80 xd_80_65 ok_95 (rfl : sv_ty 49 = some 50) dt_50 (by decide) (sv_g_I (Nat.lt_of_le_of_lt Nat.and_le_right (sv_u_lt _))) hr_150
          obtain ⟨n_156, e_157, hr_158⟩ := iv_iconst xm_80 xd_80_66 (by decide) hr_155
          obtain ⟨n_159, e_160, hr_161⟩ := iw_iadd xm_80 xd_80_67 hr_158
          obtain ⟨q_162, h_163, ok_164, em_165, n_167, e_168, hr_169⟩ := iv_iast xm_80 xd_80_68 ok_95 (rfl : sv_ty 49 = some 50) dt_50 (by decide) il3 (dc_w_I _) hr_161
          obtain ⟨lv_171, sl_170, n_172, e_173, hr_174⟩ := iw_iinc xm_80 xd_80_69 (by decide +kernel) (by decide) l_110 hr_169
          have l_175 := sl_170.2 0 _ l_107 (by decide) (Or.inl rfl)
          have l_176 := sl_170.2 1 _ l_108 (by decide) (Or.inl rfl)
          have l_177 := sl_170.2 2 _ l_109 (by decide) (Or.inl rfl)
          have l_178 := sl_170.2 4 _ l_111 (by decide) (Or.inl rfl)
          have l_179 := sl_170.1
          obtain ⟨n_180, e_181, hr_182⟩ := iv_goto 11 xm_80 xd_80_72 (by decide) hr_174
          obtain ⟨v, ⟨c, hL⟩, e1, e2, e3⟩ := ih0 _ lv_171 h_163 _ _ _ (by omega) ok_164 il2 (dc_w_I _) l_175 l_176 l_177 l_179 hr_182
          exact ⟨v, ⟨c + 1, lm_80_11.mpr (Or.inr ⟨c_7, ⟨_, _, d_65, ⟨q_75, _, em_78, ⟨_, _, d_92, Or.inl ⟨c_125, ⟨q_151, ⟨q_162, _, em_165, hL⟩⟩⟩⟩⟩⟩⟩)⟩, e1, e2, e3⟩
        · obtain ⟨n_183, e_184, hr_185⟩ := iv_sipush xm_80 xd_80_49 (by decide) hr_128
          obtain ⟨n_186, e_187, hr_188⟩ := iv_goto 68 xm_80 xd_80_52 (by decide) hr_185
          obtain ⟨q_189, h_190, ok_191, em_192, n_194, e_195, hr_196⟩ := iv_iast xm_80 xd_80_68 ok_95 (rfl : sv_ty 49 = some 50) dt_50 (by decide) il3 (by unfold sv_I; omega) hr_188
          obtain ⟨lv_198, sl_197, n_199, e_200, hr_201⟩ := iw_iinc xm_80 xd_80_69 (by decide +kernel) (by decide) l_110 hr_196
          have l_202 := sl_197.2 0 _ l_107 (by decide) (Or.inl rfl)
          have l_203 := sl_197.2 1 _ l_108 (by decide) (Or.inl rfl)
          have l_204 := sl_197.2 2 _ l_109 (by decide) (Or.inl rfl)
          have l_205 := sl_197.2 4 _ l_111 (by decide) (Or.inl rfl)
          have l_206 := sl_197.1
          obtain ⟨n_207, e_208, hr_209⟩ := iv_goto 11 xm_80 xd_80_72 (by decide) hr_201
          obtain ⟨v, ⟨c, hL⟩, e1, e2, e3⟩ := ih0 _ lv_198 h_190 _ _ _ (by omega) ok_191 il2 (dc_w_I _) l_202 l_203 l_204 l_206 hr_209
          exact ⟨v, ⟨c + 1, lm_80_11.mpr (Or.inr ⟨c_7, ⟨_, _, d_65, ⟨q_75, _, em_78, ⟨_, _, d_92, Or.inr ⟨c_125, ⟨q_189, _, em_192, hL⟩⟩⟩⟩⟩⟩)⟩, e1, e2, e3⟩
    · intro n lv h r l2 l3 hn ok il2 il3 q0 q1 q2 q3 hr
      obtain ⟨n_210, e_211, hr_212⟩ := iv_iload_n xm_80 xd_80_82 q3 hr
      rcases iv_if 150 xm_80 xd_80_83 (by decide) il3 hr_212 with ⟨c_213, n_214, e_215, hr_216⟩ | ⟨c_213, n_214, e_215, hr_216⟩
      · have rr_217 := iv_return xm_80 xd_80_150 hr_216 rfl
        subst rr_217
        exact ⟨_, ⟨0 + 1, lm_80_82.mpr (Or.inl ⟨c_213, ⟨rfl, rfl⟩⟩)⟩, rfl, (by unfold sv_I; omega), ok⟩
      · obtain ⟨n_218, e_219, hr_220⟩ := iv_aload_n xm_80 xd_80_86 q0 hr_216
        have f_221 := dc_fi (j := 1) ok (rfl : sv_ty 46 = some 6) dt_6 rfl
        obtain ⟨n_222, e_223, hr_224⟩ := iv_getf (j := 1) xm_80 xd_80_87 (by decide +kernel) ok (rfl : sv_ty 46 = some 6) dt_6 f_221.1 hr_220
        obtain ⟨n_225, e_226, hr_227⟩ := iv_iconst xm_80 xd_80_90 (by decide) hr_224
        rcases iv_icmp 150 xm_80 xd_80_91 (by decide) f_221.2 (by unfold sv_I; omega) hr_227 with ⟨c_228, n_229, e_230, hr_231⟩ | ⟨c_228, n_229, e_230, hr_231⟩
        · have rr_232 := iv_return xm_80 xd_80_150 hr_231 rfl
          subst rr_232
          exact ⟨_, ⟨0 + 1, lm_80_82.mpr (Or.inr ⟨c_213, Or.inl ⟨c_228, ⟨rfl, rfl⟩⟩⟩)⟩, rfl, (by unfold sv_I; omega), ok⟩
        · obtain ⟨n_233, e_234, hr_235⟩ := iv_aload_n xm_80 xd_80_94 q0 hr_231
          have f_236 := dc_fi (j := 1) ok (rfl : sv_ty 46 = some 6) dt_6 rfl
          obtain ⟨n_237, e_238, hr_239⟩ := iv_getf (j := 1) xm_80 xd_80_95 (by decide +kernel) ok (rfl : sv_ty 46 = some 6) dt_6 f_236.1 hr_235
          obtain ⟨n_240, e_241, hr_242⟩ := iv_bipush xm_80 xd_80_98 (by decide) hr_239
          rcases iv_icmp 150 xm_80 xd_80_100 (by decide) f_236.2 (by unfold sv_I; omega) hr_242 with ⟨c_243, n_244, e_245, hr_246⟩ | ⟨c_243, n_244, e_245, hr_246⟩
          · have rr_247 := iv_return xm_80 xd_80_150 hr_246 rfl
            subst rr_247
            exact ⟨_, ⟨0 + 1, lm_80_82.mpr (Or.inr ⟨c_213, Or.inr ⟨c_228, Or.inl ⟨c_243, ⟨rfl, rfl⟩⟩⟩⟩)⟩, rfl, (by unfold sv_I; omega), ok⟩
          · obtain ⟨n_248, e_249, hr_250⟩ := iv_aload_n xm_80 xd_80_103 q0 hr_246
            obtain ⟨n_251, e_252, hr_253⟩ := iv_iload_n xm_80 xd_80_104 q3 hr_250
            obtain ⟨n_263, r_254, e_264, hc_255, hr_265⟩ := iv_call (Or.inr ⟨rfl, rfl⟩) xm_80 xd_80_105 (by decide +kernel) xm_81 rfl (by decide +kernel) hr_253
            obtain ⟨v_256, d_257, er_258, iv_259, ok_260⟩ := ds_81 _ _ ok il3 hc_255
            obtain ⟨_, h_262⟩ := r_254
            have er_258 : _ = some (wk_i v_256) := er_258
            subst er_258
            have hr_266 : ae_exe n_263 80 (105 + 3) 0 0 lv _ h_262 = some r := hr_265
            obtain ⟨lv_268, sl_267, n_269, e_270, hr_271⟩ := iv_istore xm_80 xd_80_108 (by decide +kernel) hr_266
            have l_272 := sl_267.2 0 _ q0 (by decide) (Or.inl rfl)
            have l_273 := sl_267.2 1 _ q1 (by decide) (Or.inl rfl)
            have l_274 := sl_267.2 2 _ q2 (by decide) (Or.inl rfl)
            have l_275 := sl_267.2 3 _ q3 (by decide) (Or.inl rfl)
            have l_276 := sl_267.1
            obtain ⟨n_277, e_278, hr_279⟩ := iv_aload_n xm_80 xd_80_110 l_272 hr_271
            have f_280 := dc_fr (j := 0) ok_260 (rfl : sv_ty 46 = some 6) dt_6 rfl
            obtain ⟨n_281, e_282, hr_283⟩ := iv_getf (j := 0) xm_80 xd_80_111 (by decide +kernel) ok_260 (rfl : sv_ty 46 = some 6) dt_6 f_280 hr_279
            obtain ⟨n_284, e_285, hr_286⟩ := iv_aload_n xm_80 xd_80_114 l_272 hr_283
            have f_287 := dc_fi (j := 1) ok_260 (rfl : sv_ty 46 = some 6) dt_6 rfl
            obtain ⟨n_288, e_289, hr_290⟩ := iv_getf (j := 1) xm_80 xd_80_115 (by decide +kernel) ok_260 (rfl : sv_ty 46 = some 6) dt_6 f_287.1 hr_286
            obtain ⟨n_291, e_292, hr_293⟩ := iv_iload xm_80 xd_80_118 l_276 hr_290
            obtain ⟨q_294, h_295, ok_296, em_297, n_299, e_300, hr_301⟩ := iv_iast xm_80 xd_80_120 ok_260 (rfl : sv_ty 47 = some 48) dt_48 (by decide) f_287.2 iv_259 hr_293
            obtain ⟨n_302, e_303, hr_304⟩ := iv_iload_n xm_80 xd_80_121 l_275 hr_301
            obtain ⟨n_305, e_306, hr_307⟩ := iv_iload xm_80 xd_80_122 l_276 hr_304
            obtain ⟨n_308, e_309, hr_310⟩ := iv_iconst xm_80 xd_80_124 (by decide) hr_307
            obtain ⟨n_311, e_312, hr_313⟩ := iv_inot xm_80 xd_80_125 hr_310
            obtain ⟨n_314, e_315, hr_316⟩ := iv_iand xm_80 xd_80_126 hr_313
            obtain ⟨lv_318, sl_317, n_319, e_320, hr_321⟩ := iv_istore_n xm_80 xd_80_127 (by decide +kernel) hr_316
            have l_322 := sl_317.2 0 _ l_272 (by decide) (Or.inl rfl)
            have l_323 := sl_317.2 1 _ l_273 (by decide) (Or.inl rfl)
            have l_324 := sl_317.2 2 _ l_274 (by decide) (Or.inl rfl)
            have l_325 := sl_317.2 4 _ l_276 (by decide) (Or.inl rfl)
            have l_326 := sl_317.1
            obtain ⟨n_327, e_328, hr_329⟩ := iv_aload_n xm_80 xd_80_128 l_322 hr_321
            obtain ⟨n_330, e_331, hr_332⟩ := iv_iload xm_80 xd_80_129 l_325 hr_329
            rcases iv_if 138 xm_80 xd_80_131 (by decide) iv_259 hr_332 with ⟨c_333, n_334, e_335, hr_336⟩ | ⟨c_333, n_334, e_335, hr_336⟩
            · obtain ⟨n_337, e_338, hr_339⟩ := iv_aload_n xm_80 xd_80_138 l_322 hr_336
              have f_340 := dc_fi (j := 1) ok_296 (rfl : sv_ty 46 = some 6) dt_6 rfl
              obtain ⟨n_341, e_342, hr_343⟩ := iv_getf (j := 1) xm_80 xd_80_139 (by decide +kernel) ok_296 (rfl : sv_ty 46 = some 6) dt_6 f_340.1 hr_339
              obtain ⟨n_344, e_345, hr_346⟩ := iv_iconst xm_80 xd_80_142 (by decide) hr_343
              obtain ⟨n_347, e_348, hr_349⟩ := iw_iadd xm_80 xd_80_143 hr_346
              obtain ⟨h_350, ok_351, em_352, n_354, e_355, hr_356⟩ := iv_puti (j := 1) (fk := 0) xm_80 xd_80_144 (by decide +kernel) ok_296 (rfl : sv_ty 46 = some 6) dt_6 rfl (by decide +kernel) rfl (dc_w_I _) hr_349
              obtain ⟨n_357, e_358, hr_359⟩ := iv_goto 82 xm_80 xd_80_147 (by decide) hr_356
              obtain ⟨v, ⟨c, hL⟩, e1, e2, e3⟩ := ih1 _ lv_318 h_350 _ _ _ (by omega) ok_351 il2 (sv_g_I (Nat.lt_of_le_of_lt Nat.and_le_right (sv_u_lt _))) l_322 l_323 l_324 l_326 hr_359
              exact ⟨v, ⟨c + 1, lm_80_82.mpr (Or.inr ⟨c_213, Or.inr ⟨c_228, Or.inr ⟨c_243, ⟨_, _, d_257, ⟨q_294, _, em_297, Or.inl ⟨c_333, ⟨_, em_352, hL⟩⟩⟩⟩⟩⟩⟩)⟩, e1, e2, e3⟩
            · obtain ⟨n_360, e_361, hr_362⟩ := iv_iconst xm_80 xd_80_134 (by decide) hr_336
              obtain ⟨n_363, e_364, hr_365⟩ := iv_goto 144 xm_80 xd_80_135 (by decide) hr_362
              obtain ⟨h_366, ok_367, em_368, n_370, e_371, hr_372⟩ := iv_puti (j := 1) (fk := 0) xm_80 xd_80_144 (by decide +kernel) ok_296 (rfl : sv_ty 46 = some 6) dt_6 rfl (by decide +kernel) rfl (by unfold sv_I; omega) hr_365
              obtain ⟨n_373, e_374, hr_375⟩ := iv_goto 82 xm_80 xd_80_147 (by decide) hr_372
              obtain ⟨v, ⟨c, hL⟩, e1, e2, e3⟩ := ih1 _ lv_318 h_366 _ _ _ (by omega) ok_367 il2 (sv_g_I (Nat.lt_of_le_of_lt Nat.and_le_right (sv_u_lt _))) l_322 l_323 l_324 l_326 hr_375
              exact ⟨v, ⟨c + 1, lm_80_82.mpr (Or.inr ⟨c_213, Or.inr ⟨c_228, Or.inr ⟨c_243, ⟨_, _, d_257, ⟨q_294, _, em_297, Or.inr ⟨c_333, ⟨_, em_368, hL⟩⟩⟩⟩⟩⟩⟩)⟩, e1, e2, e3⟩
abbrev D_80 (k1 : Nat) (m : dc_M) (v : Int) (m' : dc_M) : Prop := ∃ c, LM_80 k1 c 11 (dc_w ((sv_g (ae_shl (sv_u 1) (sv_u (m k1 9)))) - 1)) 1 m v m'
theorem ds_80 (n : Nat) (k1 : Nat) {h : ae_H} {r : ae_R} (ok : dc_ok h) (t_k1 : sv_ty k1 = some 2) (hr : ae_exe n 80 0 0 0 (ae_args [wk_r 46, wk_r k1] 0) [] h = some r) : ∃ v, D_80 k1 (dc_m h) v (dc_m r.2) ∧ r.1 = none ∧ sv_I v ∧ dc_ok r.2 := by
  have q0 : ae_lk (ae_args [wk_r 46, wk_r k1] 0) 0 = some (wk_r 46) := rfl
  have q1 : ae_lk (ae_args [wk_r 46, wk_r k1] 0) 1 = some (wk_r k1) := rfl
  obtain ⟨n_376, e_377, hr_378⟩ := iv_iconst xm_80 xd_80_0 (by decide) hr
  obtain ⟨n_379, e_380, hr_381⟩ := iv_aload_n xm_80 xd_80_1 q1 hr_378
  have f_382 := dc_fi (j := 9) ok t_k1 dt_2 rfl
  obtain ⟨n_383, e_384, hr_385⟩ := iv_getf (j := 9) xm_80 xd_80_2 (by decide +kernel) ok t_k1 dt_2 f_382.1 hr_381
  obtain ⟨n_386, e_387, hr_388⟩ := iv_ibin (f := ae_shl) (Or.inr (Or.inl ⟨rfl, rfl⟩)) (Nat.mod_lt _ (by decide)) xm_80 xd_80_5 hr_385
  obtain ⟨n_389, e_390, hr_391⟩ := iv_iconst xm_80 xd_80_6 (by decide) hr_388
  obtain ⟨n_392, e_393, hr_394⟩ := iw_isub xm_80 xd_80_7 hr_391
  obtain ⟨lv_396, sl_395, n_397, e_398, hr_399⟩ := iv_istore_n xm_80 xd_80_8 (by decide +kernel) hr_394
  have l_400 := sl_395.2 0 _ q0 (by decide) (Or.inl rfl)
  have l_401 := sl_395.2 1 _ q1 (by decide) (Or.inl rfl)
  have l_402 := sl_395.1
  obtain ⟨n_403, e_404, hr_405⟩ := iv_iconst xm_80 xd_80_9 (by decide) hr_399
  obtain ⟨lv_407, sl_406, n_408, e_409, hr_410⟩ := iv_istore_n xm_80 xd_80_10 (by decide +kernel) hr_405
  have l_411 := sl_406.2 0 _ l_400 (by decide) (Or.inl rfl)
  have l_412 := sl_406.2 1 _ l_401 (by decide) (Or.inl rfl)
  have l_413 := sl_406.2 2 _ l_402 (by decide) (Or.inl rfl)
  have l_414 := sl_406.1
  obtain ⟨v, ⟨c, hL⟩, e1, e2, e3⟩ := (dl_80 t_k1 _).1 _ lv_407 h _ _ _ (Nat.le_refl _) ok (dc_w_I _) (by unfold sv_I; omega) l_411 l_412 l_413 l_414 hr_410
  exact ⟨v, ⟨_, hL⟩, e1, e2, e3⟩
/-! method 163 -/
theorem xm_163 : ae_m 163 = some (wk_M 163) := rfl
theorem xd_163_0 : decode (wk_M 163).2.2.1 0 = .ok (.aload_n 0, 1) := zd_by (by decide +kernel)
theorem xd_163_1 : decode (wk_M 163).2.2.1 1 = .ok (.getfield 86, 3) := zd_by (by decide +kernel)
theorem xd_163_4 : decode (wk_M 163).2.2.1 4 = .ok (.aload_n 0, 1) := zd_by (by decide +kernel)
theorem xd_163_5 : decode (wk_M 163).2.2.1 5 = .ok (.getfield 12, 3) := zd_by (by decide +kernel)
theorem xd_163_8 : decode (wk_M 163).2.2.1 8 = .ok (.invokevirtual 216, 3) := zd_by (by decide +kernel)
theorem xd_163_11 : decode (wk_M 163).2.2.1 11 = .ok (.istore_n 1, 1) := zd_by (by decide +kernel)
theorem xd_163_12 : decode (wk_M 163).2.2.1 12 = .ok (.aload_n 0, 1) := zd_by (by decide +kernel)
theorem xd_163_13 : decode (wk_M 163).2.2.1 13 = .ok (.getfield 12, 3) := zd_by (by decide +kernel)
theorem xd_163_16 : decode (wk_M 163).2.2.1 16 = .ok (.iconst 0, 1) := zd_by (by decide +kernel)
theorem xd_163_17 : decode (wk_M 163).2.2.1 17 = .ok (.putfield 89, 3) := zd_by (by decide +kernel)
theorem xd_163_20 : decode (wk_M 163).2.2.1 20 = .ok (.iload_n 1, 1) := zd_by (by decide +kernel)
theorem xd_163_21 : decode (wk_M 163).2.2.1 21 = .ok (.ifCond .ne 13, 3) := zd_by (by decide +kernel)
theorem xd_163_24 : decode (wk_M 163).2.2.1 24 = .ok (.iconst (-1), 1) := zd_by (by decide +kernel)
theorem xd_163_25 : decode (wk_M 163).2.2.1 25 = .ok (.aload_n 0, 1) := zd_by (by decide +kernel)
theorem xd_163_26 : decode (wk_M 163).2.2.1 26 = .ok (.getfield 12, 3) := zd_by (by decide +kernel)
theorem xd_163_29 : decode (wk_M 163).2.2.1 29 = .ok (.getfield 137, 3) := zd_by (by decide +kernel)
theorem xd_163_32 : decode (wk_M 163).2.2.1 32 = .ok (.isub, 1) := zd_by (by decide +kernel)
theorem xd_163_33 : decode (wk_M 163).2.2.1 33 = .ok (.ireturn, 1) := zd_by (by decide +kernel)
theorem xd_163_34 : decode (wk_M 163).2.2.1 34 = .ok (.aload_n 0, 1) := zd_by (by decide +kernel)
theorem xd_163_35 : decode (wk_M 163).2.2.1 35 = .ok (.getfield 86, 3) := zd_by (by decide +kernel)
theorem xd_163_38 : decode (wk_M 163).2.2.1 38 = .ok (.astore_n 2, 1) := zd_by (by decide +kernel)
theorem xd_163_39 : decode (wk_M 163).2.2.1 39 = .ok (.aload_n 0, 1) := zd_by (by decide +kernel)
theorem xd_163_40 : decode (wk_M 163).2.2.1 40 = .ok (.aload_n 0, 1) := zd_by (by decide +kernel)
theorem xd_163_41 : decode (wk_M 163).2.2.1 41 = .ok (.getfield 82, 3) := zd_by (by decide +kernel)
theorem xd_163_44 : decode (wk_M 163).2.2.1 44 = .ok (.putfield 86, 3) := zd_by (by decide +kernel)
theorem xd_163_47 : decode (wk_M 163).2.2.1 47 = .ok (.aload_n 0, 1) := zd_by (by decide +kernel)
theorem xd_163_48 : decode (wk_M 163).2.2.1 48 = .ok (.aload_n 2, 1) := zd_by (by decide +kernel)
theorem xd_163_49 : decode (wk_M 163).2.2.1 49 = .ok (.putfield 82, 3) := zd_by (by decide +kernel)
theorem xd_163_52 : decode (wk_M 163).2.2.1 52 = .ok (.aload_n 0, 1) := zd_by (by decide +kernel)
theorem xd_163_53 : decode (wk_M 163).2.2.1 53 = .ok (.getfield 51, 3) := zd_by (by decide +kernel)
theorem xd_163_56 : decode (wk_M 163).2.2.1 56 = .ok (.aload_n 0, 1) := zd_by (by decide +kernel)
theorem xd_163_57 : decode (wk_M 163).2.2.1 57 = .ok (.getfield 82, 3) := zd_by (by decide +kernel)
theorem xd_163_60 : decode (wk_M 163).2.2.1 60 = .ok (.invokevirtual 217, 3) := zd_by (by decide +kernel)
theorem xd_163_63 : decode (wk_M 163).2.2.1 63 = .ok (.aload_n 0, 1) := zd_by (by decide +kernel)
theorem xd_163_64 : decode (wk_M 163).2.2.1 64 = .ok (.getfield 82, 3) := zd_by (by decide +kernel)
theorem xd_163_67 : decode (wk_M 163).2.2.1 67 = .ok (.getfield 221, 3) := zd_by (by decide +kernel)
theorem xd_163_70 : decode (wk_M 163).2.2.1 70 = .ok (.ireturn, 1) := zd_by (by decide +kernel)
abbrev D_163  (m : dc_M) (v : Int) (m' : dc_M) : Prop := ∃ v_17 m_22, D_35 ((m 0 11).toNat) m v_17 m_22 ∧ (∃ m_48, m_48 = dc_up m_22 1 1 0 ∧ ((((v_17 : Int) ≠ 0 ∧ (∃ m_87, m_87 = dc_up m_48 0 11 (((m_48 0 10).toNat : Nat) : Int) ∧ (∃ m_100, m_100 = dc_up m_87 0 10 (((m_48 0 11).toNat : Nat) : Int) ∧ (∃ v_120 m_125, D_80 ((m_100 0 10).toNat) m_100 v_120 m_125 ∧ (v = (m_125 (m_125 0 10).toNat 9) ∧ m' = m_125))))) ∨ (¬ ((v_17 : Int) ≠ 0) ∧ (v = (dc_w ((-1) - (m_48 1 9))) ∧ m' = m_48)))))
theorem ds_163 (n : Nat)  {h : ae_H} {r : ae_R} (ok : dc_ok h)  (hr : ae_exe n 163 0 0 0 (ae_args [wk_r 0] 0) [] h = some r) : ∃ v, D_163  (dc_m h) v (dc_m r.2) ∧ r.1 = some (wk_i v) ∧ sv_I v ∧ dc_ok r.2 := by
  have q0 : ae_lk (ae_args [wk_r 0] 0) 0 = some (wk_r 0) := rfl
  obtain ⟨n_1, e_2, hr_3⟩ := iv_aload_n xm_163 xd_163_0 q0 hr
  have f_4 := dc_ft (j := 11) ok (rfl : sv_ty 0 = some 11) dt_11 rfl
  obtain ⟨n_5, e_6, hr_7⟩ := iv_getf (j := 11) xm_163 xd_163_1 (by decide +kernel) ok (rfl : sv_ty 0 = some 11) dt_11 f_4.1 hr_3
  obtain ⟨n_8, e_9, hr_10⟩ := iv_aload_n xm_163 xd_163_4 q0 hr_7
  have f_11 := dc_fr (j := 0) ok (rfl : sv_ty 0 = some 11) dt_11 rfl
  obtain ⟨n_12, e_13, hr_14⟩ := iv_getf (j := 0) xm_163 xd_163_5 (by decide +kernel) ok (rfl : sv_ty 0 = some 11) dt_11 f_11 hr_10
  obtain ⟨n_24, r_15, e_25, hc_16, hr_26⟩ := iv_call (Or.inr ⟨rfl, rfl⟩) xm_163 xd_163_8 (by decide +kernel) xm_35 rfl (by decide +kernel) hr_14
  obtain ⟨v_17, d_18, er_19, iv_20, ok_21⟩ := ds_35 _ _ ok f_4.2 hc_16
  obtain ⟨_, h_23⟩ := r_15
  have er_19 : _ = some (wk_i v_17) := er_19
  subst er_19
  have hr_27 : ae_exe n_24 163 (8 + 3) 0 0 (ae_args [wk_r 0] 0) _ h_23 = some r := hr_26
  obtain ⟨lv_29, sl_28, n_30, e_31, hr_32⟩ := iv_istore_n xm_163 xd_163_11 (by decide +kernel) hr_27
  have l_33 := sl_28.2 0 _ q0 (by decide) (Or.inl rfl)
  have l_34 := sl_28.1
  obtain ⟨n_35, e_36, hr_37⟩ := iv_aload_n xm_163 xd_163_12 l_33 hr_32
  have f_38 := dc_fr (j := 0) ok_21 (rfl : sv_ty 0 = some 11) dt_11 rfl
  obtain ⟨n_39, e_40, hr_41⟩ := iv_getf (j := 0) xm_163 xd_163_13 (by decide +kernel) ok_21 (rfl : sv_ty 0 = some 11) dt_11 f_38 hr_37
  obtain ⟨n_42, e_43, hr_44⟩ := iv_iconst xm_163 xd_163_16 (by decide) hr_41
  obtain ⟨h_45, ok_46, em_47, n_49, e_50, hr_51⟩ := iv_puti (j := 1) (fk := 0) xm_163 xd_163_17 (by decide +kernel) ok_21 (rfl : sv_ty 1 = some 9) dt_9 rfl (by decide +kernel) rfl (by unfold sv_I; omega) hr_44
  obtain ⟨n_52, e_53, hr_54⟩ := iv_iload_n xm_163 xd_163_20 l_34 hr_51
  rcases iv_if 34 xm_163 xd_163_21 (by decide) iv_20 hr_54 with ⟨c_55, n_56, e_57, hr_58⟩ | ⟨c_55, n_56, e_57, hr_58⟩
  · obtain ⟨n_59, e_60, hr_61⟩ := iv_aload_n xm_163 xd_163_34 l_33 hr_58
    have f_62 := dc_ft (j := 11) ok_46 (rfl : sv_ty 0 = some 11) dt_11 rfl
    obtain ⟨n_63, e_64, hr_65⟩ := iv_getf (j := 11) xm_163 xd_163_35 (by decide +kernel) ok_46 (rfl : sv_ty 0 = some 11) dt_11 f_62.1 hr_61
    obtain ⟨lv_67, sl_66, n_68, e_69, hr_70⟩ := iv_astore_n xm_163 xd_163_38 (by decide +kernel) hr_65
    have l_71 := sl_66.2 0 _ l_33 (by decide) (Or.inl rfl)
    have l_72 := sl_66.2 1 _ l_34 (by decide) (Or.inl rfl)
    have l_73 := sl_66.1
    obtain ⟨n_74, e_75, hr_76⟩ := iv_aload_n xm_163 xd_163_39 l_71 hr_70
    obtain ⟨n_77, e_78, hr_79⟩ := iv_aload_n xm_163 xd_163_40 l_71 hr_76
    have f_80 := dc_ft (j := 10) ok_46 (rfl : sv_ty 0 = some 11) dt_11 rfl
    obtain ⟨n_81, e_82, hr_83⟩ := iv_getf (j := 10) xm_163 xd_163_41 (by decide +kernel) ok_46 (rfl : sv_ty 0 = some 11) dt_11 f_80.1 hr_79
    obtain ⟨h_84, ok_85, em_86, n_88, e_89, hr_90⟩ := iv_putf (j := 11) (f := (2, 2)) (fk := 4) xm_163 xd_163_44 (by decide +kernel) ok_46 (rfl : sv_ty 0 = some 11) dt_11 rfl (by decide +kernel) rfl ⟨_, rfl, f_80.2⟩ hr_83
    obtain ⟨n_91, e_92, hr_93⟩ := iv_aload_n xm_163 xd_163_47 l_71 hr_90
    obtain ⟨n_94, e_95, hr_96⟩ := iv_aload_n xm_163 xd_163_48 l_73 hr_93
    obtain ⟨h_97, ok_98, em_99, n_101, e_102, hr_103⟩ := iv_putf (j := 10) (f := (2, 2)) (fk := 4) xm_163 xd_163_49 (by decide +kernel) ok_85 (rfl : sv_ty 0 = some 11) dt_11 rfl (by decide +kernel) rfl ⟨_, rfl, f_62.2⟩ hr_96
    obtain ⟨n_104, e_105, hr_106⟩ := iv_aload_n xm_163 xd_163_52 l_71 hr_103
    have f_107 := dc_fr (j := 5) ok_98 (rfl : sv_ty 0 = some 11) dt_11 rfl
    obtain ⟨n_108, e_109, hr_110⟩ := iv_getf (j := 5) xm_163 xd_163_53 (by decide +kernel) ok_98 (rfl : sv_ty 0 = some 11) dt_11 f_107 hr_106
    obtain ⟨n_111, e_112, hr_113⟩ := iv_aload_n xm_163 xd_163_56 l_71 hr_110
    have f_114 := dc_ft (j := 10) ok_98 (rfl : sv_ty 0 = some 11) dt_11 rfl
    obtain ⟨n_115, e_116, hr_117⟩ := iv_getf (j := 10) xm_163 xd_163_57 (by decide +kernel) ok_98 (rfl : sv_ty 0 = some 11) dt_11 f_114.1 hr_113
    obtain ⟨n_127, r_118, e_128, hc_119, hr_129⟩ := iv_call (Or.inr ⟨rfl, rfl⟩) xm_163 xd_163_60 (by decide +kernel) xm_80 rfl (by decide +kernel) hr_117
    obtain ⟨v_120, d_121, er_122, iv_123, ok_124⟩ := ds_80 _ _ ok_98 f_114.2 hc_119
    obtain ⟨_, h_126⟩ := r_118
    have er_122 : _ = none := er_122
    subst er_122
    have hr_130 : ae_exe n_127 163 (60 + 3) 0 0 lv_67 _ h_126 = some r := hr_129
    obtain ⟨n_131, e_132, hr_133⟩ := iv_aload_n xm_163 xd_163_63 l_71 hr_130
    have f_134 := dc_ft (j := 10) ok_124 (rfl : sv_ty 0 = some 11) dt_11 rfl
    obtain ⟨n_135, e_136, hr_137⟩ := iv_getf (j := 10) xm_163 xd_163_64 (by decide +kernel) ok_124 (rfl : sv_ty 0 = some 11) dt_11 f_134.1 hr_133
    have f_138 := dc_fi (j := 9) ok_124 f_134.2 dt_2 rfl
    obtain ⟨n_139, e_140, hr_141⟩ := iv_getf (j := 9) xm_163 xd_163_67 (by decide +kernel) ok_124 f_134.2 dt_2 f_138.1 hr_137
    have rr_142 := iv_ireturn xm_163 xd_163_70 hr_141
    subst rr_142
    exact ⟨_, ⟨_, _, d_18, ⟨_, em_47, Or.inl ⟨c_55, ⟨_, em_86, ⟨_, em_99, ⟨_, _, d_121, ⟨rfl, rfl⟩⟩⟩⟩⟩⟩⟩, rfl, f_138.2, ok_124⟩
  · obtain ⟨n_143, e_144, hr_145⟩ := iv_iconst xm_163 xd_163_24 (by decide) hr_58
    obtain ⟨n_146, e_147, hr_148⟩ := iv_aload_n xm_163 xd_163_25 l_33 hr_145
    have f_149 := dc_fr (j := 0) ok_46 (rfl : sv_ty 0 = some 11) dt_11 rfl
    obtain ⟨n_150, e_151, hr_152⟩ := iv_getf (j := 0) xm_163 xd_163_26 (by decide +kernel) ok_46 (rfl : sv_ty 0 = some 11) dt_11 f_149 hr_148
    have f_153 := dc_fi (j := 9) ok_46 (rfl : sv_ty 1 = some 9) dt_9 rfl
    obtain ⟨n_154, e_155, hr_156⟩ := iv_getf (j := 9) xm_163 xd_163_29 (by decide +kernel) ok_46 (rfl : sv_ty 1 = some 9) dt_9 f_153.1 hr_152
    obtain ⟨n_157, e_158, hr_159⟩ := iw_isub xm_163 xd_163_32 hr_156
    have rr_160 := iv_ireturn xm_163 xd_163_33 hr_159
    subst rr_160
    exact ⟨_, ⟨_, _, d_18, ⟨_, em_47, Or.inr ⟨c_55, ⟨rfl, rfl⟩⟩⟩⟩, rfl, (dc_w_I _), ok_46⟩
