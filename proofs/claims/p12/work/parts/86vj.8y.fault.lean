/-! method 151 -/
theorem xm_151 : ae_m 151 = some (wk_M 151) := rfl
theorem xd_151_0 : decode (wk_M 151).2.2.1 0 = .ok (.aload_n 0, 1) := zd_by (by decide +kernel)
theorem xd_151_1 : decode (wk_M 151).2.2.1 1 = .ok (.getfield 12, 3) := zd_by (by decide +kernel)
theorem xd_151_4 : decode (wk_M 151).2.2.1 4 = .ok (.getfield 143, 3) := zd_by (by decide +kernel)
theorem xd_151_7 : decode (wk_M 151).2.2.1 7 = .ok (.ireturn, 1) := zd_by (by decide +kernel)
abbrev D_151  (m : dc_M) (v : Int) (m' : dc_M) : Prop := v = (m 1 8) ∧ m' = m
theorem ds_151 (n : Nat)  {h : ae_H} {r : ae_R} (ok : dc_ok h)  (hr : ae_exe n 151 0 0 0 (ae_args [wk_r 0] 0) [] h = some r) : ∃ v, D_151  (dc_m h) v (dc_m r.2) ∧ r.1 = some (wk_i v) ∧ sv_I v ∧ dc_ok r.2 := by
  have q0 : ae_lk (ae_args [wk_r 0] 0) 0 = some (wk_r 0) := rfl
  obtain ⟨n_1, e_2, hr_3⟩ := iv_aload_n xm_151 xd_151_0 q0 hr
  have f_4 := dc_fr (j := 0) ok (rfl : sv_ty 0 = some 11) dt_11 rfl
  obtain ⟨n_5, e_6, hr_7⟩ := iv_getf (j := 0) xm_151 xd_151_1 (by decide +kernel) ok (rfl : sv_ty 0 = some 11) dt_11 f_4 hr_3
  have f_8 := dc_fi (j := 8) ok (rfl : sv_ty 1 = some 9) dt_9 rfl
  obtain ⟨n_9, e_10, hr_11⟩ := iv_getf (j := 8) xm_151 xd_151_4 (by decide +kernel) ok (rfl : sv_ty 1 = some 9) dt_9 f_8.1 hr_7
  have rr_12 := iv_ireturn xm_151 xd_151_7 hr_11
  subst rr_12
  exact ⟨_, ⟨rfl, rfl⟩, rfl, f_8.2, ok⟩
/-! method 202 -/
theorem xm_202 : ae_m 202 = some (wk_M 202) := rfl
theorem xd_202_0 : decode (wk_M 202).2.2.1 0 = .ok (.aload_n 0, 1) := zd_by (by decide +kernel)
theorem xd_202_1 : decode (wk_M 202).2.2.1 1 = .ok (.iconst 0, 1) := zd_by (by decide +kernel)
theorem xd_202_2 : decode (wk_M 202).2.2.1 2 = .ok (.putfield 190, 3) := zd_by (by decide +kernel)
theorem xd_202_5 : decode (wk_M 202).2.2.1 5 = .ok (.aload_n 0, 1) := zd_by (by decide +kernel)
theorem xd_202_6 : decode (wk_M 202).2.2.1 6 = .ok (.getfield 252, 3) := zd_by (by decide +kernel)
theorem xd_202_9 : decode (wk_M 202).2.2.1 9 = .ok (.ireturn, 1) := zd_by (by decide +kernel)
abbrev D_202  (m : dc_M) (v : Int) (m' : dc_M) : Prop := ∃ m_10, m_10 = dc_up m 114 0 0 ∧ (v = (m_10 114 10) ∧ m' = m_10)
theorem ds_202 (n : Nat)  {h : ae_H} {r : ae_R} (ok : dc_ok h)  (hr : ae_exe n 202 0 0 0 (ae_args [wk_r 114] 0) [] h = some r) : ∃ v, D_202  (dc_m h) v (dc_m r.2) ∧ r.1 = some (wk_i v) ∧ sv_I v ∧ dc_ok r.2 := by
  have q0 : ae_lk (ae_args [wk_r 114] 0) 0 = some (wk_r 114) := rfl
  obtain ⟨n_1, e_2, hr_3⟩ := iv_aload_n xm_202 xd_202_0 q0 hr
  obtain ⟨n_4, e_5, hr_6⟩ := iv_iconst xm_202 xd_202_1 (by decide) hr_3
  obtain ⟨h_7, ok_8, em_9, n_11, e_12, hr_13⟩ := iv_puti (j := 0) (fk := 0) xm_202 xd_202_2 (by decide +kernel) ok (rfl : sv_ty 114 = some 12) dt_12 rfl (by decide +kernel) rfl (by unfold sv_I; omega) hr_6
  obtain ⟨n_14, e_15, hr_16⟩ := iv_aload_n xm_202 xd_202_5 q0 hr_13
  have f_17 := dc_fi (j := 10) ok_8 (rfl : sv_ty 114 = some 12) dt_12 rfl
  obtain ⟨n_18, e_19, hr_20⟩ := iv_getf (j := 10) xm_202 xd_202_6 (by decide +kernel) ok_8 (rfl : sv_ty 114 = some 12) dt_12 f_17.1 hr_16
  have rr_21 := iv_ireturn xm_202 xd_202_9 hr_20
  subst rr_21
  exact ⟨_, ⟨_, em_9, ⟨rfl, rfl⟩⟩, rfl, f_17.2, ok_8⟩
