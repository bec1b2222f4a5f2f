/-! method 79 -/
theorem xm_79 : ae_m 79 = some (wk_M 79) := rfl
theorem xd_79_0 : decode (wk_M 79).2.2.1 0 = .ok (.iload_n 1, 1) := zd_by (by decide +kernel)
theorem xd_79_1 : decode (wk_M 79).2.2.1 1 = .ok (.ifCond .lt 15, 3) := zd_by (by decide +kernel)
theorem xd_79_4 : decode (wk_M 79).2.2.1 4 = .ok (.iload_n 1, 1) := zd_by (by decide +kernel)
theorem xd_79_5 : decode (wk_M 79).2.2.1 5 = .ok (.aload_n 0, 1) := zd_by (by decide +kernel)
theorem xd_79_6 : decode (wk_M 79).2.2.1 6 = .ok (.getfield 43, 3) := zd_by (by decide +kernel)
theorem xd_79_9 : decode (wk_M 79).2.2.1 9 = .ok (.if_icmp .ge 7, 3) := zd_by (by decide +kernel)
theorem xd_79_12 : decode (wk_M 79).2.2.1 12 = .ok (.iconst 1, 1) := zd_by (by decide +kernel)
theorem xd_79_13 : decode (wk_M 79).2.2.1 13 = .ok (.goto 4, 3) := zd_by (by decide +kernel)
theorem xd_79_16 : decode (wk_M 79).2.2.1 16 = .ok (.iconst 0, 1) := zd_by (by decide +kernel)
theorem xd_79_17 : decode (wk_M 79).2.2.1 17 = .ok (.ireturn, 1) := zd_by (by decide +kernel)
abbrev D_79 (x0 : Int) (m : dc_M) (v : Int) (m' : dc_M) : Prop := (((x0 : Int) < 0 ∧ (v = 0 ∧ m' = m)) ∨ (¬ ((x0 : Int) < 0) ∧ ((((x0 : Int) ≥ (m 46 1) ∧ (v = 0 ∧ m' = m)) ∨ (¬ ((x0 : Int) ≥ (m 46 1)) ∧ (v = 1 ∧ m' = m))))))
theorem ds_79 (n : Nat) (x0 : Int) {h : ae_H} {r : ae_R} (ok : dc_ok h) (ix0 : sv_I x0) (hr : ae_exe n 79 0 0 0 (ae_args [wk_r 46, wk_i x0] 0) [] h = some r) : ∃ v, D_79 x0 (dc_m h) v (dc_m r.2) ∧ r.1 = some (wk_i v) ∧ sv_I v ∧ dc_ok r.2 := by
  have q0 : ae_lk (ae_args [wk_r 46, wk_i x0] 0) 0 = some (wk_r 46) := rfl
  have q1 : ae_lk (ae_args [wk_r 46, wk_i x0] 0) 1 = some (wk_i x0) := rfl
  obtain ⟨n_1, e_2, hr_3⟩ := iv_iload_n xm_79 xd_79_0 q1 hr
  rcases iv_if 16 xm_79 xd_79_1 (by decide) ix0 hr_3 with ⟨c_4, n_5, e_6, hr_7⟩ | ⟨c_4, n_5, e_6, hr_7⟩
  · obtain ⟨n_8, e_9, hr_10⟩ := iv_iconst xm_79 xd_79_16 (by decide) hr_7
    have rr_11 := iv_ireturn xm_79 xd_79_17 hr_10
    subst rr_11
    exact ⟨_, Or.inl ⟨c_4, ⟨rfl, rfl⟩⟩, rfl, (by unfold sv_I; omega), ok⟩
  · obtain ⟨n_12, e_13, hr_14⟩ := iv_iload_n xm_79 xd_79_4 q1 hr_7
    obtain ⟨n_15, e_16, hr_17⟩ := iv_aload_n xm_79 xd_79_5 q0 hr_14
    have f_18 := dc_fi (j := 1) ok (rfl : sv_ty 46 = some 6) dt_6 rfl
    obtain ⟨n_19, e_20, hr_21⟩ := iv_getf (j := 1) xm_79 xd_79_6 (by decide +kernel) ok (rfl : sv_ty 46 = some 6) dt_6 f_18.1 hr_17
    rcases iv_icmp 16 xm_79 xd_79_9 (by decide) ix0 f_18.2 hr_21 with ⟨c_22, n_23, e_24, hr_25⟩ | ⟨c_22, n_23, e_24, hr_25⟩
    · obtain ⟨n_26, e_27, hr_28⟩ := iv_iconst xm_79 xd_79_16 (by decide) hr_25
      have rr_29 := iv_ireturn xm_79 xd_79_17 hr_28
      subst rr_29
      exact ⟨_, Or.inr ⟨c_4, Or.inl ⟨c_22, ⟨rfl, rfl⟩⟩⟩, rfl, (by unfold sv_I; omega), ok⟩
    · obtain ⟨n_30, e_31, hr_32⟩ := iv_iconst xm_79 xd_79_12 (by decide) hr_25
      obtain ⟨n_33, e_34, hr_35⟩ := iv_goto 17 xm_79 xd_79_13 (by decide) hr_32
      have rr_36 := iv_ireturn xm_79 xd_79_17 hr_35
      subst rr_36
      exact ⟨_, Or.inr ⟨c_4, Or.inr ⟨c_22, ⟨rfl, rfl⟩⟩⟩, rfl, (by unfold sv_I; omega), ok⟩
/-! method 164 -/
theorem xm_164 : ae_m 164 = some (wk_M 164) := rfl
theorem xd_164_0 : decode (wk_M 164).2.2.1 0 = .ok (.aload_n 0, 1) := zd_by (by decide +kernel)
theorem xd_164_1 : decode (wk_M 164).2.2.1 1 = .ok (.getfield 51, 3) := zd_by (by decide +kernel)
theorem xd_164_4 : decode (wk_M 164).2.2.1 4 = .ok (.getfield 224, 3) := zd_by (by decide +kernel)
theorem xd_164_7 : decode (wk_M 164).2.2.1 7 = .ok (.ireturn, 1) := zd_by (by decide +kernel)
abbrev D_164  (m : dc_M) (v : Int) (m' : dc_M) : Prop := v = (m 46 1) ∧ m' = m
theorem ds_164 (n : Nat)  {h : ae_H} {r : ae_R} (ok : dc_ok h)  (hr : ae_exe n 164 0 0 0 (ae_args [wk_r 0] 0) [] h = some r) : ∃ v, D_164  (dc_m h) v (dc_m r.2) ∧ r.1 = some (wk_i v) ∧ sv_I v ∧ dc_ok r.2 := by
  have q0 : ae_lk (ae_args [wk_r 0] 0) 0 = some (wk_r 0) := rfl
  obtain ⟨n_1, e_2, hr_3⟩ := iv_aload_n xm_164 xd_164_0 q0 hr
  have f_4 := dc_fr (j := 5) ok (rfl : sv_ty 0 = some 11) dt_11 rfl
  obtain ⟨n_5, e_6, hr_7⟩ := iv_getf (j := 5) xm_164 xd_164_1 (by decide +kernel) ok (rfl : sv_ty 0 = some 11) dt_11 f_4 hr_3
  have f_8 := dc_fi (j := 1) ok (rfl : sv_ty 46 = some 6) dt_6 rfl
  obtain ⟨n_9, e_10, hr_11⟩ := iv_getf (j := 1) xm_164 xd_164_4 (by decide +kernel) ok (rfl : sv_ty 46 = some 6) dt_6 f_8.1 hr_7
  have rr_12 := iv_ireturn xm_164 xd_164_7 hr_11
  subst rr_12
  exact ⟨_, ⟨rfl, rfl⟩, rfl, f_8.2, ok⟩
/-! method 165 -/
theorem xm_165 : ae_m 165 = some (wk_M 165) := rfl
theorem xd_165_0 : decode (wk_M 165).2.2.1 0 = .ok (.aload_n 0, 1) := zd_by (by decide +kernel)
theorem xd_165_1 : decode (wk_M 165).2.2.1 1 = .ok (.getfield 51, 3) := zd_by (by decide +kernel)
theorem xd_165_4 : decode (wk_M 165).2.2.1 4 = .ok (.iload_n 1, 1) := zd_by (by decide +kernel)
theorem xd_165_5 : decode (wk_M 165).2.2.1 5 = .ok (.invokevirtual 227, 3) := zd_by (by decide +kernel)
theorem xd_165_8 : decode (wk_M 165).2.2.1 8 = .ok (.ifCond .eq 15, 3) := zd_by (by decide +kernel)
theorem xd_165_11 : decode (wk_M 165).2.2.1 11 = .ok (.aload_n 0, 1) := zd_by (by decide +kernel)
theorem xd_165_12 : decode (wk_M 165).2.2.1 12 = .ok (.getfield 51, 3) := zd_by (by decide +kernel)
theorem xd_165_15 : decode (wk_M 165).2.2.1 15 = .ok (.getfield 230, 3) := zd_by (by decide +kernel)
theorem xd_165_18 : decode (wk_M 165).2.2.1 18 = .ok (.iload_n 1, 1) := zd_by (by decide +kernel)
theorem xd_165_19 : decode (wk_M 165).2.2.1 19 = .ok (.iaload, 1) := zd_by (by decide +kernel)
theorem xd_165_20 : decode (wk_M 165).2.2.1 20 = .ok (.goto 4, 3) := zd_by (by decide +kernel)
theorem xd_165_23 : decode (wk_M 165).2.2.1 23 = .ok (.iconst (-1), 1) := zd_by (by decide +kernel)
theorem xd_165_24 : decode (wk_M 165).2.2.1 24 = .ok (.ireturn, 1) := zd_by (by decide +kernel)
abbrev D_165 (x0 : Int) (m : dc_M) (v : Int) (m' : dc_M) : Prop := ∃ v_13 m_18, D_79 x0 m v_13 m_18 ∧ ((((v_13 : Int) = 0 ∧ (v = (-1) ∧ m' = m_18)) ∨ (¬ ((v_13 : Int) = 0) ∧ ((0 ≤ (x0 : Int) ∧ (x0 : Int) < 8) ∧ (v = (m_18 47 x0) ∧ m' = m_18)))))
theorem ds_165 (n : Nat) (x0 : Int) {h : ae_H} {r : ae_R} (ok : dc_ok h) (ix0 : sv_I x0) (hr : ae_exe n 165 0 0 0 (ae_args [wk_r 0, wk_i x0] 0) [] h = some r) : ∃ v, D_165 x0 (dc_m h) v (dc_m r.2) ∧ r.1 = some (wk_i v) ∧ sv_I v ∧ dc_ok r.2 := by
  have q0 : ae_lk (ae_args [wk_r 0, wk_i x0] 0) 0 = some (wk_r 0) := rfl
  have q1 : ae_lk (ae_args [wk_r 0, wk_i x0] 0) 1 = some (wk_i x0) := rfl
  obtain ⟨n_1, e_2, hr_3⟩ := iv_aload_n xm_165 xd_165_0 q0 hr
  have f_4 := dc_fr (j := 5) ok (rfl : sv_ty 0 = some 11) dt_11 rfl
  obtain ⟨n_5, e_6, hr_7⟩ := iv_getf (j := 5) xm_165 xd_165_1 (by decide +kernel) ok (rfl : sv_ty 0 = some 11) dt_11 f_4 hr_3
  obtain ⟨n_8, e_9, hr_10⟩ := iv_iload_n xm_165 xd_165_4 q1 hr_7
  obtain ⟨n_20, r_11, e_21, hc_12, hr_22⟩ := iv_call (Or.inr ⟨rfl, rfl⟩) xm_165 xd_165_5 (by decide +kernel) xm_79 rfl (by decide +kernel) hr_10
  obtain ⟨v_13, d_14, er_15, iv_16, ok_17⟩ := ds_79 _ _ ok ix0 hc_12
  obtain ⟨_, h_19⟩ := r_11
  have er_15 : _ = some (wk_i v_13) := er_15
  subst er_15
  have hr_23 : ae_exe n_20 165 (5 + 3) 0 0 (ae_args [wk_r 0, wk_i x0] 0) _ h_19 = some r := hr_22
  rcases iv_if 23 xm_165 xd_165_8 (by decide) iv_16 hr_23 with ⟨c_24, n_25, e_26, hr_27⟩ | ⟨c_24, n_25, e_26, hr_27⟩
  · obtain ⟨n_28, e_29, hr_30⟩ := iv_iconst xm_165 xd_165_23 (by decide) hr_27
    have rr_31 := iv_ireturn xm_165 xd_165_24 hr_30
    subst rr_31
    exact ⟨_, ⟨_, _, d_14, Or.inl ⟨c_24, ⟨rfl, rfl⟩⟩⟩, rfl, (by unfold sv_I; omega), ok_17⟩
  · obtain ⟨n_32, e_33, hr_34⟩ := iv_aload_n xm_165 xd_165_11 q0 hr_27
    have f_35 := dc_fr (j := 5) ok_17 (rfl : sv_ty 0 = some 11) dt_11 rfl
    obtain ⟨n_36, e_37, hr_38⟩ := iv_getf (j := 5) xm_165 xd_165_12 (by decide +kernel) ok_17 (rfl : sv_ty 0 = some 11) dt_11 f_35 hr_34
    have f_39 := dc_fr (j := 0) ok_17 (rfl : sv_ty 46 = some 6) dt_6 rfl
    obtain ⟨n_40, e_41, hr_42⟩ := iv_getf (j := 0) xm_165 xd_165_15 (by decide +kernel) ok_17 (rfl : sv_ty 46 = some 6) dt_6 f_39 hr_38
    obtain ⟨n_43, e_44, hr_45⟩ := iv_iload_n xm_165 xd_165_18 q1 hr_42
    obtain ⟨q_46, qi_47, n_48, e_49, hr_50⟩ := iv_iald xm_165 xd_165_19 ok_17 (rfl : sv_ty 47 = some 48) dt_48 (by decide) ix0 hr_45
    obtain ⟨n_51, e_52, hr_53⟩ := iv_goto 24 xm_165 xd_165_20 (by decide) hr_50
    have rr_54 := iv_ireturn xm_165 xd_165_24 hr_53
    subst rr_54
    exact ⟨_, ⟨_, _, d_14, Or.inr ⟨c_24, ⟨q_46, ⟨rfl, rfl⟩⟩⟩⟩, rfl, qi_47, ok_17⟩
/-! method 166 -/
theorem xm_166 : ae_m 166 = some (wk_M 166) := rfl
theorem xd_166_0 : decode (wk_M 166).2.2.1 0 = .ok (.aload_n 0, 1) := zd_by (by decide +kernel)
theorem xd_166_1 : decode (wk_M 166).2.2.1 1 = .ok (.getfield 51, 3) := zd_by (by decide +kernel)
theorem xd_166_4 : decode (wk_M 166).2.2.1 4 = .ok (.iload_n 1, 1) := zd_by (by decide +kernel)
theorem xd_166_5 : decode (wk_M 166).2.2.1 5 = .ok (.invokevirtual 227, 3) := zd_by (by decide +kernel)
theorem xd_166_8 : decode (wk_M 166).2.2.1 8 = .ok (.ifCond .ne 5, 3) := zd_by (by decide +kernel)
theorem xd_166_11 : decode (wk_M 166).2.2.1 11 = .ok (.iconst (-1), 1) := zd_by (by decide +kernel)
theorem xd_166_12 : decode (wk_M 166).2.2.1 12 = .ok (.ireturn, 1) := zd_by (by decide +kernel)
theorem xd_166_13 : decode (wk_M 166).2.2.1 13 = .ok (.aload_n 0, 1) := zd_by (by decide +kernel)
theorem xd_166_14 : decode (wk_M 166).2.2.1 14 = .ok (.getfield 51, 3) := zd_by (by decide +kernel)
theorem xd_166_17 : decode (wk_M 166).2.2.1 17 = .ok (.aload_n 0, 1) := zd_by (by decide +kernel)
theorem xd_166_18 : decode (wk_M 166).2.2.1 18 = .ok (.getfield 82, 3) := zd_by (by decide +kernel)
theorem xd_166_21 : decode (wk_M 166).2.2.1 21 = .ok (.aload_n 0, 1) := zd_by (by decide +kernel)
theorem xd_166_22 : decode (wk_M 166).2.2.1 22 = .ok (.getfield 51, 3) := zd_by (by decide +kernel)
theorem xd_166_25 : decode (wk_M 166).2.2.1 25 = .ok (.getfield 230, 3) := zd_by (by decide +kernel)
theorem xd_166_28 : decode (wk_M 166).2.2.1 28 = .ok (.iload_n 1, 1) := zd_by (by decide +kernel)
theorem xd_166_29 : decode (wk_M 166).2.2.1 29 = .ok (.iaload, 1) := zd_by (by decide +kernel)
theorem xd_166_30 : decode (wk_M 166).2.2.1 30 = .ok (.aload_n 0, 1) := zd_by (by decide +kernel)
theorem xd_166_31 : decode (wk_M 166).2.2.1 31 = .ok (.getfield 72, 3) := zd_by (by decide +kernel)
theorem xd_166_34 : decode (wk_M 166).2.2.1 34 = .ok (.invokevirtual 233, 3) := zd_by (by decide +kernel)
theorem xd_166_37 : decode (wk_M 166).2.2.1 37 = .ok (.pop, 1) := zd_by (by decide +kernel)
theorem xd_166_38 : decode (wk_M 166).2.2.1 38 = .ok (.aload_n 0, 1) := zd_by (by decide +kernel)
theorem xd_166_39 : decode (wk_M 166).2.2.1 39 = .ok (.getfield 72, 3) := zd_by (by decide +kernel)
theorem xd_166_42 : decode (wk_M 166).2.2.1 42 = .ok (.getfield 140, 3) := zd_by (by decide +kernel)
theorem xd_166_45 : decode (wk_M 166).2.2.1 45 = .ok (.ireturn, 1) := zd_by (by decide +kernel)
abbrev D_166 (x0 : Int) (m : dc_M) (v : Int) (m' : dc_M) : Prop := ∃ v_13 m_18, D_79 x0 m v_13 m_18 ∧ ((((v_13 : Int) ≠ 0 ∧ ((0 ≤ (x0 : Int) ∧ (x0 : Int) < 8) ∧ (∃ v_70 m_75, D_82 ((m_18 0 10).toNat) ((m_18 47 x0)) ((m_18 0 8).toNat) m_18 v_70 m_75 ∧ (v = (m_75 (m_75 0 8).toNat 2) ∧ m' = m_75)))) ∨ (¬ ((v_13 : Int) ≠ 0) ∧ (v = (-1) ∧ m' = m_18))))
theorem ds_166 (n : Nat) (x0 : Int) {h : ae_H} {r : ae_R} (ok : dc_ok h) (ix0 : sv_I x0) (hr : ae_exe n 166 0 0 0 (ae_args [wk_r 0, wk_i x0] 0) [] h = some r) : ∃ v, D_166 x0 (dc_m h) v (dc_m r.2) ∧ r.1 = some (wk_i v) ∧ sv_I v ∧ dc_ok r.2 := by
  have q0 : ae_lk (ae_args [wk_r 0, wk_i x0] 0) 0 = some (wk_r 0) := rfl
  have q1 : ae_lk (ae_args [wk_r 0, wk_i x0] 0) 1 = some (wk_i x0) := rfl
  obtain ⟨n_1, e_2, hr_3⟩ := iv_aload_n xm_166 xd_166_0 q0 hr
  have f_4 := dc_fr (j := 5) ok (rfl : sv_ty 0 = some 11) dt_11 rfl
  obtain ⟨n_5, e_6, hr_7⟩ := iv_getf (j := 5) xm_166 xd_166_1 (by decide +kernel) ok (rfl : sv_ty 0 = some 11) dt_11 f_4 hr_3
  obtain ⟨n_8, e_9, hr_10⟩ := iv_iload_n xm_166 xd_166_4 q1 hr_7
  obtain ⟨n_20, r_11, e_21, hc_12, hr_22⟩ := iv_call (Or.inr ⟨rfl, rfl⟩) xm_166 xd_166_5 (by decide +kernel) xm_79 rfl (by decide +kernel) hr_10
  obtain ⟨v_13, d_14, er_15, iv_16, ok_17⟩ := ds_79 _ _ ok ix0 hc_12
  obtain ⟨_, h_19⟩ := r_11
  have er_15 : _ = some (wk_i v_13) := er_15
  subst er_15
  have hr_23 : ae_exe n_20 166 (5 + 3) 0 0 (ae_args [wk_r 0, wk_i x0] 0) _ h_19 = some r := hr_22
  rcases iv_if 13 xm_166 xd_166_8 (by decide) iv_16 hr_23 with ⟨c_24, n_25, e_26, hr_27⟩ | ⟨c_24, n_25, e_26, hr_27⟩
  · obtain ⟨n_28, e_29, hr_30⟩ := iv_aload_n xm_166 xd_166_13 q0 hr_27
    have f_31 := dc_fr (j := 5) ok_17 (rfl : sv_ty 0 = some 11) dt_11 rfl
    obtain ⟨n_32, e_33, hr_34⟩ := iv_getf (j := 5) xm_166 xd_166_14 (by decide +kernel) ok_17 (rfl : sv_ty 0 = some 11) dt_11 f_31 hr_30
    obtain ⟨n_35, e_36, hr_37⟩ := iv_aload_n xm_166 xd_166_17 q0 hr_34
    have f_38 := dc_ft (j := 10) ok_17 (rfl : sv_ty 0 = some 11) dt_11 rfl
    obtain ⟨n_39, e_40, hr_41⟩ := iv_getf (j := 10) xm_166 xd_166_18 (by decide +kernel) ok_17 (rfl : sv_ty 0 = some 11) dt_11 f_38.1 hr_37
    obtain ⟨n_42, e_43, hr_44⟩ := iv_aload_n xm_166 xd_166_21 q0 hr_41
    have f_45 := dc_fr (j := 5) ok_17 (rfl : sv_ty 0 = some 11) dt_11 rfl
    obtain ⟨n_46, e_47, hr_48⟩ := iv_getf (j := 5) xm_166 xd_166_22 (by decide +kernel) ok_17 (rfl : sv_ty 0 = some 11) dt_11 f_45 hr_44
    have f_49 := dc_fr (j := 0) ok_17 (rfl : sv_ty 46 = some 6) dt_6 rfl
    obtain ⟨n_50, e_51, hr_52⟩ := iv_getf (j := 0) xm_166 xd_166_25 (by decide +kernel) ok_17 (rfl : sv_ty 46 = some 6) dt_6 f_49 hr_48
    obtain ⟨n_53, e_54, hr_55⟩ := iv_iload_n xm_166 xd_166_28 q1 hr_52
    obtain ⟨q_56, qi_57, n_58, e_59, hr_60⟩ := iv_iald xm_166 xd_166_29 ok_17 (rfl : sv_ty 47 = some 48) dt_48 (by decide) ix0 hr_55
    obtain ⟨n_61, e_62, hr_63⟩ := iv_aload_n xm_166 xd_166_30 q0 hr_60
    have f_64 := dc_ft (j := 8) ok_17 (rfl : sv_ty 0 = some 11) dt_11 rfl
    obtain ⟨n_65, e_66, hr_67⟩ := iv_getf (j := 8) xm_166 xd_166_31 (by decide +kernel) ok_17 (rfl : sv_ty 0 = some 11) dt_11 f_64.1 hr_63
    obtain ⟨n_77, r_68, e_78, hc_69, hr_79⟩ := iv_call (Or.inr ⟨rfl, rfl⟩) xm_166 xd_166_34 (by decide +kernel) xm_82 rfl (by decide +kernel) hr_67
    obtain ⟨v_70, d_71, er_72, iv_73, ok_74⟩ := ds_82 _ _ _ _ ok_17 f_38.2 qi_57 f_64.2 hc_69
    obtain ⟨_, h_76⟩ := r_68
    have er_72 : _ = some (wk_i v_70) := er_72
    subst er_72
    have hr_80 : ae_exe n_77 166 (34 + 3) 0 0 (ae_args [wk_r 0, wk_i x0] 0) _ h_76 = some r := hr_79
    obtain ⟨n_81, e_82, hr_83⟩ := iv_pop xm_166 xd_166_37 rfl hr_80
    obtain ⟨n_84, e_85, hr_86⟩ := iv_aload_n xm_166 xd_166_38 q0 hr_83
    have f_87 := dc_ft (j := 8) ok_74 (rfl : sv_ty 0 = some 11) dt_11 rfl
    obtain ⟨n_88, e_89, hr_90⟩ := iv_getf (j := 8) xm_166 xd_166_39 (by decide +kernel) ok_74 (rfl : sv_ty 0 = some 11) dt_11 f_87.1 hr_86
    have f_91 := dc_fi (j := 2) ok_74 f_87.2 dt_0 rfl
    obtain ⟨n_92, e_93, hr_94⟩ := iv_getf (j := 2) xm_166 xd_166_42 (by decide +kernel) ok_74 f_87.2 dt_0 f_91.1 hr_90
    have rr_95 := iv_ireturn xm_166 xd_166_45 hr_94
    subst rr_95
    exact ⟨_, ⟨_, _, d_14, Or.inl ⟨c_24, ⟨q_56, ⟨_, _, d_71, ⟨rfl, rfl⟩⟩⟩⟩⟩, rfl, f_91.2, ok_74⟩
  · obtain ⟨n_96, e_97, hr_98⟩ := iv_iconst xm_166 xd_166_11 (by decide) hr_27
    have rr_99 := iv_ireturn xm_166 xd_166_12 hr_98
    subst rr_99
    exact ⟨_, ⟨_, _, d_14, Or.inr ⟨c_24, ⟨rfl, rfl⟩⟩⟩, rfl, (by unfold sv_I; omega), ok_17⟩
