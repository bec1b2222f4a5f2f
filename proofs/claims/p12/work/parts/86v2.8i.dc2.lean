/-! method 185 -/
theorem xm_185 : ae_m 185 = some (wk_M 185) := rfl
theorem xd_185_0 : decode (wk_M 185).2.2.1 0 = .ok (.bipush 24, 2) := zd_by (by decide +kernel)
theorem xd_185_2 : decode (wk_M 185).2.2.1 2 = .ok (.istore_n 2, 1) := zd_by (by decide +kernel)
theorem xd_185_3 : decode (wk_M 185).2.2.1 3 = .ok (.iload_n 2, 1) := zd_by (by decide +kernel)
theorem xd_185_4 : decode (wk_M 185).2.2.1 4 = .ok (.ifCond .lt 32, 3) := zd_by (by decide +kernel)
theorem xd_185_7 : decode (wk_M 185).2.2.1 7 = .ok (.aload_n 0, 1) := zd_by (by decide +kernel)
theorem xd_185_8 : decode (wk_M 185).2.2.1 8 = .ok (.getfield 7, 3) := zd_by (by decide +kernel)
theorem xd_185_11 : decode (wk_M 185).2.2.1 11 = .ok (.aload_n 0, 1) := zd_by (by decide +kernel)
theorem xd_185_12 : decode (wk_M 185).2.2.1 12 = .ok (.getfield 194, 3) := zd_by (by decide +kernel)
theorem xd_185_15 : decode (wk_M 185).2.2.1 15 = .ok (.iload_n 1, 1) := zd_by (by decide +kernel)
theorem xd_185_16 : decode (wk_M 185).2.2.1 16 = .ok (.iload_n 2, 1) := zd_by (by decide +kernel)
theorem xd_185_17 : decode (wk_M 185).2.2.1 17 = .ok (.ishr, 1) := zd_by (by decide +kernel)
theorem xd_185_18 : decode (wk_M 185).2.2.1 18 = .ok (.i2b, 1) := zd_by (by decide +kernel)
theorem xd_185_19 : decode (wk_M 185).2.2.1 19 = .ok (.bastore, 1) := zd_by (by decide +kernel)
theorem xd_185_20 : decode (wk_M 185).2.2.1 20 = .ok (.aload_n 0, 1) := zd_by (by decide +kernel)
theorem xd_185_21 : decode (wk_M 185).2.2.1 21 = .ok (.dup, 1) := zd_by (by decide +kernel)
theorem xd_185_22 : decode (wk_M 185).2.2.1 22 = .ok (.getfield 194, 3) := zd_by (by decide +kernel)
theorem xd_185_25 : decode (wk_M 185).2.2.1 25 = .ok (.iconst 1, 1) := zd_by (by decide +kernel)
theorem xd_185_26 : decode (wk_M 185).2.2.1 26 = .ok (.iadd, 1) := zd_by (by decide +kernel)
theorem xd_185_27 : decode (wk_M 185).2.2.1 27 = .ok (.putfield 194, 3) := zd_by (by decide +kernel)
theorem xd_185_30 : decode (wk_M 185).2.2.1 30 = .ok (.iinc 2 (-8), 3) := zd_by (by decide +kernel)
theorem xd_185_33 : decode (wk_M 185).2.2.1 33 = .ok (.goto (-30), 3) := zd_by (by decide +kernel)
theorem xd_185_36 : decode (wk_M 185).2.2.1 36 = .ok (.return_, 1) := zd_by (by decide +kernel)
def LM_185 (x0 : Int) : Nat → Nat → Int → dc_M → Int → dc_M → Prop
  | 0, _, _, _, _, _ => False
  | c + 1, tag, l2, m, v, m' => match tag with
    | _ => (((l2 : Int) < 0 ∧ (v = 0 ∧ m' = m)) ∨ (¬ ((l2 : Int) < 0) ∧ ((0 ≤ ((m 114 2) : Int) ∧ ((m 114 2) : Int) < 740) ∧ ∃ m_39, m_39 = dc_up m 115 (m 114 2) (dc_b (dc_b (sv_g (ae_shr (sv_u x0) (sv_u l2))))) ∧ (∃ m_62, m_62 = dc_up m_39 114 2 (dc_w ((m_39 114 2) + 1)) ∧ (LM_185 x0 c 3 (dc_w (l2 + (-8))) m_62 v m')))))
theorem lm_185_3 {x0 : Int} {c : Nat} {l2 : Int} {m : dc_M} {v : Int} {m' : dc_M} : LM_185 x0 (c + 1) 3 l2 m v m' ↔ (((l2 : Int) < 0 ∧ (v = 0 ∧ m' = m)) ∨ (¬ ((l2 : Int) < 0) ∧ ((0 ≤ ((m 114 2) : Int) ∧ ((m 114 2) : Int) < 740) ∧ ∃ m_39, m_39 = dc_up m 115 (m 114 2) (dc_b (dc_b (sv_g (ae_shr (sv_u x0) (sv_u l2))))) ∧ (∃ m_62, m_62 = dc_up m_39 114 2 (dc_w ((m_39 114 2) + 1)) ∧ (LM_185 x0 c 3 (dc_w (l2 + (-8))) m_62 v m'))))) := Iff.rfl
theorem dl_185 {x0 : Int} (ix0 : sv_I x0) : ∀ N : Nat, (∀ (n : Nat) (lv : ae_L) (h : ae_H) (r : ae_R) (l2 : Int), n ≤ N → dc_ok h → sv_I l2 → ae_lk lv 0 = some (wk_r 114) → ae_lk lv 1 = some (wk_i x0) → ae_lk lv 2 = some (wk_i l2) → ae_exe n 185 3 0 0 lv [] h = some r → ∃ v, (∃ c, LM_185 x0 c 3 l2 (dc_m h) v (dc_m r.2)) ∧ r.1 = none ∧ sv_I v ∧ dc_ok r.2) := by
  intro N
  induction N with
  | zero =>
    exact fun n lv h r l2 hn ok il2 q0 q1 q2 hr => by
      have e : n = 0 := by omega
      subst e
      cases hr
  | succ N ih =>
    have ih0 := ih
    intro n lv h r l2 hn ok il2 q0 q1 q2 hr
    obtain ⟨n_1, e_2, hr_3⟩ := iv_iload_n xm_185 xd_185_3 q2 hr
    rcases iv_if 36 xm_185 xd_185_4 (by decide) il2 hr_3 with ⟨c_4, n_5, e_6, hr_7⟩ | ⟨c_4, n_5, e_6, hr_7⟩
    · have rr_8 := iv_return xm_185 xd_185_36 hr_7 rfl
      subst rr_8
      exact ⟨_, ⟨0 + 1, lm_185_3.mpr (Or.inl ⟨c_4, ⟨rfl, rfl⟩⟩)⟩, rfl, (by unfold sv_I; omega), ok⟩
    · obtain ⟨n_9, e_10, hr_11⟩ := iv_aload_n xm_185 xd_185_7 q0 hr_7
      have f_12 := dc_fr (j := 1) ok (rfl : sv_ty 114 = some 12) dt_12 rfl
      obtain ⟨n_13, e_14, hr_15⟩ := iv_getf (j := 1) xm_185 xd_185_8 (by decide +kernel) ok (rfl : sv_ty 114 = some 12) dt_12 f_12 hr_11
      obtain ⟨n_16, e_17, hr_18⟩ := iv_aload_n xm_185 xd_185_11 q0 hr_15
      have f_19 := dc_fi (j := 2) ok (rfl : sv_ty 114 = some 12) dt_12 rfl
      obtain ⟨n_20, e_21, hr_22⟩ := iv_getf (j := 2) xm_185 xd_185_12 (by decide +kernel) ok (rfl : sv_ty 114 = some 12) dt_12 f_19.1 hr_18
      obtain ⟨n_23, e_24, hr_25⟩ := iv_iload_n xm_185 xd_185_15 q1 hr_22
      obtain ⟨n_26, e_27, hr_28⟩ := iv_iload_n xm_185 xd_185_16 q2 hr_25
      obtain ⟨n_29, e_30, hr_31⟩ := iv_ibin (f := ae_shr) (Or.inl ⟨rfl, rfl⟩) (ae_shr_lt (sv_u_lt _)) xm_185 xd_185_17 hr_28
      obtain ⟨n_32, e_33, hr_34⟩ := iv_i2b xm_185 xd_185_18 hr_31
      obtain ⟨q_35, h_36, ok_37, em_38, n_40, e_41, hr_42⟩ := iv_bast xm_185 xd_185_19 ok (rfl : sv_ty 115 = some 60) dt_60 (by decide) f_19.2 hr_34
      obtain ⟨n_43, e_44, hr_45⟩ := iv_aload_n xm_185 xd_185_20 q0 hr_42
      obtain ⟨n_46, e_47, hr_48⟩ := iv_dup xm_185 xd_185_21 rfl hr_45
      have f_49 := dc_fi (j := 2) ok_37 (rfl : sv_ty 114 = some 12) dt_12 rfl
      obtain ⟨n_50, e_51, hr_52⟩ := iv_getf (j := 2) xm_185 xd_185_22 (by decide +kernel) ok_37 (rfl : sv_ty 114 = some 12) dt_12 f_49.1 hr_48
      obtain ⟨n_53, e_54, hr_55⟩ := iv_iconst xm_185 xd_185_25 (by decide) hr_52
      obtain ⟨n_56, e_57, hr_58⟩ := iw_iadd xm_185 xd_185_26 hr_55
      obtain ⟨h_59, ok_60, em_61, n_63, e_64, hr_65⟩ := iv_puti (j := 2) (fk := 0) xm_185 xd_185_27 (by decide +kernel) ok_37 (rfl : sv_ty 114 = some 12) dt_12 rfl (by decide +kernel) rfl (dc_w_I _) hr_58
      obtain ⟨lv_67, sl_66, n_68, e_69, hr_70⟩ := iw_iinc xm_185 xd_185_30 (by decide +kernel) (by decide) q2 hr_65
      have l_71 := sl_66.2 0 _ q0 (by decide) (Or.inl rfl)
      have l_72 := sl_66.2 1 _ q1 (by decide) (Or.inl rfl)
      have l_73 := sl_66.1
      obtain ⟨n_74, e_75, hr_76⟩ := iv_goto 3 xm_185 xd_185_33 (by decide) hr_70
      obtain ⟨v, ⟨c, hL⟩, e1, e2, e3⟩ := ih0 _ lv_67 h_59 _ _ (by omega) ok_60 (dc_w_I _) l_71 l_72 l_73 hr_76
      exact ⟨v, ⟨c + 1, lm_185_3.mpr (Or.inr ⟨c_4, ⟨q_35, _, em_38, ⟨_, em_61, hL⟩⟩⟩)⟩, e1, e2, e3⟩
abbrev D_185 (x0 : Int) (m : dc_M) (v : Int) (m' : dc_M) : Prop := ∃ c, LM_185 x0 c 3 24 m v m'
theorem ds_185 (n : Nat) (x0 : Int) {h : ae_H} {r : ae_R} (ok : dc_ok h) (ix0 : sv_I x0) (hr : ae_exe n 185 0 0 0 (ae_args [wk_r 114, wk_i x0] 0) [] h = some r) : ∃ v, D_185 x0 (dc_m h) v (dc_m r.2) ∧ r.1 = none ∧ sv_I v ∧ dc_ok r.2 := by
  have q0 : ae_lk (ae_args [wk_r 114, wk_i x0] 0) 0 = some (wk_r 114) := rfl
  have q1 : ae_lk (ae_args [wk_r 114, wk_i x0] 0) 1 = some (wk_i x0) := rfl
  obtain ⟨n_77, e_78, hr_79⟩ := iv_bipush xm_185 xd_185_0 (by decide) hr
  obtain ⟨lv_81, sl_80, n_82, e_83, hr_84⟩ := iv_istore_n xm_185 xd_185_2 (by decide +kernel) hr_79
  have l_85 := sl_80.2 0 _ q0 (by decide) (Or.inl rfl)
  have l_86 := sl_80.2 1 _ q1 (by decide) (Or.inl rfl)
  have l_87 := sl_80.1
  obtain ⟨v, ⟨c, hL⟩, e1, e2, e3⟩ := (dl_185 ix0 _) _ lv_81 h _ _ (Nat.le_refl _) ok (by unfold sv_I; omega) l_85 l_86 l_87 hr_84
  exact ⟨v, ⟨_, hL⟩, e1, e2, e3⟩
/-! method 184 -/
theorem xm_184 : ae_m 184 = some (wk_M 184) := rfl
theorem xd_184_0 : decode (wk_M 184).2.2.1 0 = .ok (.aload_n 0, 1) := zd_by (by decide +kernel)
theorem xd_184_1 : decode (wk_M 184).2.2.1 1 = .ok (.iconst 0, 1) := zd_by (by decide +kernel)
theorem xd_184_2 : decode (wk_M 184).2.2.1 2 = .ok (.putfield 190, 3) := zd_by (by decide +kernel)
theorem xd_184_5 : decode (wk_M 184).2.2.1 5 = .ok (.aload_n 0, 1) := zd_by (by decide +kernel)
theorem xd_184_6 : decode (wk_M 184).2.2.1 6 = .ok (.getfield 194, 3) := zd_by (by decide +kernel)
theorem xd_184_9 : decode (wk_M 184).2.2.1 9 = .ok (.bipush 20, 2) := zd_by (by decide +kernel)
theorem xd_184_11 : decode (wk_M 184).2.2.1 11 = .ok (.iadd, 1) := zd_by (by decide +kernel)
theorem xd_184_12 : decode (wk_M 184).2.2.1 12 = .ok (.sipush 740, 3) := zd_by (by decide +kernel)
theorem xd_184_15 : decode (wk_M 184).2.2.1 15 = .ok (.if_icmp .le 5, 3) := zd_by (by decide +kernel)
theorem xd_184_18 : decode (wk_M 184).2.2.1 18 = .ok (.iconst (-1), 1) := zd_by (by decide +kernel)
theorem xd_184_19 : decode (wk_M 184).2.2.1 19 = .ok (.ireturn, 1) := zd_by (by decide +kernel)
theorem xd_184_20 : decode (wk_M 184).2.2.1 20 = .ok (.aload_n 0, 1) := zd_by (by decide +kernel)
theorem xd_184_21 : decode (wk_M 184).2.2.1 21 = .ok (.iload_n 1, 1) := zd_by (by decide +kernel)
theorem xd_184_22 : decode (wk_M 184).2.2.1 22 = .ok (.invokevirtual 197, 3) := zd_by (by decide +kernel)
theorem xd_184_25 : decode (wk_M 184).2.2.1 25 = .ok (.aload_n 0, 1) := zd_by (by decide +kernel)
theorem xd_184_26 : decode (wk_M 184).2.2.1 26 = .ok (.iload_n 2, 1) := zd_by (by decide +kernel)
theorem xd_184_27 : decode (wk_M 184).2.2.1 27 = .ok (.invokevirtual 197, 3) := zd_by (by decide +kernel)
theorem xd_184_30 : decode (wk_M 184).2.2.1 30 = .ok (.aload_n 0, 1) := zd_by (by decide +kernel)
theorem xd_184_31 : decode (wk_M 184).2.2.1 31 = .ok (.iload_n 3, 1) := zd_by (by decide +kernel)
theorem xd_184_32 : decode (wk_M 184).2.2.1 32 = .ok (.invokevirtual 197, 3) := zd_by (by decide +kernel)
theorem xd_184_35 : decode (wk_M 184).2.2.1 35 = .ok (.aload_n 0, 1) := zd_by (by decide +kernel)
theorem xd_184_36 : decode (wk_M 184).2.2.1 36 = .ok (.iload 4, 2) := zd_by (by decide +kernel)
theorem xd_184_38 : decode (wk_M 184).2.2.1 38 = .ok (.invokevirtual 197, 3) := zd_by (by decide +kernel)
theorem xd_184_41 : decode (wk_M 184).2.2.1 41 = .ok (.aload_n 0, 1) := zd_by (by decide +kernel)
theorem xd_184_42 : decode (wk_M 184).2.2.1 42 = .ok (.iload 5, 2) := zd_by (by decide +kernel)
theorem xd_184_44 : decode (wk_M 184).2.2.1 44 = .ok (.invokevirtual 197, 3) := zd_by (by decide +kernel)
theorem xd_184_47 : decode (wk_M 184).2.2.1 47 = .ok (.aload_n 0, 1) := zd_by (by decide +kernel)
theorem xd_184_48 : decode (wk_M 184).2.2.1 48 = .ok (.getfield 194, 3) := zd_by (by decide +kernel)
theorem xd_184_51 : decode (wk_M 184).2.2.1 51 = .ok (.ireturn, 1) := zd_by (by decide +kernel)
abbrev D_184 (x0 : Int) (x1 : Int) (x2 : Int) (x3 : Int) (x4 : Int) (m : dc_M) (v : Int) (m' : dc_M) : Prop := ∃ m_10, m_10 = dc_up m 114 0 0 ∧ (((((dc_w ((m_10 114 2) + 20)) : Int) ≤ 740 ∧ (∃ v_42 m_47, D_185 x0 m_10 v_42 m_47 ∧ (∃ v_61 m_66, D_185 x1 m_47 v_61 m_66 ∧ (∃ v_80 m_85, D_185 x2 m_66 v_80 m_85 ∧ (∃ v_99 m_104, D_185 x3 m_85 v_99 m_104 ∧ (∃ v_118 m_123, D_185 x4 m_104 v_118 m_123 ∧ (v = (m_123 114 2) ∧ m' = m_123))))))) ∨ (¬ (((dc_w ((m_10 114 2) + 20)) : Int) ≤ 740) ∧ (v = (-1) ∧ m' = m_10))))
theorem ds_184 (n : Nat) (x0 : Int) (x1 : Int) (x2 : Int) (x3 : Int) (x4 : Int) {h : ae_H} {r : ae_R} (ok : dc_ok h) (ix0 : sv_I x0) (ix1 : sv_I x1) (ix2 : sv_I x2) (ix3 : sv_I x3) (ix4 : sv_I x4) (hr : ae_exe n 184 0 0 0 (ae_args [wk_r 114, wk_i x0, wk_i x1, wk_i x2, wk_i x3, wk_i x4] 0) [] h = some r) : ∃ v, D_184 x0 x1 x2 x3 x4 (dc_m h) v (dc_m r.2) ∧ r.1 = some (wk_i v) ∧ sv_I v ∧ dc_ok r.2 := by
  have q0 : ae_lk (ae_args [wk_r 114, wk_i x0, wk_i x1, wk_i x2, wk_i x3, wk_i x4] 0) 0 = some (wk_r 114) := rfl
  have q1 : ae_lk (ae_args [wk_r 114, wk_i x0, wk_i x1, wk_i x2, wk_i x3, wk_i x4] 0) 1 = some (wk_i x0) := rfl
  have q2 : ae_lk (ae_args [wk_r 114, wk_i x0, wk_i x1, wk_i x2, wk_i x3, wk_i x4] 0) 2 = some (wk_i x1) := rfl
  have q3 : ae_lk (ae_args [wk_r 114, wk_i x0, wk_i x1, wk_i x2, wk_i x3, wk_i x4] 0) 3 = some (wk_i x2) := rfl
  have q4 : ae_lk (ae_args [wk_r 114, wk_i x0, wk_i x1, wk_i x2, wk_i x3, wk_i x4] 0) 4 = some (wk_i x3) := rfl
  have q5 : ae_lk (ae_args [wk_r 114, wk_i x0, wk_i x1, wk_i x2, wk_i x3, wk_i x4] 0) 5 = some (wk_i x4) := rfl
  obtain ⟨n_1, e_2, hr_3⟩ := iv_aload_n xm_184 xd_184_0 q0 hr
  obtain ⟨n_4, e_5, hr_6⟩ := iv_iconst xm_184 xd_184_1 (by decide) hr_3
  obtain ⟨h_7, ok_8, em_9, n_11, e_12, hr_13⟩ := iv_puti (j := 0) (fk := 0) xm_184 xd_184_2 (by decide +kernel) ok (rfl : sv_ty 114 = some 12) dt_12 rfl (by decide +kernel) rfl (by unfold sv_I; omega) hr_6
  obtain ⟨n_14, e_15, hr_16⟩ := iv_aload_n xm_184 xd_184_5 q0 hr_13
  have f_17 := dc_fi (j := 2) ok_8 (rfl : sv_ty 114 = some 12) dt_12 rfl
  obtain ⟨n_18, e_19, hr_20⟩ := iv_getf (j := 2) xm_184 xd_184_6 (by decide +kernel) ok_8 (rfl : sv_ty 114 = some 12) dt_12 f_17.1 hr_16
  obtain ⟨n_21, e_22, hr_23⟩ := iv_bipush xm_184 xd_184_9 (by decide) hr_20
  obtain ⟨n_24, e_25, hr_26⟩ := iw_iadd xm_184 xd_184_11 hr_23
  obtain ⟨n_27, e_28, hr_29⟩ := iv_sipush xm_184 xd_184_12 (by decide) hr_26
  rcases iv_icmp 20 xm_184 xd_184_15 (by decide) (dc_w_I _) (by unfold sv_I; omega) hr_29 with ⟨c_30, n_31, e_32, hr_33⟩ | ⟨c_30, n_31, e_32, hr_33⟩
  · obtain ⟨n_34, e_35, hr_36⟩ := iv_aload_n xm_184 xd_184_20 q0 hr_33
    obtain ⟨n_37, e_38, hr_39⟩ := iv_iload_n xm_184 xd_184_21 q1 hr_36
    obtain ⟨n_49, r_40, e_50, hc_41, hr_51⟩ := iv_call (Or.inr ⟨rfl, rfl⟩) xm_184 xd_184_22 (by decide +kernel) xm_185 rfl (by decide +kernel) hr_39
    obtain ⟨v_42, d_43, er_44, iv_45, ok_46⟩ := ds_185 _ _ ok_8 ix0 hc_41
    obtain ⟨_, h_48⟩ := r_40
    have er_44 : _ = none := er_44
    subst er_44
    have hr_52 : ae_exe n_49 184 (22 + 3) 0 0 (ae_args [wk_r 114, wk_i x0, wk_i x1, wk_i x2, wk_i x3, wk_i x4] 0) _ h_48 = some r := hr_51
    obtain ⟨n_53, e_54, hr_55⟩ := iv_aload_n xm_184 xd_184_25 q0 hr_52
    obtain ⟨n_56, e_57, hr_58⟩ := iv_iload_n xm_184 xd_184_26 q2 hr_55
    obtain ⟨n_68, r_59, e_69, hc_60, hr_70⟩ := iv_call (Or.inr ⟨rfl, rfl⟩) xm_184 xd_184_27 (by decide +kernel) xm_185 rfl (by decide +kernel) hr_58
    obtain ⟨v_61, d_62, er_63, iv_64, ok_65⟩ := ds_185 _ _ ok_46 ix1 hc_60
    obtain ⟨_, h_67⟩ := r_59
    have er_63 : _ = none := er_63
    subst er_63
    have hr_71 : ae_exe n_68 184 (27 + 3) 0 0 (ae_args [wk_r 114, wk_i x0, wk_i x1, wk_i x2, wk_i x3, wk_i x4] 0) _ h_67 = some r := hr_70
    obtain ⟨n_72, e_73, hr_74⟩ := iv_aload_n xm_184 xd_184_30 q0 hr_71
    obtain ⟨n_75, e_76, hr_77⟩ := iv_iload_n xm_184 xd_184_31 q3 hr_74
    obtain ⟨n_87, r_78, e_88, hc_79, hr_89⟩ := iv_call (Or.inr ⟨rfl, rfl⟩) xm_184 xd_184_32 (by decide +kernel) xm_185 rfl (by decide +kernel) hr_77
    obtain ⟨v_80, d_81, er_82, iv_83, ok_84⟩ := ds_185 _ _ ok_65 ix2 hc_79
    obtain ⟨_, h_86⟩ := r_78
    have er_82 : _ = none := er_82
    subst er_82
    have hr_90 : ae_exe n_87 184 (32 + 3) 0 0 (ae_args [wk_r 114, wk_i x0, wk_i x1, wk_i x2, wk_i x3, wk_i x4] 0) _ h_86 = some r := hr_89
    obtain ⟨n_91, e_92, hr_93⟩ := iv_aload_n xm_184 xd_184_35 q0 hr_90
    obtain ⟨n_94, e_95, hr_96⟩ := iv_iload xm_184 xd_184_36 q4 hr_93
    obtain ⟨n_106, r_97, e_107, hc_98, hr_108⟩ := iv_call (Or.inr ⟨rfl, rfl⟩) xm_184 xd_184_38 (by decide +kernel) xm_185 rfl (by decide +kernel) hr_96
    obtain ⟨v_99, d_100, er_101, iv_102, ok_103⟩ := ds_185 _ _ ok_84 ix3 hc_98
    obtain ⟨_, h_105⟩ := r_97
    have er_101 : _ = none := er_101
    subst er_101
    have hr_109 : ae_exe n_106 184 (38 + 3) 0 0 (ae_args [wk_r 114, wk_i x0, wk_i x1, wk_i x2, wk_i x3, wk_i x4] 0) _ h_105 = some r := hr_108
    obtain ⟨n_110, e_111, hr_112⟩ := iv_aload_n xm_184 xd_184_41 q0 hr_109
    obtain ⟨n_113, e_114, hr_115⟩ := iv_iload xm_184 xd_184_42 q5 hr_112
    obtain ⟨n_125, r_116, e_126, hc_117, hr_127⟩ := iv_call (Or.inr ⟨rfl, rfl⟩) xm_184 xd_184_44 (by decide +kernel) xm_185 rfl (by decide +kernel) hr_115
    obtain ⟨v_118, d_119, er_120, iv_121, ok_122⟩ := ds_185 _ _ ok_103 ix4 hc_117
    obtain ⟨_, h_124⟩ := r_116
    have er_120 : _ = none := er_120
    subst er_120
    have hr_128 : ae_exe n_125 184 (44 + 3) 0 0 (ae_args [wk_r 114, wk_i x0, wk_i x1, wk_i x2, wk_i x3, wk_i x4] 0) _ h_124 = some r := hr_127
    obtain ⟨n_129, e_130, hr_131⟩ := iv_aload_n xm_184 xd_184_47 q0 hr_128
    have f_132 := dc_fi (j := 2) ok_122 (rfl : sv_ty 114 = some 12) dt_12 rfl
    obtain ⟨n_133, e_134, hr_135⟩ := iv_getf (j := 2) xm_184 xd_184_48 (by decide +kernel) ok_122 (rfl : sv_ty 114 = some 12) dt_12 f_132.1 hr_131
    have rr_136 := iv_ireturn xm_184 xd_184_51 hr_135
    subst rr_136
    exact ⟨_, ⟨_, em_9, Or.inl ⟨c_30, ⟨_, _, d_43, ⟨_, _, d_62, ⟨_, _, d_81, ⟨_, _, d_100, ⟨_, _, d_119, ⟨rfl, rfl⟩⟩⟩⟩⟩⟩⟩⟩, rfl, f_132.2, ok_122⟩
  · obtain ⟨n_137, e_138, hr_139⟩ := iv_iconst xm_184 xd_184_18 (by decide) hr_33
    have rr_140 := iv_ireturn xm_184 xd_184_19 hr_139
    subst rr_140
    exact ⟨_, ⟨_, em_9, Or.inr ⟨c_30, ⟨rfl, rfl⟩⟩⟩, rfl, (by unfold sv_I; omega), ok_8⟩
/-! method 187 -/
theorem xm_187 : ae_m 187 = some (wk_M 187) := rfl
theorem xd_187_0 : decode (wk_M 187).2.2.1 0 = .ok (.aload_n 0, 1) := zd_by (by decide +kernel)
theorem xd_187_1 : decode (wk_M 187).2.2.1 1 = .ok (.aload_n 0, 1) := zd_by (by decide +kernel)
theorem xd_187_2 : decode (wk_M 187).2.2.1 2 = .ok (.getfield 194, 3) := zd_by (by decide +kernel)
theorem xd_187_5 : decode (wk_M 187).2.2.1 5 = .ok (.putfield 201, 3) := zd_by (by decide +kernel)
theorem xd_187_8 : decode (wk_M 187).2.2.1 8 = .ok (.aload_n 0, 1) := zd_by (by decide +kernel)
theorem xd_187_9 : decode (wk_M 187).2.2.1 9 = .ok (.iconst 0, 1) := zd_by (by decide +kernel)
theorem xd_187_10 : decode (wk_M 187).2.2.1 10 = .ok (.putfield 194, 3) := zd_by (by decide +kernel)
theorem xd_187_13 : decode (wk_M 187).2.2.1 13 = .ok (.aload_n 0, 1) := zd_by (by decide +kernel)
theorem xd_187_14 : decode (wk_M 187).2.2.1 14 = .ok (.iconst 0, 1) := zd_by (by decide +kernel)
theorem xd_187_15 : decode (wk_M 187).2.2.1 15 = .ok (.putfield 204, 3) := zd_by (by decide +kernel)
theorem xd_187_18 : decode (wk_M 187).2.2.1 18 = .ok (.return_, 1) := zd_by (by decide +kernel)
abbrev D_187  (m : dc_M) (v : Int) (m' : dc_M) : Prop := ∃ m_14, m_14 = dc_up m 114 3 (m 114 2) ∧ (∃ m_27, m_27 = dc_up m_14 114 2 0 ∧ (∃ m_40, m_40 = dc_up m_27 114 4 0 ∧ (v = 0 ∧ m' = m_40)))
theorem ds_187 (n : Nat)  {h : ae_H} {r : ae_R} (ok : dc_ok h)  (hr : ae_exe n 187 0 0 0 (ae_args [wk_r 114] 0) [] h = some r) : ∃ v, D_187  (dc_m h) v (dc_m r.2) ∧ r.1 = none ∧ sv_I v ∧ dc_ok r.2 := by
  have q0 : ae_lk (ae_args [wk_r 114] 0) 0 = some (wk_r 114) := rfl
  obtain ⟨n_1, e_2, hr_3⟩ := iv_aload_n xm_187 xd_187_0 q0 hr
  obtain ⟨n_4, e_5, hr_6⟩ := iv_aload_n xm_187 xd_187_1 q0 hr_3
  have f_7 := dc_fi (j := 2) ok (rfl : sv_ty 114 = some 12) dt_12 rfl
  obtain ⟨n_8, e_9, hr_10⟩ := iv_getf (j := 2) xm_187 xd_187_2 (by decide +kernel) ok (rfl : sv_ty 114 = some 12) dt_12 f_7.1 hr_6
  obtain ⟨h_11, ok_12, em_13, n_15, e_16, hr_17⟩ := iv_puti (j := 3) (fk := 0) xm_187 xd_187_5 (by decide +kernel) ok (rfl : sv_ty 114 = some 12) dt_12 rfl (by decide +kernel) rfl f_7.2 hr_10
  obtain ⟨n_18, e_19, hr_20⟩ := iv_aload_n xm_187 xd_187_8 q0 hr_17
  obtain ⟨n_21, e_22, hr_23⟩ := iv_iconst xm_187 xd_187_9 (by decide) hr_20
  obtain ⟨h_24, ok_25, em_26, n_28, e_29, hr_30⟩ := iv_puti (j := 2) (fk := 0) xm_187 xd_187_10 (by decide +kernel) ok_12 (rfl : sv_ty 114 = some 12) dt_12 rfl (by decide +kernel) rfl (by unfold sv_I; omega) hr_23
  obtain ⟨n_31, e_32, hr_33⟩ := iv_aload_n xm_187 xd_187_13 q0 hr_30
  obtain ⟨n_34, e_35, hr_36⟩ := iv_iconst xm_187 xd_187_14 (by decide) hr_33
  obtain ⟨h_37, ok_38, em_39, n_41, e_42, hr_43⟩ := iv_puti (j := 4) (fk := 0) xm_187 xd_187_15 (by decide +kernel) ok_25 (rfl : sv_ty 114 = some 12) dt_12 rfl (by decide +kernel) rfl (by unfold sv_I; omega) hr_36
  have rr_44 := iv_return xm_187 xd_187_18 hr_43 rfl
  subst rr_44
  exact ⟨_, ⟨_, em_13, ⟨_, em_26, ⟨_, em_39, ⟨rfl, rfl⟩⟩⟩⟩, rfl, (by unfold sv_I; omega), ok_38⟩
/-! method 195 -/
theorem xm_195 : ae_m 195 = some (wk_M 195) := rfl
theorem xd_195_0 : decode (wk_M 195).2.2.1 0 = .ok (.aload_n 0, 1) := zd_by (by decide +kernel)
theorem xd_195_1 : decode (wk_M 195).2.2.1 1 = .ok (.getfield 204, 3) := zd_by (by decide +kernel)
theorem xd_195_4 : decode (wk_M 195).2.2.1 4 = .ok (.aload_n 0, 1) := zd_by (by decide +kernel)
theorem xd_195_5 : decode (wk_M 195).2.2.1 5 = .ok (.getfield 201, 3) := zd_by (by decide +kernel)
theorem xd_195_8 : decode (wk_M 195).2.2.1 8 = .ok (.if_icmp .ge 19, 3) := zd_by (by decide +kernel)
theorem xd_195_11 : decode (wk_M 195).2.2.1 11 = .ok (.aload_n 0, 1) := zd_by (by decide +kernel)
theorem xd_195_12 : decode (wk_M 195).2.2.1 12 = .ok (.getfield 7, 3) := zd_by (by decide +kernel)
theorem xd_195_15 : decode (wk_M 195).2.2.1 15 = .ok (.aload_n 0, 1) := zd_by (by decide +kernel)
theorem xd_195_16 : decode (wk_M 195).2.2.1 16 = .ok (.getfield 204, 3) := zd_by (by decide +kernel)
theorem xd_195_19 : decode (wk_M 195).2.2.1 19 = .ok (.baload, 1) := zd_by (by decide +kernel)
theorem xd_195_20 : decode (wk_M 195).2.2.1 20 = .ok (.sipush 255, 3) := zd_by (by decide +kernel)
theorem xd_195_23 : decode (wk_M 195).2.2.1 23 = .ok (.iand, 1) := zd_by (by decide +kernel)
theorem xd_195_24 : decode (wk_M 195).2.2.1 24 = .ok (.goto 4, 3) := zd_by (by decide +kernel)
theorem xd_195_27 : decode (wk_M 195).2.2.1 27 = .ok (.iconst (-1), 1) := zd_by (by decide +kernel)
theorem xd_195_28 : decode (wk_M 195).2.2.1 28 = .ok (.ireturn, 1) := zd_by (by decide +kernel)
abbrev D_195  (m : dc_M) (v : Int) (m' : dc_M) : Prop := ((((m 114 4) : Int) ≥ (m 114 3) ∧ (v = (-1) ∧ m' = m)) ∨ (¬ (((m 114 4) : Int) ≥ (m 114 3)) ∧ ((0 ≤ ((m 114 4) : Int) ∧ ((m 114 4) : Int) < 740) ∧ (v = (sv_g (sv_u (m 115 (m 114 4)) &&& sv_u 255)) ∧ m' = m))))
theorem ds_195 (n : Nat)  {h : ae_H} {r : ae_R} (ok : dc_ok h)  (hr : ae_exe n 195 0 0 0 (ae_args [wk_r 114] 0) [] h = some r) : ∃ v, D_195  (dc_m h) v (dc_m r.2) ∧ r.1 = some (wk_i v) ∧ sv_I v ∧ dc_ok r.2 := by
  have q0 : ae_lk (ae_args [wk_r 114] 0) 0 = some (wk_r 114) := rfl
  obtain ⟨n_1, e_2, hr_3⟩ := iv_aload_n xm_195 xd_195_0 q0 hr
  have f_4 := dc_fi (j := 4) ok (rfl : sv_ty 114 = some 12) dt_12 rfl
  obtain ⟨n_5, e_6, hr_7⟩ := iv_getf (j := 4) xm_195 xd_195_1 (by decide +kernel) ok (rfl : sv_ty 114 = some 12) dt_12 f_4.1 hr_3
  obtain ⟨n_8, e_9, hr_10⟩ := iv_aload_n xm_195 xd_195_4 q0 hr_7
  have f_11 := dc_fi (j := 3) ok (rfl : sv_ty 114 = some 12) dt_12 rfl
  obtain ⟨n_12, e_13, hr_14⟩ := iv_getf (j := 3) xm_195 xd_195_5 (by decide +kernel) ok (rfl : sv_ty 114 = some 12) dt_12 f_11.1 hr_10
  rcases iv_icmp 27 xm_195 xd_195_8 (by decide) f_4.2 f_11.2 hr_14 with ⟨c_15, n_16, e_17, hr_18⟩ | ⟨c_15, n_16, e_17, hr_18⟩
  · obtain ⟨n_19, e_20, hr_21⟩ := iv_iconst xm_195 xd_195_27 (by decide) hr_18
    have rr_22 := iv_ireturn xm_195 xd_195_28 hr_21
    subst rr_22
    exact ⟨_, Or.inl ⟨c_15, ⟨rfl, rfl⟩⟩, rfl, (by unfold sv_I; omega), ok⟩
  · obtain ⟨n_23, e_24, hr_25⟩ := iv_aload_n xm_195 xd_195_11 q0 hr_18
    have f_26 := dc_fr (j := 1) ok (rfl : sv_ty 114 = some 12) dt_12 rfl
    obtain ⟨n_27, e_28, hr_29⟩ := iv_getf (j := 1) xm_195 xd_195_12 (by decide +kernel) ok (rfl : sv_ty 114 = some 12) dt_12 f_26 hr_25
    obtain ⟨n_30, e_31, hr_32⟩ := iv_aload_n xm_195 xd_195_15 q0 hr_29
    have f_33 := dc_fi (j := 4) ok (rfl : sv_ty 114 = some 12) dt_12 rfl
    obtain ⟨n_34, e_35, hr_36⟩ := iv_getf (j := 4) xm_195 xd_195_16 (by decide +kernel) ok (rfl : sv_ty 114 = some 12) dt_12 f_33.1 hr_32
    obtain ⟨q_37, qi_38, n_39, e_40, hr_41⟩ := iv_bald xm_195 xd_195_19 ok (rfl : sv_ty 115 = some 60) dt_60 (Or.inl rfl) (by decide) f_33.2 hr_36
    obtain ⟨n_42, e_43, hr_44⟩ := iv_sipush xm_195 xd_195_20 (by decide) hr_41
    obtain ⟨n_45, e_46, hr_47⟩ := iv_iand xm_195 xd_195_23 hr_44
    obtain ⟨n_48, e_49, hr_50⟩ := iv_goto 28 xm_195 xd_195_24 (by decide) hr_47
    have rr_51 := iv_ireturn xm_195 xd_195_28 hr_50
    subst rr_51
    exact ⟨_, Or.inr ⟨c_15, ⟨q_37, ⟨rfl, rfl⟩⟩⟩, rfl, (sv_g_I (Nat.lt_of_le_of_lt Nat.and_le_right (sv_u_lt _))), ok⟩
/-! method 196 -/
theorem xm_196 : ae_m 196 = some (wk_M 196) := rfl
theorem xd_196_0 : decode (wk_M 196).2.2.1 0 = .ok (.iload_n 0, 1) := zd_by (by decide +kernel)
theorem xd_196_1 : decode (wk_M 196).2.2.1 1 = .ok (.bipush 97, 2) := zd_by (by decide +kernel)
theorem xd_196_3 : decode (wk_M 196).2.2.1 3 = .ok (.if_icmp .lt 13, 3) := zd_by (by decide +kernel)
theorem xd_196_6 : decode (wk_M 196).2.2.1 6 = .ok (.iload_n 0, 1) := zd_by (by decide +kernel)
theorem xd_196_7 : decode (wk_M 196).2.2.1 7 = .ok (.bipush 122, 2) := zd_by (by decide +kernel)
theorem xd_196_9 : decode (wk_M 196).2.2.1 9 = .ok (.if_icmp .gt 7, 3) := zd_by (by decide +kernel)
theorem xd_196_12 : decode (wk_M 196).2.2.1 12 = .ok (.iconst 1, 1) := zd_by (by decide +kernel)
theorem xd_196_13 : decode (wk_M 196).2.2.1 13 = .ok (.goto 4, 3) := zd_by (by decide +kernel)
theorem xd_196_16 : decode (wk_M 196).2.2.1 16 = .ok (.iconst 0, 1) := zd_by (by decide +kernel)
theorem xd_196_17 : decode (wk_M 196).2.2.1 17 = .ok (.ireturn, 1) := zd_by (by decide +kernel)
abbrev D_196 (x0 : Int) (m : dc_M) (v : Int) (m' : dc_M) : Prop := (((x0 : Int) < 97 ∧ (v = 0 ∧ m' = m)) ∨ (¬ ((x0 : Int) < 97) ∧ ((((x0 : Int) > 122 ∧ (v = 0 ∧ m' = m)) ∨ (¬ ((x0 : Int) > 122) ∧ (v = 1 ∧ m' = m))))))
theorem ds_196 (n : Nat) (x0 : Int) {h : ae_H} {r : ae_R} (ok : dc_ok h) (ix0 : sv_I x0) (hr : ae_exe n 196 0 0 0 (ae_args [wk_i x0] 0) [] h = some r) : ∃ v, D_196 x0 (dc_m h) v (dc_m r.2) ∧ r.1 = some (wk_i v) ∧ sv_I v ∧ dc_ok r.2 := by
  have q0 : ae_lk (ae_args [wk_i x0] 0) 0 = some (wk_i x0) := rfl
  obtain ⟨n_1, e_2, hr_3⟩ := iv_iload_n xm_196 xd_196_0 q0 hr
  obtain ⟨n_4, e_5, hr_6⟩ := iv_bipush xm_196 xd_196_1 (by decide) hr_3
  rcases iv_icmp 16 xm_196 xd_196_3 (by decide) ix0 (by unfold sv_I; omega) hr_6 with ⟨c_7, n_8, e_9, hr_10⟩ | ⟨c_7, n_8, e_9, hr_10⟩
  · obtain ⟨n_11, e_12, hr_13⟩ := iv_iconst xm_196 xd_196_16 (by decide) hr_10
    have rr_14 := iv_ireturn xm_196 xd_196_17 hr_13
    subst rr_14
    exact ⟨_, Or.inl ⟨c_7, ⟨rfl, rfl⟩⟩, rfl, (by unfold sv_I; omega), ok⟩
  · obtain ⟨n_15, e_16, hr_17⟩ := iv_iload_n xm_196 xd_196_6 q0 hr_10
    obtain ⟨n_18, e_19, hr_20⟩ := iv_bipush xm_196 xd_196_7 (by decide) hr_17
    rcases iv_icmp 16 xm_196 xd_196_9 (by decide) ix0 (by unfold sv_I; omega) hr_20 with ⟨c_21, n_22, e_23, hr_24⟩ | ⟨c_21, n_22, e_23, hr_24⟩
    · obtain ⟨n_25, e_26, hr_27⟩ := iv_iconst xm_196 xd_196_16 (by decide) hr_24
      have rr_28 := iv_ireturn xm_196 xd_196_17 hr_27
      subst rr_28
      exact ⟨_, Or.inr ⟨c_7, Or.inl ⟨c_21, ⟨rfl, rfl⟩⟩⟩, rfl, (by unfold sv_I; omega), ok⟩
    · obtain ⟨n_29, e_30, hr_31⟩ := iv_iconst xm_196 xd_196_12 (by decide) hr_24
      obtain ⟨n_32, e_33, hr_34⟩ := iv_goto 17 xm_196 xd_196_13 (by decide) hr_31
      have rr_35 := iv_ireturn xm_196 xd_196_17 hr_34
      subst rr_35
      exact ⟨_, Or.inr ⟨c_7, Or.inr ⟨c_21, ⟨rfl, rfl⟩⟩⟩, rfl, (by unfold sv_I; omega), ok⟩
/-! method 197 -/
theorem xm_197 : ae_m 197 = some (wk_M 197) := rfl
theorem xd_197_0 : decode (wk_M 197).2.2.1 0 = .ok (.iload_n 0, 1) := zd_by (by decide +kernel)
theorem xd_197_1 : decode (wk_M 197).2.2.1 1 = .ok (.bipush 48, 2) := zd_by (by decide +kernel)
theorem xd_197_3 : decode (wk_M 197).2.2.1 3 = .ok (.if_icmp .lt 13, 3) := zd_by (by decide +kernel)
theorem xd_197_6 : decode (wk_M 197).2.2.1 6 = .ok (.iload_n 0, 1) := zd_by (by decide +kernel)
theorem xd_197_7 : decode (wk_M 197).2.2.1 7 = .ok (.bipush 57, 2) := zd_by (by decide +kernel)
theorem xd_197_9 : decode (wk_M 197).2.2.1 9 = .ok (.if_icmp .gt 7, 3) := zd_by (by decide +kernel)
theorem xd_197_12 : decode (wk_M 197).2.2.1 12 = .ok (.iconst 1, 1) := zd_by (by decide +kernel)
theorem xd_197_13 : decode (wk_M 197).2.2.1 13 = .ok (.goto 4, 3) := zd_by (by decide +kernel)
theorem xd_197_16 : decode (wk_M 197).2.2.1 16 = .ok (.iconst 0, 1) := zd_by (by decide +kernel)
theorem xd_197_17 : decode (wk_M 197).2.2.1 17 = .ok (.ireturn, 1) := zd_by (by decide +kernel)
abbrev D_197 (x0 : Int) (m : dc_M) (v : Int) (m' : dc_M) : Prop := (((x0 : Int) < 48 ∧ (v = 0 ∧ m' = m)) ∨ (¬ ((x0 : Int) < 48) ∧ ((((x0 : Int) > 57 ∧ (v = 0 ∧ m' = m)) ∨ (¬ ((x0 : Int) > 57) ∧ (v = 1 ∧ m' = m))))))
theorem ds_197 (n : Nat) (x0 : Int) {h : ae_H} {r : ae_R} (ok : dc_ok h) (ix0 : sv_I x0) (hr : ae_exe n 197 0 0 0 (ae_args [wk_i x0] 0) [] h = some r) : ∃ v, D_197 x0 (dc_m h) v (dc_m r.2) ∧ r.1 = some (wk_i v) ∧ sv_I v ∧ dc_ok r.2 := by
  have q0 : ae_lk (ae_args [wk_i x0] 0) 0 = some (wk_i x0) := rfl
  obtain ⟨n_1, e_2, hr_3⟩ := iv_iload_n xm_197 xd_197_0 q0 hr
  obtain ⟨n_4, e_5, hr_6⟩ := iv_bipush xm_197 xd_197_1 (by decide) hr_3
  rcases iv_icmp 16 xm_197 xd_197_3 (by decide) ix0 (by unfold sv_I; omega) hr_6 with ⟨c_7, n_8, e_9, hr_10⟩ | ⟨c_7, n_8, e_9, hr_10⟩
  · obtain ⟨n_11, e_12, hr_13⟩ := iv_iconst xm_197 xd_197_16 (by decide) hr_10
    have rr_14 := iv_ireturn xm_197 xd_197_17 hr_13
    subst rr_14
    exact ⟨_, Or.inl ⟨c_7, ⟨rfl, rfl⟩⟩, rfl, (by unfold sv_I; omega), ok⟩
  · obtain ⟨n_15, e_16, hr_17⟩ := iv_iload_n xm_197 xd_197_6 q0 hr_10
    obtain ⟨n_18, e_19, hr_20⟩ := iv_bipush xm_197 xd_197_7 (by decide) hr_17
    rcases iv_icmp 16 xm_197 xd_197_9 (by decide) ix0 (by unfold sv_I; omega) hr_20 with ⟨c_21, n_22, e_23, hr_24⟩ | ⟨c_21, n_22, e_23, hr_24⟩
    · obtain ⟨n_25, e_26, hr_27⟩ := iv_iconst xm_197 xd_197_16 (by decide) hr_24
      have rr_28 := iv_ireturn xm_197 xd_197_17 hr_27
      subst rr_28
      exact ⟨_, Or.inr ⟨c_7, Or.inl ⟨c_21, ⟨rfl, rfl⟩⟩⟩, rfl, (by unfold sv_I; omega), ok⟩
    · obtain ⟨n_29, e_30, hr_31⟩ := iv_iconst xm_197 xd_197_12 (by decide) hr_24
      obtain ⟨n_32, e_33, hr_34⟩ := iv_goto 17 xm_197 xd_197_13 (by decide) hr_31
      have rr_35 := iv_ireturn xm_197 xd_197_17 hr_34
      subst rr_35
      exact ⟨_, Or.inr ⟨c_7, Or.inr ⟨c_21, ⟨rfl, rfl⟩⟩⟩, rfl, (by unfold sv_I; omega), ok⟩
/-! method 198 -/
theorem xm_198 : ae_m 198 = some (wk_M 198) := rfl
theorem xd_198_0 : decode (wk_M 198).2.2.1 0 = .ok (.aload_n 0, 1) := zd_by (by decide +kernel)
theorem xd_198_1 : decode (wk_M 198).2.2.1 1 = .ok (.invokevirtual 226, 3) := zd_by (by decide +kernel)
theorem xd_198_4 : decode (wk_M 198).2.2.1 4 = .ok (.bipush 32, 2) := zd_by (by decide +kernel)
theorem xd_198_6 : decode (wk_M 198).2.2.1 6 = .ok (.if_icmp .eq 12, 3) := zd_by (by decide +kernel)
theorem xd_198_9 : decode (wk_M 198).2.2.1 9 = .ok (.aload_n 0, 1) := zd_by (by decide +kernel)
theorem xd_198_10 : decode (wk_M 198).2.2.1 10 = .ok (.invokevirtual 226, 3) := zd_by (by decide +kernel)
theorem xd_198_13 : decode (wk_M 198).2.2.1 13 = .ok (.bipush 10, 2) := zd_by (by decide +kernel)
theorem xd_198_15 : decode (wk_M 198).2.2.1 15 = .ok (.if_icmp .ne 16, 3) := zd_by (by decide +kernel)
theorem xd_198_18 : decode (wk_M 198).2.2.1 18 = .ok (.aload_n 0, 1) := zd_by (by decide +kernel)
theorem xd_198_19 : decode (wk_M 198).2.2.1 19 = .ok (.dup, 1) := zd_by (by decide +kernel)
theorem xd_198_20 : decode (wk_M 198).2.2.1 20 = .ok (.getfield 204, 3) := zd_by (by decide +kernel)
theorem xd_198_23 : decode (wk_M 198).2.2.1 23 = .ok (.iconst 1, 1) := zd_by (by decide +kernel)
theorem xd_198_24 : decode (wk_M 198).2.2.1 24 = .ok (.iadd, 1) := zd_by (by decide +kernel)
theorem xd_198_25 : decode (wk_M 198).2.2.1 25 = .ok (.putfield 204, 3) := zd_by (by decide +kernel)
theorem xd_198_28 : decode (wk_M 198).2.2.1 28 = .ok (.goto (-28), 3) := zd_by (by decide +kernel)
theorem xd_198_31 : decode (wk_M 198).2.2.1 31 = .ok (.aload_n 0, 1) := zd_by (by decide +kernel)
theorem xd_198_32 : decode (wk_M 198).2.2.1 32 = .ok (.aload_n 0, 1) := zd_by (by decide +kernel)
theorem xd_198_33 : decode (wk_M 198).2.2.1 33 = .ok (.getfield 204, 3) := zd_by (by decide +kernel)
theorem xd_198_36 : decode (wk_M 198).2.2.1 36 = .ok (.putfield 230, 3) := zd_by (by decide +kernel)
theorem xd_198_39 : decode (wk_M 198).2.2.1 39 = .ok (.aload_n 0, 1) := zd_by (by decide +kernel)
theorem xd_198_40 : decode (wk_M 198).2.2.1 40 = .ok (.getfield 201, 3) := zd_by (by decide +kernel)
theorem xd_198_43 : decode (wk_M 198).2.2.1 43 = .ok (.aload_n 0, 1) := zd_by (by decide +kernel)
theorem xd_198_44 : decode (wk_M 198).2.2.1 44 = .ok (.getfield 233, 3) := zd_by (by decide +kernel)
theorem xd_198_47 : decode (wk_M 198).2.2.1 47 = .ok (.if_icmp .le 28, 3) := zd_by (by decide +kernel)
theorem xd_198_50 : decode (wk_M 198).2.2.1 50 = .ok (.aload_n 0, 1) := zd_by (by decide +kernel)
theorem xd_198_51 : decode (wk_M 198).2.2.1 51 = .ok (.getfield 204, 3) := zd_by (by decide +kernel)
theorem xd_198_54 : decode (wk_M 198).2.2.1 54 = .ok (.aload_n 0, 1) := zd_by (by decide +kernel)
theorem xd_198_55 : decode (wk_M 198).2.2.1 55 = .ok (.getfield 233, 3) := zd_by (by decide +kernel)
theorem xd_198_58 : decode (wk_M 198).2.2.1 58 = .ok (.if_icmp .lt 17, 3) := zd_by (by decide +kernel)
theorem xd_198_61 : decode (wk_M 198).2.2.1 61 = .ok (.aload_n 0, 1) := zd_by (by decide +kernel)
theorem xd_198_62 : decode (wk_M 198).2.2.1 62 = .ok (.aload_n 0, 1) := zd_by (by decide +kernel)
theorem xd_198_63 : decode (wk_M 198).2.2.1 63 = .ok (.getfield 233, 3) := zd_by (by decide +kernel)
theorem xd_198_66 : decode (wk_M 198).2.2.1 66 = .ok (.putfield 230, 3) := zd_by (by decide +kernel)
theorem xd_198_69 : decode (wk_M 198).2.2.1 69 = .ok (.aload_n 0, 1) := zd_by (by decide +kernel)
theorem xd_198_70 : decode (wk_M 198).2.2.1 70 = .ok (.iconst 4, 1) := zd_by (by decide +kernel)
theorem xd_198_71 : decode (wk_M 198).2.2.1 71 = .ok (.putfield 236, 3) := zd_by (by decide +kernel)
theorem xd_198_74 : decode (wk_M 198).2.2.1 74 = .ok (.return_, 1) := zd_by (by decide +kernel)
theorem xd_198_75 : decode (wk_M 198).2.2.1 75 = .ok (.aload_n 0, 1) := zd_by (by decide +kernel)
theorem xd_198_76 : decode (wk_M 198).2.2.1 76 = .ok (.invokevirtual 226, 3) := zd_by (by decide +kernel)
theorem xd_198_79 : decode (wk_M 198).2.2.1 79 = .ok (.istore_n 1, 1) := zd_by (by decide +kernel)
theorem xd_198_80 : decode (wk_M 198).2.2.1 80 = .ok (.aload_n 0, 1) := zd_by (by decide +kernel)
theorem xd_198_81 : decode (wk_M 198).2.2.1 81 = .ok (.lconst 0, 1) := zd_by (by decide +kernel)
theorem xd_198_82 : decode (wk_M 198).2.2.1 82 = .ok (.putfield 239, 3) := zd_by (by decide +kernel)
theorem xd_198_85 : decode (wk_M 198).2.2.1 85 = .ok (.aload_n 0, 1) := zd_by (by decide +kernel)
theorem xd_198_86 : decode (wk_M 198).2.2.1 86 = .ok (.iconst 0, 1) := zd_by (by decide +kernel)
theorem xd_198_87 : decode (wk_M 198).2.2.1 87 = .ok (.putfield 243, 3) := zd_by (by decide +kernel)
theorem xd_198_90 : decode (wk_M 198).2.2.1 90 = .ok (.iconst 0, 1) := zd_by (by decide +kernel)
theorem xd_198_91 : decode (wk_M 198).2.2.1 91 = .ok (.istore_n 2, 1) := zd_by (by decide +kernel)
theorem xd_198_92 : decode (wk_M 198).2.2.1 92 = .ok (.iload_n 1, 1) := zd_by (by decide +kernel)
theorem xd_198_93 : decode (wk_M 198).2.2.1 93 = .ok (.ifCond .ge 11, 3) := zd_by (by decide +kernel)
theorem xd_198_96 : decode (wk_M 198).2.2.1 96 = .ok (.aload_n 0, 1) := zd_by (by decide +kernel)
theorem xd_198_97 : decode (wk_M 198).2.2.1 97 = .ok (.iconst 0, 1) := zd_by (by decide +kernel)
theorem xd_198_98 : decode (wk_M 198).2.2.1 98 = .ok (.putfield 236, 3) := zd_by (by decide +kernel)
theorem xd_198_101 : decode (wk_M 198).2.2.1 101 = .ok (.goto 205, 3) := zd_by (by decide +kernel)
theorem xd_198_104 : decode (wk_M 198).2.2.1 104 = .ok (.iload_n 1, 1) := zd_by (by decide +kernel)
theorem xd_198_105 : decode (wk_M 198).2.2.1 105 = .ok (.invokestatic 246, 3) := zd_by (by decide +kernel)
theorem xd_198_108 : decode (wk_M 198).2.2.1 108 = .ok (.ifCond .eq 75, 3) := zd_by (by decide +kernel)
theorem xd_198_111 : decode (wk_M 198).2.2.1 111 = .ok (.aload_n 0, 1) := zd_by (by decide +kernel)
theorem xd_198_112 : decode (wk_M 198).2.2.1 112 = .ok (.invokevirtual 226, 3) := zd_by (by decide +kernel)
theorem xd_198_115 : decode (wk_M 198).2.2.1 115 = .ok (.invokestatic 246, 3) := zd_by (by decide +kernel)
theorem xd_198_118 : decode (wk_M 198).2.2.1 118 = .ok (.ifCond .eq 48, 3) := zd_by (by decide +kernel)
theorem xd_198_121 : decode (wk_M 198).2.2.1 121 = .ok (.aload_n 0, 1) := zd_by (by decide +kernel)
theorem xd_198_122 : decode (wk_M 198).2.2.1 122 = .ok (.iload_n 2, 1) := zd_by (by decide +kernel)
theorem xd_198_123 : decode (wk_M 198).2.2.1 123 = .ok (.iconst 5, 1) := zd_by (by decide +kernel)
theorem xd_198_124 : decode (wk_M 198).2.2.1 124 = .ok (.if_icmp .ge 19, 3) := zd_by (by decide +kernel)
theorem xd_198_127 : decode (wk_M 198).2.2.1 127 = .ok (.aload_n 0, 1) := zd_by (by decide +kernel)
theorem xd_198_128 : decode (wk_M 198).2.2.1 128 = .ok (.getfield 239, 3) := zd_by (by decide +kernel)
theorem xd_198_131 : decode (wk_M 198).2.2.1 131 = .ok (.bipush 8, 2) := zd_by (by decide +kernel)
theorem xd_198_133 : decode (wk_M 198).2.2.1 133 = .ok (.lshl, 1) := zd_by (by decide +kernel)
theorem xd_198_134 : decode (wk_M 198).2.2.1 134 = .ok (.aload_n 0, 1) := zd_by (by decide +kernel)
theorem xd_198_135 : decode (wk_M 198).2.2.1 135 = .ok (.invokevirtual 226, 3) := zd_by (by decide +kernel)
theorem xd_198_138 : decode (wk_M 198).2.2.1 138 = .ok (.i2l, 1) := zd_by (by decide +kernel)
theorem xd_198_139 : decode (wk_M 198).2.2.1 139 = .ok (.lor, 1) := zd_by (by decide +kernel)
theorem xd_198_140 : decode (wk_M 198).2.2.1 140 = .ok (.goto 7, 3) := zd_by (by decide +kernel)
theorem xd_198_143 : decode (wk_M 198).2.2.1 143 = .ok (.aload_n 0, 1) := zd_by (by decide +kernel)
theorem xd_198_144 : decode (wk_M 198).2.2.1 144 = .ok (.getfield 239, 3) := zd_by (by decide +kernel)
theorem xd_198_147 : decode (wk_M 198).2.2.1 147 = .ok (.putfield 239, 3) := zd_by (by decide +kernel)
theorem xd_198_150 : decode (wk_M 198).2.2.1 150 = .ok (.iinc 2 1, 3) := zd_by (by decide +kernel)
theorem xd_198_153 : decode (wk_M 198).2.2.1 153 = .ok (.aload_n 0, 1) := zd_by (by decide +kernel)
theorem xd_198_154 : decode (wk_M 198).2.2.1 154 = .ok (.dup, 1) := zd_by (by decide +kernel)
theorem xd_198_155 : decode (wk_M 198).2.2.1 155 = .ok (.getfield 204, 3) := zd_by (by decide +kernel)
theorem xd_198_158 : decode (wk_M 198).2.2.1 158 = .ok (.iconst 1, 1) := zd_by (by decide +kernel)
theorem xd_198_159 : decode (wk_M 198).2.2.1 159 = .ok (.iadd, 1) := zd_by (by decide +kernel)
theorem xd_198_160 : decode (wk_M 198).2.2.1 160 = .ok (.putfield 204, 3) := zd_by (by decide +kernel)
theorem xd_198_163 : decode (wk_M 198).2.2.1 163 = .ok (.goto (-52), 3) := zd_by (by decide +kernel)
theorem xd_198_166 : decode (wk_M 198).2.2.1 166 = .ok (.aload_n 0, 1) := zd_by (by decide +kernel)
theorem xd_198_167 : decode (wk_M 198).2.2.1 167 = .ok (.iload_n 2, 1) := zd_by (by decide +kernel)
theorem xd_198_168 : decode (wk_M 198).2.2.1 168 = .ok (.iconst 5, 1) := zd_by (by decide +kernel)
theorem xd_198_169 : decode (wk_M 198).2.2.1 169 = .ok (.if_icmp .le 7, 3) := zd_by (by decide +kernel)
theorem xd_198_172 : decode (wk_M 198).2.2.1 172 = .ok (.iconst 4, 1) := zd_by (by decide +kernel)
theorem xd_198_173 : decode (wk_M 198).2.2.1 173 = .ok (.goto 4, 3) := zd_by (by decide +kernel)
theorem xd_198_176 : decode (wk_M 198).2.2.1 176 = .ok (.iconst 1, 1) := zd_by (by decide +kernel)
theorem xd_198_177 : decode (wk_M 198).2.2.1 177 = .ok (.putfield 236, 3) := zd_by (by decide +kernel)
theorem xd_198_180 : decode (wk_M 198).2.2.1 180 = .ok (.goto 126, 3) := zd_by (by decide +kernel)
theorem xd_198_183 : decode (wk_M 198).2.2.1 183 = .ok (.iload_n 1, 1) := zd_by (by decide +kernel)
theorem xd_198_184 : decode (wk_M 198).2.2.1 184 = .ok (.invokestatic 249, 3) := zd_by (by decide +kernel)
theorem xd_198_187 : decode (wk_M 198).2.2.1 187 = .ok (.ifCond .eq 77, 3) := zd_by (by decide +kernel)
theorem xd_198_190 : decode (wk_M 198).2.2.1 190 = .ok (.aload_n 0, 1) := zd_by (by decide +kernel)
theorem xd_198_191 : decode (wk_M 198).2.2.1 191 = .ok (.invokevirtual 226, 3) := zd_by (by decide +kernel)
theorem xd_198_194 : decode (wk_M 198).2.2.1 194 = .ok (.invokestatic 249, 3) := zd_by (by decide +kernel)
theorem xd_198_197 : decode (wk_M 198).2.2.1 197 = .ok (.ifCond .eq 50, 3) := zd_by (by decide +kernel)
theorem xd_198_200 : decode (wk_M 198).2.2.1 200 = .ok (.aload_n 0, 1) := zd_by (by decide +kernel)
theorem xd_198_201 : decode (wk_M 198).2.2.1 201 = .ok (.iload_n 2, 1) := zd_by (by decide +kernel)
theorem xd_198_202 : decode (wk_M 198).2.2.1 202 = .ok (.iconst 2, 1) := zd_by (by decide +kernel)
theorem xd_198_203 : decode (wk_M 198).2.2.1 203 = .ok (.if_icmp .ge 21, 3) := zd_by (by decide +kernel)
theorem xd_198_206 : decode (wk_M 198).2.2.1 206 = .ok (.bipush 10, 2) := zd_by (by decide +kernel)
theorem xd_198_208 : decode (wk_M 198).2.2.1 208 = .ok (.aload_n 0, 1) := zd_by (by decide +kernel)
theorem xd_198_209 : decode (wk_M 198).2.2.1 209 = .ok (.getfield 243, 3) := zd_by (by decide +kernel)
theorem xd_198_212 : decode (wk_M 198).2.2.1 212 = .ok (.imul, 1) := zd_by (by decide +kernel)
theorem xd_198_213 : decode (wk_M 198).2.2.1 213 = .ok (.aload_n 0, 1) := zd_by (by decide +kernel)
theorem xd_198_214 : decode (wk_M 198).2.2.1 214 = .ok (.invokevirtual 226, 3) := zd_by (by decide +kernel)
theorem xd_198_217 : decode (wk_M 198).2.2.1 217 = .ok (.iadd, 1) := zd_by (by decide +kernel)
theorem xd_198_218 : decode (wk_M 198).2.2.1 218 = .ok (.bipush 48, 2) := zd_by (by decide +kernel)
theorem xd_198_220 : decode (wk_M 198).2.2.1 220 = .ok (.isub, 1) := zd_by (by decide +kernel)
theorem xd_198_221 : decode (wk_M 198).2.2.1 221 = .ok (.goto 7, 3) := zd_by (by decide +kernel)
theorem xd_198_224 : decode (wk_M 198).2.2.1 224 = .ok (.aload_n 0, 1) := zd_by (by decide +kernel)
theorem xd_198_225 : decode (wk_M 198).2.2.1 225 = .ok (.getfield 243, 3) := zd_by (by decide +kernel)
theorem xd_198_228 : decode (wk_M 198).2.2.1 228 = .ok (.putfield 243, 3) := zd_by (by decide +kernel)
theorem xd_198_231 : decode (wk_M 198).2.2.1 231 = .ok (.iinc 2 1, 3) := zd_by (by decide +kernel)
theorem xd_198_234 : decode (wk_M 198).2.2.1 234 = .ok (.aload_n 0, 1) := zd_by (by decide +kernel)
theorem xd_198_235 : decode (wk_M 198).2.2.1 235 = .ok (.dup, 1) := zd_by (by decide +kernel)
theorem xd_198_236 : decode (wk_M 198).2.2.1 236 = .ok (.getfield 204, 3) := zd_by (by decide +kernel)
theorem xd_198_239 : decode (wk_M 198).2.2.1 239 = .ok (.iconst 1, 1) := zd_by (by decide +kernel)
theorem xd_198_240 : decode (wk_M 198).2.2.1 240 = .ok (.iadd, 1) := zd_by (by decide +kernel)
theorem xd_198_241 : decode (wk_M 198).2.2.1 241 = .ok (.putfield 204, 3) := zd_by (by decide +kernel)
theorem xd_198_244 : decode (wk_M 198).2.2.1 244 = .ok (.goto (-54), 3) := zd_by (by decide +kernel)
theorem xd_198_247 : decode (wk_M 198).2.2.1 247 = .ok (.aload_n 0, 1) := zd_by (by decide +kernel)
theorem xd_198_248 : decode (wk_M 198).2.2.1 248 = .ok (.iload_n 2, 1) := zd_by (by decide +kernel)
theorem xd_198_249 : decode (wk_M 198).2.2.1 249 = .ok (.iconst 2, 1) := zd_by (by decide +kernel)
theorem xd_198_250 : decode (wk_M 198).2.2.1 250 = .ok (.if_icmp .le 7, 3) := zd_by (by decide +kernel)
theorem xd_198_253 : decode (wk_M 198).2.2.1 253 = .ok (.iconst 4, 1) := zd_by (by decide +kernel)
theorem xd_198_254 : decode (wk_M 198).2.2.1 254 = .ok (.goto 4, 3) := zd_by (by decide +kernel)
theorem xd_198_257 : decode (wk_M 198).2.2.1 257 = .ok (.iconst 2, 1) := zd_by (by decide +kernel)
theorem xd_198_258 : decode (wk_M 198).2.2.1 258 = .ok (.putfield 236, 3) := zd_by (by decide +kernel)
theorem xd_198_261 : decode (wk_M 198).2.2.1 261 = .ok (.goto 45, 3) := zd_by (by decide +kernel)
theorem xd_198_264 : decode (wk_M 198).2.2.1 264 = .ok (.aload_n 0, 1) := zd_by (by decide +kernel)
theorem xd_198_265 : decode (wk_M 198).2.2.1 265 = .ok (.iload_n 1, 1) := zd_by (by decide +kernel)
theorem xd_198_266 : decode (wk_M 198).2.2.1 266 = .ok (.bipush 45, 2) := zd_by (by decide +kernel)
theorem xd_198_268 : decode (wk_M 198).2.2.1 268 = .ok (.if_icmp .eq 15, 3) := zd_by (by decide +kernel)
theorem xd_198_271 : decode (wk_M 198).2.2.1 271 = .ok (.iload_n 1, 1) := zd_by (by decide +kernel)
theorem xd_198_272 : decode (wk_M 198).2.2.1 272 = .ok (.bipush 59, 2) := zd_by (by decide +kernel)
theorem xd_198_274 : decode (wk_M 198).2.2.1 274 = .ok (.if_icmp .eq 9, 3) := zd_by (by decide +kernel)
theorem xd_198_277 : decode (wk_M 198).2.2.1 277 = .ok (.iload_n 1, 1) := zd_by (by decide +kernel)
theorem xd_198_278 : decode (wk_M 198).2.2.1 278 = .ok (.bipush 46, 2) := zd_by (by decide +kernel)
theorem xd_198_280 : decode (wk_M 198).2.2.1 280 = .ok (.if_icmp .ne 7, 3) := zd_by (by decide +kernel)
theorem xd_198_283 : decode (wk_M 198).2.2.1 283 = .ok (.iconst 3, 1) := zd_by (by decide +kernel)
theorem xd_198_284 : decode (wk_M 198).2.2.1 284 = .ok (.goto 4, 3) := zd_by (by decide +kernel)
theorem xd_198_287 : decode (wk_M 198).2.2.1 287 = .ok (.iconst 4, 1) := zd_by (by decide +kernel)
theorem xd_198_288 : decode (wk_M 198).2.2.1 288 = .ok (.putfield 236, 3) := zd_by (by decide +kernel)
theorem xd_198_291 : decode (wk_M 198).2.2.1 291 = .ok (.aload_n 0, 1) := zd_by (by decide +kernel)
theorem xd_198_292 : decode (wk_M 198).2.2.1 292 = .ok (.iload_n 1, 1) := zd_by (by decide +kernel)
theorem xd_198_293 : decode (wk_M 198).2.2.1 293 = .ok (.putfield 243, 3) := zd_by (by decide +kernel)
theorem xd_198_296 : decode (wk_M 198).2.2.1 296 = .ok (.aload_n 0, 1) := zd_by (by decide +kernel)
theorem xd_198_297 : decode (wk_M 198).2.2.1 297 = .ok (.dup, 1) := zd_by (by decide +kernel)
theorem xd_198_298 : decode (wk_M 198).2.2.1 298 = .ok (.getfield 204, 3) := zd_by (by decide +kernel)
theorem xd_198_301 : decode (wk_M 198).2.2.1 301 = .ok (.iconst 1, 1) := zd_by (by decide +kernel)
theorem xd_198_302 : decode (wk_M 198).2.2.1 302 = .ok (.iadd, 1) := zd_by (by decide +kernel)
theorem xd_198_303 : decode (wk_M 198).2.2.1 303 = .ok (.putfield 204, 3) := zd_by (by decide +kernel)
theorem xd_198_306 : decode (wk_M 198).2.2.1 306 = .ok (.return_, 1) := zd_by (by decide +kernel)
def LM_198  : Nat → Nat → Int → Int → dc_M → Int → dc_M → Prop
  | 0, _, _, _, _, _, _ => False
  | c + 1, tag, l1, l2, m, v, m' => match tag with
    | 0 => ∃ v_6 m_11, D_195 m v_6 m_11 ∧ ((((v_6 : Int) = 32 ∧ (∃ m_43, m_43 = dc_up m_11 114 4 (dc_w ((m_11 114 4) + 1)) ∧ (LM_198  c 0 0 0 m_43 v m'))) ∨ (¬ ((v_6 : Int) = 32) ∧ (∃ v_55 m_60, D_195 m_11 v_55 m_60 ∧ ((((v_55 : Int) ≠ 10 ∧ (∃ m_86, m_86 = dc_up m_60 114 8 (m_60 114 4) ∧ (((((m_86 114 3) : Int) ≤ (m_86 114 12) ∧ (∃ v_113 m_118, D_195 m_86 v_113 m_118 ∧ (∃ m_140, m_140 = dc_up m_118 114 13 ((0 : Nat) : Int) ∧ (∃ m_153, m_153 = dc_up m_140 114 9 0 ∧ ((((v_113 : Int) ≥ 0 ∧ (∃ v_180 m_185, D_196 v_113 m_153 v_180 m_185 ∧ ((((v_180 : Int) = 0 ∧ (∃ v_200 m_205, D_197 v_113 m_185 v_200 m_205 ∧ ((((v_200 : Int) = 0 ∧ ((((v_113 : Int) = 45 ∧ (∃ m_237, m_237 = dc_up m_205 114 7 3 ∧ (∃ m_250, m_250 = dc_up m_237 114 9 v_113 ∧ (∃ m_273, m_273 = dc_up m_250 114 4 (dc_w ((m_250 114 4) + 1)) ∧ (v = 0 ∧ m' = m_273))))) ∨ (¬ ((v_113 : Int) = 45) ∧ ((((v_113 : Int) = 59 ∧ (∃ m_297, m_297 = dc_up m_205 114 7 3 ∧ (∃ m_310, m_310 = dc_up m_297 114 9 v_113 ∧ (∃ m_333, m_333 = dc_up m_310 114 4 (dc_w ((m_310 114 4) + 1)) ∧ (v = 0 ∧ m' = m_333))))) ∨ (¬ ((v_113 : Int) = 59) ∧ ((((v_113 : Int) ≠ 46 ∧ (∃ m_354, m_354 = dc_up m_205 114 7 4 ∧ (∃ m_367, m_367 = dc_up m_354 114 9 v_113 ∧ (∃ m_390, m_390 = dc_up m_367 114 4 (dc_w ((m_367 114 4) + 1)) ∧ (v = 0 ∧ m' = m_390))))) ∨ (¬ ((v_113 : Int) ≠ 46) ∧ (∃ m_404, m_404 = dc_up m_205 114 7 3 ∧ (∃ m_417, m_417 = dc_up m_404 114 9 v_113 ∧ (∃ m_440, m_440 = dc_up m_417 114 4 (dc_w ((m_417 114 4) + 1)) ∧ (v = 0 ∧ m' = m_440)))))))))))))) ∨ (¬ ((v_200 : Int) = 0) ∧ (LM_198  c 190 v_113 0 m_205 v m')))))) ∨ (¬ ((v_180 : Int) = 0) ∧ (LM_198  c 111 v_113 0 m_185 v m')))))) ∨ (¬ ((v_113 : Int) ≥ 0) ∧ (∃ m_454, m_454 = dc_up m_153 114 7 0 ∧ (v = 0 ∧ m' = m_454))))))))) ∨ (¬ (((m_86 114 3) : Int) ≤ (m_86 114 12)) ∧ (((((m_86 114 4) : Int) < (m_86 114 12) ∧ (∃ v_485 m_490, D_195 m_86 v_485 m_490 ∧ (∃ m_512, m_512 = dc_up m_490 114 13 ((0 : Nat) : Int) ∧ (∃ m_525, m_525 = dc_up m_512 114 9 0 ∧ ((((v_485 : Int) ≥ 0 ∧ (∃ v_552 m_557, D_196 v_485 m_525 v_552 m_557 ∧ ((((v_552 : Int) = 0 ∧ (∃ v_572 m_577, D_197 v_485 m_557 v_572 m_577 ∧ ((((v_572 : Int) = 0 ∧ ((((v_485 : Int) = 45 ∧ (∃ m_609, m_609 = dc_up m_577 114 7 3 ∧ (∃ m_622, m_622 = dc_up m_609 114 9 v_485 ∧ (∃ m_645, m_645 = dc_up m_622 114 4 (dc_w ((m_622 114 4) + 1)) ∧ (v = 0 ∧ m' = m_645))))) ∨ (¬ ((v_485 : Int) = 45) ∧ ((((v_485 : Int) = 59 ∧ (∃ m_669, m_669 = dc_up m_577 114 7 3 ∧ (∃ m_682, m_682 = dc_up m_669 114 9 v_485 ∧ (∃ m_705, m_705 = dc_up m_682 114 4 (dc_w ((m_682 114 4) + 1)) ∧ (v = 0 ∧ m' = m_705))))) ∨ (¬ ((v_485 : Int) = 59) ∧ ((((v_485 : Int) ≠ 46 ∧ (∃ m_726, m_726 = dc_up m_577 114 7 4 ∧ (∃ m_739, m_739 = dc_up m_726 114 9 v_485 ∧ (∃ m_762, m_762 = dc_up m_739 114 4 (dc_w ((m_739 114 4) + 1)) ∧ (v = 0 ∧ m' = m_762))))) ∨ (¬ ((v_485 : Int) ≠ 46) ∧ (∃ m_776, m_776 = dc_up m_577 114 7 3 ∧ (∃ m_789, m_789 = dc_up m_776 114 9 v_485 ∧ (∃ m_812, m_812 = dc_up m_789 114 4 (dc_w ((m_789 114 4) + 1)) ∧ (v = 0 ∧ m' = m_812)))))))))))))) ∨ (¬ ((v_572 : Int) = 0) ∧ (LM_198  c 190 v_485 0 m_577 v m')))))) ∨ (¬ ((v_552 : Int) = 0) ∧ (LM_198  c 111 v_485 0 m_557 v m')))))) ∨ (¬ ((v_485 : Int) ≥ 0) ∧ (∃ m_826, m_826 = dc_up m_525 114 7 0 ∧ (v = 0 ∧ m' = m_826))))))))) ∨ (¬ (((m_86 114 4) : Int) < (m_86 114 12)) ∧ (∃ m_847, m_847 = dc_up m_86 114 8 (m_86 114 12) ∧ (∃ m_860, m_860 = dc_up m_847 114 7 4 ∧ (v = 0 ∧ m' = m_860))))))))))) ∨ (¬ ((v_55 : Int) ≠ 10) ∧ (∃ m_884, m_884 = dc_up m_60 114 4 (dc_w ((m_60 114 4) + 1)) ∧ (LM_198  c 0 0 0 m_884 v m')))))))))
    | 111 => ∃ v_896 m_901, D_195 m v_896 m_901 ∧ (∃ v_909 m_914, D_196 v_896 m_901 v_909 m_914 ∧ ((((v_909 : Int) = 0 ∧ ((((l2 : Int) ≤ 5 ∧ (∃ m_943, m_943 = dc_up m_914 114 7 1 ∧ (v = 0 ∧ m' = m_943))) ∨ (¬ ((l2 : Int) ≤ 5) ∧ (∃ m_960, m_960 = dc_up m_914 114 7 4 ∧ (v = 0 ∧ m' = m_960)))))) ∨ (¬ ((v_909 : Int) = 0) ∧ ((((l2 : Int) ≥ 5 ∧ (∃ m_991, m_991 = dc_up m_914 114 13 (((m_914 114 13).toNat : Nat) : Int) ∧ (∃ m_1022, m_1022 = dc_up m_991 114 4 (dc_w ((m_991 114 4) + 1)) ∧ (LM_198  c 111 l1 (dc_w (l2 + 1)) m_1022 v m')))) ∨ (¬ ((l2 : Int) ≥ 5) ∧ (∃ v_1047 m_1052, D_195 m_914 v_1047 m_1052 ∧ (∃ m_1070, m_1070 = dc_up m_1052 114 13 (((Nat.lor (ae_lshl (m_914 114 13).toNat (8 : Int).toNat) (ae_i2l (sv_u v_1047))) : Nat) : Int) ∧ (∃ m_1101, m_1101 = dc_up m_1070 114 4 (dc_w ((m_1070 114 4) + 1)) ∧ (LM_198  c 111 l1 (dc_w (l2 + 1)) m_1101 v m')))))))))))
    | _ => ∃ v_1113 m_1118, D_195 m v_1113 m_1118 ∧ (∃ v_1126 m_1131, D_197 v_1113 m_1118 v_1126 m_1131 ∧ ((((v_1126 : Int) = 0 ∧ ((((l2 : Int) ≤ 2 ∧ (∃ m_1160, m_1160 = dc_up m_1131 114 7 2 ∧ (v = 0 ∧ m' = m_1160))) ∨ (¬ ((l2 : Int) ≤ 2) ∧ (∃ m_1177, m_1177 = dc_up m_1131 114 7 4 ∧ (v = 0 ∧ m' = m_1177)))))) ∨ (¬ ((v_1126 : Int) = 0) ∧ ((((l2 : Int) ≥ 2 ∧ (∃ m_1208, m_1208 = dc_up m_1131 114 9 (m_1131 114 9) ∧ (∃ m_1239, m_1239 = dc_up m_1208 114 4 (dc_w ((m_1208 114 4) + 1)) ∧ (LM_198  c 190 l1 (dc_w (l2 + 1)) m_1239 v m')))) ∨ (¬ ((l2 : Int) ≥ 2) ∧ (∃ v_1264 m_1269, D_195 m_1131 v_1264 m_1269 ∧ (∃ m_1290, m_1290 = dc_up m_1269 114 9 (dc_w ((dc_w ((dc_w (10 * (m_1131 114 9))) + v_1264)) - 48)) ∧ (∃ m_1321, m_1321 = dc_up m_1290 114 4 (dc_w ((m_1290 114 4) + 1)) ∧ (LM_198  c 190 l1 (dc_w (l2 + 1)) m_1321 v m')))))))))))
theorem lm_198_0  {c : Nat} {l1 : Int} {l2 : Int} {m : dc_M} {v : Int} {m' : dc_M} : LM_198  (c + 1) 0 l1 l2 m v m' ↔ ∃ v_6 m_11, D_195 m v_6 m_11 ∧ ((((v_6 : Int) = 32 ∧ (∃ m_43, m_43 = dc_up m_11 114 4 (dc_w ((m_11 114 4) + 1)) ∧ (LM_198  c 0 0 0 m_43 v m'))) ∨ (¬ ((v_6 : Int) = 32) ∧ (∃ v_55 m_60, D_195 m_11 v_55 m_60 ∧ ((((v_55 : Int) ≠ 10 ∧ (∃ m_86, m_86 = dc_up m_60 114 8 (m_60 114 4) ∧ (((((m_86 114 3) : Int) ≤ (m_86 114 12) ∧ (∃ v_113 m_118, D_195 m_86 v_113 m_118 ∧ (∃ m_140, m_140 = dc_up m_118 114 13 ((0 : Nat) : Int) ∧ (∃ m_153, m_153 = dc_up m_140 114 9 0 ∧ ((((v_113 : Int) ≥ 0 ∧ (∃ v_180 m_185, D_196 v_113 m_153 v_180 m_185 ∧ ((((v_180 : Int) = 0 ∧ (∃ v_200 m_205, D_197 v_113 m_185 v_200 m_205 ∧ ((((v_200 : Int) = 0 ∧ ((((v_113 : Int) = 45 ∧ (∃ m_237, m_237 = dc_up m_205 114 7 3 ∧ (∃ m_250, m_250 = dc_up m_237 114 9 v_113 ∧ (∃ m_273, m_273 = dc_up m_250 114 4 (dc_w ((m_250 114 4) + 1)) ∧ (v = 0 ∧ m' = m_273))))) ∨ (¬ ((v_113 : Int) = 45) ∧ ((((v_113 : Int) = 59 ∧ (∃ m_297, m_297 = dc_up m_205 114 7 3 ∧ (∃ m_310, m_310 = dc_up m_297 114 9 v_113 ∧ (∃ m_333, m_333 = dc_up m_310 114 4 (dc_w ((m_310 114 4) + 1)) ∧ (v = 0 ∧ m' = m_333))))) ∨ (¬ ((v_113 : Int) = 59) ∧ ((((v_113 : Int) ≠ 46 ∧ (∃ m_354, m_354 = dc_up m_205 114 7 4 ∧ (∃ m_367, m_367 = dc_up m_354 114 9 v_113 ∧ (∃ m_390, m_390 = dc_up m_367 114 4 (dc_w ((m_367 114 4) + 1)) ∧ (v = 0 ∧ m' = m_390))))) ∨ (¬ ((v_113 : Int) ≠ 46) ∧ (∃ m_404, m_404 = dc_up m_205 114 7 3 ∧ (∃ m_417, m_417 = dc_up m_404 114 9 v_113 ∧ (∃ m_440, m_440 = dc_up m_417 114 4 (dc_w ((m_417 114 4) + 1)) ∧ (v = 0 ∧ m' = m_440)))))))))))))) ∨ (¬ ((v_200 : Int) = 0) ∧ (LM_198  c 190 v_113 0 m_205 v m')))))) ∨ (¬ ((v_180 : Int) = 0) ∧ (LM_198  c 111 v_113 0 m_185 v m')))))) ∨ (¬ ((v_113 : Int) ≥ 0) ∧ (∃ m_454, m_454 = dc_up m_153 114 7 0 ∧ (v = 0 ∧ m' = m_454))))))))) ∨ (¬ (((m_86 114 3) : Int) ≤ (m_86 114 12)) ∧ (((((m_86 114 4) : Int) < (m_86 114 12) ∧ (∃ v_485 m_490, D_195 m_86 v_485 m_490 ∧ (∃ m_512, m_512 = dc_up m_490 114 13 ((0 : Nat) : Int) ∧ (∃ m_525, m_525 = dc_up m_512 114 9 0 ∧ ((((v_485 : Int) ≥ 0 ∧ (∃ v_552 m_557, D_196 v_485 m_525 v_552 m_557 ∧ ((((v_552 : Int) = 0 ∧ (∃ v_572 m_577, D_197 v_485 m_557 v_572 m_577 ∧ ((((v_572 : Int) = 0 ∧ ((((v_485 : Int) = 45 ∧ (∃ m_609, m_609 = dc_up m_577 114 7 3 ∧ (∃ m_622, m_622 = dc_up m_609 114 9 v_485 ∧ (∃ m_645, m_645 = dc_up m_622 114 4 (dc_w ((m_622 114 4) + 1)) ∧ (v = 0 ∧ m' = m_645))))) ∨ (¬ ((v_485 : Int) = 45) ∧ ((((v_485 : Int) = 59 ∧ (∃ m_669, m_669 = dc_up m_577 114 7 3 ∧ (∃ m_682, m_682 = dc_up m_669 114 9 v_485 ∧ (∃ m_705, m_705 = dc_up m_682 114 4 (dc_w ((m_682 114 4) + 1)) ∧ (v = 0 ∧ m' = m_705))))) ∨ (¬ ((v_485 : Int) = 59) ∧ ((((v_485 : Int) ≠ 46 ∧ (∃ m_726, m_726 = dc_up m_577 114 7 4 ∧ (∃ m_739, m_739 = dc_up m_726 114 9 v_485 ∧ (∃ m_762, m_762 = dc_up m_739 114 4 (dc_w ((m_739 114 4) + 1)) ∧ (v = 0 ∧ m' = m_762))))) ∨ (¬ ((v_485 : Int) ≠ 46) ∧ (∃ m_776, m_776 = dc_up m_577 114 7 3 ∧ (∃ m_789, m_789 = dc_up m_776 114 9 v_485 ∧ (∃ m_812, m_812 = dc_up m_789 114 4 (dc_w ((m_789 114 4) + 1)) ∧ (v = 0 ∧ m' = m_812)))))))))))))) ∨ (¬ ((v_572 : Int) = 0) ∧ (LM_198  c 190 v_485 0 m_577 v m')))))) ∨ (¬ ((v_552 : Int) = 0) ∧ (LM_198  c 111 v_485 0 m_557 v m')))))) ∨ (¬ ((v_485 : Int) ≥ 0) ∧ (∃ m_826, m_826 = dc_up m_525 114 7 0 ∧ (v = 0 ∧ m' = m_826))))))))) ∨ (¬ (((m_86 114 4) : Int) < (m_86 114 12)) ∧ (∃ m_847, m_847 = dc_up m_86 114 8 (m_86 114 12) ∧ (∃ m_860, m_860 = dc_up m_847 114 7 4 ∧ (v = 0 ∧ m' = m_860))))))))))) ∨ (¬ ((v_55 : Int) ≠ 10) ∧ (∃ m_884, m_884 = dc_up m_60 114 4 (dc_w ((m_60 114 4) + 1)) ∧ (LM_198  c 0 0 0 m_884 v m'))))))))) := Iff.rfl
theorem lm_198_111  {c : Nat} {l1 : Int} {l2 : Int} {m : dc_M} {v : Int} {m' : dc_M} : LM_198  (c + 1) 111 l1 l2 m v m' ↔ ∃ v_896 m_901, D_195 m v_896 m_901 ∧ (∃ v_909 m_914, D_196 v_896 m_901 v_909 m_914 ∧ ((((v_909 : Int) = 0 ∧ ((((l2 : Int) ≤ 5 ∧ (∃ m_943, m_943 = dc_up m_914 114 7 1 ∧ (v = 0 ∧ m' = m_943))) ∨ (¬ ((l2 : Int) ≤ 5) ∧ (∃ m_960, m_960 = dc_up m_914 114 7 4 ∧ (v = 0 ∧ m' = m_960)))))) ∨ (¬ ((v_909 : Int) = 0) ∧ ((((l2 : Int) ≥ 5 ∧ (∃ m_991, m_991 = dc_up m_914 114 13 (((m_914 114 13).toNat : Nat) : Int) ∧ (∃ m_1022, m_1022 = dc_up m_991 114 4 (dc_w ((m_991 114 4) + 1)) ∧ (LM_198  c 111 l1 (dc_w (l2 + 1)) m_1022 v m')))) ∨ (¬ ((l2 : Int) ≥ 5) ∧ (∃ v_1047 m_1052, D_195 m_914 v_1047 m_1052 ∧ (∃ m_1070, m_1070 = dc_up m_1052 114 13 (((Nat.lor (ae_lshl (m_914 114 13).toNat (8 : Int).toNat) (ae_i2l (sv_u v_1047))) : Nat) : Int) ∧ (∃ m_1101, m_1101 = dc_up m_1070 114 4 (dc_w ((m_1070 114 4) + 1)) ∧ (LM_198  c 111 l1 (dc_w (l2 + 1)) m_1101 v m'))))))))))) := Iff.rfl
theorem lm_198_190  {c : Nat} {l1 : Int} {l2 : Int} {m : dc_M} {v : Int} {m' : dc_M} : LM_198  (c + 1) 190 l1 l2 m v m' ↔ ∃ v_1113 m_1118, D_195 m v_1113 m_1118 ∧ (∃ v_1126 m_1131, D_197 v_1113 m_1118 v_1126 m_1131 ∧ ((((v_1126 : Int) = 0 ∧ ((((l2 : Int) ≤ 2 ∧ (∃ m_1160, m_1160 = dc_up m_1131 114 7 2 ∧ (v = 0 ∧ m' = m_1160))) ∨ (¬ ((l2 : Int) ≤ 2) ∧ (∃ m_1177, m_1177 = dc_up m_1131 114 7 4 ∧ (v = 0 ∧ m' = m_1177)))))) ∨ (¬ ((v_1126 : Int) = 0) ∧ ((((l2 : Int) ≥ 2 ∧ (∃ m_1208, m_1208 = dc_up m_1131 114 9 (m_1131 114 9) ∧ (∃ m_1239, m_1239 = dc_up m_1208 114 4 (dc_w ((m_1208 114 4) + 1)) ∧ (LM_198  c 190 l1 (dc_w (l2 + 1)) m_1239 v m')))) ∨ (¬ ((l2 : Int) ≥ 2) ∧ (∃ v_1264 m_1269, D_195 m_1131 v_1264 m_1269 ∧ (∃ m_1290, m_1290 = dc_up m_1269 114 9 (dc_w ((dc_w ((dc_w (10 * (m_1131 114 9))) + v_1264)) - 48)) ∧ (∃ m_1321, m_1321 = dc_up m_1290 114 4 (dc_w ((m_1290 114 4) + 1)) ∧ (LM_198  c 190 l1 (dc_w (l2 + 1)) m_1321 v m'))))))))))) := Iff.rfl
theorem dl_198   : ∀ N : Nat, (∀ (n : Nat) (lv : ae_L) (h : ae_H) (r : ae_R), n ≤ N → dc_ok h → ae_lk lv 0 = some (wk_r 114) → ae_exe n 198 0 0 0 lv [] h = some r → ∃ v, (∃ c, LM_198  c 0 0 0 (dc_m h) v (dc_m r.2)) ∧ r.1 = none ∧ sv_I v ∧ dc_ok r.2) ∧ (∀ (n : Nat) (lv : ae_L) (h : ae_H) (r : ae_R) (l1 : Int) (l2 : Int), n ≤ N → dc_ok h → sv_I l1 → sv_I l2 → ae_lk lv 0 = some (wk_r 114) → ae_lk lv 1 = some (wk_i l1) → ae_lk lv 2 = some (wk_i l2) → ae_exe n 198 111 0 0 lv [] h = some r → ∃ v, (∃ c, LM_198  c 111 l1 l2 (dc_m h) v (dc_m r.2)) ∧ r.1 = none ∧ sv_I v ∧ dc_ok r.2) ∧ (∀ (n : Nat) (lv : ae_L) (h : ae_H) (r : ae_R) (l1 : Int) (l2 : Int), n ≤ N → dc_ok h → sv_I l1 → sv_I l2 → ae_lk lv 0 = some (wk_r 114) → ae_lk lv 1 = some (wk_i l1) → ae_lk lv 2 = some (wk_i l2) → ae_exe n 198 190 0 0 lv [] h = some r → ∃ v, (∃ c, LM_198  c 190 l1 l2 (dc_m h) v (dc_m r.2)) ∧ r.1 = none ∧ sv_I v ∧ dc_ok r.2) := by
  intro N
  induction N with
  | zero =>
    refine ⟨?_, ?_, ?_⟩
    · intro n lv h r hn ok q0 hr
      have e : n = 0 := by omega
      subst e
      cases hr
    · intro n lv h r l1 l2 hn ok il1 il2 q0 q1 q2 hr
      have e : n = 0 := by omega
      subst e
      cases hr
    · intro n lv h r l1 l2 hn ok il1 il2 q0 q1 q2 hr
      have e : n = 0 := by omega
      subst e
      cases hr
  | succ N ih =>
    obtain ⟨ih0, ih1, ih2⟩ := ih
    refine ⟨?_, ?_, ?_⟩
    · intro n lv h r hn ok q0 hr
      obtain ⟨n_1, e_2, hr_3⟩ := iv_aload_n xm_198 xd_198_0 q0 hr
      obtain ⟨n_13, r_4, e_14, hc_5, hr_15⟩ := iv_call (Or.inr ⟨rfl, rfl⟩) xm_198 xd_198_1 (by decide +kernel) xm_195 rfl (by decide +kernel) hr_3
      obtain ⟨v_6, d_7, er_8, iv_9, ok_10⟩ := ds_195 _  ok hc_5
      obtain ⟨_, h_12⟩ := r_4
      have er_8 : _ = some (wk_i v_6) := er_8
      subst er_8
      have hr_16 : ae_exe n_13 198 (1 + 3) 0 0 lv _ h_12 = some r := hr_15
      obtain ⟨n_17, e_18, hr_19⟩ := iv_bipush xm_198 xd_198_4 (by decide) hr_16
      rcases iv_icmp 18 xm_198 xd_198_6 (by decide) iv_9 (by unfold sv_I; omega) hr_19 with ⟨c_20, n_21, e_22, hr_23⟩ | ⟨c_20, n_21, e_22, hr_23⟩
      · obtain ⟨n_24, e_25, hr_26⟩ := iv_aload_n xm_198 xd_198_18 q0 hr_23
        obtain ⟨n_27, e_28, hr_29⟩ := iv_dup xm_198 xd_198_19 rfl hr_26
        have f_30 := dc_fi (j := 4) ok_10 (rfl : sv_ty 114 = some 12) dt_12 rfl
        obtain ⟨n_31, e_32, hr_33⟩ := iv_getf (j := 4) xm_198 xd_198_20 (by decide +kernel) ok_10 (rfl : sv_ty 114 = some 12) dt_12 f_30.1 hr_29
        obtain ⟨n_34, e_35, hr_36⟩ := iv_iconst xm_198 xd_198_23 (by decide) hr_33
        obtain ⟨n_37, e_38, hr_39⟩ := iw_iadd xm_198 xd_198_24 hr_36
        obtain ⟨h_40, ok_41, em_42, n_44, e_45, hr_46⟩ := iv_puti (j := 4) (fk := 0) xm_198 xd_198_25 (by decide +kernel) ok_10 (rfl : sv_ty 114 = some 12) dt_12 rfl (by decide +kernel) rfl (dc_w_I _) hr_39
        obtain ⟨n_47, e_48, hr_49⟩ := iv_goto 0 xm_198 xd_198_28 (by decide) hr_46
        obtain ⟨v, ⟨c, hL⟩, e1, e2, e3⟩ := ih0 _ lv h_40 _  (by omega) ok_41  q0 hr_49
        exact ⟨v, ⟨c + 1, lm_198_0.mpr (⟨_, _, d_7, Or.inl ⟨c_20, ⟨_, em_42, hL⟩⟩⟩)⟩, e1, e2, e3⟩
      · obtain ⟨n_50, e_51, hr_52⟩ := iv_aload_n xm_198 xd_198_9 q0 hr_23
        obtain ⟨n_62, r_53, e_63, hc_54, hr_64⟩ := iv_call (Or.inr ⟨rfl, rfl⟩) xm_198 xd_198_10 (by decide +kernel) xm_195 rfl (by decide +kernel) hr_52
        obtain ⟨v_55, d_56, er_57, iv_58, ok_59⟩ := ds_195 _  ok_10 hc_54
        obtain ⟨_, h_61⟩ := r_53
        have er_57 : _ = some (wk_i v_55) := er_57
        subst er_57
        have hr_65 : ae_exe n_62 198 (10 + 3) 0 0 lv _ h_61 = some r := hr_64
        obtain ⟨n_66, e_67, hr_68⟩ := iv_bipush xm_198 xd_198_13 (by decide) hr_65
        rcases iv_icmp 31 xm_198 xd_198_15 (by decide) iv_58 (by unfold sv_I; omega) hr_68 with ⟨c_69, n_70, e_71, hr_72⟩ | ⟨c_69, n_70, e_71, hr_72⟩
        · obtain ⟨n_73, e_74, hr_75⟩ := iv_aload_n xm_198 xd_198_31 q0 hr_72
          obtain ⟨n_76, e_77, hr_78⟩ := iv_aload_n xm_198 xd_198_32 q0 hr_75
          have f_79 := dc_fi (j := 4) ok_59 (rfl : sv_ty 114 = some 12) dt_12 rfl
          obtain ⟨n_80, e_81, hr_82⟩ := iv_getf (j := 4) xm_198 xd_198_33 (by decide +kernel) ok_59 (rfl : sv_ty 114 = some 12) dt_12 f_79.1 hr_78
          obtain ⟨h_83, ok_84, em_85, n_87, e_88, hr_89⟩ := iv_puti (j := 8) (fk := 0) xm_198 xd_198_36 (by decide +kernel) ok_59 (rfl : sv_ty 114 = some 12) dt_12 rfl (by decide +kernel) rfl f_79.2 hr_82
          obtain ⟨n_90, e_91, hr_92⟩ := iv_aload_n xm_198 xd_198_39 q0 hr_89
          have f_93 := dc_fi (j := 3) ok_84 (rfl : sv_ty 114 = some 12) dt_12 rfl
          obtain ⟨n_94, e_95, hr_96⟩ := iv_getf (j := 3) xm_198 xd_198_40 (by decide +kernel) ok_84 (rfl : sv_ty 114 = some 12) dt_12 f_93.1 hr_92
          obtain ⟨n_97, e_98, hr_99⟩ := iv_aload_n xm_198 xd_198_43 q0 hr_96
          have f_100 := dc_fi (j := 12) ok_84 (rfl : sv_ty 114 = some 12) dt_12 rfl
          obtain ⟨n_101, e_102, hr_103⟩ := iv_getf (j := 12) xm_198 xd_198_44 (by decide +kernel) ok_84 (rfl : sv_ty 114 = some 12) dt_12 f_100.1 hr_99
          rcases iv_icmp 75 xm_198 xd_198_47 (by decide) f_93.2 f_100.2 hr_103 with ⟨c_104, n_105, e_106, hr_107⟩ | ⟨c_104, n_105, e_106, hr_107⟩
          · obtain ⟨n_108, e_109, hr_110⟩ := iv_aload_n xm_198 xd_198_75 q0 hr_107
            obtain ⟨n_120, r_111, e_121, hc_112, hr_122⟩ := iv_call (Or.inr ⟨rfl, rfl⟩) xm_198 xd_198_76 (by decide +kernel) xm_195 rfl (by decide +kernel) hr_110
            obtain ⟨v_113, d_114, er_115, iv_116, ok_117⟩ := ds_195 _  ok_84 hc_112
            obtain ⟨_, h_119⟩ := r_111
            have er_115 : _ = some (wk_i v_113) := er_115
            subst er_115
            have hr_123 : ae_exe n_120 198 (76 + 3) 0 0 lv _ h_119 = some r := hr_122
            obtain ⟨lv_125, sl_124, n_126, e_127, hr_128⟩ := iv_istore_n xm_198 xd_198_79 (by decide +kernel) hr_123
            have l_129 := sl_124.2 0 _ q0 (by decide) (Or.inl rfl)
            have l_130 := sl_124.1
            obtain ⟨n_131, e_132, hr_133⟩ := iv_aload_n xm_198 xd_198_80 l_129 hr_128
            obtain ⟨n_134, e_135, hr_136⟩ := iv_lconst xm_198 xd_198_81 hr_133
            obtain ⟨h_137, ok_138, em_139, n_141, e_142, hr_143⟩ := iv_putf (j := 13) (f := (4, 0)) (fk := 3) xm_198 xd_198_82 (by decide +kernel) ok_117 (rfl : sv_ty 114 = some 12) dt_12 rfl (by decide +kernel) rfl ⟨_, (by decide), rfl⟩ hr_136
            obtain ⟨n_144, e_145, hr_146⟩ := iv_aload_n xm_198 xd_198_85 l_129 hr_143
            obtain ⟨n_147, e_148, hr_149⟩ := iv_iconst xm_198 xd_198_86 (by decide) hr_146
            obtain ⟨h_150, ok_151, em_152, n_154, e_155, hr_156⟩ := iv_puti (j := 9) (fk := 0) xm_198 xd_198_87 (by decide +kernel) ok_138 (rfl : sv_ty 114 = some 12) dt_12 rfl (by decide +kernel) rfl (by unfold sv_I; omega) hr_149
            obtain ⟨n_157, e_158, hr_159⟩ := iv_iconst xm_198 xd_198_90 (by decide) hr_156
            obtain ⟨lv_161, sl_160, n_162, e_163, hr_164⟩ := iv_istore_n xm_198 xd_198_91 (by decide +kernel) hr_159
            have l_165 := sl_160.2 0 _ l_129 (by decide) (Or.inl rfl)
            have l_166 := sl_160.2 1 _ l_130 (by decide) (Or.inl rfl)
            have l_167 := sl_160.1
            obtain ⟨n_168, e_169, hr_170⟩ := iv_iload_n xm_198 xd_198_92 l_166 hr_164
            rcases iv_if 104 xm_198 xd_198_93 (by decide) iv_116 hr_170 with ⟨c_171, n_172, e_173, hr_174⟩ | ⟨c_171, n_172, e_173, hr_174⟩
            · obtain ⟨n_175, e_176, hr_177⟩ := iv_iload_n xm_198 xd_198_104 l_166 hr_174
              obtain ⟨n_187, r_178, e_188, hc_179, hr_189⟩ := iv_call (Or.inl ⟨rfl, rfl⟩) xm_198 xd_198_105 (by decide +kernel) xm_196 rfl (by decide +kernel) hr_177
              obtain ⟨v_180, d_181, er_182, iv_183, ok_184⟩ := ds_196 _ _ ok_151 iv_116 hc_179
              obtain ⟨_, h_186⟩ := r_178
              have er_182 : _ = some (wk_i v_180) := er_182
              subst er_182
              have hr_190 : ae_exe n_187 198 (105 + 3) 0 0 lv_161 _ h_186 = some r := hr_189
              rcases iv_if 183 xm_198 xd_198_108 (by decide) iv_183 hr_190 with ⟨c_191, n_192, e_193, hr_194⟩ | ⟨c_191, n_192, e_193, hr_194⟩
              · obtain ⟨n_195, e_196, hr_197⟩ := iv_iload_n xm_198 xd_198_183 l_166 hr_194
                obtain ⟨n_207, r_198, e_208, hc_199, hr_209⟩ := iv_call (Or.inl ⟨rfl, rfl⟩) xm_198 xd_198_184 (by decide +kernel) xm_197 rfl (by decide +kernel) hr_197
                obtain ⟨v_200, d_201, er_202, iv_203, ok_204⟩ := ds_197 _ _ ok_184 iv_116 hc_199
                obtain ⟨_, h_206⟩ := r_198
                have er_202 : _ = some (wk_i v_200) := er_202
                subst er_202
                have hr_210 : ae_exe n_207 198 (184 + 3) 0 0 lv_161 _ h_206 = some r := hr_209
                rcases iv_if 264 xm_198 xd_198_187 (by decide) iv_203 hr_210 with ⟨c_211, n_212, e_213, hr_214⟩ | ⟨c_211, n_212, e_213, hr_214⟩
                · obtain ⟨n_215, e_216, hr_217⟩ := iv_aload_n xm_198 xd_198_264 l_165 hr_214
                  obtain ⟨n_218, e_219, hr_220⟩ := iv_iload_n xm_198 xd_198_265 l_166 hr_217
                  obtain ⟨n_221, e_222, hr_223⟩ := iv_bipush xm_198 xd_198_266 (by decide) hr_220
                  rcases iv_icmp 283 xm_198 xd_198_268 (by decide) iv_116 (by unfold sv_I; omega) hr_223 with ⟨c_224, n_225, e_226, hr_227⟩ | ⟨c_224, n_225, e_226, hr_227⟩
                  · obtain ⟨n_228, e_229, hr_230⟩ := iv_iconst xm_198 xd_198_283 (by decide) hr_227
                    obtain ⟨n_231, e_232, hr_233⟩ := iv_goto 288 xm_198 xd_198_284 (by decide) hr_230
                    obtain ⟨h_234, ok_235, em_236, n_238, e_239, hr_240⟩ := iv_puti (j := 7) (fk := 0) xm_198 xd_198_288 (by decide +kernel) ok_204 (rfl : sv_ty 114 = some 12) dt_12 rfl (by decide +kernel) rfl (by unfold sv_I; omega) hr_233
                    obtain ⟨n_241, e_242, hr_243⟩ := iv_aload_n xm_198 xd_198_291 l_165 hr_240
                    obtain ⟨n_244, e_245, hr_246⟩ := iv_iload_n xm_198 xd_198_292 l_166 hr_243
                    obtain ⟨h_247, ok_248, em_249, n_251, e_252, hr_253⟩ := iv_puti (j := 9) (fk := 0) xm_198 xd_198_293 (by decide +kernel) ok_235 (rfl : sv_ty 114 = some 12) dt_12 rfl (by decide +kernel) rfl iv_116 hr_246
                    obtain ⟨n_254, e_255, hr_256⟩ := iv_aload_n xm_198 xd_198_296 l_165 hr_253
                    obtain ⟨n_257, e_258, hr_259⟩ := iv_dup xm_198 xd_198_297 rfl hr_256
                    have f_260 := dc_fi (j := 4) ok_248 (rfl : sv_ty 114 = some 12) dt_12 rfl
                    obtain ⟨n_261, e_262, hr_263⟩ := iv_getf (j := 4) xm_198 xd_198_298 (by decide +kernel) ok_248 (rfl : sv_ty 114 = some 12) dt_12 f_260.1 hr_259
                    obtain ⟨n_264, e_265, hr_266⟩ := iv_iconst xm_198 xd_198_301 (by decide) hr_263
                    obtain ⟨n_267, e_268, hr_269⟩ := iw_iadd xm_198 xd_198_302 hr_266
                    obtain ⟨h_270, ok_271, em_272, n_274, e_275, hr_276⟩ := iv_puti (j := 4) (fk := 0) xm_198 xd_198_303 (by decide +kernel) ok_248 (rfl : sv_ty 114 = some 12) dt_12 rfl (by decide +kernel) rfl (dc_w_I _) hr_269
                    have rr_277 := iv_return xm_198 xd_198_306 hr_276 rfl
                    subst rr_277
                    exact ⟨_, ⟨0 + 1, lm_198_0.mpr (⟨_, _, d_7, Or.inr ⟨c_20, ⟨_, _, d_56, Or.inl ⟨c_69, ⟨_, em_85, Or.inl ⟨c_104, ⟨_, _, d_114, ⟨_, em_139, ⟨_, em_152, Or.inl ⟨c_171, ⟨_, _, d_181, Or.inl ⟨c_191, ⟨_, _, d_201, Or.inl ⟨c_211, Or.inl ⟨c_224, ⟨_, em_236, ⟨_, em_249, ⟨_, em_272, ⟨rfl, rfl⟩⟩⟩⟩⟩⟩⟩⟩⟩⟩⟩⟩⟩⟩⟩⟩⟩⟩⟩)⟩, rfl, (by unfold sv_I; omega), ok_271⟩
                  · obtain ⟨n_278, e_279, hr_280⟩ := iv_iload_n xm_198 xd_198_271 l_166 hr_227
                    obtain ⟨n_281, e_282, hr_283⟩ := iv_bipush xm_198 xd_198_272 (by decide) hr_280
                    rcases iv_icmp 283 xm_198 xd_198_274 (by decide) iv_116 (by unfold sv_I; omega) hr_283 with ⟨c_284, n_285, e_286, hr_287⟩ | ⟨c_284, n_285, e_286, hr_287⟩
                    · obtain ⟨n_288, e_289, hr_290⟩ := iv_iconst xm_198 xd_198_283 (by decide) hr_287
                      obtain ⟨n_291, e_292, hr_293⟩ := iv_goto 288 xm_198 xd_198_284 (by decide) hr_290
                      obtain ⟨h_294, ok_295, em_296, n_298, e_299, hr_300⟩ := iv_puti (j := 7) (fk := 0) xm_198 xd_198_288 (by decide +kernel) ok_204 (rfl : sv_ty 114 = some 12) dt_12 rfl (by decide +kernel) rfl (by unfold sv_I; omega) hr_293
                      obtain ⟨n_301, e_302, hr_303⟩ := iv_aload_n xm_198 xd_198_291 l_165 hr_300
                      obtain ⟨n_304, e_305, hr_306⟩ := iv_iload_n xm_198 xd_198_292 l_166 hr_303
                      obtain ⟨h_307, ok_308, em_309, n_311, e_312, hr_313⟩ := iv_puti (j := 9) (fk := 0) xm_198 xd_198_293 (by decide +kernel) ok_295 (rfl : sv_ty 114 = some 12) dt_12 rfl (by decide +kernel) rfl iv_116 hr_306
                      obtain ⟨n_314, e_315, hr_316⟩ := iv_aload_n xm_198 xd_198_296 l_165 hr_313
                      obtain ⟨n_317, e_318, hr_319⟩ := iv_dup xm_198 xd_198_297 rfl hr_316
                      have f_320 := dc_fi (j := 4) ok_308 (rfl : sv_ty 114 = some 12) dt_12 rfl
                      obtain ⟨n_321, e_322, hr_323⟩ := iv_getf (j := 4) xm_198 xd_198_298 (by decide +kernel) ok_308 (rfl : sv_ty 114 = some 12) dt_12 f_320.1 hr_319
                      obtain ⟨n_324, e_325, hr_326⟩ := iv_iconst xm_198 xd_198_301 (by decide) hr_323
                      obtain ⟨n_327, e_328, hr_329⟩ := iw_iadd xm_198 xd_198_302 hr_326
                      obtain ⟨h_330, ok_331, em_332, n_334, e_335, hr_336⟩ := iv_puti (j := 4) (fk := 0) xm_198 xd_198_303 (by decide +kernel) ok_308 (rfl : sv_ty 114 = some 12) dt_12 rfl (by decide +kernel) rfl (dc_w_I _) hr_329
                      have rr_337 := iv_return xm_198 xd_198_306 hr_336 rfl
                      subst rr_337
                      exact ⟨_, ⟨0 + 1, lm_198_0.mpr (⟨_, _, d_7, Or.inr ⟨c_20, ⟨_, _, d_56, Or.inl ⟨c_69, ⟨_, em_85, Or.inl ⟨c_104, ⟨_, _, d_114, ⟨_, em_139, ⟨_, em_152, Or.inl ⟨c_171, ⟨_, _, d_181, Or.inl ⟨c_191, ⟨_, _, d_201, Or.inl ⟨c_211, Or.inr ⟨c_224, Or.inl ⟨c_284, ⟨_, em_296, ⟨_, em_309, ⟨_, em_332, ⟨rfl, rfl⟩⟩⟩⟩⟩⟩⟩⟩⟩⟩⟩⟩⟩⟩⟩⟩⟩⟩⟩⟩)⟩, rfl, (by unfold sv_I; omega), ok_331⟩
                    · obtain ⟨n_338, e_339, hr_340⟩ := iv_iload_n xm_198 xd_198_277 l_166 hr_287
                      obtain ⟨n_341, e_342, hr_343⟩ := iv_bipush xm_198 xd_198_278 (by decide) hr_340
                      rcases iv_icmp 287 xm_198 xd_198_280 (by decide) iv_116 (by unfold sv_I; omega) hr_343 with ⟨c_344, n_345, e_346, hr_347⟩ | ⟨c_344, n_345, e_346, hr_347⟩
                      · obtain ⟨n_348, e_349, hr_350⟩ := iv_iconst xm_198 xd_198_287 (by decide) hr_347
                        obtain ⟨h_351, ok_352, em_353, n_355, e_356, hr_357⟩ := iv_puti (j := 7) (fk := 0) xm_198 xd_198_288 (by decide +kernel) ok_204 (rfl : sv_ty 114 = some 12) dt_12 rfl (by decide +kernel) rfl (by unfold sv_I; omega) hr_350
                        obtain ⟨n_358, e_359, hr_360⟩ := iv_aload_n xm_198 xd_198_291 l_165 hr_357
                        obtain ⟨n_361, e_362, hr_363⟩ := iv_iload_n xm_198 xd_198_292 l_166 hr_360
                        obtain ⟨h_364, ok_365, em_366, n_368, e_369, hr_370⟩ := iv_puti (j := 9) (fk := 0) xm_198 xd_198_293 (by decide +kernel) ok_352 (rfl : sv_ty 114 = some 12) dt_12 rfl (by decide +kernel) rfl iv_116 hr_363
                        obtain ⟨n_371, e_372, hr_373⟩ := iv_aload_n xm_198 xd_198_296 l_165 hr_370
                        obtain ⟨n_374, e_375, hr_376⟩ := iv_dup xm_198 xd_198_297 rfl hr_373
                        have f_377 := dc_fi (j := 4) ok_365 (rfl : sv_ty 114 = some 12) dt_12 rfl
                        obtain ⟨n_378, e_379, hr_380⟩ := iv_getf (j := 4) xm_198 xd_198_298 (by decide +kernel) ok_365 (rfl : sv_ty 114 = some 12) dt_12 f_377.1 hr_376
                        obtain ⟨n_381, e_382, hr_383⟩ := iv_iconst xm_198 xd_198_301 (by decide) hr_380
                        obtain ⟨n_384, e_385, hr_386⟩ := iw_iadd xm_198 xd_198_302 hr_383
                        obtain ⟨h_387, ok_388, em_389, n_391, e_392, hr_393⟩ := iv_puti (j := 4) (fk := 0) xm_198 xd_198_303 (by decide +kernel) ok_365 (rfl : sv_ty 114 = some 12) dt_12 rfl (by decide +kernel) rfl (dc_w_I _) hr_386
                        have rr_394 := iv_return xm_198 xd_198_306 hr_393 rfl
                        subst rr_394
                        exact ⟨_, ⟨0 + 1, lm_198_0.mpr (⟨_, _, d_7, Or.inr ⟨c_20, ⟨_, _, d_56, Or.inl ⟨c_69, ⟨_, em_85, Or.inl ⟨c_104, ⟨_, _, d_114, ⟨_, em_139, ⟨_, em_152, Or.inl ⟨c_171, ⟨_, _, d_181, Or.inl ⟨c_191, ⟨_, _, d_201, Or.inl ⟨c_211, Or.inr ⟨c_224, Or.inr ⟨c_284, Or.inl ⟨c_344, ⟨_, em_353, ⟨_, em_366, ⟨_, em_389, ⟨rfl, rfl⟩⟩⟩⟩⟩⟩⟩⟩⟩⟩⟩⟩⟩⟩⟩⟩⟩⟩⟩⟩⟩)⟩, rfl, (by unfold sv_I; omega), ok_388⟩
                      · obtain ⟨n_395, e_396, hr_397⟩ := iv_iconst xm_198 xd_198_283 (by decide) hr_347
                        obtain ⟨n_398, e_399, hr_400⟩ := iv_goto 288 xm_198 xd_198_284 (by decide) hr_397
                        obtain ⟨h_401, ok_402, em_403, n_405, e_406, hr_407⟩ := iv_puti (j := 7) (fk := 0) xm_198 xd_198_288 (by decide +kernel) ok_204 (rfl : sv_ty 114 = some 12) dt_12 rfl (by decide +kernel) rfl (by unfold sv_I; omega) hr_400
                        obtain ⟨n_408, e_409, hr_410⟩ := iv_aload_n xm_198 xd_198_291 l_165 hr_407
                        obtain ⟨n_411, e_412, hr_413⟩ := iv_iload_n xm_198 xd_198_292 l_166 hr_410
                        obtain ⟨h_414, ok_415, em_416, n_418, e_419, hr_420⟩ := iv_puti (j := 9) (fk := 0) xm_198 xd_198_293 (by decide +kernel) ok_402 (rfl : sv_ty 114 = some 12) dt_12 rfl (by decide +kernel) rfl iv_116 hr_413
                        obtain ⟨n_421, e_422, hr_423⟩ := iv_aload_n xm_198 xd_198_296 l_165 hr_420
                        obtain ⟨n_424, e_425, hr_426⟩ := iv_dup xm_198 xd_198_297 rfl hr_423
                        have f_427 := dc_fi (j := 4) ok_415 (rfl : sv_ty 114 = some 12) dt_12 rfl
                        obtain ⟨n_428, e_429, hr_430⟩ := iv_getf (j := 4) xm_198 xd_198_298 (by decide +kernel) ok_415 (rfl : sv_ty 114 = some 12) dt_12 f_427.1 hr_426
                        obtain ⟨n_431, e_432, hr_433⟩ := iv_iconst xm_198 xd_198_301 (by decide) hr_430
                        obtain ⟨n_434, e_435, hr_436⟩ := iw_iadd xm_198 xd_198_302 hr_433
                        obtain ⟨h_437, ok_438, em_439, n_441, e_442, hr_443⟩ := iv_puti (j := 4) (fk := 0) xm_198 xd_198_303 (by decide +kernel) ok_415 (rfl : sv_ty 114 = some 12) dt_12 rfl (by decide +kernel) rfl (dc_w_I _) hr_436
                        have rr_444 := iv_return xm_198 xd_198_306 hr_443 rfl
                        subst rr_444
                        exact ⟨_, ⟨0 + 1, lm_198_0.mpr (⟨_, _, d_7, Or.inr ⟨c_20, ⟨_, _, d_56, Or.inl ⟨c_69, ⟨_, em_85, Or.inl ⟨c_104, ⟨_, _, d_114, ⟨_, em_139, ⟨_, em_152, Or.inl ⟨c_171, ⟨_, _, d_181, Or.inl ⟨c_191, ⟨_, _, d_201, Or.inl ⟨c_211, Or.inr ⟨c_224, Or.inr ⟨c_284, Or.inr ⟨c_344, ⟨_, em_403, ⟨_, em_416, ⟨_, em_439, ⟨rfl, rfl⟩⟩⟩⟩⟩⟩⟩⟩⟩⟩⟩⟩⟩⟩⟩⟩⟩⟩⟩⟩⟩)⟩, rfl, (by unfold sv_I; omega), ok_438⟩
                · obtain ⟨v, ⟨c, hL⟩, e1, e2, e3⟩ := ih2 _ lv_161 h_206 _ _ _ (by omega) ok_204 iv_116 (by unfold sv_I; omega) l_165 l_166 l_167 hr_214
                  exact ⟨v, ⟨c + 1, lm_198_0.mpr (⟨_, _, d_7, Or.inr ⟨c_20, ⟨_, _, d_56, Or.inl ⟨c_69, ⟨_, em_85, Or.inl ⟨c_104, ⟨_, _, d_114, ⟨_, em_139, ⟨_, em_152, Or.inl ⟨c_171, ⟨_, _, d_181, Or.inl ⟨c_191, ⟨_, _, d_201, Or.inr ⟨c_211, hL⟩⟩⟩⟩⟩⟩⟩⟩⟩⟩⟩⟩⟩⟩)⟩, e1, e2, e3⟩
              · obtain ⟨v, ⟨c, hL⟩, e1, e2, e3⟩ := ih1 _ lv_161 h_186 _ _ _ (by omega) ok_184 iv_116 (by unfold sv_I; omega) l_165 l_166 l_167 hr_194
                exact ⟨v, ⟨c + 1, lm_198_0.mpr (⟨_, _, d_7, Or.inr ⟨c_20, ⟨_, _, d_56, Or.inl ⟨c_69, ⟨_, em_85, Or.inl ⟨c_104, ⟨_, _, d_114, ⟨_, em_139, ⟨_, em_152, Or.inl ⟨c_171, ⟨_, _, d_181, Or.inr ⟨c_191, hL⟩⟩⟩⟩⟩⟩⟩⟩⟩⟩⟩⟩)⟩, e1, e2, e3⟩
            · obtain ⟨n_445, e_446, hr_447⟩ := iv_aload_n xm_198 xd_198_96 l_165 hr_174
              obtain ⟨n_448, e_449, hr_450⟩ := iv_iconst xm_198 xd_198_97 (by decide) hr_447
              obtain ⟨h_451, ok_452, em_453, n_455, e_456, hr_457⟩ := iv_puti (j := 7) (fk := 0) xm_198 xd_198_98 (by decide +kernel) ok_151 (rfl : sv_ty 114 = some 12) dt_12 rfl (by decide +kernel) rfl (by unfold sv_I; omega) hr_450
              obtain ⟨n_458, e_459, hr_460⟩ := iv_goto 306 xm_198 xd_198_101 (by decide) hr_457
              have rr_461 := iv_return xm_198 xd_198_306 hr_460 rfl
              subst rr_461
              exact ⟨_, ⟨0 + 1, lm_198_0.mpr (⟨_, _, d_7, Or.inr ⟨c_20, ⟨_, _, d_56, Or.inl ⟨c_69, ⟨_, em_85, Or.inl ⟨c_104, ⟨_, _, d_114, ⟨_, em_139, ⟨_, em_152, Or.inr ⟨c_171, ⟨_, em_453, ⟨rfl, rfl⟩⟩⟩⟩⟩⟩⟩⟩⟩⟩⟩⟩)⟩, rfl, (by unfold sv_I; omega), ok_452⟩
          · obtain ⟨n_462, e_463, hr_464⟩ := iv_aload_n xm_198 xd_198_50 q0 hr_107
            have f_465 := dc_fi (j := 4) ok_84 (rfl : sv_ty 114 = some 12) dt_12 rfl
            obtain ⟨n_466, e_467, hr_468⟩ := iv_getf (j := 4) xm_198 xd_198_51 (by decide +kernel) ok_84 (rfl : sv_ty 114 = some 12) dt_12 f_465.1 hr_464
            obtain ⟨n_469, e_470, hr_471⟩ := iv_aload_n xm_198 xd_198_54 q0 hr_468
            have f_472 := dc_fi (j := 12) ok_84 (rfl : sv_ty 114 = some 12) dt_12 rfl
            obtain ⟨n_473, e_474, hr_475⟩ := iv_getf (j := 12) xm_198 xd_198_55 (by decide +kernel) ok_84 (rfl : sv_ty 114 = some 12) dt_12 f_472.1 hr_471
            rcases iv_icmp 75 xm_198 xd_198_58 (by decide) f_465.2 f_472.2 hr_475 with ⟨c_476, n_477, e_478, hr_479⟩ | ⟨c_476, n_477, e_478, hr_479⟩
            · obtain ⟨n_480, e_481, hr_482⟩ := iv_aload_n xm_198 xd_198_75 q0 hr_479
              obtain ⟨n_492, r_483, e_493, hc_484, hr_494⟩ := iv_call (Or.inr ⟨rfl, rfl⟩) xm_198 xd_198_76 (by decide +kernel) xm_195 rfl (by decide +kernel) hr_482
              obtain ⟨v_485, d_486, er_487, iv_488, ok_489⟩ := ds_195 _  ok_84 hc_484
              obtain ⟨_, h_491⟩ := r_483
              have er_487 : _ = some (wk_i v_485) := er_487
              subst er_487
              have hr_495 : ae_exe n_492 198 (76 + 3) 0 0 lv _ h_491 = some r := hr_494
              obtain ⟨lv_497, sl_496, n_498, e_499, hr_500⟩ := iv_istore_n xm_198 xd_198_79 (by decide +kernel) hr_495
              have l_501 := sl_496.2 0 _ q0 (by decide) (Or.inl rfl)
              have l_502 := sl_496.1
              obtain ⟨n_503, e_504, hr_505⟩ := iv_aload_n xm_198 xd_198_80 l_501 hr_500
              obtain ⟨n_506, e_507, hr_508⟩ := iv_lconst xm_198 xd_198_81 hr_505
              obtain ⟨h_509, ok_510, em_511, n_513, e_514, hr_515⟩ := iv_putf (j := 13) (f := (4, 0)) (fk := 3) xm_198 xd_198_82 (by decide +kernel) ok_489 (rfl : sv_ty 114 = some 12) dt_12 rfl (by decide +kernel) rfl ⟨_, (by decide), rfl⟩ hr_508
              obtain ⟨n_516, e_517, hr_518⟩ := iv_aload_n xm_198 xd_198_85 l_501 hr_515
              obtain ⟨n_519, e_520, hr_521⟩ := iv_iconst xm_198 xd_198_86 (by decide) hr_518
              obtain ⟨h_522, ok_523, em_524, n_526, e_527, hr_528⟩ := iv_puti (j := 9) (fk := 0) xm_198 xd_198_87 (by decide +kernel) ok_510 (rfl : sv_ty 114 = some 12) dt_12 rfl (by decide +kernel) rfl (by unfold sv_I; omega) hr_521
              obtain ⟨n_529, e_530, hr_531⟩ := iv_iconst xm_198 xd_198_90 (by decide) hr_528
              obtain ⟨lv_533, sl_532, n_534, e_535, hr_536⟩ := iv_istore_n xm_198 xd_198_91 (by decide +kernel) hr_531
              have l_537 := sl_532.2 0 _ l_501 (by decide) (Or.inl rfl)
              have l_538 := sl_532.2 1 _ l_502 (by decide) (Or.inl rfl)
              have l_539 := sl_532.1
              obtain ⟨n_540, e_541, hr_542⟩ := iv_iload_n xm_198 xd_198_92 l_538 hr_536
              rcases iv_if 104 xm_198 xd_198_93 (by decide) iv_488 hr_542 with ⟨c_543, n_544, e_545, hr_546⟩ | ⟨c_543, n_544, e_545, hr_546⟩
              · obtain ⟨n_547, e_548, hr_549⟩ := iv_iload_n xm_198 xd_198_104 l_538 hr_546
                obtain ⟨n_559, r_550, e_560, hc_551, hr_561⟩ := iv_call (Or.inl ⟨rfl, rfl⟩) xm_198 xd_198_105 (by decide +kernel) xm_196 rfl (by decide +kernel) hr_549
                obtain ⟨v_552, d_553, er_554, iv_555, ok_556⟩ := ds_196 _ _ ok_523 iv_488 hc_551
                obtain ⟨_, h_558⟩ := r_550
                have er_554 : _ = some (wk_i v_552) := er_554
                subst er_554
                have hr_562 : ae_exe n_559 198 (105 + 3) 0 0 lv_533 _ h_558 = some r := hr_561
                rcases iv_if 183 xm_198 xd_198_108 (by decide) iv_555 hr_562 with ⟨c_563, n_564, e_565, hr_566⟩ | ⟨c_563, n_564, e_565, hr_566⟩
                · obtain ⟨n_567, e_568, hr_569⟩ := iv_iload_n xm_198 xd_198_183 l_538 hr_566
                  obtain ⟨n_579, r_570, e_580, hc_571, hr_581⟩ := iv_call (Or.inl ⟨rfl, rfl⟩) xm_198 xd_198_184 (by decide +kernel) xm_197 rfl (by decide +kernel) hr_569
                  obtain ⟨v_572, d_573, er_574, iv_575, ok_576⟩ := ds_197 _ _ ok_556 iv_488 hc_571
                  obtain ⟨_, h_578⟩ := r_570
                  have er_574 : _ = some (wk_i v_572) := er_574
                  subst er_574
                  have hr_582 : ae_exe n_579 198 (184 + 3) 0 0 lv_533 _ h_578 = some r := hr_581
                  rcases iv_if 264 xm_198 xd_198_187 (by decide) iv_575 hr_582 with ⟨c_583, n_584, e_585, hr_586⟩ | ⟨c_583, n_584, e_585, hr_586⟩
                  · obtain ⟨n_587, e_588, hr_589⟩ := iv_aload_n xm_198 xd_198_264 l_537 hr_586
                    obtain ⟨n_590, e_591, hr_592⟩ := iv_iload_n xm_198 xd_198_265 l_538 hr_589
                    obtain ⟨n_593, e_594, hr_595⟩ := iv_bipush xm_198 xd_198_266 (by decide) hr_592
                    rcases iv_icmp 283 xm_198 xd_198_268 (by decide) iv_488 (by unfold sv_I; omega) hr_595 with ⟨c_596, n_597, e_598, hr_599⟩ | ⟨c_596, n_597, e_598, hr_599⟩
                    · obtain ⟨n_600, e_601, hr_602⟩ := iv_iconst xm_198 xd_198_283 (by decide) hr_599
                      obtain ⟨n_603, e_604, hr_605⟩ := iv_goto 288 xm_198 xd_198_284 (by decide) hr_602
                      obtain ⟨h_606, ok_607, em_608, n_610, e_611, hr_612⟩ := iv_puti (j := 7) (fk := 0) xm_198 xd_198_288 (by decide +kernel) ok_576 (rfl : sv_ty 114 = some 12) dt_12 rfl (by decide +kernel) rfl (by unfold sv_I; omega) hr_605
                      obtain ⟨n_613, e_614, hr_615⟩ := iv_aload_n xm_198 xd_198_291 l_537 hr_612
                      obtain ⟨n_616, e_617, hr_618⟩ := iv_iload_n xm_198 xd_198_292 l_538 hr_615
                      obtain ⟨h_619, ok_620, em_621, n_623, e_624, hr_625⟩ := iv_puti (j := 9) (fk := 0) xm_198 xd_198_293 (by decide +kernel) ok_607 (rfl : sv_ty 114 = some 12) dt_12 rfl (by decide +kernel) rfl iv_488 hr_618
                      obtain ⟨n_626, e_627, hr_628⟩ := iv_aload_n xm_198 xd_198_296 l_537 hr_625
                      obtain ⟨n_629, e_630, hr_631⟩ := iv_dup xm_198 xd_198_297 rfl hr_628
                      have f_632 := dc_fi (j := 4) ok_620 (rfl : sv_ty 114 = some 12) dt_12 rfl
                      obtain ⟨n_633, e_634, hr_635⟩ := iv_getf (j := 4) xm_198 xd_198_298 (by decide +kernel) ok_620 (rfl : sv_ty 114 = some 12) dt_12 f_632.1 hr_631
                      obtain ⟨n_636, e_637, hr_638⟩ := iv_iconst xm_198 xd_198_301 (by decide) hr_635
                      obtain ⟨n_639, e_640, hr_641⟩ := iw_iadd xm_198 xd_198_302 hr_638
                      obtain ⟨h_642, ok_643, em_644, n_646, e_647, hr_648⟩ := iv_puti (j := 4) (fk := 0) xm_198 xd_198_303 (by decide +kernel) ok_620 (rfl : sv_ty 114 = some 12) dt_12 rfl (by decide +kernel) rfl (dc_w_I _) hr_641
                      have rr_649 := iv_return xm_198 xd_198_306 hr_648 rfl
                      subst rr_649
                      exact ⟨_, ⟨0 + 1, lm_198_0.mpr (⟨_, _, d_7, Or.inr ⟨c_20, ⟨_, _, d_56, Or.inl ⟨c_69, ⟨_, em_85, Or.inr ⟨c_104, Or.inl ⟨c_476, ⟨_, _, d_486, ⟨_, em_511, ⟨_, em_524, Or.inl ⟨c_543, ⟨_, _, d_553, Or.inl ⟨c_563, ⟨_, _, d_573, Or.inl ⟨c_583, Or.inl ⟨c_596, ⟨_, em_608, ⟨_, em_621, ⟨_, em_644, ⟨rfl, rfl⟩⟩⟩⟩⟩⟩⟩⟩⟩⟩⟩⟩⟩⟩⟩⟩⟩⟩⟩⟩)⟩, rfl, (by unfold sv_I; omega), ok_643⟩
                    · obtain ⟨n_650, e_651, hr_652⟩ := iv_iload_n xm_198 xd_198_271 l_538 hr_599
                      obtain ⟨n_653, e_654, hr_655⟩ := iv_bipush xm_198 xd_198_272 (by decide) hr_652
                      rcases iv_icmp 283 xm_198 xd_198_274 (by decide) iv_488 (by unfold sv_I; omega) hr_655 with ⟨c_656, n_657, e_658, hr_659⟩ | ⟨c_656, n_657, e_658, hr_659⟩
                      · obtain ⟨n_660, e_661, hr_662⟩ := iv_iconst xm_198 xd_198_283 (by decide) hr_659
                        obtain ⟨n_663, e_664, hr_665⟩ := iv_goto 288 xm_198 xd_198_284 (by decide) hr_662
                        obtain ⟨h_666, ok_667, em_668, n_670, e_671, hr_672⟩ := iv_puti (j := 7) (fk := 0) xm_198 xd_198_288 (by decide +kernel) ok_576 (rfl : sv_ty 114 = some 12) dt_12 rfl (by decide +kernel) rfl (by unfold sv_I; omega) hr_665
                        obtain ⟨n_673, e_674, hr_675⟩ := iv_aload_n xm_198 xd_198_291 l_537 hr_672
                        obtain ⟨n_676, e_677, hr_678⟩ := iv_iload_n xm_198 xd_198_292 l_538 hr_675
                        obtain ⟨h_679, ok_680, em_681, n_683, e_684, hr_685⟩ := iv_puti (j := 9) (fk := 0) xm_198 xd_198_293 (by decide +kernel) ok_667 (rfl : sv_ty 114 = some 12) dt_12 rfl (by decide +kernel) rfl iv_488 hr_678
                        obtain ⟨n_686, e_687, hr_688⟩ := iv_aload_n xm_198 xd_198_296 l_537 hr_685
                        obtain ⟨n_689, e_690, hr_691⟩ := iv_dup xm_198 xd_198_297 rfl hr_688
                        have f_692 := dc_fi (j := 4) ok_680 (rfl : sv_ty 114 = some 12) dt_12 rfl
                        obtain ⟨n_693, e_694, hr_695⟩ := iv_getf (j := 4) xm_198 xd_198_298 (by decide +kernel) ok_680 (rfl : sv_ty 114 = some 12) dt_12 f_692.1 hr_691
                        obtain ⟨n_696, e_697, hr_698⟩ := iv_iconst xm_198 xd_198_301 (by decide) hr_695
                        obtain ⟨n_699, e_700, hr_701⟩ := iw_iadd xm_198 xd_198_302 hr_698
                        obtain ⟨h_702, ok_703, em_704, n_706, e_707, hr_708⟩ := iv_puti (j := 4) (fk := 0) xm_198 xd_198_303 (by decide +kernel) ok_680 (rfl : sv_ty 114 = some 12) dt_12 rfl (by decide +kernel) rfl (dc_w_I _) hr_701
                        have rr_709 := iv_return xm_198 xd_198_306 hr_708 rfl
                        subst rr_709
                        exact ⟨_, ⟨0 + 1, lm_198_0.mpr (⟨_, _, d_7, Or.inr ⟨c_20, ⟨_, _, d_56, Or.inl ⟨c_69, ⟨_, em_85, Or.inr ⟨c_104, Or.inl ⟨c_476, ⟨_, _, d_486, ⟨_, em_511, ⟨_, em_524, Or.inl ⟨c_543, ⟨_, _, d_553, Or.inl ⟨c_563, ⟨_, _, d_573, Or.inl ⟨c_583, Or.inr ⟨c_596, Or.inl ⟨c_656, ⟨_, em_668, ⟨_, em_681, ⟨_, em_704, ⟨rfl, rfl⟩⟩⟩⟩⟩⟩⟩⟩⟩⟩⟩⟩⟩⟩⟩⟩⟩⟩⟩⟩⟩)⟩, rfl, (by unfold sv_I; omega), ok_703⟩
                      · obtain ⟨n_710, e_711, hr_712⟩ := iv_iload_n xm_198 xd_198_277 l_538 hr_659
                        obtain ⟨n_713, e_714, hr_715⟩ := iv_bipush xm_198 xd_198_278 (by decide) hr_712
                        rcases iv_icmp 287 xm_198 xd_198_280 (by decide) iv_488 (by unfold sv_I; omega) hr_715 with ⟨c_716, n_717, e_718, hr_719⟩ | ⟨c_716, n_717, e_718, hr_719⟩
                        · obtain ⟨n_720, e_721, hr_722⟩ := iv_iconst xm_198 xd_198_287 (by decide) hr_719
                          obtain ⟨h_723, ok_724, em_725, n_727, e_728, hr_729⟩ := iv_puti (j := 7) (fk := 0) xm_198 xd_198_288 (by decide +kernel) ok_576 (rfl : sv_ty 114 = some 12) dt_12 rfl (by decide +kernel) rfl (by unfold sv_I; omega) hr_722
                          obtain ⟨n_730, e_731, hr_732⟩ := iv_aload_n xm_198 xd_198_291 l_537 hr_729
                          obtain ⟨n_733, e_734, hr_735⟩ := iv_iload_n xm_198 xd_198_292 l_538 hr_732
                          obtain ⟨h_736, ok_737, em_738, n_740, e_741, hr_742⟩ := iv_puti (j := 9) (fk := 0) xm_198 xd_198_293 (by decide +kernel) ok_724 (rfl : sv_ty 114 = some 12) dt_12 rfl (by decide +kernel) rfl iv_488 hr_735
                          obtain ⟨n_743, e_744, hr_745⟩ := iv_aload_n xm_198 xd_198_296 l_537 hr_742
                          obtain ⟨n_746, e_747, hr_748⟩ := iv_dup xm_198 xd_198_297 rfl hr_745
                          have f_749 := dc_fi (j := 4) ok_737 (rfl : sv_ty 114 = some 12) dt_12 rfl
                          obtain ⟨n_750, e_751, hr_752⟩ := iv_getf (j := 4) xm_198 xd_198_298 (by decide +kernel) ok_737 (rfl : sv_ty 114 = some 12) dt_12 f_749.1 hr_748
                          obtain ⟨n_753, e_754, hr_755⟩ := iv_iconst xm_198 xd_198_301 (by decide) hr_752
                          obtain ⟨n_756, e_757, hr_758⟩ := iw_iadd xm_198 xd_198_302 hr_755
                          obtain ⟨h_759, ok_760, em_761, n_763, e_764, hr_765⟩ := iv_puti (j := 4) (fk := 0) xm_198 xd_198_303 (by decide +kernel) ok_737 (rfl : sv_ty 114 = some 12) dt_12 rfl (by decide +kernel) rfl (dc_w_I _) hr_758
                          have rr_766 := iv_return xm_198 xd_198_306 hr_765 rfl
                          subst rr_766
                          exact ⟨_, ⟨0 + 1, lm_198_0.mpr (⟨_, _, d_7, Or.inr ⟨c_20, ⟨_, _, d_56, Or.inl ⟨c_69, ⟨_, em_85, Or.inr ⟨c_104, Or.inl ⟨c_476, ⟨_, _, d_486, ⟨_, em_511, ⟨_, em_524, Or.inl ⟨c_543, ⟨_, _, d_553, Or.inl ⟨c_563, ⟨_, _, d_573, Or.inl ⟨c_583, Or.inr ⟨c_596, Or.inr ⟨c_656, Or.inl ⟨c_716, ⟨_, em_725, ⟨_, em_738, ⟨_, em_761, ⟨rfl, rfl⟩⟩⟩⟩⟩⟩⟩⟩⟩⟩⟩⟩⟩⟩⟩⟩⟩⟩⟩⟩⟩⟩)⟩, rfl, (by unfold sv_I; omega), ok_760⟩
                        · obtain ⟨n_767, e_768, hr_769⟩ := iv_iconst xm_198 xd_198_283 (by decide) hr_719
                          obtain ⟨n_770, e_771, hr_772⟩ := iv_goto 288 xm_198 xd_198_284 (by decide) hr_769
                          obtain ⟨h_773, ok_774, em_775, n_777, e_778, hr_779⟩ := iv_puti (j := 7) (fk := 0) xm_198 xd_198_288 (by decide +kernel) ok_576 (rfl : sv_ty 114 = some 12) dt_12 rfl (by decide +kernel) rfl (by unfold sv_I; omega) hr_772
                          obtain ⟨n_780, e_781, hr_782⟩ := iv_aload_n xm_198 xd_198_291 l_537 hr_779
                          obtain ⟨n_783, e_784, hr_785⟩ := iv_iload_n xm_198 xd_198_292 l_538 hr_782
                          obtain ⟨h_786, ok_787, em_788, n_790, e_791, hr_792⟩ := iv_puti (j := 9) (fk := 0) xm_198 xd_198_293 (by decide +kernel) ok_774 (rfl : sv_ty 114 = some 12) dt_12 rfl (by decide +kernel) rfl iv_488 hr_785
                          obtain ⟨n_793, e_794, hr_795⟩ := iv_aload_n xm_198 xd_198_296 l_537 hr_792
                          obtain ⟨n_796, e_797, hr_798⟩ := iv_dup xm_198 xd_198_297 rfl hr_795
                          have f_799 := dc_fi (j := 4) ok_787 (rfl : sv_ty 114 = some 12) dt_12 rfl
                          obtain ⟨n_800, e_801, hr_802⟩ := iv_getf (j := 4) xm_198 xd_198_298 (by decide +kernel) ok_787 (rfl : sv_ty 114 = some 12) dt_12 f_799.1 hr_798
                          obtain ⟨n_803, e_804, hr_805⟩ := iv_iconst xm_198 xd_198_301 (by decide) hr_802
                          obtain ⟨n_806, e_807, hr_808⟩ := iw_iadd xm_198 xd_198_302 hr_805
                          obtain ⟨h_809, ok_810, em_811, n_813, e_814, hr_815⟩ := iv_puti (j := 4) (fk := 0) xm_198 xd_198_303 (by decide +kernel) ok_787 (rfl : sv_ty 114 = some 12) dt_12 rfl (by decide +kernel) rfl (dc_w_I _) hr_808
                          have rr_816 := iv_return xm_198 xd_198_306 hr_815 rfl
                          subst rr_816
                          exact ⟨_, ⟨0 + 1, lm_198_0.mpr (⟨_, _, d_7, Or.inr ⟨c_20, ⟨_, _, d_56, Or.inl ⟨c_69, ⟨_, em_85, Or.inr ⟨c_104, Or.inl ⟨c_476, ⟨_, _, d_486, ⟨_, em_511, ⟨_, em_524, Or.inl ⟨c_543, ⟨_, _, d_553, Or.inl ⟨c_563, ⟨_, _, d_573, Or.inl ⟨c_583, Or.inr ⟨c_596, Or.inr ⟨c_656, Or.inr ⟨c_716, ⟨_, em_775, ⟨_, em_788, ⟨_, em_811, ⟨rfl, rfl⟩⟩⟩⟩⟩⟩⟩⟩⟩⟩⟩⟩⟩⟩⟩⟩⟩⟩⟩⟩⟩⟩)⟩, rfl, (by unfold sv_I; omega), ok_810⟩
                  · obtain ⟨v, ⟨c, hL⟩, e1, e2, e3⟩ := ih2 _ lv_533 h_578 _ _ _ (by omega) ok_576 iv_488 (by unfold sv_I; omega) l_537 l_538 l_539 hr_586
                    exact ⟨v, ⟨c + 1, lm_198_0.mpr (⟨_, _, d_7, Or.inr ⟨c_20, ⟨_, _, d_56, Or.inl ⟨c_69, ⟨_, em_85, Or.inr ⟨c_104, Or.inl ⟨c_476, ⟨_, _, d_486, ⟨_, em_511, ⟨_, em_524, Or.inl ⟨c_543, ⟨_, _, d_553, Or.inl ⟨c_563, ⟨_, _, d_573, Or.inr ⟨c_583, hL⟩⟩⟩⟩⟩⟩⟩⟩⟩⟩⟩⟩⟩⟩⟩)⟩, e1, e2, e3⟩
                · obtain ⟨v, ⟨c, hL⟩, e1, e2, e3⟩ := ih1 _ lv_533 h_558 _ _ _ (by omega) ok_556 iv_488 (by unfold sv_I; omega) l_537 l_538 l_539 hr_566
                  exact ⟨v, ⟨c + 1, lm_198_0.mpr (⟨_, _, d_7, Or.inr ⟨c_20, ⟨_, _, d_56, Or.inl ⟨c_69, ⟨_, em_85, Or.inr ⟨c_104, Or.inl ⟨c_476, ⟨_, _, d_486, ⟨_, em_511, ⟨_, em_524, Or.inl ⟨c_543, ⟨_, _, d_553, Or.inr ⟨c_563, hL⟩⟩⟩⟩⟩⟩⟩⟩⟩⟩⟩⟩⟩)⟩, e1, e2, e3⟩
              · obtain ⟨n_817, e_818, hr_819⟩ := iv_aload_n xm_198 xd_198_96 l_537 hr_546
                obtain ⟨n_820, e_821, hr_822⟩ := iv_iconst xm_198 xd_198_97 (by decide) hr_819
                obtain ⟨h_823, ok_824, em_825, n_827, e_828, hr_829⟩ := iv_puti (j := 7) (fk := 0) xm_198 xd_198_98 (by decide +kernel) ok_523 (rfl : sv_ty 114 = some 12) dt_12 rfl (by decide +kernel) rfl (by unfold sv_I; omega) hr_822
                obtain ⟨n_830, e_831, hr_832⟩ := iv_goto 306 xm_198 xd_198_101 (by decide) hr_829
                have rr_833 := iv_return xm_198 xd_198_306 hr_832 rfl
                subst rr_833
                exact ⟨_, ⟨0 + 1, lm_198_0.mpr (⟨_, _, d_7, Or.inr ⟨c_20, ⟨_, _, d_56, Or.inl ⟨c_69, ⟨_, em_85, Or.inr ⟨c_104, Or.inl ⟨c_476, ⟨_, _, d_486, ⟨_, em_511, ⟨_, em_524, Or.inr ⟨c_543, ⟨_, em_825, ⟨rfl, rfl⟩⟩⟩⟩⟩⟩⟩⟩⟩⟩⟩⟩⟩)⟩, rfl, (by unfold sv_I; omega), ok_824⟩
            · obtain ⟨n_834, e_835, hr_836⟩ := iv_aload_n xm_198 xd_198_61 q0 hr_479
              obtain ⟨n_837, e_838, hr_839⟩ := iv_aload_n xm_198 xd_198_62 q0 hr_836
              have f_840 := dc_fi (j := 12) ok_84 (rfl : sv_ty 114 = some 12) dt_12 rfl
              obtain ⟨n_841, e_842, hr_843⟩ := iv_getf (j := 12) xm_198 xd_198_63 (by decide +kernel) ok_84 (rfl : sv_ty 114 = some 12) dt_12 f_840.1 hr_839
              obtain ⟨h_844, ok_845, em_846, n_848, e_849, hr_850⟩ := iv_puti (j := 8) (fk := 0) xm_198 xd_198_66 (by decide +kernel) ok_84 (rfl : sv_ty 114 = some 12) dt_12 rfl (by decide +kernel) rfl f_840.2 hr_843
              obtain ⟨n_851, e_852, hr_853⟩ := iv_aload_n xm_198 xd_198_69 q0 hr_850
              obtain ⟨n_854, e_855, hr_856⟩ := iv_iconst xm_198 xd_198_70 (by decide) hr_853
              obtain ⟨h_857, ok_858, em_859, n_861, e_862, hr_863⟩ := iv_puti (j := 7) (fk := 0) xm_198 xd_198_71 (by decide +kernel) ok_845 (rfl : sv_ty 114 = some 12) dt_12 rfl (by decide +kernel) rfl (by unfold sv_I; omega) hr_856
              have rr_864 := iv_return xm_198 xd_198_74 hr_863 rfl
              subst rr_864
              exact ⟨_, ⟨0 + 1, lm_198_0.mpr (⟨_, _, d_7, Or.inr ⟨c_20, ⟨_, _, d_56, Or.inl ⟨c_69, ⟨_, em_85, Or.inr ⟨c_104, Or.inr ⟨c_476, ⟨_, em_846, ⟨_, em_859, ⟨rfl, rfl⟩⟩⟩⟩⟩⟩⟩⟩⟩⟩)⟩, rfl, (by unfold sv_I; omega), ok_858⟩
        · obtain ⟨n_865, e_866, hr_867⟩ := iv_aload_n xm_198 xd_198_18 q0 hr_72
          obtain ⟨n_868, e_869, hr_870⟩ := iv_dup xm_198 xd_198_19 rfl hr_867
          have f_871 := dc_fi (j := 4) ok_59 (rfl : sv_ty 114 = some 12) dt_12 rfl
          obtain ⟨n_872, e_873, hr_874⟩ := iv_getf (j := 4) xm_198 xd_198_20 (by decide +kernel) ok_59 (rfl : sv_ty 114 = some 12) dt_12 f_871.1 hr_870
          obtain ⟨n_875, e_876, hr_877⟩ := iv_iconst xm_198 xd_198_23 (by decide) hr_874
          obtain ⟨n_878, e_879, hr_880⟩ := iw_iadd xm_198 xd_198_24 hr_877
          obtain ⟨h_881, ok_882, em_883, n_885, e_886, hr_887⟩ := iv_puti (j := 4) (fk := 0) xm_198 xd_198_25 (by decide +kernel) ok_59 (rfl : sv_ty 114 = some 12) dt_12 rfl (by decide +kernel) rfl (dc_w_I _) hr_880
          obtain ⟨n_888, e_889, hr_890⟩ := iv_goto 0 xm_198 xd_198_28 (by decide) hr_887
          obtain ⟨v, ⟨c, hL⟩, e1, e2, e3⟩ := ih0 _ lv h_881 _  (by omega) ok_882  q0 hr_890
          exact ⟨v, ⟨c + 1, lm_198_0.mpr (⟨_, _, d_7, Or.inr ⟨c_20, ⟨_, _, d_56, Or.inr ⟨c_69, ⟨_, em_883, hL⟩⟩⟩⟩⟩)⟩, e1, e2, e3⟩
    · intro n lv h r l1 l2 hn ok il1 il2 q0 q1 q2 hr
      obtain ⟨n_891, e_892, hr_893⟩ := iv_aload_n xm_198 xd_198_111 q0 hr
      obtain ⟨n_903, r_894, e_904, hc_895, hr_905⟩ := iv_call (Or.inr ⟨rfl, rfl⟩) xm_198 xd_198_112 (by decide +kernel) xm_195 rfl (by decide +kernel) hr_893
      obtain ⟨v_896, d_897, er_898, iv_899, ok_900⟩ := ds_195 _  ok hc_895
      obtain ⟨_, h_902⟩ := r_894
      have er_898 : _ = some (wk_i v_896) := er_898
      subst er_898
      have hr_906 : ae_exe n_903 198 (112 + 3) 0 0 lv _ h_902 = some r := hr_905
      obtain ⟨n_916, r_907, e_917, hc_908, hr_918⟩ := iv_call (Or.inl ⟨rfl, rfl⟩) xm_198 xd_198_115 (by decide +kernel) xm_196 rfl (by decide +kernel) hr_906
      obtain ⟨v_909, d_910, er_911, iv_912, ok_913⟩ := ds_196 _ _ ok_900 iv_899 hc_908
      obtain ⟨_, h_915⟩ := r_907
      have er_911 : _ = some (wk_i v_909) := er_911
      subst er_911
      have hr_919 : ae_exe n_916 198 (115 + 3) 0 0 lv _ h_915 = some r := hr_918
      rcases iv_if 166 xm_198 xd_198_118 (by decide) iv_912 hr_919 with ⟨c_920, n_921, e_922, hr_923⟩ | ⟨c_920, n_921, e_922, hr_923⟩
      · obtain ⟨n_924, e_925, hr_926⟩ := iv_aload_n xm_198 xd_198_166 q0 hr_923
        obtain ⟨n_927, e_928, hr_929⟩ := iv_iload_n xm_198 xd_198_167 q2 hr_926
        obtain ⟨n_930, e_931, hr_932⟩ := iv_iconst xm_198 xd_198_168 (by decide) hr_929
        rcases iv_icmp 176 xm_198 xd_198_169 (by decide) il2 (by unfold sv_I; omega) hr_932 with ⟨c_933, n_934, e_935, hr_936⟩ | ⟨c_933, n_934, e_935, hr_936⟩
        · obtain ⟨n_937, e_938, hr_939⟩ := iv_iconst xm_198 xd_198_176 (by decide) hr_936
          obtain ⟨h_940, ok_941, em_942, n_944, e_945, hr_946⟩ := iv_puti (j := 7) (fk := 0) xm_198 xd_198_177 (by decide +kernel) ok_913 (rfl : sv_ty 114 = some 12) dt_12 rfl (by decide +kernel) rfl (by unfold sv_I; omega) hr_939
          obtain ⟨n_947, e_948, hr_949⟩ := iv_goto 306 xm_198 xd_198_180 (by decide) hr_946
          have rr_950 := iv_return xm_198 xd_198_306 hr_949 rfl
          subst rr_950
          exact ⟨_, ⟨0 + 1, lm_198_111.mpr (⟨_, _, d_897, ⟨_, _, d_910, Or.inl ⟨c_920, Or.inl ⟨c_933, ⟨_, em_942, ⟨rfl, rfl⟩⟩⟩⟩⟩⟩)⟩, rfl, (by unfold sv_I; omega), ok_941⟩
        · obtain ⟨n_951, e_952, hr_953⟩ := iv_iconst xm_198 xd_198_172 (by decide) hr_936
          obtain ⟨n_954, e_955, hr_956⟩ := iv_goto 177 xm_198 xd_198_173 (by decide) hr_953
          obtain ⟨h_957, ok_958, em_959, n_961, e_962, hr_963⟩ := iv_puti (j := 7) (fk := 0) xm_198 xd_198_177 (by decide +kernel) ok_913 (rfl : sv_ty 114 = some 12) dt_12 rfl (by decide +kernel) rfl (by unfold sv_I; omega) hr_956
          obtain ⟨n_964, e_965, hr_966⟩ := iv_goto 306 xm_198 xd_198_180 (by decide) hr_963
          have rr_967 := iv_return xm_198 xd_198_306 hr_966 rfl
          subst rr_967
          exact ⟨_, ⟨0 + 1, lm_198_111.mpr (⟨_, _, d_897, ⟨_, _, d_910, Or.inl ⟨c_920, Or.inr ⟨c_933, ⟨_, em_959, ⟨rfl, rfl⟩⟩⟩⟩⟩⟩)⟩, rfl, (by unfold sv_I; omega), ok_958⟩
      · obtain ⟨n_968, e_969, hr_970⟩ := iv_aload_n xm_198 xd_198_121 q0 hr_923
        obtain ⟨n_971, e_972, hr_973⟩ := iv_iload_n xm_198 xd_198_122 q2 hr_970
        obtain ⟨n_974, e_975, hr_976⟩ := iv_iconst xm_198 xd_198_123 (by decide) hr_973
        rcases iv_icmp 143 xm_198 xd_198_124 (by decide) il2 (by unfold sv_I; omega) hr_976 with ⟨c_977, n_978, e_979, hr_980⟩ | ⟨c_977, n_978, e_979, hr_980⟩
        · obtain ⟨n_981, e_982, hr_983⟩ := iv_aload_n xm_198 xd_198_143 q0 hr_980
          have f_984 := dc_fl (j := 13) ok_913 (rfl : sv_ty 114 = some 12) dt_12 rfl
          obtain ⟨n_985, e_986, hr_987⟩ := iv_getf (j := 13) xm_198 xd_198_144 (by decide +kernel) ok_913 (rfl : sv_ty 114 = some 12) dt_12 f_984.1 hr_983
          obtain ⟨h_988, ok_989, em_990, n_992, e_993, hr_994⟩ := iv_putf (j := 13) (f := (4, 0)) (fk := 3) xm_198 xd_198_147 (by decide +kernel) ok_913 (rfl : sv_ty 114 = some 12) dt_12 rfl (by decide +kernel) rfl ⟨_, f_984.2, rfl⟩ hr_987
          obtain ⟨lv_996, sl_995, n_997, e_998, hr_999⟩ := iw_iinc xm_198 xd_198_150 (by decide +kernel) (by decide) q2 hr_994
          have l_1000 := sl_995.2 0 _ q0 (by decide) (Or.inl rfl)
          have l_1001 := sl_995.2 1 _ q1 (by decide) (Or.inl rfl)
          have l_1002 := sl_995.1
          obtain ⟨n_1003, e_1004, hr_1005⟩ := iv_aload_n xm_198 xd_198_153 l_1000 hr_999
          obtain ⟨n_1006, e_1007, hr_1008⟩ := iv_dup xm_198 xd_198_154 rfl hr_1005
          have f_1009 := dc_fi (j := 4) ok_989 (rfl : sv_ty 114 = some 12) dt_12 rfl
          obtain ⟨n_1010, e_1011, hr_1012⟩ := iv_getf (j := 4) xm_198 xd_198_155 (by decide +kernel) ok_989 (rfl : sv_ty 114 = some 12) dt_12 f_1009.1 hr_1008
          obtain ⟨n_1013, e_1014, hr_1015⟩ := iv_iconst xm_198 xd_198_158 (by decide) hr_1012
          obtain ⟨n_1016, e_1017, hr_1018⟩ := iw_iadd xm_198 xd_198_159 hr_1015
          obtain ⟨h_1019, ok_1020, em_1021, n_1023, e_1024, hr_1025⟩ := iv_puti (j := 4) (fk := 0) xm_198 xd_198_160 (by decide +kernel) ok_989 (rfl : sv_ty 114 = some 12) dt_12 rfl (by decide +kernel) rfl (dc_w_I _) hr_1018
          obtain ⟨n_1026, e_1027, hr_1028⟩ := iv_goto 111 xm_198 xd_198_163 (by decide) hr_1025
          obtain ⟨v, ⟨c, hL⟩, e1, e2, e3⟩ := ih1 _ lv_996 h_1019 _ _ _ (by omega) ok_1020 il1 (dc_w_I _) l_1000 l_1001 l_1002 hr_1028
          exact ⟨v, ⟨c + 1, lm_198_111.mpr (⟨_, _, d_897, ⟨_, _, d_910, Or.inr ⟨c_920, Or.inl ⟨c_977, ⟨_, em_990, ⟨_, em_1021, hL⟩⟩⟩⟩⟩⟩)⟩, e1, e2, e3⟩
        · obtain ⟨n_1029, e_1030, hr_1031⟩ := iv_aload_n xm_198 xd_198_127 q0 hr_980
          have f_1032 := dc_fl (j := 13) ok_913 (rfl : sv_ty 114 = some 12) dt_12 rfl
          obtain ⟨n_1033, e_1034, hr_1035⟩ := iv_getf (j := 13) xm_198 xd_198_128 (by decide +kernel) ok_913 (rfl : sv_ty 114 = some 12) dt_12 f_1032.1 hr_1031
          obtain ⟨n_1036, e_1037, hr_1038⟩ := iv_bipush xm_198 xd_198_131 (by decide) hr_1035
          obtain ⟨n_1039, e_1040, hr_1041⟩ := iv_lshl xm_198 xd_198_133 ⟨by omega, by omega⟩ hr_1038
          obtain ⟨n_1042, e_1043, hr_1044⟩ := iv_aload_n xm_198 xd_198_134 q0 hr_1041
          obtain ⟨n_1054, r_1045, e_1055, hc_1046, hr_1056⟩ := iv_call (Or.inr ⟨rfl, rfl⟩) xm_198 xd_198_135 (by decide +kernel) xm_195 rfl (by decide +kernel) hr_1044
          obtain ⟨v_1047, d_1048, er_1049, iv_1050, ok_1051⟩ := ds_195 _  ok_913 hc_1046
          obtain ⟨_, h_1053⟩ := r_1045
          have er_1049 : _ = some (wk_i v_1047) := er_1049
          subst er_1049
          have hr_1057 : ae_exe n_1054 198 (135 + 3) 0 0 lv _ h_1053 = some r := hr_1056
          obtain ⟨n_1058, e_1059, hr_1060⟩ := iv_i2l xm_198 xd_198_138 hr_1057
          obtain ⟨n_1061, e_1062, hr_1063⟩ := iv_lor xm_198 xd_198_139 hr_1060
          obtain ⟨n_1064, e_1065, hr_1066⟩ := iv_goto 147 xm_198 xd_198_140 (by decide) hr_1063
          obtain ⟨h_1067, ok_1068, em_1069, n_1071, e_1072, hr_1073⟩ := iv_putf (j := 13) (f := (4, 0)) (fk := 3) xm_198 xd_198_147 (by decide +kernel) ok_1051 (rfl : sv_ty 114 = some 12) dt_12 rfl (by decide +kernel) rfl ⟨_, (dc_lor_lt (ae_i2l_lt (sv_u_lt _)) (ae_lshl_lt _ _)), rfl⟩ hr_1066
          obtain ⟨lv_1075, sl_1074, n_1076, e_1077, hr_1078⟩ := iw_iinc xm_198 xd_198_150 (by decide +kernel) (by decide) q2 hr_1073
          have l_1079 := sl_1074.2 0 _ q0 (by decide) (Or.inl rfl)
          have l_1080 := sl_1074.2 1 _ q1 (by decide) (Or.inl rfl)
          have l_1081 := sl_1074.1
          obtain ⟨n_1082, e_1083, hr_1084⟩ := iv_aload_n xm_198 xd_198_153 l_1079 hr_1078
          obtain ⟨n_1085, e_1086, hr_1087⟩ := iv_dup xm_198 xd_198_154 rfl hr_1084
          have f_1088 := dc_fi (j := 4) ok_1068 (rfl : sv_ty 114 = some 12) dt_12 rfl
          obtain ⟨n_1089, e_1090, hr_1091⟩ := iv_getf (j := 4) xm_198 xd_198_155 (by decide +kernel) ok_1068 (rfl : sv_ty 114 = some 12) dt_12 f_1088.1 hr_1087
          obtain ⟨n_1092, e_1093, hr_1094⟩ := iv_iconst xm_198 xd_198_158 (by decide) hr_1091
          obtain ⟨n_1095, e_1096, hr_1097⟩ := iw_iadd xm_198 xd_198_159 hr_1094
          obtain ⟨h_1098, ok_1099, em_1100, n_1102, e_1103, hr_1104⟩ := iv_puti (j := 4) (fk := 0) xm_198 xd_198_160 (by decide +kernel) ok_1068 (rfl : sv_ty 114 = some 12) dt_12 rfl (by decide +kernel) rfl (dc_w_I _) hr_1097
          obtain ⟨n_1105, e_1106, hr_1107⟩ := iv_goto 111 xm_198 xd_198_163 (by decide) hr_1104
          obtain ⟨v, ⟨c, hL⟩, e1, e2, e3⟩ := ih1 _ lv_1075 h_1098 _ _ _ (by omega) ok_1099 il1 (dc_w_I _) l_1079 l_1080 l_1081 hr_1107
          exact ⟨v, ⟨c + 1, lm_198_111.mpr (⟨_, _, d_897, ⟨_, _, d_910, Or.inr ⟨c_920, Or.inr ⟨c_977, ⟨_, _, d_1048, ⟨_, em_1069, ⟨_, em_1100, hL⟩⟩⟩⟩⟩⟩⟩)⟩, e1, e2, e3⟩
    · intro n lv h r l1 l2 hn ok il1 il2 q0 q1 q2 hr
      obtain ⟨n_1108, e_1109, hr_1110⟩ := iv_aload_n xm_198 xd_198_190 q0 hr
      obtain ⟨n_1120, r_1111, e_1121, hc_1112, hr_1122⟩ := iv_call (Or.inr ⟨rfl, rfl⟩) xm_198 xd_198_191 (by decide +kernel) xm_195 rfl (by decide +kernel) hr_1110
      obtain ⟨v_1113, d_1114, er_1115, iv_1116, ok_1117⟩ := ds_195 _  ok hc_1112
      obtain ⟨_, h_1119⟩ := r_1111
      have er_1115 : _ = some (wk_i v_1113) := er_1115
      subst er_1115
      have hr_1123 : ae_exe n_1120 198 (191 + 3) 0 0 lv _ h_1119 = some r := hr_1122
      obtain ⟨n_1133, r_1124, e_1134, hc_1125, hr_1135⟩ := iv_call (Or.inl ⟨rfl, rfl⟩) xm_198 xd_198_194 (by decide +kernel) xm_197 rfl (by decide +kernel) hr_1123
      obtain ⟨v_1126, d_1127, er_1128, iv_1129, ok_1130⟩ := ds_197 _ _ ok_1117 iv_1116 hc_1125
      obtain ⟨_, h_1132⟩ := r_1124
      have er_1128 : _ = some (wk_i v_1126) := er_1128
      subst er_1128
      have hr_1136 : ae_exe n_1133 198 (194 + 3) 0 0 lv _ h_1132 = some r := hr_1135
      rcases iv_if 247 xm_198 xd_198_197 (by decide) iv_1129 hr_1136 with ⟨c_1137, n_1138, e_1139, hr_1140⟩ | ⟨c_1137, n_1138, e_1139, hr_1140⟩
      · obtain ⟨n_1141, e_1142, hr_1143⟩ := iv_aload_n xm_198 xd_198_247 q0 hr_1140
        obtain ⟨n_1144, e_1145, hr_1146⟩ := iv_iload_n xm_198 xd_198_248 q2 hr_1143
        obtain ⟨n_1147, e_1148, hr_1149⟩ := iv_iconst xm_198 xd_198_249 (by decide) hr_1146
        rcases iv_icmp 257 xm_198 xd_198_250 (by decide) il2 (by unfold sv_I; omega) hr_1149 with ⟨c_1150, n_1151, e_1152, hr_1153⟩ | ⟨c_1150, n_1151, e_1152, hr_1153⟩
        · obtain ⟨n_1154, e_1155, hr_1156⟩ := iv_iconst xm_198 xd_198_257 (by decide) hr_1153
          obtain ⟨h_1157, ok_1158, em_1159, n_1161, e_1162, hr_1163⟩ := iv_puti (j := 7) (fk := 0) xm_198 xd_198_258 (by decide +kernel) ok_1130 (rfl : sv_ty 114 = some 12) dt_12 rfl (by decide +kernel) rfl (by unfold sv_I; omega) hr_1156
          obtain ⟨n_1164, e_1165, hr_1166⟩ := iv_goto 306 xm_198 xd_198_261 (by decide) hr_1163
          have rr_1167 := iv_return xm_198 xd_198_306 hr_1166 rfl
          subst rr_1167
          exact ⟨_, ⟨0 + 1, lm_198_190.mpr (⟨_, _, d_1114, ⟨_, _, d_1127, Or.inl ⟨c_1137, Or.inl ⟨c_1150, ⟨_, em_1159, ⟨rfl, rfl⟩⟩⟩⟩⟩⟩)⟩, rfl, (by unfold sv_I; omega), ok_1158⟩
        · obtain ⟨n_1168, e_1169, hr_1170⟩ := iv_iconst xm_198 xd_198_253 (by decide) hr_1153
          obtain ⟨n_1171, e_1172, hr_1173⟩ := iv_goto 258 xm_198 xd_198_254 (by decide) hr_1170
          obtain ⟨h_1174, ok_1175, em_1176, n_1178, e_1179, hr_1180⟩ := iv_puti (j := 7) (fk := 0) xm_198 xd_198_258 (by decide +kernel) ok_1130 (rfl : sv_ty 114 = some 12) dt_12 rfl (by decide +kernel) rfl (by unfold sv_I; omega) hr_1173
          obtain ⟨n_1181, e_1182, hr_1183⟩ := iv_goto 306 xm_198 xd_198_261 (by decide) hr_1180
          have rr_1184 := iv_return xm_198 xd_198_306 hr_1183 rfl
          subst rr_1184
          exact ⟨_, ⟨0 + 1, lm_198_190.mpr (⟨_, _, d_1114, ⟨_, _, d_1127, Or.inl ⟨c_1137, Or.inr ⟨c_1150, ⟨_, em_1176, ⟨rfl, rfl⟩⟩⟩⟩⟩⟩)⟩, rfl, (by unfold sv_I; omega), ok_1175⟩
      · obtain ⟨n_1185, e_1186, hr_1187⟩ := iv_aload_n xm_198 xd_198_200 q0 hr_1140
        obtain ⟨n_1188, e_1189, hr_1190⟩ := iv_iload_n xm_198 xd_198_201 q2 hr_1187
        obtain ⟨n_1191, e_1192, hr_1193⟩ := iv_iconst xm_198 xd_198_202 (by decide) hr_1190
        rcases iv_icmp 224 xm_198 xd_198_203 (by decide) il2 (by unfold sv_I; omega) hr_1193 with ⟨c_1194, n_1195, e_1196, hr_1197⟩ | ⟨c_1194, n_1195, e_1196, hr_1197⟩
        · obtain ⟨n_1198, e_1199, hr_1200⟩ := iv_aload_n xm_198 xd_198_224 q0 hr_1197
          have f_1201 := dc_fi (j := 9) ok_1130 (rfl : sv_ty 114 = some 12) dt_12 rfl
          obtain ⟨n_1202, e_1203, hr_1204⟩ := iv_getf (j := 9) xm_198 xd_198_225 (by decide +kernel) ok_1130 (rfl : sv_ty 114 = some 12) dt_12 f_1201.1 hr_1200
          obtain ⟨h_1205, ok_1206, em_1207, n_1209, e_1210, hr_1211⟩ := iv_puti (j := 9) (fk := 0) xm_198 xd_198_228 (by decide +kernel) ok_1130 (rfl : sv_ty 114 = some 12) dt_12 rfl (by decide +kernel) rfl f_1201.2 hr_1204
          obtain ⟨lv_1213, sl_1212, n_1214, e_1215, hr_1216⟩ := iw_iinc xm_198 xd_198_231 (by decide +kernel) (by decide) q2 hr_1211
          have l_1217 := sl_1212.2 0 _ q0 (by decide) (Or.inl rfl)
          have l_1218 := sl_1212.2 1 _ q1 (by decide) (Or.inl rfl)
          have l_1219 := sl_1212.1
          obtain ⟨n_1220, e_1221, hr_1222⟩ := iv_aload_n xm_198 xd_198_234 l_1217 hr_1216
          obtain ⟨n_1223, e_1224, hr_1225⟩ := iv_dup xm_198 xd_198_235 rfl hr_1222
          have f_1226 := dc_fi (j := 4) ok_1206 (rfl : sv_ty 114 = some 12) dt_12 rfl
          obtain ⟨n_1227, e_1228, hr_1229⟩ := iv_getf (j := 4) xm_198 xd_198_236 (by decide +kernel) ok_1206 (rfl : sv_ty 114 = some 12) dt_12 f_1226.1 hr_1225
          obtain ⟨n_1230, e_1231, hr_1232⟩ := iv_iconst xm_198 xd_198_239 (by decide) hr_1229
          obtain ⟨n_1233, e_1234, hr_1235⟩ := iw_iadd xm_198 xd_198_240 hr_1232
          obtain ⟨h_1236, ok_1237, em_1238, n_1240, e_1241, hr_1242⟩ := iv_puti (j := 4) (fk := 0) xm_198 xd_198_241 (by decide +kernel) ok_1206 (rfl : sv_ty 114 = some 12) dt_12 rfl (by decide +kernel) rfl (dc_w_I _) hr_1235
          obtain ⟨n_1243, e_1244, hr_1245⟩ := iv_goto 190 xm_198 xd_198_244 (by decide) hr_1242
          obtain ⟨v, ⟨c, hL⟩, e1, e2, e3⟩ := ih2 _ lv_1213 h_1236 _ _ _ (by omega) ok_1237 il1 (dc_w_I _) l_1217 l_1218 l_1219 hr_1245
          exact ⟨v, ⟨c + 1, lm_198_190.mpr (⟨_, _, d_1114, ⟨_, _, d_1127, Or.inr ⟨c_1137, Or.inl ⟨c_1194, ⟨_, em_1207, ⟨_, em_1238, hL⟩⟩⟩⟩⟩⟩)⟩, e1, e2, e3⟩
        · obtain ⟨n_1246, e_1247, hr_1248⟩ := iv_bipush xm_198 xd_198_206 (by decide) hr_1197
          obtain ⟨n_1249, e_1250, hr_1251⟩ := iv_aload_n xm_198 xd_198_208 q0 hr_1248
          have f_1252 := dc_fi (j := 9) ok_1130 (rfl : sv_ty 114 = some 12) dt_12 rfl
          obtain ⟨n_1253, e_1254, hr_1255⟩ := iv_getf (j := 9) xm_198 xd_198_209 (by decide +kernel) ok_1130 (rfl : sv_ty 114 = some 12) dt_12 f_1252.1 hr_1251
          obtain ⟨n_1256, e_1257, hr_1258⟩ := iw_imul xm_198 xd_198_212 hr_1255
          obtain ⟨n_1259, e_1260, hr_1261⟩ := iv_aload_n xm_198 xd_198_213 q0 hr_1258
          obtain ⟨n_1271, r_1262, e_1272, hc_1263, hr_1273⟩ := iv_call (Or.inr ⟨rfl, rfl⟩) xm_198 xd_198_214 (by decide +kernel) xm_195 rfl (by decide +kernel) hr_1261
          obtain ⟨v_1264, d_1265, er_1266, iv_1267, ok_1268⟩ := ds_195 _  ok_1130 hc_1263
          obtain ⟨_, h_1270⟩ := r_1262
          have er_1266 : _ = some (wk_i v_1264) := er_1266
          subst er_1266
          have hr_1274 : ae_exe n_1271 198 (214 + 3) 0 0 lv _ h_1270 = some r := hr_1273
          obtain ⟨n_1275, e_1276, hr_1277⟩ := iw_iadd xm_198 xd_198_217 hr_1274
          obtain ⟨n_1278, e_1279, hr_1280⟩ := iv_bipush xm_198 xd_198_218 (by decide) hr_1277
          obtain ⟨n_1281, e_1282, hr_1283⟩ := iw_isub xm_198 xd_198_220 hr_1280
          obtain ⟨n_1284, e_1285, hr_1286⟩ := iv_goto 228 xm_198 xd_198_221 (by decide) hr_1283
          obtain ⟨h_1287, ok_1288, em_1289, n_1291, e_1292, hr_1293⟩ := iv_puti (j := 9) (fk := 0) xm_198 xd_198_228 (by decide +kernel) ok_1268 (rfl : sv_ty 114 = some 12) dt_12 rfl (by decide +kernel) rfl (dc_w_I _) hr_1286
          obtain ⟨lv_1295, sl_1294, n_1296, e_1297, hr_1298⟩ := iw_iinc xm_198 xd_198_231 (by decide +kernel) (by decide) q2 hr_1293
          have l_1299 := sl_1294.2 0 _ q0 (by decide) (Or.inl rfl)
          have l_1300 := sl_1294.2 1 _ q1 (by decide) (Or.inl rfl)
          have l_1301 := sl_1294.1
          obtain ⟨n_1302, e_1303, hr_1304⟩ := iv_aload_n xm_198 xd_198_234 l_1299 hr_1298
          obtain ⟨n_1305, e_1306, hr_1307⟩ := iv_dup xm_198 xd_198_235 rfl hr_1304
          have f_1308 := dc_fi (j := 4) ok_1288 (rfl : sv_ty 114 = some 12) dt_12 rfl
          obtain ⟨n_1309, e_1310, hr_1311⟩ := iv_getf (j := 4) xm_198 xd_198_236 (by decide +kernel) ok_1288 (rfl : sv_ty 114 = some 12) dt_12 f_1308.1 hr_1307
          obtain ⟨n_1312, e_1313, hr_1314⟩ := iv_iconst xm_198 xd_198_239 (by decide) hr_1311
          obtain ⟨n_1315, e_1316, hr_1317⟩ := iw_iadd xm_198 xd_198_240 hr_1314
          obtain ⟨h_1318, ok_1319, em_1320, n_1322, e_1323, hr_1324⟩ := iv_puti (j := 4) (fk := 0) xm_198 xd_198_241 (by decide +kernel) ok_1288 (rfl : sv_ty 114 = some 12) dt_12 rfl (by decide +kernel) rfl (dc_w_I _) hr_1317
          obtain ⟨n_1325, e_1326, hr_1327⟩ := iv_goto 190 xm_198 xd_198_244 (by decide) hr_1324
          obtain ⟨v, ⟨c, hL⟩, e1, e2, e3⟩ := ih2 _ lv_1295 h_1318 _ _ _ (by omega) ok_1319 il1 (dc_w_I _) l_1299 l_1300 l_1301 hr_1327
          exact ⟨v, ⟨c + 1, lm_198_190.mpr (⟨_, _, d_1114, ⟨_, _, d_1127, Or.inr ⟨c_1137, Or.inr ⟨c_1194, ⟨_, _, d_1265, ⟨_, em_1289, ⟨_, em_1320, hL⟩⟩⟩⟩⟩⟩⟩)⟩, e1, e2, e3⟩
abbrev D_198  (m : dc_M) (v : Int) (m' : dc_M) : Prop := ∃ c, LM_198  c 0 0 0 m v m'
theorem ds_198 (n : Nat)  {h : ae_H} {r : ae_R} (ok : dc_ok h)  (hr : ae_exe n 198 0 0 0 (ae_args [wk_r 114] 0) [] h = some r) : ∃ v, D_198  (dc_m h) v (dc_m r.2) ∧ r.1 = none ∧ sv_I v ∧ dc_ok r.2 := by
  have q0 : ae_lk (ae_args [wk_r 114] 0) 0 = some (wk_r 114) := rfl
  obtain ⟨v, ⟨c, hL⟩, e1, e2, e3⟩ := (dl_198  _).1 _ (ae_args [wk_r 114] 0) h _  (Nat.le_refl _) ok  q0 hr
  exact ⟨v, ⟨_, hL⟩, e1, e2, e3⟩
/-! method 199 -/
theorem xm_199 : ae_m 199 = some (wk_M 199) := rfl
theorem xd_199_0 : decode (wk_M 199).2.2.1 0 = .ok (.aload_n 0, 1) := zd_by (by decide +kernel)
theorem xd_199_1 : decode (wk_M 199).2.2.1 1 = .ok (.iload_n 1, 1) := zd_by (by decide +kernel)
theorem xd_199_2 : decode (wk_M 199).2.2.1 2 = .ok (.putfield 252, 3) := zd_by (by decide +kernel)
theorem xd_199_5 : decode (wk_M 199).2.2.1 5 = .ok (.aload_n 0, 1) := zd_by (by decide +kernel)
theorem xd_199_6 : decode (wk_M 199).2.2.1 6 = .ok (.iload_n 2, 1) := zd_by (by decide +kernel)
theorem xd_199_7 : decode (wk_M 199).2.2.1 7 = .ok (.putfield 255, 3) := zd_by (by decide +kernel)
theorem xd_199_10 : decode (wk_M 199).2.2.1 10 = .ok (.iconst 0, 1) := zd_by (by decide +kernel)
theorem xd_199_11 : decode (wk_M 199).2.2.1 11 = .ok (.ireturn, 1) := zd_by (by decide +kernel)
abbrev D_199 (x0 : Int) (x1 : Int) (m : dc_M) (v : Int) (m' : dc_M) : Prop := ∃ m_10, m_10 = dc_up m 114 10 x0 ∧ (∃ m_23, m_23 = dc_up m_10 114 11 x1 ∧ (v = 0 ∧ m' = m_23))
theorem ds_199 (n : Nat) (x0 : Int) (x1 : Int) {h : ae_H} {r : ae_R} (ok : dc_ok h) (ix0 : sv_I x0) (ix1 : sv_I x1) (hr : ae_exe n 199 0 0 0 (ae_args [wk_r 114, wk_i x0, wk_i x1] 0) [] h = some r) : ∃ v, D_199 x0 x1 (dc_m h) v (dc_m r.2) ∧ r.1 = some (wk_i v) ∧ sv_I v ∧ dc_ok r.2 := by
  have q0 : ae_lk (ae_args [wk_r 114, wk_i x0, wk_i x1] 0) 0 = some (wk_r 114) := rfl
  have q1 : ae_lk (ae_args [wk_r 114, wk_i x0, wk_i x1] 0) 1 = some (wk_i x0) := rfl
  have q2 : ae_lk (ae_args [wk_r 114, wk_i x0, wk_i x1] 0) 2 = some (wk_i x1) := rfl
  obtain ⟨n_1, e_2, hr_3⟩ := iv_aload_n xm_199 xd_199_0 q0 hr
  obtain ⟨n_4, e_5, hr_6⟩ := iv_iload_n xm_199 xd_199_1 q1 hr_3
  obtain ⟨h_7, ok_8, em_9, n_11, e_12, hr_13⟩ := iv_puti (j := 10) (fk := 0) xm_199 xd_199_2 (by decide +kernel) ok (rfl : sv_ty 114 = some 12) dt_12 rfl (by decide +kernel) rfl ix0 hr_6
  obtain ⟨n_14, e_15, hr_16⟩ := iv_aload_n xm_199 xd_199_5 q0 hr_13
  obtain ⟨n_17, e_18, hr_19⟩ := iv_iload_n xm_199 xd_199_6 q2 hr_16
  obtain ⟨h_20, ok_21, em_22, n_24, e_25, hr_26⟩ := iv_puti (j := 11) (fk := 0) xm_199 xd_199_7 (by decide +kernel) ok_8 (rfl : sv_ty 114 = some 12) dt_12 rfl (by decide +kernel) rfl ix1 hr_19
  obtain ⟨n_27, e_28, hr_29⟩ := iv_iconst xm_199 xd_199_10 (by decide) hr_26
  have rr_30 := iv_ireturn xm_199 xd_199_11 hr_29
  subst rr_30
  exact ⟨_, ⟨_, em_9, ⟨_, em_22, ⟨rfl, rfl⟩⟩⟩, rfl, (by unfold sv_I; omega), ok_21⟩
/-! method 188 -/
theorem xm_188 : ae_m 188 = some (wk_M 188) := rfl
theorem xd_188_0 : decode (wk_M 188).2.2.1 0 = .ok (.iload_n 0, 1) := zd_by (by decide +kernel)
theorem xd_188_1 : decode (wk_M 188).2.2.1 1 = .ok (.iload_n 1, 1) := zd_by (by decide +kernel)
theorem xd_188_2 : decode (wk_M 188).2.2.1 2 = .ok (.if_icmp .lt 12, 3) := zd_by (by decide +kernel)
theorem xd_188_5 : decode (wk_M 188).2.2.1 5 = .ok (.iload_n 0, 1) := zd_by (by decide +kernel)
theorem xd_188_6 : decode (wk_M 188).2.2.1 6 = .ok (.iload_n 2, 1) := zd_by (by decide +kernel)
theorem xd_188_7 : decode (wk_M 188).2.2.1 7 = .ok (.if_icmp .gt 7, 3) := zd_by (by decide +kernel)
theorem xd_188_10 : decode (wk_M 188).2.2.1 10 = .ok (.iconst 1, 1) := zd_by (by decide +kernel)
theorem xd_188_11 : decode (wk_M 188).2.2.1 11 = .ok (.goto 4, 3) := zd_by (by decide +kernel)
theorem xd_188_14 : decode (wk_M 188).2.2.1 14 = .ok (.iconst 0, 1) := zd_by (by decide +kernel)
theorem xd_188_15 : decode (wk_M 188).2.2.1 15 = .ok (.ireturn, 1) := zd_by (by decide +kernel)
abbrev D_188 (x0 : Int) (x1 : Int) (x2 : Int) (m : dc_M) (v : Int) (m' : dc_M) : Prop := (((x0 : Int) < x1 ∧ (v = 0 ∧ m' = m)) ∨ (¬ ((x0 : Int) < x1) ∧ ((((x0 : Int) > x2 ∧ (v = 0 ∧ m' = m)) ∨ (¬ ((x0 : Int) > x2) ∧ (v = 1 ∧ m' = m))))))
theorem ds_188 (n : Nat) (x0 : Int) (x1 : Int) (x2 : Int) {h : ae_H} {r : ae_R} (ok : dc_ok h) (ix0 : sv_I x0) (ix1 : sv_I x1) (ix2 : sv_I x2) (hr : ae_exe n 188 0 0 0 (ae_args [wk_i x0, wk_i x1, wk_i x2] 0) [] h = some r) : ∃ v, D_188 x0 x1 x2 (dc_m h) v (dc_m r.2) ∧ r.1 = some (wk_i v) ∧ sv_I v ∧ dc_ok r.2 := by
  have q0 : ae_lk (ae_args [wk_i x0, wk_i x1, wk_i x2] 0) 0 = some (wk_i x0) := rfl
  have q1 : ae_lk (ae_args [wk_i x0, wk_i x1, wk_i x2] 0) 1 = some (wk_i x1) := rfl
  have q2 : ae_lk (ae_args [wk_i x0, wk_i x1, wk_i x2] 0) 2 = some (wk_i x2) := rfl
  obtain ⟨n_1, e_2, hr_3⟩ := iv_iload_n xm_188 xd_188_0 q0 hr
  obtain ⟨n_4, e_5, hr_6⟩ := iv_iload_n xm_188 xd_188_1 q1 hr_3
  rcases iv_icmp 14 xm_188 xd_188_2 (by decide) ix0 ix1 hr_6 with ⟨c_7, n_8, e_9, hr_10⟩ | ⟨c_7, n_8, e_9, hr_10⟩
  · obtain ⟨n_11, e_12, hr_13⟩ := iv_iconst xm_188 xd_188_14 (by decide) hr_10
    have rr_14 := iv_ireturn xm_188 xd_188_15 hr_13
    subst rr_14
    exact ⟨_, Or.inl ⟨c_7, ⟨rfl, rfl⟩⟩, rfl, (by unfold sv_I; omega), ok⟩
  · obtain ⟨n_15, e_16, hr_17⟩ := iv_iload_n xm_188 xd_188_5 q0 hr_10
    obtain ⟨n_18, e_19, hr_20⟩ := iv_iload_n xm_188 xd_188_6 q2 hr_17
    rcases iv_icmp 14 xm_188 xd_188_7 (by decide) ix0 ix2 hr_20 with ⟨c_21, n_22, e_23, hr_24⟩ | ⟨c_21, n_22, e_23, hr_24⟩
    · obtain ⟨n_25, e_26, hr_27⟩ := iv_iconst xm_188 xd_188_14 (by decide) hr_24
      have rr_28 := iv_ireturn xm_188 xd_188_15 hr_27
      subst rr_28
      exact ⟨_, Or.inr ⟨c_7, Or.inl ⟨c_21, ⟨rfl, rfl⟩⟩⟩, rfl, (by unfold sv_I; omega), ok⟩
    · obtain ⟨n_29, e_30, hr_31⟩ := iv_iconst xm_188 xd_188_10 (by decide) hr_24
      obtain ⟨n_32, e_33, hr_34⟩ := iv_goto 15 xm_188 xd_188_11 (by decide) hr_31
      have rr_35 := iv_ireturn xm_188 xd_188_15 hr_34
      subst rr_35
      exact ⟨_, Or.inr ⟨c_7, Or.inr ⟨c_21, ⟨rfl, rfl⟩⟩⟩, rfl, (by unfold sv_I; omega), ok⟩
/-! method 200 -/
theorem xm_200 : ae_m 200 = some (wk_M 200) := rfl
theorem xd_200_0 : decode (wk_M 200).2.2.1 0 = .ok (.aload_n 0, 1) := zd_by (by decide +kernel)
theorem xd_200_1 : decode (wk_M 200).2.2.1 1 = .ok (.getfield 236, 3) := zd_by (by decide +kernel)
theorem xd_200_4 : decode (wk_M 200).2.2.1 4 = .ok (.iconst 3, 1) := zd_by (by decide +kernel)
theorem xd_200_5 : decode (wk_M 200).2.2.1 5 = .ok (.if_icmp .ne 11, 3) := zd_by (by decide +kernel)
theorem xd_200_8 : decode (wk_M 200).2.2.1 8 = .ok (.aload_n 0, 1) := zd_by (by decide +kernel)
theorem xd_200_9 : decode (wk_M 200).2.2.1 9 = .ok (.getfield 243, 3) := zd_by (by decide +kernel)
theorem xd_200_12 : decode (wk_M 200).2.2.1 12 = .ok (.iload_n 1, 1) := zd_by (by decide +kernel)
theorem xd_200_13 : decode (wk_M 200).2.2.1 13 = .ok (.if_icmp .eq 13, 3) := zd_by (by decide +kernel)
theorem xd_200_16 : decode (wk_M 200).2.2.1 16 = .ok (.aload_n 0, 1) := zd_by (by decide +kernel)
theorem xd_200_17 : decode (wk_M 200).2.2.1 17 = .ok (.iconst 1, 1) := zd_by (by decide +kernel)
theorem xd_200_18 : decode (wk_M 200).2.2.1 18 = .ok (.aload_n 0, 1) := zd_by (by decide +kernel)
theorem xd_200_19 : decode (wk_M 200).2.2.1 19 = .ok (.getfield 230, 3) := zd_by (by decide +kernel)
theorem xd_200_22 : decode (wk_M 200).2.2.1 22 = .ok (.invokevirtual 258, 3) := zd_by (by decide +kernel)
theorem xd_200_25 : decode (wk_M 200).2.2.1 25 = .ok (.ireturn, 1) := zd_by (by decide +kernel)
theorem xd_200_26 : decode (wk_M 200).2.2.1 26 = .ok (.aload_n 0, 1) := zd_by (by decide +kernel)
theorem xd_200_27 : decode (wk_M 200).2.2.1 27 = .ok (.invokevirtual 262, 3) := zd_by (by decide +kernel)
theorem xd_200_30 : decode (wk_M 200).2.2.1 30 = .ok (.iconst 1, 1) := zd_by (by decide +kernel)
theorem xd_200_31 : decode (wk_M 200).2.2.1 31 = .ok (.ireturn, 1) := zd_by (by decide +kernel)
abbrev D_200 (x0 : Int) (m : dc_M) (v : Int) (m' : dc_M) : Prop := ((((m 114 7) : Int) ≠ 3 ∧ (∃ v_30 m_35, D_199 1 ((m 114 8)) m v_30 m_35 ∧ (v = v_30 ∧ m' = m_35))) ∨ (¬ (((m 114 7) : Int) ≠ 3) ∧ (((((m 114 9) : Int) = x0 ∧ (∃ v_61 m_66, D_198 m v_61 m_66 ∧ (v = 1 ∧ m' = m_66))) ∨ (¬ (((m 114 9) : Int) = x0) ∧ (∃ v_91 m_96, D_199 1 ((m 114 8)) m v_91 m_96 ∧ (v = v_91 ∧ m' = m_96)))))))
theorem ds_200 (n : Nat) (x0 : Int) {h : ae_H} {r : ae_R} (ok : dc_ok h) (ix0 : sv_I x0) (hr : ae_exe n 200 0 0 0 (ae_args [wk_r 114, wk_i x0] 0) [] h = some r) : ∃ v, D_200 x0 (dc_m h) v (dc_m r.2) ∧ r.1 = some (wk_i v) ∧ sv_I v ∧ dc_ok r.2 := by
  have q0 : ae_lk (ae_args [wk_r 114, wk_i x0] 0) 0 = some (wk_r 114) := rfl
  have q1 : ae_lk (ae_args [wk_r 114, wk_i x0] 0) 1 = some (wk_i x0) := rfl
  obtain ⟨n_1, e_2, hr_3⟩ := iv_aload_n xm_200 xd_200_0 q0 hr
  have f_4 := dc_fi (j := 7) ok (rfl : sv_ty 114 = some 12) dt_12 rfl
  obtain ⟨n_5, e_6, hr_7⟩ := iv_getf (j := 7) xm_200 xd_200_1 (by decide +kernel) ok (rfl : sv_ty 114 = some 12) dt_12 f_4.1 hr_3
  obtain ⟨n_8, e_9, hr_10⟩ := iv_iconst xm_200 xd_200_4 (by decide) hr_7
  rcases iv_icmp 16 xm_200 xd_200_5 (by decide) f_4.2 (by unfold sv_I; omega) hr_10 with ⟨c_11, n_12, e_13, hr_14⟩ | ⟨c_11, n_12, e_13, hr_14⟩
  · obtain ⟨n_15, e_16, hr_17⟩ := iv_aload_n xm_200 xd_200_16 q0 hr_14
    obtain ⟨n_18, e_19, hr_20⟩ := iv_iconst xm_200 xd_200_17 (by decide) hr_17
    obtain ⟨n_21, e_22, hr_23⟩ := iv_aload_n xm_200 xd_200_18 q0 hr_20
    have f_24 := dc_fi (j := 8) ok (rfl : sv_ty 114 = some 12) dt_12 rfl
    obtain ⟨n_25, e_26, hr_27⟩ := iv_getf (j := 8) xm_200 xd_200_19 (by decide +kernel) ok (rfl : sv_ty 114 = some 12) dt_12 f_24.1 hr_23
    obtain ⟨n_37, r_28, e_38, hc_29, hr_39⟩ := iv_call (Or.inr ⟨rfl, rfl⟩) xm_200 xd_200_22 (by decide +kernel) xm_199 rfl (by decide +kernel) hr_27
    obtain ⟨v_30, d_31, er_32, iv_33, ok_34⟩ := ds_199 _ _ _ ok (by unfold sv_I; omega) f_24.2 hc_29
    obtain ⟨_, h_36⟩ := r_28
    have er_32 : _ = some (wk_i v_30) := er_32
    subst er_32
    have hr_40 : ae_exe n_37 200 (22 + 3) 0 0 (ae_args [wk_r 114, wk_i x0] 0) _ h_36 = some r := hr_39
    have rr_41 := iv_ireturn xm_200 xd_200_25 hr_40
    subst rr_41
    exact ⟨_, Or.inl ⟨c_11, ⟨_, _, d_31, ⟨rfl, rfl⟩⟩⟩, rfl, iv_33, ok_34⟩
  · obtain ⟨n_42, e_43, hr_44⟩ := iv_aload_n xm_200 xd_200_8 q0 hr_14
    have f_45 := dc_fi (j := 9) ok (rfl : sv_ty 114 = some 12) dt_12 rfl
    obtain ⟨n_46, e_47, hr_48⟩ := iv_getf (j := 9) xm_200 xd_200_9 (by decide +kernel) ok (rfl : sv_ty 114 = some 12) dt_12 f_45.1 hr_44
    obtain ⟨n_49, e_50, hr_51⟩ := iv_iload_n xm_200 xd_200_12 q1 hr_48
    rcases iv_icmp 26 xm_200 xd_200_13 (by decide) f_45.2 ix0 hr_51 with ⟨c_52, n_53, e_54, hr_55⟩ | ⟨c_52, n_53, e_54, hr_55⟩
    · obtain ⟨n_56, e_57, hr_58⟩ := iv_aload_n xm_200 xd_200_26 q0 hr_55
      obtain ⟨n_68, r_59, e_69, hc_60, hr_70⟩ := iv_call (Or.inr ⟨rfl, rfl⟩) xm_200 xd_200_27 (by decide +kernel) xm_198 rfl (by decide +kernel) hr_58
      obtain ⟨v_61, d_62, er_63, iv_64, ok_65⟩ := ds_198 _  ok hc_60
      obtain ⟨_, h_67⟩ := r_59
      have er_63 : _ = none := er_63
      subst er_63
      have hr_71 : ae_exe n_68 200 (27 + 3) 0 0 (ae_args [wk_r 114, wk_i x0] 0) _ h_67 = some r := hr_70
      obtain ⟨n_72, e_73, hr_74⟩ := iv_iconst xm_200 xd_200_30 (by decide) hr_71
      have rr_75 := iv_ireturn xm_200 xd_200_31 hr_74
      subst rr_75
      exact ⟨_, Or.inr ⟨c_11, Or.inl ⟨c_52, ⟨_, _, d_62, ⟨rfl, rfl⟩⟩⟩⟩, rfl, (by unfold sv_I; omega), ok_65⟩
    · obtain ⟨n_76, e_77, hr_78⟩ := iv_aload_n xm_200 xd_200_16 q0 hr_55
      obtain ⟨n_79, e_80, hr_81⟩ := iv_iconst xm_200 xd_200_17 (by decide) hr_78
      obtain ⟨n_82, e_83, hr_84⟩ := iv_aload_n xm_200 xd_200_18 q0 hr_81
      have f_85 := dc_fi (j := 8) ok (rfl : sv_ty 114 = some 12) dt_12 rfl
      obtain ⟨n_86, e_87, hr_88⟩ := iv_getf (j := 8) xm_200 xd_200_19 (by decide +kernel) ok (rfl : sv_ty 114 = some 12) dt_12 f_85.1 hr_84
      obtain ⟨n_98, r_89, e_99, hc_90, hr_100⟩ := iv_call (Or.inr ⟨rfl, rfl⟩) xm_200 xd_200_22 (by decide +kernel) xm_199 rfl (by decide +kernel) hr_88
      obtain ⟨v_91, d_92, er_93, iv_94, ok_95⟩ := ds_199 _ _ _ ok (by unfold sv_I; omega) f_85.2 hc_90
      obtain ⟨_, h_97⟩ := r_89
      have er_93 : _ = some (wk_i v_91) := er_93
      subst er_93
      have hr_101 : ae_exe n_98 200 (22 + 3) 0 0 (ae_args [wk_r 114, wk_i x0] 0) _ h_97 = some r := hr_100
      have rr_102 := iv_ireturn xm_200 xd_200_25 hr_101
      subst rr_102
      exact ⟨_, Or.inr ⟨c_11, Or.inr ⟨c_52, ⟨_, _, d_92, ⟨rfl, rfl⟩⟩⟩⟩, rfl, iv_94, ok_95⟩
/-! method 201 -/
theorem xm_201 : ae_m 201 = some (wk_M 201) := rfl
theorem xd_201_0 : decode (wk_M 201).2.2.1 0 = .ok (.aload_n 0, 1) := zd_by (by decide +kernel)
theorem xd_201_1 : decode (wk_M 201).2.2.1 1 = .ok (.getfield 236, 3) := zd_by (by decide +kernel)
theorem xd_201_4 : decode (wk_M 201).2.2.1 4 = .ok (.iconst 2, 1) := zd_by (by decide +kernel)
theorem xd_201_5 : decode (wk_M 201).2.2.1 5 = .ok (.if_icmp .eq 13, 3) := zd_by (by decide +kernel)
theorem xd_201_8 : decode (wk_M 201).2.2.1 8 = .ok (.aload_n 0, 1) := zd_by (by decide +kernel)
theorem xd_201_9 : decode (wk_M 201).2.2.1 9 = .ok (.iconst 1, 1) := zd_by (by decide +kernel)
theorem xd_201_10 : decode (wk_M 201).2.2.1 10 = .ok (.aload_n 0, 1) := zd_by (by decide +kernel)
theorem xd_201_11 : decode (wk_M 201).2.2.1 11 = .ok (.getfield 230, 3) := zd_by (by decide +kernel)
theorem xd_201_14 : decode (wk_M 201).2.2.1 14 = .ok (.invokevirtual 258, 3) := zd_by (by decide +kernel)
theorem xd_201_17 : decode (wk_M 201).2.2.1 17 = .ok (.ireturn, 1) := zd_by (by decide +kernel)
theorem xd_201_18 : decode (wk_M 201).2.2.1 18 = .ok (.aload_n 0, 1) := zd_by (by decide +kernel)
theorem xd_201_19 : decode (wk_M 201).2.2.1 19 = .ok (.getfield 243, 3) := zd_by (by decide +kernel)
theorem xd_201_22 : decode (wk_M 201).2.2.1 22 = .ok (.iload_n 1, 1) := zd_by (by decide +kernel)
theorem xd_201_23 : decode (wk_M 201).2.2.1 23 = .ok (.iload_n 2, 1) := zd_by (by decide +kernel)
theorem xd_201_24 : decode (wk_M 201).2.2.1 24 = .ok (.invokestatic 207, 3) := zd_by (by decide +kernel)
theorem xd_201_27 : decode (wk_M 201).2.2.1 27 = .ok (.ifCond .ne 13, 3) := zd_by (by decide +kernel)
theorem xd_201_30 : decode (wk_M 201).2.2.1 30 = .ok (.aload_n 0, 1) := zd_by (by decide +kernel)
theorem xd_201_31 : decode (wk_M 201).2.2.1 31 = .ok (.iconst 2, 1) := zd_by (by decide +kernel)
theorem xd_201_32 : decode (wk_M 201).2.2.1 32 = .ok (.aload_n 0, 1) := zd_by (by decide +kernel)
theorem xd_201_33 : decode (wk_M 201).2.2.1 33 = .ok (.getfield 230, 3) := zd_by (by decide +kernel)
theorem xd_201_36 : decode (wk_M 201).2.2.1 36 = .ok (.invokevirtual 258, 3) := zd_by (by decide +kernel)
theorem xd_201_39 : decode (wk_M 201).2.2.1 39 = .ok (.ireturn, 1) := zd_by (by decide +kernel)
theorem xd_201_40 : decode (wk_M 201).2.2.1 40 = .ok (.aload_n 0, 1) := zd_by (by decide +kernel)
theorem xd_201_41 : decode (wk_M 201).2.2.1 41 = .ok (.aload_n 0, 1) := zd_by (by decide +kernel)
theorem xd_201_42 : decode (wk_M 201).2.2.1 42 = .ok (.getfield 243, 3) := zd_by (by decide +kernel)
theorem xd_201_45 : decode (wk_M 201).2.2.1 45 = .ok (.putfield 265, 3) := zd_by (by decide +kernel)
theorem xd_201_48 : decode (wk_M 201).2.2.1 48 = .ok (.aload_n 0, 1) := zd_by (by decide +kernel)
theorem xd_201_49 : decode (wk_M 201).2.2.1 49 = .ok (.invokevirtual 262, 3) := zd_by (by decide +kernel)
theorem xd_201_52 : decode (wk_M 201).2.2.1 52 = .ok (.iconst 1, 1) := zd_by (by decide +kernel)
theorem xd_201_53 : decode (wk_M 201).2.2.1 53 = .ok (.ireturn, 1) := zd_by (by decide +kernel)
abbrev D_201 (x0 : Int) (x1 : Int) (m : dc_M) (v : Int) (m' : dc_M) : Prop := ((((m 114 7) : Int) = 2 ∧ (∃ v_30 m_35, D_188 ((m 114 9)) x0 x1 m v_30 m_35 ∧ ((((v_30 : Int) ≠ 0 ∧ (∃ m_58, m_58 = dc_up m_35 114 14 (m_35 114 9) ∧ (∃ v_67 m_72, D_198 m_58 v_67 m_72 ∧ (v = 1 ∧ m' = m_72)))) ∨ (¬ ((v_30 : Int) ≠ 0) ∧ (∃ v_97 m_102, D_199 2 ((m_35 114 8)) m_35 v_97 m_102 ∧ (v = v_97 ∧ m' = m_102))))))) ∨ (¬ (((m 114 7) : Int) = 2) ∧ (∃ v_124 m_129, D_199 1 ((m 114 8)) m v_124 m_129 ∧ (v = v_124 ∧ m' = m_129))))
theorem ds_201 (n : Nat) (x0 : Int) (x1 : Int) {h : ae_H} {r : ae_R} (ok : dc_ok h) (ix0 : sv_I x0) (ix1 : sv_I x1) (hr : ae_exe n 201 0 0 0 (ae_args [wk_r 114, wk_i x0, wk_i x1] 0) [] h = some r) : ∃ v, D_201 x0 x1 (dc_m h) v (dc_m r.2) ∧ r.1 = some (wk_i v) ∧ sv_I v ∧ dc_ok r.2 := by
  have q0 : ae_lk (ae_args [wk_r 114, wk_i x0, wk_i x1] 0) 0 = some (wk_r 114) := rfl
  have q1 : ae_lk (ae_args [wk_r 114, wk_i x0, wk_i x1] 0) 1 = some (wk_i x0) := rfl
  have q2 : ae_lk (ae_args [wk_r 114, wk_i x0, wk_i x1] 0) 2 = some (wk_i x1) := rfl
  obtain ⟨n_1, e_2, hr_3⟩ := iv_aload_n xm_201 xd_201_0 q0 hr
  have f_4 := dc_fi (j := 7) ok (rfl : sv_ty 114 = some 12) dt_12 rfl
  obtain ⟨n_5, e_6, hr_7⟩ := iv_getf (j := 7) xm_201 xd_201_1 (by decide +kernel) ok (rfl : sv_ty 114 = some 12) dt_12 f_4.1 hr_3
  obtain ⟨n_8, e_9, hr_10⟩ := iv_iconst xm_201 xd_201_4 (by decide) hr_7
  rcases iv_icmp 18 xm_201 xd_201_5 (by decide) f_4.2 (by unfold sv_I; omega) hr_10 with ⟨c_11, n_12, e_13, hr_14⟩ | ⟨c_11, n_12, e_13, hr_14⟩
  · obtain ⟨n_15, e_16, hr_17⟩ := iv_aload_n xm_201 xd_201_18 q0 hr_14
    have f_18 := dc_fi (j := 9) ok (rfl : sv_ty 114 = some 12) dt_12 rfl
    obtain ⟨n_19, e_20, hr_21⟩ := iv_getf (j := 9) xm_201 xd_201_19 (by decide +kernel) ok (rfl : sv_ty 114 = some 12) dt_12 f_18.1 hr_17
    obtain ⟨n_22, e_23, hr_24⟩ := iv_iload_n xm_201 xd_201_22 q1 hr_21
    obtain ⟨n_25, e_26, hr_27⟩ := iv_iload_n xm_201 xd_201_23 q2 hr_24
    obtain ⟨n_37, r_28, e_38, hc_29, hr_39⟩ := iv_call (Or.inl ⟨rfl, rfl⟩) xm_201 xd_201_24 (by decide +kernel) xm_188 rfl (by decide +kernel) hr_27
    obtain ⟨v_30, d_31, er_32, iv_33, ok_34⟩ := ds_188 _ _ _ _ ok f_18.2 ix0 ix1 hc_29
    obtain ⟨_, h_36⟩ := r_28
    have er_32 : _ = some (wk_i v_30) := er_32
    subst er_32
    have hr_40 : ae_exe n_37 201 (24 + 3) 0 0 (ae_args [wk_r 114, wk_i x0, wk_i x1] 0) _ h_36 = some r := hr_39
    rcases iv_if 40 xm_201 xd_201_27 (by decide) iv_33 hr_40 with ⟨c_41, n_42, e_43, hr_44⟩ | ⟨c_41, n_42, e_43, hr_44⟩
    · obtain ⟨n_45, e_46, hr_47⟩ := iv_aload_n xm_201 xd_201_40 q0 hr_44
      obtain ⟨n_48, e_49, hr_50⟩ := iv_aload_n xm_201 xd_201_41 q0 hr_47
      have f_51 := dc_fi (j := 9) ok_34 (rfl : sv_ty 114 = some 12) dt_12 rfl
      obtain ⟨n_52, e_53, hr_54⟩ := iv_getf (j := 9) xm_201 xd_201_42 (by decide +kernel) ok_34 (rfl : sv_ty 114 = some 12) dt_12 f_51.1 hr_50
      obtain ⟨h_55, ok_56, em_57, n_59, e_60, hr_61⟩ := iv_puti (j := 14) (fk := 0) xm_201 xd_201_45 (by decide +kernel) ok_34 (rfl : sv_ty 114 = some 12) dt_12 rfl (by decide +kernel) rfl f_51.2 hr_54
      obtain ⟨n_62, e_63, hr_64⟩ := iv_aload_n xm_201 xd_201_48 q0 hr_61
      obtain ⟨n_74, r_65, e_75, hc_66, hr_76⟩ := iv_call (Or.inr ⟨rfl, rfl⟩) xm_201 xd_201_49 (by decide +kernel) xm_198 rfl (by decide +kernel) hr_64
      obtain ⟨v_67, d_68, er_69, iv_70, ok_71⟩ := ds_198 _  ok_56 hc_66
      obtain ⟨_, h_73⟩ := r_65
      have er_69 : _ = none := er_69
      subst er_69
      have hr_77 : ae_exe n_74 201 (49 + 3) 0 0 (ae_args [wk_r 114, wk_i x0, wk_i x1] 0) _ h_73 = some r := hr_76
      obtain ⟨n_78, e_79, hr_80⟩ := iv_iconst xm_201 xd_201_52 (by decide) hr_77
      have rr_81 := iv_ireturn xm_201 xd_201_53 hr_80
      subst rr_81
      exact ⟨_, Or.inl ⟨c_11, ⟨_, _, d_31, Or.inl ⟨c_41, ⟨_, em_57, ⟨_, _, d_68, ⟨rfl, rfl⟩⟩⟩⟩⟩⟩, rfl, (by unfold sv_I; omega), ok_71⟩
    · obtain ⟨n_82, e_83, hr_84⟩ := iv_aload_n xm_201 xd_201_30 q0 hr_44
      obtain ⟨n_85, e_86, hr_87⟩ := iv_iconst xm_201 xd_201_31 (by decide) hr_84
      obtain ⟨n_88, e_89, hr_90⟩ := iv_aload_n xm_201 xd_201_32 q0 hr_87
      have f_91 := dc_fi (j := 8) ok_34 (rfl : sv_ty 114 = some 12) dt_12 rfl
      obtain ⟨n_92, e_93, hr_94⟩ := iv_getf (j := 8) xm_201 xd_201_33 (by decide +kernel) ok_34 (rfl : sv_ty 114 = some 12) dt_12 f_91.1 hr_90
      obtain ⟨n_104, r_95, e_105, hc_96, hr_106⟩ := iv_call (Or.inr ⟨rfl, rfl⟩) xm_201 xd_201_36 (by decide +kernel) xm_199 rfl (by decide +kernel) hr_94
      obtain ⟨v_97, d_98, er_99, iv_100, ok_101⟩ := ds_199 _ _ _ ok_34 (by unfold sv_I; omega) f_91.2 hc_96
      obtain ⟨_, h_103⟩ := r_95
      have er_99 : _ = some (wk_i v_97) := er_99
      subst er_99
      have hr_107 : ae_exe n_104 201 (36 + 3) 0 0 (ae_args [wk_r 114, wk_i x0, wk_i x1] 0) _ h_103 = some r := hr_106
      have rr_108 := iv_ireturn xm_201 xd_201_39 hr_107
      subst rr_108
      exact ⟨_, Or.inl ⟨c_11, ⟨_, _, d_31, Or.inr ⟨c_41, ⟨_, _, d_98, ⟨rfl, rfl⟩⟩⟩⟩⟩, rfl, iv_100, ok_101⟩
  · obtain ⟨n_109, e_110, hr_111⟩ := iv_aload_n xm_201 xd_201_8 q0 hr_14
    obtain ⟨n_112, e_113, hr_114⟩ := iv_iconst xm_201 xd_201_9 (by decide) hr_111
    obtain ⟨n_115, e_116, hr_117⟩ := iv_aload_n xm_201 xd_201_10 q0 hr_114
    have f_118 := dc_fi (j := 8) ok (rfl : sv_ty 114 = some 12) dt_12 rfl
    obtain ⟨n_119, e_120, hr_121⟩ := iv_getf (j := 8) xm_201 xd_201_11 (by decide +kernel) ok (rfl : sv_ty 114 = some 12) dt_12 f_118.1 hr_117
    obtain ⟨n_131, r_122, e_132, hc_123, hr_133⟩ := iv_call (Or.inr ⟨rfl, rfl⟩) xm_201 xd_201_14 (by decide +kernel) xm_199 rfl (by decide +kernel) hr_121
    obtain ⟨v_124, d_125, er_126, iv_127, ok_128⟩ := ds_199 _ _ _ ok (by unfold sv_I; omega) f_118.2 hc_123
    obtain ⟨_, h_130⟩ := r_122
    have er_126 : _ = some (wk_i v_124) := er_126
    subst er_126
    have hr_134 : ae_exe n_131 201 (14 + 3) 0 0 (ae_args [wk_r 114, wk_i x0, wk_i x1] 0) _ h_130 = some r := hr_133
    have rr_135 := iv_ireturn xm_201 xd_201_17 hr_134
    subst rr_135
    exact ⟨_, Or.inr ⟨c_11, ⟨_, _, d_125, ⟨rfl, rfl⟩⟩⟩, rfl, iv_127, ok_128⟩
/-! method 203 -/
theorem xm_203 : ae_m 203 = some (wk_M 203) := rfl
theorem xd_203_0 : decode (wk_M 203).2.2.1 0 = .ok (.aload_n 0, 1) := zd_by (by decide +kernel)
theorem xd_203_1 : decode (wk_M 203).2.2.1 1 = .ok (.iconst 1, 1) := zd_by (by decide +kernel)
theorem xd_203_2 : decode (wk_M 203).2.2.1 2 = .ok (.putfield 268, 3) := zd_by (by decide +kernel)
theorem xd_203_5 : decode (wk_M 203).2.2.1 5 = .ok (.aload_n 0, 1) := zd_by (by decide +kernel)
theorem xd_203_6 : decode (wk_M 203).2.2.1 6 = .ok (.bipush 20, 2) := zd_by (by decide +kernel)
theorem xd_203_8 : decode (wk_M 203).2.2.1 8 = .ok (.putfield 271, 3) := zd_by (by decide +kernel)
theorem xd_203_11 : decode (wk_M 203).2.2.1 11 = .ok (.aload_n 0, 1) := zd_by (by decide +kernel)
theorem xd_203_12 : decode (wk_M 203).2.2.1 12 = .ok (.lload_n 1, 1) := zd_by (by decide +kernel)
theorem xd_203_13 : decode (wk_M 203).2.2.1 13 = .ok (.ldc2_w 274, 3) := zd_by (by decide +kernel)
theorem xd_203_16 : decode (wk_M 203).2.2.1 16 = .ok (.lcmp, 1) := zd_by (by decide +kernel)
theorem xd_203_17 : decode (wk_M 203).2.2.1 17 = .ok (.ifCond .ne 7, 3) := zd_by (by decide +kernel)
theorem xd_203_20 : decode (wk_M 203).2.2.1 20 = .ok (.iconst 0, 1) := zd_by (by decide +kernel)
theorem xd_203_21 : decode (wk_M 203).2.2.1 21 = .ok (.goto 44, 3) := zd_by (by decide +kernel)
theorem xd_203_24 : decode (wk_M 203).2.2.1 24 = .ok (.lload_n 1, 1) := zd_by (by decide +kernel)
theorem xd_203_25 : decode (wk_M 203).2.2.1 25 = .ok (.ldc2_w 276, 3) := zd_by (by decide +kernel)
theorem xd_203_28 : decode (wk_M 203).2.2.1 28 = .ok (.lcmp, 1) := zd_by (by decide +kernel)
theorem xd_203_29 : decode (wk_M 203).2.2.1 29 = .ok (.ifCond .ne 8, 3) := zd_by (by decide +kernel)
theorem xd_203_32 : decode (wk_M 203).2.2.1 32 = .ok (.bipush 20, 2) := zd_by (by decide +kernel)
theorem xd_203_34 : decode (wk_M 203).2.2.1 34 = .ok (.goto 31, 3) := zd_by (by decide +kernel)
theorem xd_203_37 : decode (wk_M 203).2.2.1 37 = .ok (.lload_n 1, 1) := zd_by (by decide +kernel)
theorem xd_203_38 : decode (wk_M 203).2.2.1 38 = .ok (.ldc2_w 278, 3) := zd_by (by decide +kernel)
theorem xd_203_41 : decode (wk_M 203).2.2.1 41 = .ok (.lcmp, 1) := zd_by (by decide +kernel)
theorem xd_203_42 : decode (wk_M 203).2.2.1 42 = .ok (.ifCond .ne 8, 3) := zd_by (by decide +kernel)
theorem xd_203_45 : decode (wk_M 203).2.2.1 45 = .ok (.bipush 40, 2) := zd_by (by decide +kernel)
theorem xd_203_47 : decode (wk_M 203).2.2.1 47 = .ok (.goto 18, 3) := zd_by (by decide +kernel)
theorem xd_203_50 : decode (wk_M 203).2.2.1 50 = .ok (.lload_n 1, 1) := zd_by (by decide +kernel)
theorem xd_203_51 : decode (wk_M 203).2.2.1 51 = .ok (.ldc2_w 280, 3) := zd_by (by decide +kernel)
theorem xd_203_54 : decode (wk_M 203).2.2.1 54 = .ok (.lcmp, 1) := zd_by (by decide +kernel)
theorem xd_203_55 : decode (wk_M 203).2.2.1 55 = .ok (.ifCond .ne 9, 3) := zd_by (by decide +kernel)
theorem xd_203_58 : decode (wk_M 203).2.2.1 58 = .ok (.sipush 159, 3) := zd_by (by decide +kernel)
theorem xd_203_61 : decode (wk_M 203).2.2.1 61 = .ok (.goto 4, 3) := zd_by (by decide +kernel)
theorem xd_203_64 : decode (wk_M 203).2.2.1 64 = .ok (.iconst (-1), 1) := zd_by (by decide +kernel)
theorem xd_203_65 : decode (wk_M 203).2.2.1 65 = .ok (.putfield 282, 3) := zd_by (by decide +kernel)
theorem xd_203_68 : decode (wk_M 203).2.2.1 68 = .ok (.aload_n 0, 1) := zd_by (by decide +kernel)
theorem xd_203_69 : decode (wk_M 203).2.2.1 69 = .ok (.getfield 282, 3) := zd_by (by decide +kernel)
theorem xd_203_72 : decode (wk_M 203).2.2.1 72 = .ok (.ifCond .lt 5, 3) := zd_by (by decide +kernel)
theorem xd_203_75 : decode (wk_M 203).2.2.1 75 = .ok (.iconst 1, 1) := zd_by (by decide +kernel)
theorem xd_203_76 : decode (wk_M 203).2.2.1 76 = .ok (.ireturn, 1) := zd_by (by decide +kernel)
theorem xd_203_77 : decode (wk_M 203).2.2.1 77 = .ok (.aload_n 0, 1) := zd_by (by decide +kernel)
theorem xd_203_78 : decode (wk_M 203).2.2.1 78 = .ok (.iconst 1, 1) := zd_by (by decide +kernel)
theorem xd_203_79 : decode (wk_M 203).2.2.1 79 = .ok (.putfield 271, 3) := zd_by (by decide +kernel)
theorem xd_203_82 : decode (wk_M 203).2.2.1 82 = .ok (.aload_n 0, 1) := zd_by (by decide +kernel)
theorem xd_203_83 : decode (wk_M 203).2.2.1 83 = .ok (.lload_n 1, 1) := zd_by (by decide +kernel)
theorem xd_203_84 : decode (wk_M 203).2.2.1 84 = .ok (.ldc2_w 285, 3) := zd_by (by decide +kernel)
theorem xd_203_87 : decode (wk_M 203).2.2.1 87 = .ok (.lcmp, 1) := zd_by (by decide +kernel)
theorem xd_203_88 : decode (wk_M 203).2.2.1 88 = .ok (.ifCond .ne 8, 3) := zd_by (by decide +kernel)
theorem xd_203_91 : decode (wk_M 203).2.2.1 91 = .ok (.bipush 60, 2) := zd_by (by decide +kernel)
theorem xd_203_93 : decode (wk_M 203).2.2.1 93 = .ok (.goto 32, 3) := zd_by (by decide +kernel)
theorem xd_203_96 : decode (wk_M 203).2.2.1 96 = .ok (.lload_n 1, 1) := zd_by (by decide +kernel)
theorem xd_203_97 : decode (wk_M 203).2.2.1 97 = .ok (.ldc2_w 287, 3) := zd_by (by decide +kernel)
theorem xd_203_100 : decode (wk_M 203).2.2.1 100 = .ok (.lcmp, 1) := zd_by (by decide +kernel)
theorem xd_203_101 : decode (wk_M 203).2.2.1 101 = .ok (.ifCond .ne 9, 3) := zd_by (by decide +kernel)
theorem xd_203_104 : decode (wk_M 203).2.2.1 104 = .ok (.sipush 179, 3) := zd_by (by decide +kernel)
theorem xd_203_107 : decode (wk_M 203).2.2.1 107 = .ok (.goto 18, 3) := zd_by (by decide +kernel)
theorem xd_203_110 : decode (wk_M 203).2.2.1 110 = .ok (.lload_n 1, 1) := zd_by (by decide +kernel)
theorem xd_203_111 : decode (wk_M 203).2.2.1 111 = .ok (.ldc2_w 289, 3) := zd_by (by decide +kernel)
theorem xd_203_114 : decode (wk_M 203).2.2.1 114 = .ok (.lcmp, 1) := zd_by (by decide +kernel)
theorem xd_203_115 : decode (wk_M 203).2.2.1 115 = .ok (.ifCond .ne 9, 3) := zd_by (by decide +kernel)
theorem xd_203_118 : decode (wk_M 203).2.2.1 118 = .ok (.sipush 180, 3) := zd_by (by decide +kernel)
theorem xd_203_121 : decode (wk_M 203).2.2.1 121 = .ok (.goto 4, 3) := zd_by (by decide +kernel)
theorem xd_203_124 : decode (wk_M 203).2.2.1 124 = .ok (.iconst (-1), 1) := zd_by (by decide +kernel)
theorem xd_203_125 : decode (wk_M 203).2.2.1 125 = .ok (.putfield 282, 3) := zd_by (by decide +kernel)
theorem xd_203_128 : decode (wk_M 203).2.2.1 128 = .ok (.aload_n 0, 1) := zd_by (by decide +kernel)
theorem xd_203_129 : decode (wk_M 203).2.2.1 129 = .ok (.getfield 282, 3) := zd_by (by decide +kernel)
theorem xd_203_132 : decode (wk_M 203).2.2.1 132 = .ok (.ifCond .lt 5, 3) := zd_by (by decide +kernel)
theorem xd_203_135 : decode (wk_M 203).2.2.1 135 = .ok (.iconst 1, 1) := zd_by (by decide +kernel)
theorem xd_203_136 : decode (wk_M 203).2.2.1 136 = .ok (.ireturn, 1) := zd_by (by decide +kernel)
theorem xd_203_137 : decode (wk_M 203).2.2.1 137 = .ok (.aload_n 0, 1) := zd_by (by decide +kernel)
theorem xd_203_138 : decode (wk_M 203).2.2.1 138 = .ok (.iconst 4, 1) := zd_by (by decide +kernel)
theorem xd_203_139 : decode (wk_M 203).2.2.1 139 = .ok (.putfield 271, 3) := zd_by (by decide +kernel)
theorem xd_203_142 : decode (wk_M 203).2.2.1 142 = .ok (.aload_n 0, 1) := zd_by (by decide +kernel)
theorem xd_203_143 : decode (wk_M 203).2.2.1 143 = .ok (.lload_n 1, 1) := zd_by (by decide +kernel)
theorem xd_203_144 : decode (wk_M 203).2.2.1 144 = .ok (.ldc2_w 291, 3) := zd_by (by decide +kernel)
theorem xd_203_147 : decode (wk_M 203).2.2.1 147 = .ok (.lcmp, 1) := zd_by (by decide +kernel)
theorem xd_203_148 : decode (wk_M 203).2.2.1 148 = .ok (.ifCond .ne 8, 3) := zd_by (by decide +kernel)
theorem xd_203_151 : decode (wk_M 203).2.2.1 151 = .ok (.bipush 61, 2) := zd_by (by decide +kernel)
theorem xd_203_153 : decode (wk_M 203).2.2.1 153 = .ok (.goto 99, 3) := zd_by (by decide +kernel)
theorem xd_203_156 : decode (wk_M 203).2.2.1 156 = .ok (.lload_n 1, 1) := zd_by (by decide +kernel)
theorem xd_203_157 : decode (wk_M 203).2.2.1 157 = .ok (.ldc2_w 293, 3) := zd_by (by decide +kernel)
theorem xd_203_160 : decode (wk_M 203).2.2.1 160 = .ok (.lcmp, 1) := zd_by (by decide +kernel)
theorem xd_203_161 : decode (wk_M 203).2.2.1 161 = .ok (.ifCond .ne 8, 3) := zd_by (by decide +kernel)
theorem xd_203_164 : decode (wk_M 203).2.2.1 164 = .ok (.bipush 92, 2) := zd_by (by decide +kernel)
theorem xd_203_166 : decode (wk_M 203).2.2.1 166 = .ok (.goto 86, 3) := zd_by (by decide +kernel)
theorem xd_203_169 : decode (wk_M 203).2.2.1 169 = .ok (.lload_n 1, 1) := zd_by (by decide +kernel)
theorem xd_203_170 : decode (wk_M 203).2.2.1 170 = .ok (.ldc2_w 295, 3) := zd_by (by decide +kernel)
theorem xd_203_173 : decode (wk_M 203).2.2.1 173 = .ok (.lcmp, 1) := zd_by (by decide +kernel)
theorem xd_203_174 : decode (wk_M 203).2.2.1 174 = .ok (.ifCond .ne 8, 3) := zd_by (by decide +kernel)
theorem xd_203_177 : decode (wk_M 203).2.2.1 177 = .ok (.bipush 120, 2) := zd_by (by decide +kernel)
theorem xd_203_179 : decode (wk_M 203).2.2.1 179 = .ok (.goto 73, 3) := zd_by (by decide +kernel)
theorem xd_203_182 : decode (wk_M 203).2.2.1 182 = .ok (.lload_n 1, 1) := zd_by (by decide +kernel)
theorem xd_203_183 : decode (wk_M 203).2.2.1 183 = .ok (.ldc2_w 297, 3) := zd_by (by decide +kernel)
theorem xd_203_186 : decode (wk_M 203).2.2.1 186 = .ok (.lcmp, 1) := zd_by (by decide +kernel)
theorem xd_203_187 : decode (wk_M 203).2.2.1 187 = .ok (.ifCond .ne 8, 3) := zd_by (by decide +kernel)
theorem xd_203_190 : decode (wk_M 203).2.2.1 190 = .ok (.bipush 124, 2) := zd_by (by decide +kernel)
theorem xd_203_192 : decode (wk_M 203).2.2.1 192 = .ok (.goto 60, 3) := zd_by (by decide +kernel)
theorem xd_203_195 : decode (wk_M 203).2.2.1 195 = .ok (.lload_n 1, 1) := zd_by (by decide +kernel)
theorem xd_203_196 : decode (wk_M 203).2.2.1 196 = .ok (.ldc2_w 299, 3) := zd_by (by decide +kernel)
theorem xd_203_199 : decode (wk_M 203).2.2.1 199 = .ok (.lcmp, 1) := zd_by (by decide +kernel)
theorem xd_203_200 : decode (wk_M 203).2.2.1 200 = .ok (.ifCond .ne 9, 3) := zd_by (by decide +kernel)
theorem xd_203_203 : decode (wk_M 203).2.2.1 203 = .ok (.sipush 128, 3) := zd_by (by decide +kernel)
theorem xd_203_206 : decode (wk_M 203).2.2.1 206 = .ok (.goto 46, 3) := zd_by (by decide +kernel)
theorem xd_203_209 : decode (wk_M 203).2.2.1 209 = .ok (.lload_n 1, 1) := zd_by (by decide +kernel)
theorem xd_203_210 : decode (wk_M 203).2.2.1 210 = .ok (.ldc2_w 301, 3) := zd_by (by decide +kernel)
theorem xd_203_213 : decode (wk_M 203).2.2.1 213 = .ok (.lcmp, 1) := zd_by (by decide +kernel)
theorem xd_203_214 : decode (wk_M 203).2.2.1 214 = .ok (.ifCond .ne 9, 3) := zd_by (by decide +kernel)
theorem xd_203_217 : decode (wk_M 203).2.2.1 217 = .ok (.sipush 144, 3) := zd_by (by decide +kernel)
theorem xd_203_220 : decode (wk_M 203).2.2.1 220 = .ok (.goto 32, 3) := zd_by (by decide +kernel)
theorem xd_203_223 : decode (wk_M 203).2.2.1 223 = .ok (.lload_n 1, 1) := zd_by (by decide +kernel)
theorem xd_203_224 : decode (wk_M 203).2.2.1 224 = .ok (.ldc2_w 303, 3) := zd_by (by decide +kernel)
theorem xd_203_227 : decode (wk_M 203).2.2.1 227 = .ok (.lcmp, 1) := zd_by (by decide +kernel)
theorem xd_203_228 : decode (wk_M 203).2.2.1 228 = .ok (.ifCond .ne 9, 3) := zd_by (by decide +kernel)
theorem xd_203_231 : decode (wk_M 203).2.2.1 231 = .ok (.sipush 148, 3) := zd_by (by decide +kernel)
theorem xd_203_234 : decode (wk_M 203).2.2.1 234 = .ok (.goto 18, 3) := zd_by (by decide +kernel)
theorem xd_203_237 : decode (wk_M 203).2.2.1 237 = .ok (.lload_n 1, 1) := zd_by (by decide +kernel)
theorem xd_203_238 : decode (wk_M 203).2.2.1 238 = .ok (.ldc2_w 305, 3) := zd_by (by decide +kernel)
theorem xd_203_241 : decode (wk_M 203).2.2.1 241 = .ok (.lcmp, 1) := zd_by (by decide +kernel)
theorem xd_203_242 : decode (wk_M 203).2.2.1 242 = .ok (.ifCond .ne 9, 3) := zd_by (by decide +kernel)
theorem xd_203_245 : decode (wk_M 203).2.2.1 245 = .ok (.sipush 152, 3) := zd_by (by decide +kernel)
theorem xd_203_248 : decode (wk_M 203).2.2.1 248 = .ok (.goto 4, 3) := zd_by (by decide +kernel)
theorem xd_203_251 : decode (wk_M 203).2.2.1 251 = .ok (.iconst (-1), 1) := zd_by (by decide +kernel)
theorem xd_203_252 : decode (wk_M 203).2.2.1 252 = .ok (.putfield 282, 3) := zd_by (by decide +kernel)
theorem xd_203_255 : decode (wk_M 203).2.2.1 255 = .ok (.aload_n 0, 1) := zd_by (by decide +kernel)
theorem xd_203_256 : decode (wk_M 203).2.2.1 256 = .ok (.getfield 282, 3) := zd_by (by decide +kernel)
theorem xd_203_259 : decode (wk_M 203).2.2.1 259 = .ok (.ifCond .lt 5, 3) := zd_by (by decide +kernel)
theorem xd_203_262 : decode (wk_M 203).2.2.1 262 = .ok (.iconst 1, 1) := zd_by (by decide +kernel)
theorem xd_203_263 : decode (wk_M 203).2.2.1 263 = .ok (.ireturn, 1) := zd_by (by decide +kernel)
theorem xd_203_264 : decode (wk_M 203).2.2.1 264 = .ok (.aload_n 0, 1) := zd_by (by decide +kernel)
theorem xd_203_265 : decode (wk_M 203).2.2.1 265 = .ok (.lload_n 1, 1) := zd_by (by decide +kernel)
theorem xd_203_266 : decode (wk_M 203).2.2.1 266 = .ok (.ldc2_w 307, 3) := zd_by (by decide +kernel)
theorem xd_203_269 : decode (wk_M 203).2.2.1 269 = .ok (.lcmp, 1) := zd_by (by decide +kernel)
theorem xd_203_270 : decode (wk_M 203).2.2.1 270 = .ok (.ifCond .eq 11, 3) := zd_by (by decide +kernel)
theorem xd_203_273 : decode (wk_M 203).2.2.1 273 = .ok (.lload_n 1, 1) := zd_by (by decide +kernel)
theorem xd_203_274 : decode (wk_M 203).2.2.1 274 = .ok (.ldc2_w 309, 3) := zd_by (by decide +kernel)
theorem xd_203_277 : decode (wk_M 203).2.2.1 277 = .ok (.lcmp, 1) := zd_by (by decide +kernel)
theorem xd_203_278 : decode (wk_M 203).2.2.1 278 = .ok (.ifCond .ne 8, 3) := zd_by (by decide +kernel)
theorem xd_203_281 : decode (wk_M 203).2.2.1 281 = .ok (.bipush 6, 2) := zd_by (by decide +kernel)
theorem xd_203_283 : decode (wk_M 203).2.2.1 283 = .ok (.goto 4, 3) := zd_by (by decide +kernel)
theorem xd_203_286 : decode (wk_M 203).2.2.1 286 = .ok (.iconst 3, 1) := zd_by (by decide +kernel)
theorem xd_203_287 : decode (wk_M 203).2.2.1 287 = .ok (.putfield 268, 3) := zd_by (by decide +kernel)
theorem xd_203_290 : decode (wk_M 203).2.2.1 290 = .ok (.aload_n 0, 1) := zd_by (by decide +kernel)
theorem xd_203_291 : decode (wk_M 203).2.2.1 291 = .ok (.lload_n 1, 1) := zd_by (by decide +kernel)
theorem xd_203_292 : decode (wk_M 203).2.2.1 292 = .ok (.ldc2_w 307, 3) := zd_by (by decide +kernel)
theorem xd_203_295 : decode (wk_M 203).2.2.1 295 = .ok (.lcmp, 1) := zd_by (by decide +kernel)
theorem xd_203_296 : decode (wk_M 203).2.2.1 296 = .ok (.ifCond .ne 8, 3) := zd_by (by decide +kernel)
theorem xd_203_299 : decode (wk_M 203).2.2.1 299 = .ok (.bipush 68, 2) := zd_by (by decide +kernel)
theorem xd_203_301 : decode (wk_M 203).2.2.1 301 = .ok (.goto 59, 3) := zd_by (by decide +kernel)
theorem xd_203_304 : decode (wk_M 203).2.2.1 304 = .ok (.lload_n 1, 1) := zd_by (by decide +kernel)
theorem xd_203_305 : decode (wk_M 203).2.2.1 305 = .ok (.ldc2_w 309, 3) := zd_by (by decide +kernel)
theorem xd_203_308 : decode (wk_M 203).2.2.1 308 = .ok (.lcmp, 1) := zd_by (by decide +kernel)
theorem xd_203_309 : decode (wk_M 203).2.2.1 309 = .ok (.ifCond .ne 8, 3) := zd_by (by decide +kernel)
theorem xd_203_312 : decode (wk_M 203).2.2.1 312 = .ok (.bipush 96, 2) := zd_by (by decide +kernel)
theorem xd_203_314 : decode (wk_M 203).2.2.1 314 = .ok (.goto 46, 3) := zd_by (by decide +kernel)
theorem xd_203_317 : decode (wk_M 203).2.2.1 317 = .ok (.lload_n 1, 1) := zd_by (by decide +kernel)
theorem xd_203_318 : decode (wk_M 203).2.2.1 318 = .ok (.ldc2_w 311, 3) := zd_by (by decide +kernel)
theorem xd_203_321 : decode (wk_M 203).2.2.1 321 = .ok (.lcmp, 1) := zd_by (by decide +kernel)
theorem xd_203_322 : decode (wk_M 203).2.2.1 322 = .ok (.ifCond .ne 9, 3) := zd_by (by decide +kernel)
theorem xd_203_325 : decode (wk_M 203).2.2.1 325 = .ok (.sipush 181, 3) := zd_by (by decide +kernel)
theorem xd_203_328 : decode (wk_M 203).2.2.1 328 = .ok (.goto 32, 3) := zd_by (by decide +kernel)
theorem xd_203_331 : decode (wk_M 203).2.2.1 331 = .ok (.lload_n 1, 1) := zd_by (by decide +kernel)
theorem xd_203_332 : decode (wk_M 203).2.2.1 332 = .ok (.ldc2_w 313, 3) := zd_by (by decide +kernel)
theorem xd_203_335 : decode (wk_M 203).2.2.1 335 = .ok (.lcmp, 1) := zd_by (by decide +kernel)
theorem xd_203_336 : decode (wk_M 203).2.2.1 336 = .ok (.ifCond .ne 9, 3) := zd_by (by decide +kernel)
theorem xd_203_339 : decode (wk_M 203).2.2.1 339 = .ok (.sipush 193, 3) := zd_by (by decide +kernel)
theorem xd_203_342 : decode (wk_M 203).2.2.1 342 = .ok (.goto 18, 3) := zd_by (by decide +kernel)
theorem xd_203_345 : decode (wk_M 203).2.2.1 345 = .ok (.lload_n 1, 1) := zd_by (by decide +kernel)
theorem xd_203_346 : decode (wk_M 203).2.2.1 346 = .ok (.ldc2_w 315, 3) := zd_by (by decide +kernel)
theorem xd_203_349 : decode (wk_M 203).2.2.1 349 = .ok (.lcmp, 1) := zd_by (by decide +kernel)
theorem xd_203_350 : decode (wk_M 203).2.2.1 350 = .ok (.ifCond .ne 9, 3) := zd_by (by decide +kernel)
theorem xd_203_353 : decode (wk_M 203).2.2.1 353 = .ok (.sipush 205, 3) := zd_by (by decide +kernel)
theorem xd_203_356 : decode (wk_M 203).2.2.1 356 = .ok (.goto 4, 3) := zd_by (by decide +kernel)
theorem xd_203_359 : decode (wk_M 203).2.2.1 359 = .ok (.iconst (-1), 1) := zd_by (by decide +kernel)
theorem xd_203_360 : decode (wk_M 203).2.2.1 360 = .ok (.putfield 282, 3) := zd_by (by decide +kernel)
theorem xd_203_363 : decode (wk_M 203).2.2.1 363 = .ok (.aload_n 0, 1) := zd_by (by decide +kernel)
theorem xd_203_364 : decode (wk_M 203).2.2.1 364 = .ok (.getfield 282, 3) := zd_by (by decide +kernel)
theorem xd_203_367 : decode (wk_M 203).2.2.1 367 = .ok (.ifCond .lt 5, 3) := zd_by (by decide +kernel)
theorem xd_203_370 : decode (wk_M 203).2.2.1 370 = .ok (.iconst 1, 1) := zd_by (by decide +kernel)
theorem xd_203_371 : decode (wk_M 203).2.2.1 371 = .ok (.ireturn, 1) := zd_by (by decide +kernel)
theorem xd_203_372 : decode (wk_M 203).2.2.1 372 = .ok (.aload_n 0, 1) := zd_by (by decide +kernel)
theorem xd_203_373 : decode (wk_M 203).2.2.1 373 = .ok (.iconst 1, 1) := zd_by (by decide +kernel)
theorem xd_203_374 : decode (wk_M 203).2.2.1 374 = .ok (.putfield 268, 3) := zd_by (by decide +kernel)
theorem xd_203_377 : decode (wk_M 203).2.2.1 377 = .ok (.aload_n 0, 1) := zd_by (by decide +kernel)
theorem xd_203_378 : decode (wk_M 203).2.2.1 378 = .ok (.lload_n 1, 1) := zd_by (by decide +kernel)
theorem xd_203_379 : decode (wk_M 203).2.2.1 379 = .ok (.ldc2_w 317, 3) := zd_by (by decide +kernel)
theorem xd_203_382 : decode (wk_M 203).2.2.1 382 = .ok (.lcmp, 1) := zd_by (by decide +kernel)
theorem xd_203_383 : decode (wk_M 203).2.2.1 383 = .ok (.ifCond .ne 8, 3) := zd_by (by decide +kernel)
theorem xd_203_386 : decode (wk_M 203).2.2.1 386 = .ok (.bipush 12, 2) := zd_by (by decide +kernel)
theorem xd_203_388 : decode (wk_M 203).2.2.1 388 = .ok (.goto 4, 3) := zd_by (by decide +kernel)
theorem xd_203_391 : decode (wk_M 203).2.2.1 391 = .ok (.iconst 3, 1) := zd_by (by decide +kernel)
theorem xd_203_392 : decode (wk_M 203).2.2.1 392 = .ok (.putfield 271, 3) := zd_by (by decide +kernel)
theorem xd_203_395 : decode (wk_M 203).2.2.1 395 = .ok (.aload_n 0, 1) := zd_by (by decide +kernel)
theorem xd_203_396 : decode (wk_M 203).2.2.1 396 = .ok (.lload_n 1, 1) := zd_by (by decide +kernel)
theorem xd_203_397 : decode (wk_M 203).2.2.1 397 = .ok (.ldc2_w 317, 3) := zd_by (by decide +kernel)
theorem xd_203_400 : decode (wk_M 203).2.2.1 400 = .ok (.lcmp, 1) := zd_by (by decide +kernel)
theorem xd_203_401 : decode (wk_M 203).2.2.1 401 = .ok (.ifCond .ne 9, 3) := zd_by (by decide +kernel)
theorem xd_203_404 : decode (wk_M 203).2.2.1 404 = .ok (.sipush 132, 3) := zd_by (by decide +kernel)
theorem xd_203_407 : decode (wk_M 203).2.2.1 407 = .ok (.goto 31, 3) := zd_by (by decide +kernel)
theorem xd_203_410 : decode (wk_M 203).2.2.1 410 = .ok (.lload_n 1, 1) := zd_by (by decide +kernel)
theorem xd_203_411 : decode (wk_M 203).2.2.1 411 = .ok (.ldc2_w 319, 3) := zd_by (by decide +kernel)
theorem xd_203_414 : decode (wk_M 203).2.2.1 414 = .ok (.lcmp, 1) := zd_by (by decide +kernel)
theorem xd_203_415 : decode (wk_M 203).2.2.1 415 = .ok (.ifCond .ne 8, 3) := zd_by (by decide +kernel)
theorem xd_203_418 : decode (wk_M 203).2.2.1 418 = .ok (.bipush 65, 2) := zd_by (by decide +kernel)
theorem xd_203_420 : decode (wk_M 203).2.2.1 420 = .ok (.goto 18, 3) := zd_by (by decide +kernel)
theorem xd_203_423 : decode (wk_M 203).2.2.1 423 = .ok (.lload_n 1, 1) := zd_by (by decide +kernel)
theorem xd_203_424 : decode (wk_M 203).2.2.1 424 = .ok (.ldc2_w 321, 3) := zd_by (by decide +kernel)
theorem xd_203_427 : decode (wk_M 203).2.2.1 427 = .ok (.lcmp, 1) := zd_by (by decide +kernel)
theorem xd_203_428 : decode (wk_M 203).2.2.1 428 = .ok (.ifCond .ne 9, 3) := zd_by (by decide +kernel)
theorem xd_203_431 : decode (wk_M 203).2.2.1 431 = .ok (.sipush 156, 3) := zd_by (by decide +kernel)
theorem xd_203_434 : decode (wk_M 203).2.2.1 434 = .ok (.goto 4, 3) := zd_by (by decide +kernel)
theorem xd_203_437 : decode (wk_M 203).2.2.1 437 = .ok (.iconst (-1), 1) := zd_by (by decide +kernel)
theorem xd_203_438 : decode (wk_M 203).2.2.1 438 = .ok (.putfield 282, 3) := zd_by (by decide +kernel)
theorem xd_203_441 : decode (wk_M 203).2.2.1 441 = .ok (.aload_n 0, 1) := zd_by (by decide +kernel)
theorem xd_203_442 : decode (wk_M 203).2.2.1 442 = .ok (.getfield 282, 3) := zd_by (by decide +kernel)
theorem xd_203_445 : decode (wk_M 203).2.2.1 445 = .ok (.ifCond .lt 7, 3) := zd_by (by decide +kernel)
theorem xd_203_448 : decode (wk_M 203).2.2.1 448 = .ok (.iconst 1, 1) := zd_by (by decide +kernel)
theorem xd_203_449 : decode (wk_M 203).2.2.1 449 = .ok (.goto 4, 3) := zd_by (by decide +kernel)
theorem xd_203_452 : decode (wk_M 203).2.2.1 452 = .ok (.iconst 0, 1) := zd_by (by decide +kernel)
theorem xd_203_453 : decode (wk_M 203).2.2.1 453 = .ok (.ireturn, 1) := zd_by (by decide +kernel)
abbrev D_203 (y0 : Nat) (m : dc_M) (v : Int) (m' : dc_M) : Prop := ∃ m_10, m_10 = dc_up m 114 22 1 ∧ (∃ m_23, m_23 = dc_up m_10 114 21 20 ∧ (((((sv_g (ae_lcmp y0 99)) : Int) ≠ 0 ∧ (((((sv_g (ae_lcmp y0 97)) : Int) ≠ 0 ∧ (((((sv_g (ae_lcmp y0 120)) : Int) ≠ 0 ∧ (((((sv_g (ae_lcmp y0 113)) : Int) ≠ 0 ∧ (∃ m_88, m_88 = dc_up m_23 114 20 (-1) ∧ (∃ m_112, m_112 = dc_up m_88 114 21 1 ∧ (((((sv_g (ae_lcmp y0 101)) : Int) ≠ 0 ∧ (((((sv_g (ae_lcmp y0 109)) : Int) ≠ 0 ∧ (((((sv_g (ae_lcmp y0 1751215220)) : Int) ≠ 0 ∧ (∃ m_164, m_164 = dc_up m_112 114 20 (-1) ∧ (∃ m_188, m_188 = dc_up m_164 114 21 4 ∧ (((((sv_g (ae_lcmp y0 117)) : Int) ≠ 0 ∧ (((((sv_g (ae_lcmp y0 122)) : Int) ≠ 0 ∧ (((((sv_g (ae_lcmp y0 1886156147)) : Int) ≠ 0 ∧ (((((sv_g (ae_lcmp y0 469920281971)) : Int) ≠ 0 ∧ (((((sv_g (ae_lcmp y0 427020345714)) : Int) ≠ 0 ∧ (((((sv_g (ae_lcmp y0 115)) : Int) ≠ 0 ∧ (((((sv_g (ae_lcmp y0 27489)) : Int) ≠ 0 ∧ (((((sv_g (ae_lcmp y0 27490)) : Int) ≠ 0 ∧ (∃ m_305, m_305 = dc_up m_188 114 20 (-1) ∧ (((((sv_g (ae_lcmp y0 111)) : Int) = 0 ∧ (∃ m_345, m_345 = dc_up m_305 114 22 6 ∧ (((((sv_g (ae_lcmp y0 111)) : Int) ≠ 0 ∧ (((((sv_g (ae_lcmp y0 105)) : Int) ≠ 0 ∧ (((((sv_g (ae_lcmp y0 29283)) : Int) ≠ 0 ∧ (((((sv_g (ae_lcmp y0 29294)) : Int) ≠ 0 ∧ (((((sv_g (ae_lcmp y0 29300)) : Int) ≠ 0 ∧ (∃ m_423, m_423 = dc_up m_345 114 20 (-1) ∧ (∃ m_447, m_447 = dc_up m_423 114 22 1 ∧ (((((sv_g (ae_lcmp y0 112)) : Int) ≠ 0 ∧ (∃ m_473, m_473 = dc_up m_447 114 21 3 ∧ (((((sv_g (ae_lcmp y0 112)) : Int) ≠ 0 ∧ (((((sv_g (ae_lcmp y0 116)) : Int) ≠ 0 ∧ (((((sv_g (ae_lcmp y0 98)) : Int) ≠ 0 ∧ (∃ m_525, m_525 = dc_up m_473 114 20 (-1) ∧ (v = 0 ∧ m' = m_525))) ∨ (¬ (((sv_g (ae_lcmp y0 98)) : Int) ≠ 0) ∧ (∃ m_553, m_553 = dc_up m_473 114 20 156 ∧ (v = 1 ∧ m' = m_553)))))) ∨ (¬ (((sv_g (ae_lcmp y0 116)) : Int) ≠ 0) ∧ (∃ m_584, m_584 = dc_up m_473 114 20 65 ∧ (v = 1 ∧ m' = m_584)))))) ∨ (¬ (((sv_g (ae_lcmp y0 112)) : Int) ≠ 0) ∧ (∃ m_615, m_615 = dc_up m_473 114 20 132 ∧ (v = 1 ∧ m' = m_615))))))) ∨ (¬ (((sv_g (ae_lcmp y0 112)) : Int) ≠ 0) ∧ (∃ m_646, m_646 = dc_up m_447 114 21 12 ∧ (((((sv_g (ae_lcmp y0 112)) : Int) ≠ 0 ∧ (((((sv_g (ae_lcmp y0 116)) : Int) ≠ 0 ∧ (((((sv_g (ae_lcmp y0 98)) : Int) ≠ 0 ∧ (∃ m_698, m_698 = dc_up m_646 114 20 (-1) ∧ (v = 0 ∧ m' = m_698))) ∨ (¬ (((sv_g (ae_lcmp y0 98)) : Int) ≠ 0) ∧ (∃ m_726, m_726 = dc_up m_646 114 20 156 ∧ (v = 1 ∧ m' = m_726)))))) ∨ (¬ (((sv_g (ae_lcmp y0 116)) : Int) ≠ 0) ∧ (∃ m_757, m_757 = dc_up m_646 114 20 65 ∧ (v = 1 ∧ m' = m_757)))))) ∨ (¬ (((sv_g (ae_lcmp y0 112)) : Int) ≠ 0) ∧ (∃ m_788, m_788 = dc_up m_646 114 20 132 ∧ (v = 1 ∧ m' = m_788)))))))))))) ∨ (¬ (((sv_g (ae_lcmp y0 29300)) : Int) ≠ 0) ∧ (∃ m_819, m_819 = dc_up m_345 114 20 205 ∧ (v = 1 ∧ m' = m_819)))))) ∨ (¬ (((sv_g (ae_lcmp y0 29294)) : Int) ≠ 0) ∧ (∃ m_847, m_847 = dc_up m_345 114 20 193 ∧ (v = 1 ∧ m' = m_847)))))) ∨ (¬ (((sv_g (ae_lcmp y0 29283)) : Int) ≠ 0) ∧ (∃ m_875, m_875 = dc_up m_345 114 20 181 ∧ (v = 1 ∧ m' = m_875)))))) ∨ (¬ (((sv_g (ae_lcmp y0 105)) : Int) ≠ 0) ∧ (∃ m_903, m_903 = dc_up m_345 114 20 96 ∧ (v = 1 ∧ m' = m_903)))))) ∨ (¬ (((sv_g (ae_lcmp y0 111)) : Int) ≠ 0) ∧ (∃ m_931, m_931 = dc_up m_345 114 20 68 ∧ (v = 1 ∧ m' = m_931))))))) ∨ (¬ (((sv_g (ae_lcmp y0 111)) : Int) = 0) ∧ (((((sv_g (ae_lcmp y0 105)) : Int) ≠ 0 ∧ (∃ m_969, m_969 = dc_up m_305 114 22 3 ∧ (((((sv_g (ae_lcmp y0 111)) : Int) ≠ 0 ∧ (((((sv_g (ae_lcmp y0 105)) : Int) ≠ 0 ∧ (((((sv_g (ae_lcmp y0 29283)) : Int) ≠ 0 ∧ (((((sv_g (ae_lcmp y0 29294)) : Int) ≠ 0 ∧ (((((sv_g (ae_lcmp y0 29300)) : Int) ≠ 0 ∧ (∃ m_1047, m_1047 = dc_up m_969 114 20 (-1) ∧ (∃ m_1071, m_1071 = dc_up m_1047 114 22 1 ∧ (((((sv_g (ae_lcmp y0 112)) : Int) ≠ 0 ∧ (∃ m_1097, m_1097 = dc_up m_1071 114 21 3 ∧ (((((sv_g (ae_lcmp y0 112)) : Int) ≠ 0 ∧ (((((sv_g (ae_lcmp y0 116)) : Int) ≠ 0 ∧ (((((sv_g (ae_lcmp y0 98)) : Int) ≠ 0 ∧ (∃ m_1149, m_1149 = dc_up m_1097 114 20 (-1) ∧ (v = 0 ∧ m' = m_1149))) ∨ (¬ (((sv_g (ae_lcmp y0 98)) : Int) ≠ 0) ∧ (∃ m_1177, m_1177 = dc_up m_1097 114 20 156 ∧ (v = 1 ∧ m' = m_1177)))))) ∨ (¬ (((sv_g (ae_lcmp y0 116)) : Int) ≠ 0) ∧ (∃ m_1208, m_1208 = dc_up m_1097 114 20 65 ∧ (v = 1 ∧ m' = m_1208)))))) ∨ (¬ (((sv_g (ae_lcmp y0 112)) : Int) ≠ 0) ∧ (∃ m_1239, m_1239 = dc_up m_1097 114 20 132 ∧ (v = 1 ∧ m' = m_1239))))))) ∨ (¬ (((sv_g (ae_lcmp y0 112)) : Int) ≠ 0) ∧ (∃ m_1270, m_1270 = dc_up m_1071 114 21 12 ∧ (((((sv_g (ae_lcmp y0 112)) : Int) ≠ 0 ∧ (((((sv_g (ae_lcmp y0 116)) : Int) ≠ 0 ∧ (((((sv_g (ae_lcmp y0 98)) : Int) ≠ 0 ∧ (∃ m_1322, m_1322 = dc_up m_1270 114 20 (-1) ∧ (v = 0 ∧ m' = m_1322))) ∨ (¬ (((sv_g (ae_lcmp y0 98)) : Int) ≠ 0) ∧ (∃ m_1350, m_1350 = dc_up m_1270 114 20 156 ∧ (v = 1 ∧ m' = m_1350)))))) ∨ (¬ (((sv_g (ae_lcmp y0 116)) : Int) ≠ 0) ∧ (∃ m_1381, m_1381 = dc_up m_1270 114 20 65 ∧ (v = 1 ∧ m' = m_1381)))))) ∨ (¬ (((sv_g (ae_lcmp y0 112)) : Int) ≠ 0) ∧ (∃ m_1412, m_1412 = dc_up m_1270 114 20 132 ∧ (v = 1 ∧ m' = m_1412)))))))))))) ∨ (¬ (((sv_g (ae_lcmp y0 29300)) : Int) ≠ 0) ∧ (∃ m_1443, m_1443 = dc_up m_969 114 20 205 ∧ (v = 1 ∧ m' = m_1443)))))) ∨ (¬ (((sv_g (ae_lcmp y0 29294)) : Int) ≠ 0) ∧ (∃ m_1471, m_1471 = dc_up m_969 114 20 193 ∧ (v = 1 ∧ m' = m_1471)))))) ∨ (¬ (((sv_g (ae_lcmp y0 29283)) : Int) ≠ 0) ∧ (∃ m_1499, m_1499 = dc_up m_969 114 20 181 ∧ (v = 1 ∧ m' = m_1499)))))) ∨ (¬ (((sv_g (ae_lcmp y0 105)) : Int) ≠ 0) ∧ (∃ m_1527, m_1527 = dc_up m_969 114 20 96 ∧ (v = 1 ∧ m' = m_1527)))))) ∨ (¬ (((sv_g (ae_lcmp y0 111)) : Int) ≠ 0) ∧ (∃ m_1555, m_1555 = dc_up m_969 114 20 68 ∧ (v = 1 ∧ m' = m_1555))))))) ∨ (¬ (((sv_g (ae_lcmp y0 105)) : Int) ≠ 0) ∧ (∃ m_1583, m_1583 = dc_up m_305 114 22 6 ∧ (((((sv_g (ae_lcmp y0 111)) : Int) ≠ 0 ∧ (((((sv_g (ae_lcmp y0 105)) : Int) ≠ 0 ∧ (((((sv_g (ae_lcmp y0 29283)) : Int) ≠ 0 ∧ (((((sv_g (ae_lcmp y0 29294)) : Int) ≠ 0 ∧ (((((sv_g (ae_lcmp y0 29300)) : Int) ≠ 0 ∧ (∃ m_1661, m_1661 = dc_up m_1583 114 20 (-1) ∧ (∃ m_1685, m_1685 = dc_up m_1661 114 22 1 ∧ (((((sv_g (ae_lcmp y0 112)) : Int) ≠ 0 ∧ (∃ m_1711, m_1711 = dc_up m_1685 114 21 3 ∧ (((((sv_g (ae_lcmp y0 112)) : Int) ≠ 0 ∧ (((((sv_g (ae_lcmp y0 116)) : Int) ≠ 0 ∧ (((((sv_g (ae_lcmp y0 98)) : Int) ≠ 0 ∧ (∃ m_1763, m_1763 = dc_up m_1711 114 20 (-1) ∧ (v = 0 ∧ m' = m_1763))) ∨ (¬ (((sv_g (ae_lcmp y0 98)) : Int) ≠ 0) ∧ (∃ m_1791, m_1791 = dc_up m_1711 114 20 156 ∧ (v = 1 ∧ m' = m_1791)))))) ∨ (¬ (((sv_g (ae_lcmp y0 116)) : Int) ≠ 0) ∧ (∃ m_1822, m_1822 = dc_up m_1711 114 20 65 ∧ (v = 1 ∧ m' = m_1822)))))) ∨ (¬ (((sv_g (ae_lcmp y0 112)) : Int) ≠ 0) ∧ (∃ m_1853, m_1853 = dc_up m_1711 114 20 132 ∧ (v = 1 ∧ m' = m_1853))))))) ∨ (¬ (((sv_g (ae_lcmp y0 112)) : Int) ≠ 0) ∧ (∃ m_1884, m_1884 = dc_up m_1685 114 21 12 ∧ (((((sv_g (ae_lcmp y0 112)) : Int) ≠ 0 ∧ (((((sv_g (ae_lcmp y0 116)) : Int) ≠ 0 ∧ (((((sv_g (ae_lcmp y0 98)) : Int) ≠ 0 ∧ (∃ m_1936, m_1936 = dc_up m_1884 114 20 (-1) ∧ (v = 0 ∧ m' = m_1936))) ∨ (¬ (((sv_g (ae_lcmp y0 98)) : Int) ≠ 0) ∧ (∃ m_1964, m_1964 = dc_up m_1884 114 20 156 ∧ (v = 1 ∧ m' = m_1964)))))) ∨ (¬ (((sv_g (ae_lcmp y0 116)) : Int) ≠ 0) ∧ (∃ m_1995, m_1995 = dc_up m_1884 114 20 65 ∧ (v = 1 ∧ m' = m_1995)))))) ∨ (¬ (((sv_g (ae_lcmp y0 112)) : Int) ≠ 0) ∧ (∃ m_2026, m_2026 = dc_up m_1884 114 20 132 ∧ (v = 1 ∧ m' = m_2026)))))))))))) ∨ (¬ (((sv_g (ae_lcmp y0 29300)) : Int) ≠ 0) ∧ (∃ m_2057, m_2057 = dc_up m_1583 114 20 205 ∧ (v = 1 ∧ m' = m_2057)))))) ∨ (¬ (((sv_g (ae_lcmp y0 29294)) : Int) ≠ 0) ∧ (∃ m_2085, m_2085 = dc_up m_1583 114 20 193 ∧ (v = 1 ∧ m' = m_2085)))))) ∨ (¬ (((sv_g (ae_lcmp y0 29283)) : Int) ≠ 0) ∧ (∃ m_2113, m_2113 = dc_up m_1583 114 20 181 ∧ (v = 1 ∧ m' = m_2113)))))) ∨ (¬ (((sv_g (ae_lcmp y0 105)) : Int) ≠ 0) ∧ (∃ m_2141, m_2141 = dc_up m_1583 114 20 96 ∧ (v = 1 ∧ m' = m_2141)))))) ∨ (¬ (((sv_g (ae_lcmp y0 111)) : Int) ≠ 0) ∧ (∃ m_2169, m_2169 = dc_up m_1583 114 20 68 ∧ (v = 1 ∧ m' = m_2169)))))))))))))) ∨ (¬ (((sv_g (ae_lcmp y0 27490)) : Int) ≠ 0) ∧ (∃ m_2197, m_2197 = dc_up m_188 114 20 152 ∧ (v = 1 ∧ m' = m_2197)))))) ∨ (¬ (((sv_g (ae_lcmp y0 27489)) : Int) ≠ 0) ∧ (∃ m_2225, m_2225 = dc_up m_188 114 20 148 ∧ (v = 1 ∧ m' = m_2225)))))) ∨ (¬ (((sv_g (ae_lcmp y0 115)) : Int) ≠ 0) ∧ (∃ m_2253, m_2253 = dc_up m_188 114 20 144 ∧ (v = 1 ∧ m' = m_2253)))))) ∨ (¬ (((sv_g (ae_lcmp y0 427020345714)) : Int) ≠ 0) ∧ (∃ m_2281, m_2281 = dc_up m_188 114 20 128 ∧ (v = 1 ∧ m' = m_2281)))))) ∨ (¬ (((sv_g (ae_lcmp y0 469920281971)) : Int) ≠ 0) ∧ (∃ m_2309, m_2309 = dc_up m_188 114 20 124 ∧ (v = 1 ∧ m' = m_2309)))))) ∨ (¬ (((sv_g (ae_lcmp y0 1886156147)) : Int) ≠ 0) ∧ (∃ m_2337, m_2337 = dc_up m_188 114 20 120 ∧ (v = 1 ∧ m' = m_2337)))))) ∨ (¬ (((sv_g (ae_lcmp y0 122)) : Int) ≠ 0) ∧ (∃ m_2365, m_2365 = dc_up m_188 114 20 92 ∧ (v = 1 ∧ m' = m_2365)))))) ∨ (¬ (((sv_g (ae_lcmp y0 117)) : Int) ≠ 0) ∧ (∃ m_2393, m_2393 = dc_up m_188 114 20 61 ∧ (v = 1 ∧ m' = m_2393)))))))) ∨ (¬ (((sv_g (ae_lcmp y0 1751215220)) : Int) ≠ 0) ∧ (∃ m_2421, m_2421 = dc_up m_112 114 20 180 ∧ (v = 1 ∧ m' = m_2421)))))) ∨ (¬ (((sv_g (ae_lcmp y0 109)) : Int) ≠ 0) ∧ (∃ m_2449, m_2449 = dc_up m_112 114 20 179 ∧ (v = 1 ∧ m' = m_2449)))))) ∨ (¬ (((sv_g (ae_lcmp y0 101)) : Int) ≠ 0) ∧ (∃ m_2477, m_2477 = dc_up m_112 114 20 60 ∧ (v = 1 ∧ m' = m_2477)))))))) ∨ (¬ (((sv_g (ae_lcmp y0 113)) : Int) ≠ 0) ∧ (∃ m_2505, m_2505 = dc_up m_23 114 20 159 ∧ (v = 1 ∧ m' = m_2505)))))) ∨ (¬ (((sv_g (ae_lcmp y0 120)) : Int) ≠ 0) ∧ (∃ m_2533, m_2533 = dc_up m_23 114 20 40 ∧ (v = 1 ∧ m' = m_2533)))))) ∨ (¬ (((sv_g (ae_lcmp y0 97)) : Int) ≠ 0) ∧ (∃ m_2561, m_2561 = dc_up m_23 114 20 20 ∧ (v = 1 ∧ m' = m_2561)))))) ∨ (¬ (((sv_g (ae_lcmp y0 99)) : Int) ≠ 0) ∧ (∃ m_2589, m_2589 = dc_up m_23 114 20 0 ∧ (v = 1 ∧ m' = m_2589))))))
theorem ds_203 (n : Nat) (y0 : Nat) {h : ae_H} {r : ae_R} (ok : dc_ok h) (iy0 : y0 < 18446744073709551616) (hr : ae_exe n 203 0 0 0 (ae_args [wk_r 114, wk_l y0] 0) [] h = some r) : ∃ v, D_203 y0 (dc_m h) v (dc_m r.2) ∧ r.1 = some (wk_i v) ∧ sv_I v ∧ dc_ok r.2 := by
  have q0 : ae_lk (ae_args [wk_r 114, wk_l y0] 0) 0 = some (wk_r 114) := rfl
  have q1 : ae_lk (ae_args [wk_r 114, wk_l y0] 0) 1 = some (wk_l y0) := rfl
  obtain ⟨n_1, e_2, hr_3⟩ := iv_aload_n xm_203 xd_203_0 q0 hr
  obtain ⟨n_4, e_5, hr_6⟩ := iv_iconst xm_203 xd_203_1 (by decide) hr_3
  obtain ⟨h_7, ok_8, em_9, n_11, e_12, hr_13⟩ := iv_puti (j := 22) (fk := 0) xm_203 xd_203_2 (by decide +kernel) ok (rfl : sv_ty 114 = some 12) dt_12 rfl (by decide +kernel) rfl (by unfold sv_I; omega) hr_6
  obtain ⟨n_14, e_15, hr_16⟩ := iv_aload_n xm_203 xd_203_5 q0 hr_13
  obtain ⟨n_17, e_18, hr_19⟩ := iv_bipush xm_203 xd_203_6 (by decide) hr_16
  obtain ⟨h_20, ok_21, em_22, n_24, e_25, hr_26⟩ := iv_puti (j := 21) (fk := 0) xm_203 xd_203_8 (by decide +kernel) ok_8 (rfl : sv_ty 114 = some 12) dt_12 rfl (by decide +kernel) rfl (by unfold sv_I; omega) hr_19
  obtain ⟨n_27, e_28, hr_29⟩ := iv_aload_n xm_203 xd_203_11 q0 hr_26
  obtain ⟨n_30, e_31, hr_32⟩ := iv_lload_n xm_203 xd_203_12 q1 hr_29
  obtain ⟨n_33, e_34, hr_35⟩ := iv_ldc2 (v := 99) (z := 0) xm_203 xd_203_13 (by decide +kernel) hr_32
  obtain ⟨n_36, e_37, hr_38⟩ := iv_lcmp xm_203 xd_203_16 hr_35
  rcases iv_if 24 xm_203 xd_203_17 (by decide) (sv_g_I (ae_lcmp_lt _ _)) hr_38 with ⟨c_39, n_40, e_41, hr_42⟩ | ⟨c_39, n_40, e_41, hr_42⟩
  · obtain ⟨n_43, e_44, hr_45⟩ := iv_lload_n xm_203 xd_203_24 q1 hr_42
    obtain ⟨n_46, e_47, hr_48⟩ := iv_ldc2 (v := 97) (z := 0) xm_203 xd_203_25 (by decide +kernel) hr_45
    obtain ⟨n_49, e_50, hr_51⟩ := iv_lcmp xm_203 xd_203_28 hr_48
    rcases iv_if 37 xm_203 xd_203_29 (by decide) (sv_g_I (ae_lcmp_lt _ _)) hr_51 with ⟨c_52, n_53, e_54, hr_55⟩ | ⟨c_52, n_53, e_54, hr_55⟩
    · obtain ⟨n_56, e_57, hr_58⟩ := iv_lload_n xm_203 xd_203_37 q1 hr_55
      obtain ⟨n_59, e_60, hr_61⟩ := iv_ldc2 (v := 120) (z := 0) xm_203 xd_203_38 (by decide +kernel) hr_58
      obtain ⟨n_62, e_63, hr_64⟩ := iv_lcmp xm_203 xd_203_41 hr_61
      rcases iv_if 50 xm_203 xd_203_42 (by decide) (sv_g_I (ae_lcmp_lt _ _)) hr_64 with ⟨c_65, n_66, e_67, hr_68⟩ | ⟨c_65, n_66, e_67, hr_68⟩
      · obtain ⟨n_69, e_70, hr_71⟩ := iv_lload_n xm_203 xd_203_50 q1 hr_68
        obtain ⟨n_72, e_73, hr_74⟩ := iv_ldc2 (v := 113) (z := 0) xm_203 xd_203_51 (by decide +kernel) hr_71
        obtain ⟨n_75, e_76, hr_77⟩ := iv_lcmp xm_203 xd_203_54 hr_74
        rcases iv_if 64 xm_203 xd_203_55 (by decide) (sv_g_I (ae_lcmp_lt _ _)) hr_77 with ⟨c_78, n_79, e_80, hr_81⟩ | ⟨c_78, n_79, e_80, hr_81⟩
        · obtain ⟨n_82, e_83, hr_84⟩ := iv_iconst xm_203 xd_203_64 (by decide) hr_81
          obtain ⟨h_85, ok_86, em_87, n_89, e_90, hr_91⟩ := iv_puti (j := 20) (fk := 0) xm_203 xd_203_65 (by decide +kernel) ok_21 (rfl : sv_ty 114 = some 12) dt_12 rfl (by decide +kernel) rfl (by unfold sv_I; omega) hr_84
          obtain ⟨n_92, e_93, hr_94⟩ := iv_aload_n xm_203 xd_203_68 q0 hr_91
          have f_95 := dc_fi (j := 20) ok_86 (rfl : sv_ty 114 = some 12) dt_12 rfl
          obtain ⟨n_96, e_97, hr_98⟩ := iv_getf (j := 20) xm_203 xd_203_69 (by decide +kernel) ok_86 (rfl : sv_ty 114 = some 12) dt_12 f_95.1 hr_94
          rcases iv_if 77 xm_203 xd_203_72 (by decide) f_95.2 hr_98 with ⟨c_99, n_100, e_101, hr_102⟩ | ⟨c_99, n_100, e_101, hr_102⟩
          rotate_left
          · exact absurd (show ¬ (((-1) : Int) < 0) by have z := c_99; rw [em_87, dc_up_s] at z; exact z) (by decide)
          obtain ⟨n_103, e_104, hr_105⟩ := iv_aload_n xm_203 xd_203_77 q0 hr_102
          obtain ⟨n_106, e_107, hr_108⟩ := iv_iconst xm_203 xd_203_78 (by decide) hr_105
          obtain ⟨h_109, ok_110, em_111, n_113, e_114, hr_115⟩ := iv_puti (j := 21) (fk := 0) xm_203 xd_203_79 (by decide +kernel) ok_86 (rfl : sv_ty 114 = some 12) dt_12 rfl (by decide +kernel) rfl (by unfold sv_I; omega) hr_108
          obtain ⟨n_116, e_117, hr_118⟩ := iv_aload_n xm_203 xd_203_82 q0 hr_115
          obtain ⟨n_119, e_120, hr_121⟩ := iv_lload_n xm_203 xd_203_83 q1 hr_118
          obtain ⟨n_122, e_123, hr_124⟩ := iv_ldc2 (v := 101) (z := 0) xm_203 xd_203_84 (by decide +kernel) hr_121
          obtain ⟨n_125, e_126, hr_127⟩ := iv_lcmp xm_203 xd_203_87 hr_124
          rcases iv_if 96 xm_203 xd_203_88 (by decide) (sv_g_I (ae_lcmp_lt _ _)) hr_127 with ⟨c_128, n_129, e_130, hr_131⟩ | ⟨c_128, n_129, e_130, hr_131⟩
          · obtain ⟨n_132, e_133, hr_134⟩ := iv_lload_n xm_203 xd_203_96 q1 hr_131
            obtain ⟨n_135, e_136, hr_137⟩ := iv_ldc2 (v := 109) (z := 0) xm_203 xd_203_97 (by decide +kernel) hr_134
            obtain ⟨n_138, e_139, hr_140⟩ := iv_lcmp xm_203 xd_203_100 hr_137
            rcases iv_if 110 xm_203 xd_203_101 (by decide) (sv_g_I (ae_lcmp_lt _ _)) hr_140 with ⟨c_141, n_142, e_143, hr_144⟩ | ⟨c_141, n_142, e_143, hr_144⟩
            · obtain ⟨n_145, e_146, hr_147⟩ := iv_lload_n xm_203 xd_203_110 q1 hr_144
              obtain ⟨n_148, e_149, hr_150⟩ := iv_ldc2 (v := 1751215220) (z := 0) xm_203 xd_203_111 (by decide +kernel) hr_147
              obtain ⟨n_151, e_152, hr_153⟩ := iv_lcmp xm_203 xd_203_114 hr_150
              rcases iv_if 124 xm_203 xd_203_115 (by decide) (sv_g_I (ae_lcmp_lt _ _)) hr_153 with ⟨c_154, n_155, e_156, hr_157⟩ | ⟨c_154, n_155, e_156, hr_157⟩
              · obtain ⟨n_158, e_159, hr_160⟩ := iv_iconst xm_203 xd_203_124 (by decide) hr_157
                obtain ⟨h_161, ok_162, em_163, n_165, e_166, hr_167⟩ := iv_puti (j := 20) (fk := 0) xm_203 xd_203_125 (by decide +kernel) ok_110 (rfl : sv_ty 114 = some 12) dt_12 rfl (by decide +kernel) rfl (by unfold sv_I; omega) hr_160
                obtain ⟨n_168, e_169, hr_170⟩ := iv_aload_n xm_203 xd_203_128 q0 hr_167
                have f_171 := dc_fi (j := 20) ok_162 (rfl : sv_ty 114 = some 12) dt_12 rfl
                obtain ⟨n_172, e_173, hr_174⟩ := iv_getf (j := 20) xm_203 xd_203_129 (by decide +kernel) ok_162 (rfl : sv_ty 114 = some 12) dt_12 f_171.1 hr_170
                rcases iv_if 137 xm_203 xd_203_132 (by decide) f_171.2 hr_174 with ⟨c_175, n_176, e_177, hr_178⟩ | ⟨c_175, n_176, e_177, hr_178⟩
                rotate_left
                · exact absurd (show ¬ (((-1) : Int) < 0) by have z := c_175; rw [em_163, dc_up_s] at z; exact z) (by decide)
                obtain ⟨n_179, e_180, hr_181⟩ := iv_aload_n xm_203 xd_203_137 q0 hr_178
                obtain ⟨n_182, e_183, hr_184⟩ := iv_iconst xm_203 xd_203_138 (by decide) hr_181
                obtain ⟨h_185, ok_186, em_187, n_189, e_190, hr_191⟩ := iv_puti (j := 21) (fk := 0) xm_203 xd_203_139 (by decide +kernel) ok_162 (rfl : sv_ty 114 = some 12) dt_12 rfl (by decide +kernel) rfl (by unfold sv_I; omega) hr_184
                obtain ⟨n_192, e_193, hr_194⟩ := iv_aload_n xm_203 xd_203_142 q0 hr_191
                obtain ⟨n_195, e_196, hr_197⟩ := iv_lload_n xm_203 xd_203_143 q1 hr_194
                obtain ⟨n_198, e_199, hr_200⟩ := iv_ldc2 (v := 117) (z := 0) xm_203 xd_203_144 (by decide +kernel) hr_197
                obtain ⟨n_201, e_202, hr_203⟩ := iv_lcmp xm_203 xd_203_147 hr_200
                rcases iv_if 156 xm_203 xd_203_148 (by decide) (sv_g_I (ae_lcmp_lt _ _)) hr_203 with ⟨c_204, n_205, e_206, hr_207⟩ | ⟨c_204, n_205, e_206, hr_207⟩
                · obtain ⟨n_208, e_209, hr_210⟩ := iv_lload_n xm_203 xd_203_156 q1 hr_207
                  obtain ⟨n_211, e_212, hr_213⟩ := iv_ldc2 (v := 122) (z := 0) xm_203 xd_203_157 (by decide +kernel) hr_210
                  obtain ⟨n_214, e_215, hr_216⟩ := iv_lcmp xm_203 xd_203_160 hr_213
                  rcases iv_if 169 xm_203 xd_203_161 (by decide) (sv_g_I (ae_lcmp_lt _ _)) hr_216 with ⟨c_217, n_218, e_219, hr_220⟩ | ⟨c_217, n_218, e_219, hr_220⟩
                  · obtain ⟨n_221, e_222, hr_223⟩ := iv_lload_n xm_203 xd_203_169 q1 hr_220
                    obtain ⟨n_224, e_225, hr_226⟩ := iv_ldc2 (v := 1886156147) (z := 0) xm_203 xd_203_170 (by decide +kernel) hr_223
                    obtain ⟨n_227, e_228, hr_229⟩ := iv_lcmp xm_203 xd_203_173 hr_226
                    rcases iv_if 182 xm_203 xd_203_174 (by decide) (sv_g_I (ae_lcmp_lt _ _)) hr_229 with ⟨c_230, n_231, e_232, hr_233⟩ | ⟨c_230, n_231, e_232, hr_233⟩
                    · obtain ⟨n_234, e_235, hr_236⟩ := iv_lload_n xm_203 xd_203_182 q1 hr_233
                      obtain ⟨n_237, e_238, hr_239⟩ := iv_ldc2 (v := 469920281971) (z := 0) xm_203 xd_203_183 (by decide +kernel) hr_236
                      obtain ⟨n_240, e_241, hr_242⟩ := iv_lcmp xm_203 xd_203_186 hr_239
                      rcases iv_if 195 xm_203 xd_203_187 (by decide) (sv_g_I (ae_lcmp_lt _ _)) hr_242 with ⟨c_243, n_244, e_245, hr_246⟩ | ⟨c_243, n_244, e_245, hr_246⟩
                      · obtain ⟨n_247, e_248, hr_249⟩ := iv_lload_n xm_203 xd_203_195 q1 hr_246
                        obtain ⟨n_250, e_251, hr_252⟩ := iv_ldc2 (v := 427020345714) (z := 0) xm_203 xd_203_196 (by decide +kernel) hr_249
                        obtain ⟨n_253, e_254, hr_255⟩ := iv_lcmp xm_203 xd_203_199 hr_252
                        rcases iv_if 209 xm_203 xd_203_200 (by decide) (sv_g_I (ae_lcmp_lt _ _)) hr_255 with ⟨c_256, n_257, e_258, hr_259⟩ | ⟨c_256, n_257, e_258, hr_259⟩
                        · obtain ⟨n_260, e_261, hr_262⟩ := iv_lload_n xm_203 xd_203_209 q1 hr_259
                          obtain ⟨n_263, e_264, hr_265⟩ := iv_ldc2 (v := 115) (z := 0) xm_203 xd_203_210 (by decide +kernel) hr_262
                          obtain ⟨n_266, e_267, hr_268⟩ := iv_lcmp xm_203 xd_203_213 hr_265
                          rcases iv_if 223 xm_203 xd_203_214 (by decide) (sv_g_I (ae_lcmp_lt _ _)) hr_268 with ⟨c_269, n_270, e_271, hr_272⟩ | ⟨c_269, n_270, e_271, hr_272⟩
                          · obtain ⟨n_273, e_274, hr_275⟩ := iv_lload_n xm_203 xd_203_223 q1 hr_272
                            obtain ⟨n_276, e_277, hr_278⟩ := iv_ldc2 (v := 27489) (z := 0) xm_203 xd_203_224 (by decide +kernel) hr_275
                            obtain ⟨n_279, e_280, hr_281⟩ := iv_lcmp xm_203 xd_203_227 hr_278
                            rcases iv_if 237 xm_203 xd_203_228 (by decide) (sv_g_I (ae_lcmp_lt _ _)) hr_281 with ⟨c_282, n_283, e_284, hr_285⟩ | ⟨c_282, n_283, e_284, hr_285⟩
                            · obtain ⟨n_286, e_287, hr_288⟩ := iv_lload_n xm_203 xd_203_237 q1 hr_285
                              obtain ⟨n_289, e_290, hr_291⟩ := iv_ldc2 (v := 27490) (z := 0) xm_203 xd_203_238 (by decide +kernel) hr_288
                              obtain ⟨n_292, e_293, hr_294⟩ := iv_lcmp xm_203 xd_203_241 hr_291
                              rcases iv_if 251 xm_203 xd_203_242 (by decide) (sv_g_I (ae_lcmp_lt _ _)) hr_294 with ⟨c_295, n_296, e_297, hr_298⟩ | ⟨c_295, n_296, e_297, hr_298⟩
                              · obtain ⟨n_299, e_300, hr_301⟩ := iv_iconst xm_203 xd_203_251 (by decide) hr_298
                                obtain ⟨h_302, ok_303, em_304, n_306, e_307, hr_308⟩ := iv_puti (j := 20) (fk := 0) xm_203 xd_203_252 (by decide +kernel) ok_186 (rfl : sv_ty 114 = some 12) dt_12 rfl (by decide +kernel) rfl (by unfold sv_I; omega) hr_301
                                obtain ⟨n_309, e_310, hr_311⟩ := iv_aload_n xm_203 xd_203_255 q0 hr_308
                                have f_312 := dc_fi (j := 20) ok_303 (rfl : sv_ty 114 = some 12) dt_12 rfl
                                obtain ⟨n_313, e_314, hr_315⟩ := iv_getf (j := 20) xm_203 xd_203_256 (by decide +kernel) ok_303 (rfl : sv_ty 114 = some 12) dt_12 f_312.1 hr_311
                                rcases iv_if 264 xm_203 xd_203_259 (by decide) f_312.2 hr_315 with ⟨c_316, n_317, e_318, hr_319⟩ | ⟨c_316, n_317, e_318, hr_319⟩
                                rotate_left
                                · exact absurd (show ¬ (((-1) : Int) < 0) by have z := c_316; rw [em_304, dc_up_s] at z; exact z) (by decide)
                                obtain ⟨n_320, e_321, hr_322⟩ := iv_aload_n xm_203 xd_203_264 q0 hr_319
                                obtain ⟨n_323, e_324, hr_325⟩ := iv_lload_n xm_203 xd_203_265 q1 hr_322
                                obtain ⟨n_326, e_327, hr_328⟩ := iv_ldc2 (v := 111) (z := 0) xm_203 xd_203_266 (by decide +kernel) hr_325
                                obtain ⟨n_329, e_330, hr_331⟩ := iv_lcmp xm_203 xd_203_269 hr_328
                                rcases iv_if 281 xm_203 xd_203_270 (by decide) (sv_g_I (ae_lcmp_lt _ _)) hr_331 with ⟨c_332, n_333, e_334, hr_335⟩ | ⟨c_332, n_333, e_334, hr_335⟩
                                · obtain ⟨n_336, e_337, hr_338⟩ := iv_bipush xm_203 xd_203_281 (by decide) hr_335
                                  obtain ⟨n_339, e_340, hr_341⟩ := iv_goto 287 xm_203 xd_203_283 (by decide) hr_338
                                  obtain ⟨h_342, ok_343, em_344, n_346, e_347, hr_348⟩ := iv_puti (j := 22) (fk := 0) xm_203 xd_203_287 (by decide +kernel) ok_303 (rfl : sv_ty 114 = some 12) dt_12 rfl (by decide +kernel) rfl (by unfold sv_I; omega) hr_341
                                  obtain ⟨n_349, e_350, hr_351⟩ := iv_aload_n xm_203 xd_203_290 q0 hr_348
                                  obtain ⟨n_352, e_353, hr_354⟩ := iv_lload_n xm_203 xd_203_291 q1 hr_351
                                  obtain ⟨n_355, e_356, hr_357⟩ := iv_ldc2 (v := 111) (z := 0) xm_203 xd_203_292 (by decide +kernel) hr_354
                                  obtain ⟨n_358, e_359, hr_360⟩ := iv_lcmp xm_203 xd_203_295 hr_357
                                  rcases iv_if 304 xm_203 xd_203_296 (by decide) (sv_g_I (ae_lcmp_lt _ _)) hr_360 with ⟨c_361, n_362, e_363, hr_364⟩ | ⟨c_361, n_362, e_363, hr_364⟩
                                  · obtain ⟨n_365, e_366, hr_367⟩ := iv_lload_n xm_203 xd_203_304 q1 hr_364
                                    obtain ⟨n_368, e_369, hr_370⟩ := iv_ldc2 (v := 105) (z := 0) xm_203 xd_203_305 (by decide +kernel) hr_367
                                    obtain ⟨n_371, e_372, hr_373⟩ := iv_lcmp xm_203 xd_203_308 hr_370
                                    rcases iv_if 317 xm_203 xd_203_309 (by decide) (sv_g_I (ae_lcmp_lt _ _)) hr_373 with ⟨c_374, n_375, e_376, hr_377⟩ | ⟨c_374, n_375, e_376, hr_377⟩
                                    · obtain ⟨n_378, e_379, hr_380⟩ := iv_lload_n xm_203 xd_203_317 q1 hr_377
                                      obtain ⟨n_381, e_382, hr_383⟩ := iv_ldc2 (v := 29283) (z := 0) xm_203 xd_203_318 (by decide +kernel) hr_380
                                      obtain ⟨n_384, e_385, hr_386⟩ := iv_lcmp xm_203 xd_203_321 hr_383
                                      rcases iv_if 331 xm_203 xd_203_322 (by decide) (sv_g_I (ae_lcmp_lt _ _)) hr_386 with ⟨c_387, n_388, e_389, hr_390⟩ | ⟨c_387, n_388, e_389, hr_390⟩
                                      · obtain ⟨n_391, e_392, hr_393⟩ := iv_lload_n xm_203 xd_203_331 q1 hr_390
                                        obtain ⟨n_394, e_395, hr_396⟩ := iv_ldc2 (v := 29294) (z := 0) xm_203 xd_203_332 (by decide +kernel) hr_393
                                        obtain ⟨n_397, e_398, hr_399⟩ := iv_lcmp xm_203 xd_203_335 hr_396
                                        rcases iv_if 345 xm_203 xd_203_336 (by decide) (sv_g_I (ae_lcmp_lt _ _)) hr_399 with ⟨c_400, n_401, e_402, hr_403⟩ | ⟨c_400, n_401, e_402, hr_403⟩
                                        · obtain ⟨n_404, e_405, hr_406⟩ := iv_lload_n xm_203 xd_203_345 q1 hr_403
                                          obtain ⟨n_407, e_408, hr_409⟩ := iv_ldc2 (v := 29300) (z := 0) xm_203 xd_203_346 (by decide +kernel) hr_406
                                          obtain ⟨n_410, e_411, hr_412⟩ := iv_lcmp xm_203 xd_203_349 hr_409
                                          rcases iv_if 359 xm_203 xd_203_350 (by decide) (sv_g_I (ae_lcmp_lt _ _)) hr_412 with ⟨c_413, n_414, e_415, hr_416⟩ | ⟨c_413, n_414, e_415, hr_416⟩
                                          · obtain ⟨n_417, e_418, hr_419⟩ := iv_iconst xm_203 xd_203_359 (by decide) hr_416
                                            obtain ⟨h_420, ok_421, em_422, n_424, e_425, hr_426⟩ := iv_puti (j := 20) (fk := 0) xm_203 xd_203_360 (by decide +kernel) ok_343 (rfl : sv_ty 114 = some 12) dt_12 rfl (by decide +kernel) rfl (by unfold sv_I; omega) hr_419
                                            obtain ⟨n_427, e_428, hr_429⟩ := iv_aload_n xm_203 xd_203_363 q0 hr_426
                                            have f_430 := dc_fi (j := 20) ok_421 (rfl : sv_ty 114 = some 12) dt_12 rfl
                                            obtain ⟨n_431, e_432, hr_433⟩ := iv_getf (j := 20) xm_203 xd_203_364 (by decide +kernel) ok_421 (rfl : sv_ty 114 = some 12) dt_12 f_430.1 hr_429
                                            rcases iv_if 372 xm_203 xd_203_367 (by decide) f_430.2 hr_433 with ⟨c_434, n_435, e_436, hr_437⟩ | ⟨c_434, n_435, e_436, hr_437⟩
                                            rotate_left
                                            · exact absurd (show ¬ (((-1) : Int) < 0) by have z := c_434; rw [em_422, dc_up_s] at z; exact z) (by decide)
                                            obtain ⟨n_438, e_439, hr_440⟩ := iv_aload_n xm_203 xd_203_372 q0 hr_437
                                            obtain ⟨n_441, e_442, hr_443⟩ := iv_iconst xm_203 xd_203_373 (by decide) hr_440
                                            obtain ⟨h_444, ok_445, em_446, n_448, e_449, hr_450⟩ := iv_puti (j := 22) (fk := 0) xm_203 xd_203_374 (by decide +kernel) ok_421 (rfl : sv_ty 114 = some 12) dt_12 rfl (by decide +kernel) rfl (by unfold sv_I; omega) hr_443
                                            obtain ⟨n_451, e_452, hr_453⟩ := iv_aload_n xm_203 xd_203_377 q0 hr_450
                                            obtain ⟨n_454, e_455, hr_456⟩ := iv_lload_n xm_203 xd_203_378 q1 hr_453
                                            obtain ⟨n_457, e_458, hr_459⟩ := iv_ldc2 (v := 112) (z := 0) xm_203 xd_203_379 (by decide +kernel) hr_456
                                            obtain ⟨n_460, e_461, hr_462⟩ := iv_lcmp xm_203 xd_203_382 hr_459
                                            rcases iv_if 391 xm_203 xd_203_383 (by decide) (sv_g_I (ae_lcmp_lt _ _)) hr_462 with ⟨c_463, n_464, e_465, hr_466⟩ | ⟨c_463, n_464, e_465, hr_466⟩
                                            · obtain ⟨n_467, e_468, hr_469⟩ := iv_iconst xm_203 xd_203_391 (by decide) hr_466
                                              obtain ⟨h_470, ok_471, em_472, n_474, e_475, hr_476⟩ := iv_puti (j := 21) (fk := 0) xm_203 xd_203_392 (by decide +kernel) ok_445 (rfl : sv_ty 114 = some 12) dt_12 rfl (by decide +kernel) rfl (by unfold sv_I; omega) hr_469
                                              obtain ⟨n_477, e_478, hr_479⟩ := iv_aload_n xm_203 xd_203_395 q0 hr_476
                                              obtain ⟨n_480, e_481, hr_482⟩ := iv_lload_n xm_203 xd_203_396 q1 hr_479
                                              obtain ⟨n_483, e_484, hr_485⟩ := iv_ldc2 (v := 112) (z := 0) xm_203 xd_203_397 (by decide +kernel) hr_482
                                              obtain ⟨n_486, e_487, hr_488⟩ := iv_lcmp xm_203 xd_203_400 hr_485
                                              rcases iv_if 410 xm_203 xd_203_401 (by decide) (sv_g_I (ae_lcmp_lt _ _)) hr_488 with ⟨c_489, n_490, e_491, hr_492⟩ | ⟨c_489, n_490, e_491, hr_492⟩
                                              · obtain ⟨n_493, e_494, hr_495⟩ := iv_lload_n xm_203 xd_203_410 q1 hr_492
                                                obtain ⟨n_496, e_497, hr_498⟩ := iv_ldc2 (v := 116) (z := 0) xm_203 xd_203_411 (by decide +kernel) hr_495
                                                obtain ⟨n_499, e_500, hr_501⟩ := iv_lcmp xm_203 xd_203_414 hr_498
                                                rcases iv_if 423 xm_203 xd_203_415 (by decide) (sv_g_I (ae_lcmp_lt _ _)) hr_501 with ⟨c_502, n_503, e_504, hr_505⟩ | ⟨c_502, n_503, e_504, hr_505⟩
                                                · obtain ⟨n_506, e_507, hr_508⟩ := iv_lload_n xm_203 xd_203_423 q1 hr_505
                                                  obtain ⟨n_509, e_510, hr_511⟩ := iv_ldc2 (v := 98) (z := 0) xm_203 xd_203_424 (by decide +kernel) hr_508
                                                  obtain ⟨n_512, e_513, hr_514⟩ := iv_lcmp xm_203 xd_203_427 hr_511
                                                  rcases iv_if 437 xm_203 xd_203_428 (by decide) (sv_g_I (ae_lcmp_lt _ _)) hr_514 with ⟨c_515, n_516, e_517, hr_518⟩ | ⟨c_515, n_516, e_517, hr_518⟩
                                                  · obtain ⟨n_519, e_520, hr_521⟩ := iv_iconst xm_203 xd_203_437 (by decide) hr_518
                                                    obtain ⟨h_522, ok_523, em_524, n_526, e_527, hr_528⟩ := iv_puti (j := 20) (fk := 0) xm_203 xd_203_438 (by decide +kernel) ok_471 (rfl : sv_ty 114 = some 12) dt_12 rfl (by decide +kernel) rfl (by unfold sv_I; omega) hr_521
                                                    obtain ⟨n_529, e_530, hr_531⟩ := iv_aload_n xm_203 xd_203_441 q0 hr_528
                                                    have f_532 := dc_fi (j := 20) ok_523 (rfl : sv_ty 114 = some 12) dt_12 rfl
                                                    obtain ⟨n_533, e_534, hr_535⟩ := iv_getf (j := 20) xm_203 xd_203_442 (by decide +kernel) ok_523 (rfl : sv_ty 114 = some 12) dt_12 f_532.1 hr_531
                                                    rcases iv_if 452 xm_203 xd_203_445 (by decide) f_532.2 hr_535 with ⟨c_536, n_537, e_538, hr_539⟩ | ⟨c_536, n_537, e_538, hr_539⟩
                                                    rotate_left
                                                    · exact absurd (show ¬ (((-1) : Int) < 0) by have z := c_536; rw [em_524, dc_up_s] at z; exact z) (by decide)
                                                    obtain ⟨n_540, e_541, hr_542⟩ := iv_iconst xm_203 xd_203_452 (by decide) hr_539
                                                    have rr_543 := iv_ireturn xm_203 xd_203_453 hr_542
                                                    subst rr_543
                                                    exact ⟨_, ⟨_, em_9, ⟨_, em_22, Or.inl ⟨c_39, Or.inl ⟨c_52, Or.inl ⟨c_65, Or.inl ⟨c_78, ⟨_, em_87, ⟨_, em_111, Or.inl ⟨c_128, Or.inl ⟨c_141, Or.inl ⟨c_154, ⟨_, em_163, ⟨_, em_187, Or.inl ⟨c_204, Or.inl ⟨c_217, Or.inl ⟨c_230, Or.inl ⟨c_243, Or.inl ⟨c_256, Or.inl ⟨c_269, Or.inl ⟨c_282, Or.inl ⟨c_295, ⟨_, em_304, Or.inl ⟨c_332, ⟨_, em_344, Or.inl ⟨c_361, Or.inl ⟨c_374, Or.inl ⟨c_387, Or.inl ⟨c_400, Or.inl ⟨c_413, ⟨_, em_422, ⟨_, em_446, Or.inl ⟨c_463, ⟨_, em_472, Or.inl ⟨c_489, Or.inl ⟨c_502, Or.inl ⟨c_515, ⟨_, em_524, ⟨rfl, rfl⟩⟩⟩⟩⟩⟩⟩⟩⟩⟩⟩⟩⟩⟩⟩⟩⟩⟩⟩⟩⟩⟩⟩⟩⟩⟩⟩⟩⟩⟩⟩⟩⟩⟩⟩⟩⟩⟩, rfl, (by unfold sv_I; omega), ok_523⟩
                                                  · obtain ⟨n_544, e_545, hr_546⟩ := iv_sipush xm_203 xd_203_431 (by decide) hr_518
                                                    obtain ⟨n_547, e_548, hr_549⟩ := iv_goto 438 xm_203 xd_203_434 (by decide) hr_546
                                                    obtain ⟨h_550, ok_551, em_552, n_554, e_555, hr_556⟩ := iv_puti (j := 20) (fk := 0) xm_203 xd_203_438 (by decide +kernel) ok_471 (rfl : sv_ty 114 = some 12) dt_12 rfl (by decide +kernel) rfl (by unfold sv_I; omega) hr_549
                                                    obtain ⟨n_557, e_558, hr_559⟩ := iv_aload_n xm_203 xd_203_441 q0 hr_556
                                                    have f_560 := dc_fi (j := 20) ok_551 (rfl : sv_ty 114 = some 12) dt_12 rfl
                                                    obtain ⟨n_561, e_562, hr_563⟩ := iv_getf (j := 20) xm_203 xd_203_442 (by decide +kernel) ok_551 (rfl : sv_ty 114 = some 12) dt_12 f_560.1 hr_559
                                                    rcases iv_if 452 xm_203 xd_203_445 (by decide) f_560.2 hr_563 with ⟨c_564, n_565, e_566, hr_567⟩ | ⟨c_564, n_565, e_566, hr_567⟩
                                                    · exact absurd (show (156 : Int) < 0 by have z := c_564; rw [em_552, dc_up_s] at z; exact z) (by decide)
                                                    obtain ⟨n_568, e_569, hr_570⟩ := iv_iconst xm_203 xd_203_448 (by decide) hr_567
                                                    obtain ⟨n_571, e_572, hr_573⟩ := iv_goto 453 xm_203 xd_203_449 (by decide) hr_570
                                                    have rr_574 := iv_ireturn xm_203 xd_203_453 hr_573
                                                    subst rr_574
                                                    exact ⟨_, ⟨_, em_9, ⟨_, em_22, Or.inl ⟨c_39, Or.inl ⟨c_52, Or.inl ⟨c_65, Or.inl ⟨c_78, ⟨_, em_87, ⟨_, em_111, Or.inl ⟨c_128, Or.inl ⟨c_141, Or.inl ⟨c_154, ⟨_, em_163, ⟨_, em_187, Or.inl ⟨c_204, Or.inl ⟨c_217, Or.inl ⟨c_230, Or.inl ⟨c_243, Or.inl ⟨c_256, Or.inl ⟨c_269, Or.inl ⟨c_282, Or.inl ⟨c_295, ⟨_, em_304, Or.inl ⟨c_332, ⟨_, em_344, Or.inl ⟨c_361, Or.inl ⟨c_374, Or.inl ⟨c_387, Or.inl ⟨c_400, Or.inl ⟨c_413, ⟨_, em_422, ⟨_, em_446, Or.inl ⟨c_463, ⟨_, em_472, Or.inl ⟨c_489, Or.inl ⟨c_502, Or.inr ⟨c_515, ⟨_, em_552, ⟨rfl, rfl⟩⟩⟩⟩⟩⟩⟩⟩⟩⟩⟩⟩⟩⟩⟩⟩⟩⟩⟩⟩⟩⟩⟩⟩⟩⟩⟩⟩⟩⟩⟩⟩⟩⟩⟩⟩⟩⟩, rfl, (by unfold sv_I; omega), ok_551⟩
                                                · obtain ⟨n_575, e_576, hr_577⟩ := iv_bipush xm_203 xd_203_418 (by decide) hr_505
                                                  obtain ⟨n_578, e_579, hr_580⟩ := iv_goto 438 xm_203 xd_203_420 (by decide) hr_577
                                                  obtain ⟨h_581, ok_582, em_583, n_585, e_586, hr_587⟩ := iv_puti (j := 20) (fk := 0) xm_203 xd_203_438 (by decide +kernel) ok_471 (rfl : sv_ty 114 = some 12) dt_12 rfl (by decide +kernel) rfl (by unfold sv_I; omega) hr_580
                                                  obtain ⟨n_588, e_589, hr_590⟩ := iv_aload_n xm_203 xd_203_441 q0 hr_587
                                                  have f_591 := dc_fi (j := 20) ok_582 (rfl : sv_ty 114 = some 12) dt_12 rfl
                                                  obtain ⟨n_592, e_593, hr_594⟩ := iv_getf (j := 20) xm_203 xd_203_442 (by decide +kernel) ok_582 (rfl : sv_ty 114 = some 12) dt_12 f_591.1 hr_590
                                                  rcases iv_if 452 xm_203 xd_203_445 (by decide) f_591.2 hr_594 with ⟨c_595, n_596, e_597, hr_598⟩ | ⟨c_595, n_596, e_597, hr_598⟩
                                                  · exact absurd (show (65 : Int) < 0 by have z := c_595; rw [em_583, dc_up_s] at z; exact z) (by decide)
                                                  obtain ⟨n_599, e_600, hr_601⟩ := iv_iconst xm_203 xd_203_448 (by decide) hr_598
                                                  obtain ⟨n_602, e_603, hr_604⟩ := iv_goto 453 xm_203 xd_203_449 (by decide) hr_601
                                                  have rr_605 := iv_ireturn xm_203 xd_203_453 hr_604
                                                  subst rr_605
                                                  exact ⟨_, ⟨_, em_9, ⟨_, em_22, Or.inl ⟨c_39, Or.inl ⟨c_52, Or.inl ⟨c_65, Or.inl ⟨c_78, ⟨_, em_87, ⟨_, em_111, Or.inl ⟨c_128, Or.inl ⟨c_141, Or.inl ⟨c_154, ⟨_, em_163, ⟨_, em_187, Or.inl ⟨c_204, Or.inl ⟨c_217, Or.inl ⟨c_230, Or.inl ⟨c_243, Or.inl ⟨c_256, Or.inl ⟨c_269, Or.inl ⟨c_282, Or.inl ⟨c_295, ⟨_, em_304, Or.inl ⟨c_332, ⟨_, em_344, Or.inl ⟨c_361, Or.inl ⟨c_374, Or.inl ⟨c_387, Or.inl ⟨c_400, Or.inl ⟨c_413, ⟨_, em_422, ⟨_, em_446, Or.inl ⟨c_463, ⟨_, em_472, Or.inl ⟨c_489, Or.inr ⟨c_502, ⟨_, em_583, ⟨rfl, rfl⟩⟩⟩⟩⟩⟩⟩⟩⟩⟩⟩⟩⟩⟩⟩⟩⟩⟩⟩⟩⟩⟩⟩⟩⟩⟩⟩⟩⟩⟩⟩⟩⟩⟩⟩⟩⟩, rfl, (by unfold sv_I; omega), ok_582⟩
                                              · obtain ⟨n_606, e_607, hr_608⟩ := iv_sipush xm_203 xd_203_404 (by decide) hr_492
                                                obtain ⟨n_609, e_610, hr_611⟩ := iv_goto 438 xm_203 xd_203_407 (by decide) hr_608
                                                obtain ⟨h_612, ok_613, em_614, n_616, e_617, hr_618⟩ := iv_puti (j := 20) (fk := 0) xm_203 xd_203_438 (by decide +kernel) ok_471 (rfl : sv_ty 114 = some 12) dt_12 rfl (by decide +kernel) rfl (by unfold sv_I; omega) hr_611
                                                obtain ⟨n_619, e_620, hr_621⟩ := iv_aload_n xm_203 xd_203_441 q0 hr_618
                                                have f_622 := dc_fi (j := 20) ok_613 (rfl : sv_ty 114 = some 12) dt_12 rfl
                                                obtain ⟨n_623, e_624, hr_625⟩ := iv_getf (j := 20) xm_203 xd_203_442 (by decide +kernel) ok_613 (rfl : sv_ty 114 = some 12) dt_12 f_622.1 hr_621
                                                rcases iv_if 452 xm_203 xd_203_445 (by decide) f_622.2 hr_625 with ⟨c_626, n_627, e_628, hr_629⟩ | ⟨c_626, n_627, e_628, hr_629⟩
                                                · exact absurd (show (132 : Int) < 0 by have z := c_626; rw [em_614, dc_up_s] at z; exact z) (by decide)
                                                obtain ⟨n_630, e_631, hr_632⟩ := iv_iconst xm_203 xd_203_448 (by decide) hr_629
                                                obtain ⟨n_633, e_634, hr_635⟩ := iv_goto 453 xm_203 xd_203_449 (by decide) hr_632
                                                have rr_636 := iv_ireturn xm_203 xd_203_453 hr_635
                                                subst rr_636
                                                exact ⟨_, ⟨_, em_9, ⟨_, em_22, Or.inl ⟨c_39, Or.inl ⟨c_52, Or.inl ⟨c_65, Or.inl ⟨c_78, ⟨_, em_87, ⟨_, em_111, Or.inl ⟨c_128, Or.inl ⟨c_141, Or.inl ⟨c_154, ⟨_, em_163, ⟨_, em_187, Or.inl ⟨c_204, Or.inl ⟨c_217, Or.inl ⟨c_230, Or.inl ⟨c_243, Or.inl ⟨c_256, Or.inl ⟨c_269, Or.inl ⟨c_282, Or.inl ⟨c_295, ⟨_, em_304, Or.inl ⟨c_332, ⟨_, em_344, Or.inl ⟨c_361, Or.inl ⟨c_374, Or.inl ⟨c_387, Or.inl ⟨c_400, Or.inl ⟨c_413, ⟨_, em_422, ⟨_, em_446, Or.inl ⟨c_463, ⟨_, em_472, Or.inr ⟨c_489, ⟨_, em_614, ⟨rfl, rfl⟩⟩⟩⟩⟩⟩⟩⟩⟩⟩⟩⟩⟩⟩⟩⟩⟩⟩⟩⟩⟩⟩⟩⟩⟩⟩⟩⟩⟩⟩⟩⟩⟩⟩⟩⟩, rfl, (by unfold sv_I; omega), ok_613⟩
                                            · obtain ⟨n_637, e_638, hr_639⟩ := iv_bipush xm_203 xd_203_386 (by decide) hr_466
                                              obtain ⟨n_640, e_641, hr_642⟩ := iv_goto 392 xm_203 xd_203_388 (by decide) hr_639
                                              obtain ⟨h_643, ok_644, em_645, n_647, e_648, hr_649⟩ := iv_puti (j := 21) (fk := 0) xm_203 xd_203_392 (by decide +kernel) ok_445 (rfl : sv_ty 114 = some 12) dt_12 rfl (by decide +kernel) rfl (by unfold sv_I; omega) hr_642
                                              obtain ⟨n_650, e_651, hr_652⟩ := iv_aload_n xm_203 xd_203_395 q0 hr_649
                                              obtain ⟨n_653, e_654, hr_655⟩ := iv_lload_n xm_203 xd_203_396 q1 hr_652
                                              obtain ⟨n_656, e_657, hr_658⟩ := iv_ldc2 (v := 112) (z := 0) xm_203 xd_203_397 (by decide +kernel) hr_655
                                              obtain ⟨n_659, e_660, hr_661⟩ := iv_lcmp xm_203 xd_203_400 hr_658
                                              rcases iv_if 410 xm_203 xd_203_401 (by decide) (sv_g_I (ae_lcmp_lt _ _)) hr_661 with ⟨c_662, n_663, e_664, hr_665⟩ | ⟨c_662, n_663, e_664, hr_665⟩
                                              · obtain ⟨n_666, e_667, hr_668⟩ := iv_lload_n xm_203 xd_203_410 q1 hr_665
                                                obtain ⟨n_669, e_670, hr_671⟩ := iv_ldc2 (v := 116) (z := 0) xm_203 xd_203_411 (by decide +kernel) hr_668
                                                obtain ⟨n_672, e_673, hr_674⟩ := iv_lcmp xm_203 xd_203_414 hr_671
                                                rcases iv_if 423 xm_203 xd_203_415 (by decide) (sv_g_I (ae_lcmp_lt _ _)) hr_674 with ⟨c_675, n_676, e_677, hr_678⟩ | ⟨c_675, n_676, e_677, hr_678⟩
                                                · obtain ⟨n_679, e_680, hr_681⟩ := iv_lload_n xm_203 xd_203_423 q1 hr_678
                                                  obtain ⟨n_682, e_683, hr_684⟩ := iv_ldc2 (v := 98) (z := 0) xm_203 xd_203_424 (by decide +kernel) hr_681
                                                  obtain ⟨n_685, e_686, hr_687⟩ := iv_lcmp xm_203 xd_203_427 hr_684
                                                  rcases iv_if 437 xm_203 xd_203_428 (by decide) (sv_g_I (ae_lcmp_lt _ _)) hr_687 with ⟨c_688, n_689, e_690, hr_691⟩ | ⟨c_688, n_689, e_690, hr_691⟩
                                                  · obtain ⟨n_692, e_693, hr_694⟩ := iv_iconst xm_203 xd_203_437 (by decide) hr_691
                                                    obtain ⟨h_695, ok_696, em_697, n_699, e_700, hr_701⟩ := iv_puti (j := 20) (fk := 0) xm_203 xd_203_438 (by decide +kernel) ok_644 (rfl : sv_ty 114 = some 12) dt_12 rfl (by decide +kernel) rfl (by unfold sv_I; omega) hr_694
                                                    obtain ⟨n_702, e_703, hr_704⟩ := iv_aload_n xm_203 xd_203_441 q0 hr_701
                                                    have f_705 := dc_fi (j := 20) ok_696 (rfl : sv_ty 114 = some 12) dt_12 rfl
                                                    obtain ⟨n_706, e_707, hr_708⟩ := iv_getf (j := 20) xm_203 xd_203_442 (by decide +kernel) ok_696 (rfl : sv_ty 114 = some 12) dt_12 f_705.1 hr_704
                                                    rcases iv_if 452 xm_203 xd_203_445 (by decide) f_705.2 hr_708 with ⟨c_709, n_710, e_711, hr_712⟩ | ⟨c_709, n_710, e_711, hr_712⟩
                                                    rotate_left
                                                    · exact absurd (show ¬ (((-1) : Int) < 0) by have z := c_709; rw [em_697, dc_up_s] at z; exact z) (by decide)
                                                    obtain ⟨n_713, e_714, hr_715⟩ := iv_iconst xm_203 xd_203_452 (by decide) hr_712
                                                    have rr_716 := iv_ireturn xm_203 xd_203_453 hr_715
                                                    subst rr_716
                                                    exact ⟨_, ⟨_, em_9, ⟨_, em_22, Or.inl ⟨c_39, Or.inl ⟨c_52, Or.inl ⟨c_65, Or.inl ⟨c_78, ⟨_, em_87, ⟨_, em_111, Or.inl ⟨c_128, Or.inl ⟨c_141, Or.inl ⟨c_154, ⟨_, em_163, ⟨_, em_187, Or.inl ⟨c_204, Or.inl ⟨c_217, Or.inl ⟨c_230, Or.inl ⟨c_243, Or.inl ⟨c_256, Or.inl ⟨c_269, Or.inl ⟨c_282, Or.inl ⟨c_295, ⟨_, em_304, Or.inl ⟨c_332, ⟨_, em_344, Or.inl ⟨c_361, Or.inl ⟨c_374, Or.inl ⟨c_387, Or.inl ⟨c_400, Or.inl ⟨c_413, ⟨_, em_422, ⟨_, em_446, Or.inr ⟨c_463, ⟨_, em_645, Or.inl ⟨c_662, Or.inl ⟨c_675, Or.inl ⟨c_688, ⟨_, em_697, ⟨rfl, rfl⟩⟩⟩⟩⟩⟩⟩⟩⟩⟩⟩⟩⟩⟩⟩⟩⟩⟩⟩⟩⟩⟩⟩⟩⟩⟩⟩⟩⟩⟩⟩⟩⟩⟩⟩⟩⟩⟩, rfl, (by unfold sv_I; omega), ok_696⟩
                                                  · obtain ⟨n_717, e_718, hr_719⟩ := iv_sipush xm_203 xd_203_431 (by decide) hr_691
                                                    obtain ⟨n_720, e_721, hr_722⟩ := iv_goto 438 xm_203 xd_203_434 (by decide) hr_719
                                                    obtain ⟨h_723, ok_724, em_725, n_727, e_728, hr_729⟩ := iv_puti (j := 20) (fk := 0) xm_203 xd_203_438 (by decide +kernel) ok_644 (rfl : sv_ty 114 = some 12) dt_12 rfl (by decide +kernel) rfl (by unfold sv_I; omega) hr_722
                                                    obtain ⟨n_730, e_731, hr_732⟩ := iv_aload_n xm_203 xd_203_441 q0 hr_729
                                                    have f_733 := dc_fi (j := 20) ok_724 (rfl : sv_ty 114 = some 12) dt_12 rfl
                                                    obtain ⟨n_734, e_735, hr_736⟩ := iv_getf (j := 20) xm_203 xd_203_442 (by decide +kernel) ok_724 (rfl : sv_ty 114 = some 12) dt_12 f_733.1 hr_732
                                                    rcases iv_if 452 xm_203 xd_203_445 (by decide) f_733.2 hr_736 with ⟨c_737, n_738, e_739, hr_740⟩ | ⟨c_737, n_738, e_739, hr_740⟩
                                                    · exact absurd (show (156 : Int) < 0 by have z := c_737; rw [em_725, dc_up_s] at z; exact z) (by decide)
                                                    obtain ⟨n_741, e_742, hr_743⟩ := iv_iconst xm_203 xd_203_448 (by decide) hr_740
                                                    obtain ⟨n_744, e_745, hr_746⟩ := iv_goto 453 xm_203 xd_203_449 (by decide) hr_743
                                                    have rr_747 := iv_ireturn xm_203 xd_203_453 hr_746
                                                    subst rr_747
                                                    exact ⟨_, ⟨_, em_9, ⟨_, em_22, Or.inl ⟨c_39, Or.inl ⟨c_52, Or.inl ⟨c_65, Or.inl ⟨c_78, ⟨_, em_87, ⟨_, em_111, Or.inl ⟨c_128, Or.inl ⟨c_141, Or.inl ⟨c_154, ⟨_, em_163, ⟨_, em_187, Or.inl ⟨c_204, Or.inl ⟨c_217, Or.inl ⟨c_230, Or.inl ⟨c_243, Or.inl ⟨c_256, Or.inl ⟨c_269, Or.inl ⟨c_282, Or.inl ⟨c_295, ⟨_, em_304, Or.inl ⟨c_332, ⟨_, em_344, Or.inl ⟨c_361, Or.inl ⟨c_374, Or.inl ⟨c_387, Or.inl ⟨c_400, Or.inl ⟨c_413, ⟨_, em_422, ⟨_, em_446, Or.inr ⟨c_463, ⟨_, em_645, Or.inl ⟨c_662, Or.inl ⟨c_675, Or.inr ⟨c_688, ⟨_, em_725, ⟨rfl, rfl⟩⟩⟩⟩⟩⟩⟩⟩⟩⟩⟩⟩⟩⟩⟩⟩⟩⟩⟩⟩⟩⟩⟩⟩⟩⟩⟩⟩⟩⟩⟩⟩⟩⟩⟩⟩⟩⟩, rfl, (by unfold sv_I; omega), ok_724⟩
                                                · obtain ⟨n_748, e_749, hr_750⟩ := iv_bipush xm_203 xd_203_418 (by decide) hr_678
                                                  obtain ⟨n_751, e_752, hr_753⟩ := iv_goto 438 xm_203 xd_203_420 (by decide) hr_750
                                                  obtain ⟨h_754, ok_755, em_756, n_758, e_759, hr_760⟩ := iv_puti (j := 20) (fk := 0) xm_203 xd_203_438 (by decide +kernel) ok_644 (rfl : sv_ty 114 = some 12) dt_12 rfl (by decide +kernel) rfl (by unfold sv_I; omega) hr_753
                                                  obtain ⟨n_761, e_762, hr_763⟩ := iv_aload_n xm_203 xd_203_441 q0 hr_760
                                                  have f_764 := dc_fi (j := 20) ok_755 (rfl : sv_ty 114 = some 12) dt_12 rfl
                                                  obtain ⟨n_765, e_766, hr_767⟩ := iv_getf (j := 20) xm_203 xd_203_442 (by decide +kernel) ok_755 (rfl : sv_ty 114 = some 12) dt_12 f_764.1 hr_763
                                                  rcases iv_if 452 xm_203 xd_203_445 (by decide) f_764.2 hr_767 with ⟨c_768, n_769, e_770, hr_771⟩ | ⟨c_768, n_769, e_770, hr_771⟩
                                                  · exact absurd (show (65 : Int) < 0 by have z := c_768; rw [em_756, dc_up_s] at z; exact z) (by decide)
                                                  obtain ⟨n_772, e_773, hr_774⟩ := iv_iconst xm_203 xd_203_448 (by decide) hr_771
                                                  obtain ⟨n_775, e_776, hr_777⟩ := iv_goto 453 xm_203 xd_203_449 (by decide) hr_774
                                                  have rr_778 := iv_ireturn xm_203 xd_203_453 hr_777
                                                  subst rr_778
                                                  exact ⟨_, ⟨_, em_9, ⟨_, em_22, Or.inl ⟨c_39, Or.inl ⟨c_52, Or.inl ⟨c_65, Or.inl ⟨c_78, ⟨_, em_87, ⟨_, em_111, Or.inl ⟨c_128, Or.inl ⟨c_141, Or.inl ⟨c_154, ⟨_, em_163, ⟨_, em_187, Or.inl ⟨c_204, Or.inl ⟨c_217, Or.inl ⟨c_230, Or.inl ⟨c_243, Or.inl ⟨c_256, Or.inl ⟨c_269, Or.inl ⟨c_282, Or.inl ⟨c_295, ⟨_, em_304, Or.inl ⟨c_332, ⟨_, em_344, Or.inl ⟨c_361, Or.inl ⟨c_374, Or.inl ⟨c_387, Or.inl ⟨c_400, Or.inl ⟨c_413, ⟨_, em_422, ⟨_, em_446, Or.inr ⟨c_463, ⟨_, em_645, Or.inl ⟨c_662, Or.inr ⟨c_675, ⟨_, em_756, ⟨rfl, rfl⟩⟩⟩⟩⟩⟩⟩⟩⟩⟩⟩⟩⟩⟩⟩⟩⟩⟩⟩⟩⟩⟩⟩⟩⟩⟩⟩⟩⟩⟩⟩⟩⟩⟩⟩⟩⟩, rfl, (by unfold sv_I; omega), ok_755⟩
                                              · obtain ⟨n_779, e_780, hr_781⟩ := iv_sipush xm_203 xd_203_404 (by decide) hr_665
                                                obtain ⟨n_782, e_783, hr_784⟩ := iv_goto 438 xm_203 xd_203_407 (by decide) hr_781
                                                obtain ⟨h_785, ok_786, em_787, n_789, e_790, hr_791⟩ := iv_puti (j := 20) (fk := 0) xm_203 xd_203_438 (by decide +kernel) ok_644 (rfl : sv_ty 114 = some 12) dt_12 rfl (by decide +kernel) rfl (by unfold sv_I; omega) hr_784
                                                obtain ⟨n_792, e_793, hr_794⟩ := iv_aload_n xm_203 xd_203_441 q0 hr_791
                                                have f_795 := dc_fi (j := 20) ok_786 (rfl : sv_ty 114 = some 12) dt_12 rfl
                                                obtain ⟨n_796, e_797, hr_798⟩ := iv_getf (j := 20) xm_203 xd_203_442 (by decide +kernel) ok_786 (rfl : sv_ty 114 = some 12) dt_12 f_795.1 hr_794
                                                rcases iv_if 452 xm_203 xd_203_445 (by decide) f_795.2 hr_798 with ⟨c_799, n_800, e_801, hr_802⟩ | ⟨c_799, n_800, e_801, hr_802⟩
                                                · exact absurd (show (132 : Int) < 0 by have z := c_799; rw [em_787, dc_up_s] at z; exact z) (by decide)
                                                obtain ⟨n_803, e_804, hr_805⟩ := iv_iconst xm_203 xd_203_448 (by decide) hr_802
                                                obtain ⟨n_806, e_807, hr_808⟩ := iv_goto 453 xm_203 xd_203_449 (by decide) hr_805
                                                have rr_809 := iv_ireturn xm_203 xd_203_453 hr_808
                                                subst rr_809
                                                exact ⟨_, ⟨_, em_9, ⟨_, em_22, Or.inl ⟨c_39, Or.inl ⟨c_52, Or.inl ⟨c_65, Or.inl ⟨c_78, ⟨_, em_87, ⟨_, em_111, Or.inl ⟨c_128, Or.inl ⟨c_141, Or.inl ⟨c_154, ⟨_, em_163, ⟨_, em_187, Or.inl ⟨c_204, Or.inl ⟨c_217, Or.inl ⟨c_230, Or.inl ⟨c_243, Or.inl ⟨c_256, Or.inl ⟨c_269, Or.inl ⟨c_282, Or.inl ⟨c_295, ⟨_, em_304, Or.inl ⟨c_332, ⟨_, em_344, Or.inl ⟨c_361, Or.inl ⟨c_374, Or.inl ⟨c_387, Or.inl ⟨c_400, Or.inl ⟨c_413, ⟨_, em_422, ⟨_, em_446, Or.inr ⟨c_463, ⟨_, em_645, Or.inr ⟨c_662, ⟨_, em_787, ⟨rfl, rfl⟩⟩⟩⟩⟩⟩⟩⟩⟩⟩⟩⟩⟩⟩⟩⟩⟩⟩⟩⟩⟩⟩⟩⟩⟩⟩⟩⟩⟩⟩⟩⟩⟩⟩⟩⟩, rfl, (by unfold sv_I; omega), ok_786⟩
                                          · obtain ⟨n_810, e_811, hr_812⟩ := iv_sipush xm_203 xd_203_353 (by decide) hr_416
                                            obtain ⟨n_813, e_814, hr_815⟩ := iv_goto 360 xm_203 xd_203_356 (by decide) hr_812
                                            obtain ⟨h_816, ok_817, em_818, n_820, e_821, hr_822⟩ := iv_puti (j := 20) (fk := 0) xm_203 xd_203_360 (by decide +kernel) ok_343 (rfl : sv_ty 114 = some 12) dt_12 rfl (by decide +kernel) rfl (by unfold sv_I; omega) hr_815
                                            obtain ⟨n_823, e_824, hr_825⟩ := iv_aload_n xm_203 xd_203_363 q0 hr_822
                                            have f_826 := dc_fi (j := 20) ok_817 (rfl : sv_ty 114 = some 12) dt_12 rfl
                                            obtain ⟨n_827, e_828, hr_829⟩ := iv_getf (j := 20) xm_203 xd_203_364 (by decide +kernel) ok_817 (rfl : sv_ty 114 = some 12) dt_12 f_826.1 hr_825
                                            rcases iv_if 372 xm_203 xd_203_367 (by decide) f_826.2 hr_829 with ⟨c_830, n_831, e_832, hr_833⟩ | ⟨c_830, n_831, e_832, hr_833⟩
                                            · exact absurd (show (205 : Int) < 0 by have z := c_830; rw [em_818, dc_up_s] at z; exact z) (by decide)
                                            obtain ⟨n_834, e_835, hr_836⟩ := iv_iconst xm_203 xd_203_370 (by decide) hr_833
                                            have rr_837 := iv_ireturn xm_203 xd_203_371 hr_836
                                            subst rr_837
                                            exact ⟨_, ⟨_, em_9, ⟨_, em_22, Or.inl ⟨c_39, Or.inl ⟨c_52, Or.inl ⟨c_65, Or.inl ⟨c_78, ⟨_, em_87, ⟨_, em_111, Or.inl ⟨c_128, Or.inl ⟨c_141, Or.inl ⟨c_154, ⟨_, em_163, ⟨_, em_187, Or.inl ⟨c_204, Or.inl ⟨c_217, Or.inl ⟨c_230, Or.inl ⟨c_243, Or.inl ⟨c_256, Or.inl ⟨c_269, Or.inl ⟨c_282, Or.inl ⟨c_295, ⟨_, em_304, Or.inl ⟨c_332, ⟨_, em_344, Or.inl ⟨c_361, Or.inl ⟨c_374, Or.inl ⟨c_387, Or.inl ⟨c_400, Or.inr ⟨c_413, ⟨_, em_818, ⟨rfl, rfl⟩⟩⟩⟩⟩⟩⟩⟩⟩⟩⟩⟩⟩⟩⟩⟩⟩⟩⟩⟩⟩⟩⟩⟩⟩⟩⟩⟩⟩⟩⟩, rfl, (by unfold sv_I; omega), ok_817⟩
                                        · obtain ⟨n_838, e_839, hr_840⟩ := iv_sipush xm_203 xd_203_339 (by decide) hr_403
                                          obtain ⟨n_841, e_842, hr_843⟩ := iv_goto 360 xm_203 xd_203_342 (by decide) hr_840
                                          obtain ⟨h_844, ok_845, em_846, n_848, e_849, hr_850⟩ := iv_puti (j := 20) (fk := 0) xm_203 xd_203_360 (by decide +kernel) ok_343 (rfl : sv_ty 114 = some 12) dt_12 rfl (by decide +kernel) rfl (by unfold sv_I; omega) hr_843
                                          obtain ⟨n_851, e_852, hr_853⟩ := iv_aload_n xm_203 xd_203_363 q0 hr_850
                                          have f_854 := dc_fi (j := 20) ok_845 (rfl : sv_ty 114 = some 12) dt_12 rfl
                                          obtain ⟨n_855, e_856, hr_857⟩ := iv_getf (j := 20) xm_203 xd_203_364 (by decide +kernel) ok_845 (rfl : sv_ty 114 = some 12) dt_12 f_854.1 hr_853
                                          rcases iv_if 372 xm_203 xd_203_367 (by decide) f_854.2 hr_857 with ⟨c_858, n_859, e_860, hr_861⟩ | ⟨c_858, n_859, e_860, hr_861⟩
                                          · exact absurd (show (193 : Int) < 0 by have z := c_858; rw [em_846, dc_up_s] at z; exact z) (by decide)
                                          obtain ⟨n_862, e_863, hr_864⟩ := iv_iconst xm_203 xd_203_370 (by decide) hr_861
                                          have rr_865 := iv_ireturn xm_203 xd_203_371 hr_864
                                          subst rr_865
                                          exact ⟨_, ⟨_, em_9, ⟨_, em_22, Or.inl ⟨c_39, Or.inl ⟨c_52, Or.inl ⟨c_65, Or.inl ⟨c_78, ⟨_, em_87, ⟨_, em_111, Or.inl ⟨c_128, Or.inl ⟨c_141, Or.inl ⟨c_154, ⟨_, em_163, ⟨_, em_187, Or.inl ⟨c_204, Or.inl ⟨c_217, Or.inl ⟨c_230, Or.inl ⟨c_243, Or.inl ⟨c_256, Or.inl ⟨c_269, Or.inl ⟨c_282, Or.inl ⟨c_295, ⟨_, em_304, Or.inl ⟨c_332, ⟨_, em_344, Or.inl ⟨c_361, Or.inl ⟨c_374, Or.inl ⟨c_387, Or.inr ⟨c_400, ⟨_, em_846, ⟨rfl, rfl⟩⟩⟩⟩⟩⟩⟩⟩⟩⟩⟩⟩⟩⟩⟩⟩⟩⟩⟩⟩⟩⟩⟩⟩⟩⟩⟩⟩⟩⟩, rfl, (by unfold sv_I; omega), ok_845⟩
                                      · obtain ⟨n_866, e_867, hr_868⟩ := iv_sipush xm_203 xd_203_325 (by decide) hr_390
                                        obtain ⟨n_869, e_870, hr_871⟩ := iv_goto 360 xm_203 xd_203_328 (by decide) hr_868
                                        obtain ⟨h_872, ok_873, em_874, n_876, e_877, hr_878⟩ := iv_puti (j := 20) (fk := 0) xm_203 xd_203_360 (by decide +kernel) ok_343 (rfl : sv_ty 114 = some 12) dt_12 rfl (by decide +kernel) rfl (by unfold sv_I; omega) hr_871
                                        obtain ⟨n_879, e_880, hr_881⟩ := iv_aload_n xm_203 xd_203_363 q0 hr_878
                                        have f_882 := dc_fi (j := 20) ok_873 (rfl : sv_ty 114 = some 12) dt_12 rfl
                                        obtain ⟨n_883, e_884, hr_885⟩ := iv_getf (j := 20) xm_203 xd_203_364 (by decide +kernel) ok_873 (rfl : sv_ty 114 = some 12) dt_12 f_882.1 hr_881
                                        rcases iv_if 372 xm_203 xd_203_367 (by decide) f_882.2 hr_885 with ⟨c_886, n_887, e_888, hr_889⟩ | ⟨c_886, n_887, e_888, hr_889⟩
                                        · exact absurd (show (181 : Int) < 0 by have z := c_886; rw [em_874, dc_up_s] at z; exact z) (by decide)
                                        obtain ⟨n_890, e_891, hr_892⟩ := iv_iconst xm_203 xd_203_370 (by decide) hr_889
                                        have rr_893 := iv_ireturn xm_203 xd_203_371 hr_892
                                        subst rr_893
                                        exact ⟨_, ⟨_, em_9, ⟨_, em_22, Or.inl ⟨c_39, Or.inl ⟨c_52, Or.inl ⟨c_65, Or.inl ⟨c_78, ⟨_, em_87, ⟨_, em_111, Or.inl ⟨c_128, Or.inl ⟨c_141, Or.inl ⟨c_154, ⟨_, em_163, ⟨_, em_187, Or.inl ⟨c_204, Or.inl ⟨c_217, Or.inl ⟨c_230, Or.inl ⟨c_243, Or.inl ⟨c_256, Or.inl ⟨c_269, Or.inl ⟨c_282, Or.inl ⟨c_295, ⟨_, em_304, Or.inl ⟨c_332, ⟨_, em_344, Or.inl ⟨c_361, Or.inl ⟨c_374, Or.inr ⟨c_387, ⟨_, em_874, ⟨rfl, rfl⟩⟩⟩⟩⟩⟩⟩⟩⟩⟩⟩⟩⟩⟩⟩⟩⟩⟩⟩⟩⟩⟩⟩⟩⟩⟩⟩⟩⟩, rfl, (by unfold sv_I; omega), ok_873⟩
                                    · obtain ⟨n_894, e_895, hr_896⟩ := iv_bipush xm_203 xd_203_312 (by decide) hr_377
                                      obtain ⟨n_897, e_898, hr_899⟩ := iv_goto 360 xm_203 xd_203_314 (by decide) hr_896
                                      obtain ⟨h_900, ok_901, em_902, n_904, e_905, hr_906⟩ := iv_puti (j := 20) (fk := 0) xm_203 xd_203_360 (by decide +kernel) ok_343 (rfl : sv_ty 114 = some 12) dt_12 rfl (by decide +kernel) rfl (by unfold sv_I; omega) hr_899
                                      obtain ⟨n_907, e_908, hr_909⟩ := iv_aload_n xm_203 xd_203_363 q0 hr_906
                                      have f_910 := dc_fi (j := 20) ok_901 (rfl : sv_ty 114 = some 12) dt_12 rfl
                                      obtain ⟨n_911, e_912, hr_913⟩ := iv_getf (j := 20) xm_203 xd_203_364 (by decide +kernel) ok_901 (rfl : sv_ty 114 = some 12) dt_12 f_910.1 hr_909
                                      rcases iv_if 372 xm_203 xd_203_367 (by decide) f_910.2 hr_913 with ⟨c_914, n_915, e_916, hr_917⟩ | ⟨c_914, n_915, e_916, hr_917⟩
                                      · exact absurd (show (96 : Int) < 0 by have z := c_914; rw [em_902, dc_up_s] at z; exact z) (by decide)
                                      obtain ⟨n_918, e_919, hr_920⟩ := iv_iconst xm_203 xd_203_370 (by decide) hr_917
                                      have rr_921 := iv_ireturn xm_203 xd_203_371 hr_920
                                      subst rr_921
                                      exact ⟨_, ⟨_, em_9, ⟨_, em_22, Or.inl ⟨c_39, Or.inl ⟨c_52, Or.inl ⟨c_65, Or.inl ⟨c_78, ⟨_, em_87, ⟨_, em_111, Or.inl ⟨c_128, Or.inl ⟨c_141, Or.inl ⟨c_154, ⟨_, em_163, ⟨_, em_187, Or.inl ⟨c_204, Or.inl ⟨c_217, Or.inl ⟨c_230, Or.inl ⟨c_243, Or.inl ⟨c_256, Or.inl ⟨c_269, Or.inl ⟨c_282, Or.inl ⟨c_295, ⟨_, em_304, Or.inl ⟨c_332, ⟨_, em_344, Or.inl ⟨c_361, Or.inr ⟨c_374, ⟨_, em_902, ⟨rfl, rfl⟩⟩⟩⟩⟩⟩⟩⟩⟩⟩⟩⟩⟩⟩⟩⟩⟩⟩⟩⟩⟩⟩⟩⟩⟩⟩⟩⟩, rfl, (by unfold sv_I; omega), ok_901⟩
                                  · obtain ⟨n_922, e_923, hr_924⟩ := iv_bipush xm_203 xd_203_299 (by decide) hr_364
                                    obtain ⟨n_925, e_926, hr_927⟩ := iv_goto 360 xm_203 xd_203_301 (by decide) hr_924
                                    obtain ⟨h_928, ok_929, em_930, n_932, e_933, hr_934⟩ := iv_puti (j := 20) (fk := 0) xm_203 xd_203_360 (by decide +kernel) ok_343 (rfl : sv_ty 114 = some 12) dt_12 rfl (by decide +kernel) rfl (by unfold sv_I; omega) hr_927
                                    obtain ⟨n_935, e_936, hr_937⟩ := iv_aload_n xm_203 xd_203_363 q0 hr_934
                                    have f_938 := dc_fi (j := 20) ok_929 (rfl : sv_ty 114 = some 12) dt_12 rfl
                                    obtain ⟨n_939, e_940, hr_941⟩ := iv_getf (j := 20) xm_203 xd_203_364 (by decide +kernel) ok_929 (rfl : sv_ty 114 = some 12) dt_12 f_938.1 hr_937
                                    rcases iv_if 372 xm_203 xd_203_367 (by decide) f_938.2 hr_941 with ⟨c_942, n_943, e_944, hr_945⟩ | ⟨c_942, n_943, e_944, hr_945⟩
                                    · exact absurd (show (68 : Int) < 0 by have z := c_942; rw [em_930, dc_up_s] at z; exact z) (by decide)
                                    obtain ⟨n_946, e_947, hr_948⟩ := iv_iconst xm_203 xd_203_370 (by decide) hr_945
                                    have rr_949 := iv_ireturn xm_203 xd_203_371 hr_948
                                    subst rr_949
                                    exact ⟨_, ⟨_, em_9, ⟨_, em_22, Or.inl ⟨c_39, Or.inl ⟨c_52, Or.inl ⟨c_65, Or.inl ⟨c_78, ⟨_, em_87, ⟨_, em_111, Or.inl ⟨c_128, Or.inl ⟨c_141, Or.inl ⟨c_154, ⟨_, em_163, ⟨_, em_187, Or.inl ⟨c_204, Or.inl ⟨c_217, Or.inl ⟨c_230, Or.inl ⟨c_243, Or.inl ⟨c_256, Or.inl ⟨c_269, Or.inl ⟨c_282, Or.inl ⟨c_295, ⟨_, em_304, Or.inl ⟨c_332, ⟨_, em_344, Or.inr ⟨c_361, ⟨_, em_930, ⟨rfl, rfl⟩⟩⟩⟩⟩⟩⟩⟩⟩⟩⟩⟩⟩⟩⟩⟩⟩⟩⟩⟩⟩⟩⟩⟩⟩⟩⟩, rfl, (by unfold sv_I; omega), ok_929⟩
                                · obtain ⟨n_950, e_951, hr_952⟩ := iv_lload_n xm_203 xd_203_273 q1 hr_335
                                  obtain ⟨n_953, e_954, hr_955⟩ := iv_ldc2 (v := 105) (z := 0) xm_203 xd_203_274 (by decide +kernel) hr_952
                                  obtain ⟨n_956, e_957, hr_958⟩ := iv_lcmp xm_203 xd_203_277 hr_955
                                  rcases iv_if 286 xm_203 xd_203_278 (by decide) (sv_g_I (ae_lcmp_lt _ _)) hr_958 with ⟨c_959, n_960, e_961, hr_962⟩ | ⟨c_959, n_960, e_961, hr_962⟩
                                  · obtain ⟨n_963, e_964, hr_965⟩ := iv_iconst xm_203 xd_203_286 (by decide) hr_962
                                    obtain ⟨h_966, ok_967, em_968, n_970, e_971, hr_972⟩ := iv_puti (j := 22) (fk := 0) xm_203 xd_203_287 (by decide +kernel) ok_303 (rfl : sv_ty 114 = some 12) dt_12 rfl (by decide +kernel) rfl (by unfold sv_I; omega) hr_965
                                    obtain ⟨n_973, e_974, hr_975⟩ := iv_aload_n xm_203 xd_203_290 q0 hr_972
                                    obtain ⟨n_976, e_977, hr_978⟩ := iv_lload_n xm_203 xd_203_291 q1 hr_975
                                    obtain ⟨n_979, e_980, hr_981⟩ := iv_ldc2 (v := 111) (z := 0) xm_203 xd_203_292 (by decide +kernel) hr_978
                                    obtain ⟨n_982, e_983, hr_984⟩ := iv_lcmp xm_203 xd_203_295 hr_981
                                    rcases iv_if 304 xm_203 xd_203_296 (by decide) (sv_g_I (ae_lcmp_lt _ _)) hr_984 with ⟨c_985, n_986, e_987, hr_988⟩ | ⟨c_985, n_986, e_987, hr_988⟩
                                    · obtain ⟨n_989, e_990, hr_991⟩ := iv_lload_n xm_203 xd_203_304 q1 hr_988
                                      obtain ⟨n_992, e_993, hr_994⟩ := iv_ldc2 (v := 105) (z := 0) xm_203 xd_203_305 (by decide +kernel) hr_991
                                      obtain ⟨n_995, e_996, hr_997⟩ := iv_lcmp xm_203 xd_203_308 hr_994
                                      rcases iv_if 317 xm_203 xd_203_309 (by decide) (sv_g_I (ae_lcmp_lt _ _)) hr_997 with ⟨c_998, n_999, e_1000, hr_1001⟩ | ⟨c_998, n_999, e_1000, hr_1001⟩
                                      · obtain ⟨n_1002, e_1003, hr_1004⟩ := iv_lload_n xm_203 xd_203_317 q1 hr_1001
                                        obtain ⟨n_1005, e_1006, hr_1007⟩ := iv_ldc2 (v := 29283) (z := 0) xm_203 xd_203_318 (by decide +kernel) hr_1004
                                        obtain ⟨n_1008, e_1009, hr_1010⟩ := iv_lcmp xm_203 xd_203_321 hr_1007
                                        rcases iv_if 331 xm_203 xd_203_322 (by decide) (sv_g_I (ae_lcmp_lt _ _)) hr_1010 with ⟨c_1011, n_1012, e_1013, hr_1014⟩ | ⟨c_1011, n_1012, e_1013, hr_1014⟩
                                        · obtain ⟨n_1015, e_1016, hr_1017⟩ := iv_lload_n xm_203 xd_203_331 q1 hr_1014
                                          obtain ⟨n_1018, e_1019, hr_1020⟩ := iv_ldc2 (v := 29294) (z := 0) xm_203 xd_203_332 (by decide +kernel) hr_1017
                                          obtain ⟨n_1021, e_1022, hr_1023⟩ := iv_lcmp xm_203 xd_203_335 hr_1020
                                          rcases iv_if 345 xm_203 xd_203_336 (by decide) (sv_g_I (ae_lcmp_lt _ _)) hr_1023 with ⟨c_1024, n_1025, e_1026, hr_1027⟩ | ⟨c_1024, n_1025, e_1026, hr_1027⟩
                                          · obtain ⟨n_1028, e_1029, hr_1030⟩ := iv_lload_n xm_203 xd_203_345 q1 hr_1027
                                            obtain ⟨n_1031, e_1032, hr_1033⟩ := iv_ldc2 (v := 29300) (z := 0) xm_203 xd_203_346 (by decide +kernel) hr_1030
                                            obtain ⟨n_1034, e_1035, hr_1036⟩ := iv_lcmp xm_203 xd_203_349 hr_1033
                                            rcases iv_if 359 xm_203 xd_203_350 (by decide) (sv_g_I (ae_lcmp_lt _ _)) hr_1036 with ⟨c_1037, n_1038, e_1039, hr_1040⟩ | ⟨c_1037, n_1038, e_1039, hr_1040⟩
                                            · obtain ⟨n_1041, e_1042, hr_1043⟩ := iv_iconst xm_203 xd_203_359 (by decide) hr_1040
                                              obtain ⟨h_1044, ok_1045, em_1046, n_1048, e_1049, hr_1050⟩ := iv_puti (j := 20) (fk := 0) xm_203 xd_203_360 (by decide +kernel) ok_967 (rfl : sv_ty 114 = some 12) dt_12 rfl (by decide +kernel) rfl (by unfold sv_I; omega) hr_1043
                                              obtain ⟨n_1051, e_1052, hr_1053⟩ := iv_aload_n xm_203 xd_203_363 q0 hr_1050
                                              have f_1054 := dc_fi (j := 20) ok_1045 (rfl : sv_ty 114 = some 12) dt_12 rfl
                                              obtain ⟨n_1055, e_1056, hr_1057⟩ := iv_getf (j := 20) xm_203 xd_203_364 (by decide +kernel) ok_1045 (rfl : sv_ty 114 = some 12) dt_12 f_1054.1 hr_1053
                                              rcases iv_if 372 xm_203 xd_203_367 (by decide) f_1054.2 hr_1057 with ⟨c_1058, n_1059, e_1060, hr_1061⟩ | ⟨c_1058, n_1059, e_1060, hr_1061⟩
                                              rotate_left
                                              · exact absurd (show ¬ (((-1) : Int) < 0) by have z := c_1058; rw [em_1046, dc_up_s] at z; exact z) (by decide)
                                              obtain ⟨n_1062, e_1063, hr_1064⟩ := iv_aload_n xm_203 xd_203_372 q0 hr_1061
                                              obtain ⟨n_1065, e_1066, hr_1067⟩ := iv_iconst xm_203 xd_203_373 (by decide) hr_1064
                                              obtain ⟨h_1068, ok_1069, em_1070, n_1072, e_1073, hr_1074⟩ := iv_puti (j := 22) (fk := 0) xm_203 xd_203_374 (by decide +kernel) ok_1045 (rfl : sv_ty 114 = some 12) dt_12 rfl (by decide +kernel) rfl (by unfold sv_I; omega) hr_1067
                                              obtain ⟨n_1075, e_1076, hr_1077⟩ := iv_aload_n xm_203 xd_203_377 q0 hr_1074
                                              obtain ⟨n_1078, e_1079, hr_1080⟩ := iv_lload_n xm_203 xd_203_378 q1 hr_1077
                                              obtain ⟨n_1081, e_1082, hr_1083⟩ := iv_ldc2 (v := 112) (z := 0) xm_203 xd_203_379 (by decide +kernel) hr_1080
                                              obtain ⟨n_1084, e_1085, hr_1086⟩ := iv_lcmp xm_203 xd_203_382 hr_1083
                                              rcases iv_if 391 xm_203 xd_203_383 (by decide) (sv_g_I (ae_lcmp_lt _ _)) hr_1086 with ⟨c_1087, n_1088, e_1089, hr_1090⟩ | ⟨c_1087, n_1088, e_1089, hr_1090⟩
                                              · obtain ⟨n_1091, e_1092, hr_1093⟩ := iv_iconst xm_203 xd_203_391 (by decide) hr_1090
                                                obtain ⟨h_1094, ok_1095, em_1096, n_1098, e_1099, hr_1100⟩ := iv_puti (j := 21) (fk := 0) xm_203 xd_203_392 (by decide +kernel) ok_1069 (rfl : sv_ty 114 = some 12) dt_12 rfl (by decide +kernel) rfl (by unfold sv_I; omega) hr_1093
                                                obtain ⟨n_1101, e_1102, hr_1103⟩ := iv_aload_n xm_203 xd_203_395 q0 hr_1100
                                                obtain ⟨n_1104, e_1105, hr_1106⟩ := iv_lload_n xm_203 xd_203_396 q1 hr_1103
                                                obtain ⟨n_1107, e_1108, hr_1109⟩ := iv_ldc2 (v := 112) (z := 0) xm_203 xd_203_397 (by decide +kernel) hr_1106
                                                obtain ⟨n_1110, e_1111, hr_1112⟩ := iv_lcmp xm_203 xd_203_400 hr_1109
                                                rcases iv_if 410 xm_203 xd_203_401 (by decide) (sv_g_I (ae_lcmp_lt _ _)) hr_1112 with ⟨c_1113, n_1114, e_1115, hr_1116⟩ | ⟨c_1113, n_1114, e_1115, hr_1116⟩
                                                · obtain ⟨n_1117, e_1118, hr_1119⟩ := iv_lload_n xm_203 xd_203_410 q1 hr_1116
                                                  obtain ⟨n_1120, e_1121, hr_1122⟩ := iv_ldc2 (v := 116) (z := 0) xm_203 xd_203_411 (by decide +kernel) hr_1119
                                                  obtain ⟨n_1123, e_1124, hr_1125⟩ := iv_lcmp xm_203 xd_203_414 hr_1122
                                                  rcases iv_if 423 xm_203 xd_203_415 (by decide) (sv_g_I (ae_lcmp_lt _ _)) hr_1125 with ⟨c_1126, n_1127, e_1128, hr_1129⟩ | ⟨c_1126, n_1127, e_1128, hr_1129⟩
                                                  · obtain ⟨n_1130, e_1131, hr_1132⟩ := iv_lload_n xm_203 xd_203_423 q1 hr_1129
                                                    obtain ⟨n_1133, e_1134, hr_1135⟩ := iv_ldc2 (v := 98) (z := 0) xm_203 xd_203_424 (by decide +kernel) hr_1132
                                                    obtain ⟨n_1136, e_1137, hr_1138⟩ := iv_lcmp xm_203 xd_203_427 hr_1135
                                                    rcases iv_if 437 xm_203 xd_203_428 (by decide) (sv_g_I (ae_lcmp_lt _ _)) hr_1138 with ⟨c_1139, n_1140, e_1141, hr_1142⟩ | ⟨c_1139, n_1140, e_1141, hr_1142⟩
                                                    · obtain ⟨n_1143, e_1144, hr_1145⟩ := iv_iconst xm_203 xd_203_437 (by decide) hr_1142
                                                      obtain ⟨h_1146, ok_1147, em_1148, n_1150, e_1151, hr_1152⟩ := iv_puti (j := 20) (fk := 0) xm_203 xd_203_438 (by decide +kernel) ok_1095 (rfl : sv_ty 114 = some 12) dt_12 rfl (by decide +kernel) rfl (by unfold sv_I; omega) hr_1145
                                                      obtain ⟨n_1153, e_1154, hr_1155⟩ := iv_aload_n xm_203 xd_203_441 q0 hr_1152
                                                      have f_1156 := dc_fi (j := 20) ok_1147 (rfl : sv_ty 114 = some 12) dt_12 rfl
                                                      obtain ⟨n_1157, e_1158, hr_1159⟩ := iv_getf (j := 20) xm_203 xd_203_442 (by decide +kernel) ok_1147 (rfl : sv_ty 114 = some 12) dt_12 f_1156.1 hr_1155
                                                      rcases iv_if 452 xm_203 xd_203_445 (by decide) f_1156.2 hr_1159 with ⟨c_1160, n_1161, e_1162, hr_1163⟩ | ⟨c_1160, n_1161, e_1162, hr_1163⟩
                                                      rotate_left
                                                      · exact absurd (show ¬ (((-1) : Int) < 0) by have z := c_1160; rw [em_1148, dc_up_s] at z; exact z) (by decide)
                                                      obtain ⟨n_1164, e_1165, hr_1166⟩ := iv_iconst xm_203 xd_203_452 (by decide) hr_1163
                                                      have rr_1167 := iv_ireturn xm_203 xd_203_453 hr_1166
                                                      subst rr_1167
                                                      exact ⟨_, ⟨_, em_9, ⟨_, em_22, Or.inl ⟨c_39, Or.inl ⟨c_52, Or.inl ⟨c_65, Or.inl ⟨c_78, ⟨_, em_87, ⟨_, em_111, Or.inl ⟨c_128, Or.inl ⟨c_141, Or.inl ⟨c_154, ⟨_, em_163, ⟨_, em_187, Or.inl ⟨c_204, Or.inl ⟨c_217, Or.inl ⟨c_230, Or.inl ⟨c_243, Or.inl ⟨c_256, Or.inl ⟨c_269, Or.inl ⟨c_282, Or.inl ⟨c_295, ⟨_, em_304, Or.inr ⟨c_332, Or.inl ⟨c_959, ⟨_, em_968, Or.inl ⟨c_985, Or.inl ⟨c_998, Or.inl ⟨c_1011, Or.inl ⟨c_1024, Or.inl ⟨c_1037, ⟨_, em_1046, ⟨_, em_1070, Or.inl ⟨c_1087, ⟨_, em_1096, Or.inl ⟨c_1113, Or.inl ⟨c_1126, Or.inl ⟨c_1139, ⟨_, em_1148, ⟨rfl, rfl⟩⟩⟩⟩⟩⟩⟩⟩⟩⟩⟩⟩⟩⟩⟩⟩⟩⟩⟩⟩⟩⟩⟩⟩⟩⟩⟩⟩⟩⟩⟩⟩⟩⟩⟩⟩⟩⟩⟩, rfl, (by unfold sv_I; omega), ok_1147⟩
                                                    · obtain ⟨n_1168, e_1169, hr_1170⟩ := iv_sipush xm_203 xd_203_431 (by decide) hr_1142
                                                      obtain ⟨n_1171, e_1172, hr_1173⟩ := iv_goto 438 xm_203 xd_203_434 (by decide) hr_1170
                                                      obtain ⟨h_1174, ok_1175, em_1176, n_1178, e_1179, hr_1180⟩ := iv_puti (j := 20) (fk := 0) xm_203 xd_203_438 (by decide +kernel) ok_1095 (rfl : sv_ty 114 = some 12) dt_12 rfl (by decide +kernel) rfl (by unfold sv_I; omega) hr_1173
                                                      obtain ⟨n_1181, e_1182, hr_1183⟩ := iv_aload_n xm_203 xd_203_441 q0 hr_1180
                                                      have f_1184 := dc_fi (j := 20) ok_1175 (rfl : sv_ty 114 = some 12) dt_12 rfl
                                                      obtain ⟨n_1185, e_1186, hr_1187⟩ := iv_getf (j := 20) xm_203 xd_203_442 (by decide +kernel) ok_1175 (rfl : sv_ty 114 = some 12) dt_12 f_1184.1 hr_1183
                                                      rcases iv_if 452 xm_203 xd_203_445 (by decide) f_1184.2 hr_1187 with ⟨c_1188, n_1189, e_1190, hr_1191⟩ | ⟨c_1188, n_1189, e_1190, hr_1191⟩
                                                      · exact absurd (show (156 : Int) < 0 by have z := c_1188; rw [em_1176, dc_up_s] at z; exact z) (by decide)
                                                      obtain ⟨n_1192, e_1193, hr_1194⟩ := iv_iconst xm_203 xd_203_448 (by decide) hr_1191
                                                      obtain ⟨n_1195, e_1196, hr_1197⟩ := iv_goto 453 xm_203 xd_203_449 (by decide) hr_1194
                                                      have rr_1198 := iv_ireturn xm_203 xd_203_453 hr_1197
                                                      subst rr_1198
                                                      exact ⟨_, ⟨_, em_9, ⟨_, em_22, Or.inl ⟨c_39, Or.inl ⟨c_52, Or.inl ⟨c_65, Or.inl ⟨c_78, ⟨_, em_87, ⟨_, em_111, Or.inl ⟨c_128, Or.inl ⟨c_141, Or.inl ⟨c_154, ⟨_, em_163, ⟨_, em_187, Or.inl ⟨c_204, Or.inl ⟨c_217, Or.inl ⟨c_230, Or.inl ⟨c_243, Or.inl ⟨c_256, Or.inl ⟨c_269, Or.inl ⟨c_282, Or.inl ⟨c_295, ⟨_, em_304, Or.inr ⟨c_332, Or.inl ⟨c_959, ⟨_, em_968, Or.inl ⟨c_985, Or.inl ⟨c_998, Or.inl ⟨c_1011, Or.inl ⟨c_1024, Or.inl ⟨c_1037, ⟨_, em_1046, ⟨_, em_1070, Or.inl ⟨c_1087, ⟨_, em_1096, Or.inl ⟨c_1113, Or.inl ⟨c_1126, Or.inr ⟨c_1139, ⟨_, em_1176, ⟨rfl, rfl⟩⟩⟩⟩⟩⟩⟩⟩⟩⟩⟩⟩⟩⟩⟩⟩⟩⟩⟩⟩⟩⟩⟩⟩⟩⟩⟩⟩⟩⟩⟩⟩⟩⟩⟩⟩⟩⟩⟩, rfl, (by unfold sv_I; omega), ok_1175⟩
                                                  · obtain ⟨n_1199, e_1200, hr_1201⟩ := iv_bipush xm_203 xd_203_418 (by decide) hr_1129
                                                    obtain ⟨n_1202, e_1203, hr_1204⟩ := iv_goto 438 xm_203 xd_203_420 (by decide) hr_1201
                                                    obtain ⟨h_1205, ok_1206, em_1207, n_1209, e_1210, hr_1211⟩ := iv_puti (j := 20) (fk := 0) xm_203 xd_203_438 (by decide +kernel) ok_1095 (rfl : sv_ty 114 = some 12) dt_12 rfl (by decide +kernel) rfl (by unfold sv_I; omega) hr_1204
                                                    obtain ⟨n_1212, e_1213, hr_1214⟩ := iv_aload_n xm_203 xd_203_441 q0 hr_1211
                                                    have f_1215 := dc_fi (j := 20) ok_1206 (rfl : sv_ty 114 = some 12) dt_12 rfl
                                                    obtain ⟨n_1216, e_1217, hr_1218⟩ := iv_getf (j := 20) xm_203 xd_203_442 (by decide +kernel) ok_1206 (rfl : sv_ty 114 = some 12) dt_12 f_1215.1 hr_1214
                                                    rcases iv_if 452 xm_203 xd_203_445 (by decide) f_1215.2 hr_1218 with ⟨c_1219, n_1220, e_1221, hr_1222⟩ | ⟨c_1219, n_1220, e_1221, hr_1222⟩
                                                    · exact absurd (show (65 : Int) < 0 by have z := c_1219; rw [em_1207, dc_up_s] at z; exact z) (by decide)
                                                    obtain ⟨n_1223, e_1224, hr_1225⟩ := iv_iconst xm_203 xd_203_448 (by decide) hr_1222
                                                    obtain ⟨n_1226, e_1227, hr_1228⟩ := iv_goto 453 xm_203 xd_203_449 (by decide) hr_1225
                                                    have rr_1229 := iv_ireturn xm_203 xd_203_453 hr_1228
                                                    subst rr_1229
                                                    exact ⟨_, ⟨_, em_9, ⟨_, em_22, Or.inl ⟨c_39, Or.inl ⟨c_52, Or.inl ⟨c_65, Or.inl ⟨c_78, ⟨_, em_87, ⟨_, em_111, Or.inl ⟨c_128, Or.inl ⟨c_141, Or.inl ⟨c_154, ⟨_, em_163, ⟨_, em_187, Or.inl ⟨c_204, Or.inl ⟨c_217, Or.inl ⟨c_230, Or.inl ⟨c_243, Or.inl ⟨c_256, Or.inl ⟨c_269, Or.inl ⟨c_282, Or.inl ⟨c_295, ⟨_, em_304, Or.inr ⟨c_332, Or.inl ⟨c_959, ⟨_, em_968, Or.inl ⟨c_985, Or.inl ⟨c_998, Or.inl ⟨c_1011, Or.inl ⟨c_1024, Or.inl ⟨c_1037, ⟨_, em_1046, ⟨_, em_1070, Or.inl ⟨c_1087, ⟨_, em_1096, Or.inl ⟨c_1113, Or.inr ⟨c_1126, ⟨_, em_1207, ⟨rfl, rfl⟩⟩⟩⟩⟩⟩⟩⟩⟩⟩⟩⟩⟩⟩⟩⟩⟩⟩⟩⟩⟩⟩⟩⟩⟩⟩⟩⟩⟩⟩⟩⟩⟩⟩⟩⟩⟩⟩, rfl, (by unfold sv_I; omega), ok_1206⟩
                                                · obtain ⟨n_1230, e_1231, hr_1232⟩ := iv_sipush xm_203 xd_203_404 (by decide) hr_1116
                                                  obtain ⟨n_1233, e_1234, hr_1235⟩ := iv_goto 438 xm_203 xd_203_407 (by decide) hr_1232
                                                  obtain ⟨h_1236, ok_1237, em_1238, n_1240, e_1241, hr_1242⟩ := iv_puti (j := 20) (fk := 0) xm_203 xd_203_438 (by decide +kernel) ok_1095 (rfl : sv_ty 114 = some 12) dt_12 rfl (by decide +kernel) rfl (by unfold sv_I; omega) hr_1235
                                                  obtain ⟨n_1243, e_1244, hr_1245⟩ := iv_aload_n xm_203 xd_203_441 q0 hr_1242
                                                  have f_1246 := dc_fi (j := 20) ok_1237 (rfl : sv_ty 114 = some 12) dt_12 rfl
                                                  obtain ⟨n_1247, e_1248, hr_1249⟩ := iv_getf (j := 20) xm_203 xd_203_442 (by decide +kernel) ok_1237 (rfl : sv_ty 114 = some 12) dt_12 f_1246.1 hr_1245
                                                  rcases iv_if 452 xm_203 xd_203_445 (by decide) f_1246.2 hr_1249 with ⟨c_1250, n_1251, e_1252, hr_1253⟩ | ⟨c_1250, n_1251, e_1252, hr_1253⟩
                                                  · exact absurd (show (132 : Int) < 0 by have z := c_1250; rw [em_1238, dc_up_s] at z; exact z) (by decide)
                                                  obtain ⟨n_1254, e_1255, hr_1256⟩ := iv_iconst xm_203 xd_203_448 (by decide) hr_1253
                                                  obtain ⟨n_1257, e_1258, hr_1259⟩ := iv_goto 453 xm_203 xd_203_449 (by decide) hr_1256
                                                  have rr_1260 := iv_ireturn xm_203 xd_203_453 hr_1259
                                                  subst rr_1260
                                                  exact ⟨_, ⟨_, em_9, ⟨_, em_22, Or.inl ⟨c_39, Or.inl ⟨c_52, Or.inl ⟨c_65, Or.inl ⟨c_78, ⟨_, em_87, ⟨_, em_111, Or.inl ⟨c_128, Or.inl ⟨c_141, Or.inl ⟨c_154, ⟨_, em_163, ⟨_, em_187, Or.inl ⟨c_204, Or.inl ⟨c_217, Or.inl ⟨c_230, Or.inl ⟨c_243, Or.inl ⟨c_256, Or.inl ⟨c_269, Or.inl ⟨c_282, Or.inl ⟨c_295, ⟨_, em_304, Or.inr ⟨c_332, Or.inl ⟨c_959, ⟨_, em_968, Or.inl ⟨c_985, Or.inl ⟨c_998, Or.inl ⟨c_1011, Or.inl ⟨c_1024, Or.inl ⟨c_1037, ⟨_, em_1046, ⟨_, em_1070, Or.inl ⟨c_1087, ⟨_, em_1096, Or.inr ⟨c_1113, ⟨_, em_1238, ⟨rfl, rfl⟩⟩⟩⟩⟩⟩⟩⟩⟩⟩⟩⟩⟩⟩⟩⟩⟩⟩⟩⟩⟩⟩⟩⟩⟩⟩⟩⟩⟩⟩⟩⟩⟩⟩⟩⟩⟩, rfl, (by unfold sv_I; omega), ok_1237⟩
                                              · obtain ⟨n_1261, e_1262, hr_1263⟩ := iv_bipush xm_203 xd_203_386 (by decide) hr_1090
                                                obtain ⟨n_1264, e_1265, hr_1266⟩ := iv_goto 392 xm_203 xd_203_388 (by decide) hr_1263
                                                obtain ⟨h_1267, ok_1268, em_1269, n_1271, e_1272, hr_1273⟩ := iv_puti (j := 21) (fk := 0) xm_203 xd_203_392 (by decide +kernel) ok_1069 (rfl : sv_ty 114 = some 12) dt_12 rfl (by decide +kernel) rfl (by unfold sv_I; omega) hr_1266
                                                obtain ⟨n_1274, e_1275, hr_1276⟩ := iv_aload_n xm_203 xd_203_395 q0 hr_1273
                                                obtain ⟨n_1277, e_1278, hr_1279⟩ := iv_lload_n xm_203 xd_203_396 q1 hr_1276
                                                obtain ⟨n_1280, e_1281, hr_1282⟩ := iv_ldc2 (v := 112) (z := 0) xm_203 xd_203_397 (by decide +kernel) hr_1279
                                                obtain ⟨n_1283, e_1284, hr_1285⟩ := iv_lcmp xm_203 xd_203_400 hr_1282
                                                rcases iv_if 410 xm_203 xd_203_401 (by decide) (sv_g_I (ae_lcmp_lt _ _)) hr_1285 with ⟨c_1286, n_1287, e_1288, hr_1289⟩ | ⟨c_1286, n_1287, e_1288, hr_1289⟩
                                                · obtain ⟨n_1290, e_1291, hr_1292⟩ := iv_lload_n xm_203 xd_203_410 q1 hr_1289
                                                  obtain ⟨n_1293, e_1294, hr_1295⟩ := iv_ldc2 (v := 116) (z := 0) xm_203 xd_203_411 (by decide +kernel) hr_1292
                                                  obtain ⟨n_1296, e_1297, hr_1298⟩ := iv_lcmp xm_203 xd_203_414 hr_1295
                                                  rcases iv_if 423 xm_203 xd_203_415 (by decide) (sv_g_I (ae_lcmp_lt _ _)) hr_1298 with ⟨c_1299, n_1300, e_1301, hr_1302⟩ | ⟨c_1299, n_1300, e_1301, hr_1302⟩
                                                  · obtain ⟨n_1303, e_1304, hr_1305⟩ := iv_lload_n xm_203 xd_203_423 q1 hr_1302
                                                    obtain ⟨n_1306, e_1307, hr_1308⟩ := iv_ldc2 (v := 98) (z := 0) xm_203 xd_203_424 (by decide +kernel) hr_1305
                                                    obtain ⟨n_1309, e_1310, hr_1311⟩ := iv_lcmp xm_203 xd_203_427 hr_1308
                                                    rcases iv_if 437 xm_203 xd_203_428 (by decide) (sv_g_I (ae_lcmp_lt _ _)) hr_1311 with ⟨c_1312, n_1313, e_1314, hr_1315⟩ | ⟨c_1312, n_1313, e_1314, hr_1315⟩
                                                    · obtain ⟨n_1316, e_1317, hr_1318⟩ := iv_iconst xm_203 xd_203_437 (by decide) hr_1315
                                                      obtain ⟨h_1319, ok_1320, em_1321, n_1323, e_1324, hr_1325⟩ := iv_puti (j := 20) (fk := 0) xm_203 xd_203_438 (by decide +kernel) ok_1268 (rfl : sv_ty 114 = some 12) dt_12 rfl (by decide +kernel) rfl (by unfold sv_I; omega) hr_1318
                                                      obtain ⟨n_1326, e_1327, hr_1328⟩ := iv_aload_n xm_203 xd_203_441 q0 hr_1325
                                                      have f_1329 := dc_fi (j := 20) ok_1320 (rfl : sv_ty 114 = some 12) dt_12 rfl
                                                      obtain ⟨n_1330, e_1331, hr_1332⟩ := iv_getf (j := 20) xm_203 xd_203_442 (by decide +kernel) ok_1320 (rfl : sv_ty 114 = some 12) dt_12 f_1329.1 hr_1328
                                                      rcases iv_if 452 xm_203 xd_203_445 (by decide) f_1329.2 hr_1332 with ⟨c_1333, n_1334, e_1335, hr_1336⟩ | ⟨c_1333, n_1334, e_1335, hr_1336⟩
                                                      rotate_left
                                                      · exact absurd (show ¬ (((-1) : Int) < 0) by have z := c_1333; rw [em_1321, dc_up_s] at z; exact z) (by decide)
                                                      obtain ⟨n_1337, e_1338, hr_1339⟩ := iv_iconst xm_203 xd_203_452 (by decide) hr_1336
                                                      have rr_1340 := iv_ireturn xm_203 xd_203_453 hr_1339
                                                      subst rr_1340
                                                      exact ⟨_, ⟨_, em_9, ⟨_, em_22, Or.inl ⟨c_39, Or.inl ⟨c_52, Or.inl ⟨c_65, Or.inl ⟨c_78, ⟨_, em_87, ⟨_, em_111, Or.inl ⟨c_128, Or.inl ⟨c_141, Or.inl ⟨c_154, ⟨_, em_163, ⟨_, em_187, Or.inl ⟨c_204, Or.inl ⟨c_217, Or.inl ⟨c_230, Or.inl ⟨c_243, Or.inl ⟨c_256, Or.inl ⟨c_269, Or.inl ⟨c_282, Or.inl ⟨c_295, ⟨_, em_304, Or.inr ⟨c_332, Or.inl ⟨c_959, ⟨_, em_968, Or.inl ⟨c_985, Or.inl ⟨c_998, Or.inl ⟨c_1011, Or.inl ⟨c_1024, Or.inl ⟨c_1037, ⟨_, em_1046, ⟨_, em_1070, Or.inr ⟨c_1087, ⟨_, em_1269, Or.inl ⟨c_1286, Or.inl ⟨c_1299, Or.inl ⟨c_1312, ⟨_, em_1321, ⟨rfl, rfl⟩⟩⟩⟩⟩⟩⟩⟩⟩⟩⟩⟩⟩⟩⟩⟩⟩⟩⟩⟩⟩⟩⟩⟩⟩⟩⟩⟩⟩⟩⟩⟩⟩⟩⟩⟩⟩⟩⟩, rfl, (by unfold sv_I; omega), ok_1320⟩
                                                    · obtain ⟨n_1341, e_1342, hr_1343⟩ := iv_sipush xm_203 xd_203_431 (by decide) hr_1315
                                                      obtain ⟨n_1344, e_1345, hr_1346⟩ := iv_goto 438 xm_203 xd_203_434 (by decide) hr_1343
                                                      obtain ⟨h_1347, ok_1348, em_1349, n_1351, e_1352, hr_1353⟩ := iv_puti (j := 20) (fk := 0) xm_203 xd_203_438 (by decide +kernel) ok_1268 (rfl : sv_ty 114 = some 12) dt_12 rfl (by decide +kernel) rfl (by unfold sv_I; omega) hr_1346
                                                      obtain ⟨n_1354, e_1355, hr_1356⟩ := iv_aload_n xm_203 xd_203_441 q0 hr_1353
                                                      have f_1357 := dc_fi (j := 20) ok_1348 (rfl : sv_ty 114 = some 12) dt_12 rfl
                                                      obtain ⟨n_1358, e_1359, hr_1360⟩ := iv_getf (j := 20) xm_203 xd_203_442 (by decide +kernel) ok_1348 (rfl : sv_ty 114 = some 12) dt_12 f_1357.1 hr_1356
                                                      rcases iv_if 452 xm_203 xd_203_445 (by decide) f_1357.2 hr_1360 with ⟨c_1361, n_1362, e_1363, hr_1364⟩ | ⟨c_1361, n_1362, e_1363, hr_1364⟩
                                                      · exact absurd (show (156 : Int) < 0 by have z := c_1361; rw [em_1349, dc_up_s] at z; exact z) (by decide)
                                                      obtain ⟨n_1365, e_1366, hr_1367⟩ := iv_iconst xm_203 xd_203_448 (by decide) hr_1364
                                                      obtain ⟨n_1368, e_1369, hr_1370⟩ := iv_goto 453 xm_203 xd_203_449 (by decide) hr_1367
                                                      have rr_1371 := iv_ireturn xm_203 xd_203_453 hr_1370
                                                      subst rr_1371
                                                      exact ⟨_, ⟨_, em_9, ⟨_, em_22, Or.inl ⟨c_39, Or.inl ⟨c_52, Or.inl ⟨c_65, Or.inl ⟨c_78, ⟨_, em_87, ⟨_, em_111, Or.inl ⟨c_128, Or.inl ⟨c_141, Or.inl ⟨c_154, ⟨_, em_163, ⟨_, em_187, Or.inl ⟨c_204, Or.inl ⟨c_217, Or.inl ⟨c_230, Or.inl ⟨c_243, Or.inl ⟨c_256, Or.inl ⟨c_269, Or.inl ⟨c_282, Or.inl ⟨c_295, ⟨_, em_304, Or.inr ⟨c_332, Or.inl ⟨c_959, ⟨_, em_968, Or.inl ⟨c_985, Or.inl ⟨c_998, Or.inl ⟨c_1011, Or.inl ⟨c_1024, Or.inl ⟨c_1037, ⟨_, em_1046, ⟨_, em_1070, Or.inr ⟨c_1087, ⟨_, em_1269, Or.inl ⟨c_1286, Or.inl ⟨c_1299, Or.inr ⟨c_1312, ⟨_, em_1349, ⟨rfl, rfl⟩⟩⟩⟩⟩⟩⟩⟩⟩⟩⟩⟩⟩⟩⟩⟩⟩⟩⟩⟩⟩⟩⟩⟩⟩⟩⟩⟩⟩⟩⟩⟩⟩⟩⟩⟩⟩⟩⟩, rfl, (by unfold sv_I; omega), ok_1348⟩
                                                  · obtain ⟨n_1372, e_1373, hr_1374⟩ := iv_bipush xm_203 xd_203_418 (by decide) hr_1302
                                                    obtain ⟨n_1375, e_1376, hr_1377⟩ := iv_goto 438 xm_203 xd_203_420 (by decide) hr_1374
                                                    obtain ⟨h_1378, ok_1379, em_1380, n_1382, e_1383, hr_1384⟩ := iv_puti (j := 20) (fk := 0) xm_203 xd_203_438 (by decide +kernel) ok_1268 (rfl : sv_ty 114 = some 12) dt_12 rfl (by decide +kernel) rfl (by unfold sv_I; omega) hr_1377
                                                    obtain ⟨n_1385, e_1386, hr_1387⟩ := iv_aload_n xm_203 xd_203_441 q0 hr_1384
                                                    have f_1388 := dc_fi (j := 20) ok_1379 (rfl : sv_ty 114 = some 12) dt_12 rfl
                                                    obtain ⟨n_1389, e_1390, hr_1391⟩ := iv_getf (j := 20) xm_203 xd_203_442 (by decide +kernel) ok_1379 (rfl : sv_ty 114 = some 12) dt_12 f_1388.1 hr_1387
                                                    rcases iv_if 452 xm_203 xd_203_445 (by decide) f_1388.2 hr_1391 with ⟨c_1392, n_1393, e_1394, hr_1395⟩ | ⟨c_1392, n_1393, e_1394, hr_1395⟩
                                                    · exact absurd (show (65 : Int) < 0 by have z := c_1392; rw [em_1380, dc_up_s] at z; exact z) (by decide)
                                                    obtain ⟨n_1396, e_1397, hr_1398⟩ := iv_iconst xm_203 xd_203_448 (by decide) hr_1395
                                                    obtain ⟨n_1399, e_1400, hr_1401⟩ := iv_goto 453 xm_203 xd_203_449 (by decide) hr_1398
                                                    have rr_1402 := iv_ireturn xm_203 xd_203_453 hr_1401
                                                    subst rr_1402
                                                    exact ⟨_, ⟨_, em_9, ⟨_, em_22, Or.inl ⟨c_39, Or.inl ⟨c_52, Or.inl ⟨c_65, Or.inl ⟨c_78, ⟨_, em_87, ⟨_, em_111, Or.inl ⟨c_128, Or.inl ⟨c_141, Or.inl ⟨c_154, ⟨_, em_163, ⟨_, em_187, Or.inl ⟨c_204, Or.inl ⟨c_217, Or.inl ⟨c_230, Or.inl ⟨c_243, Or.inl ⟨c_256, Or.inl ⟨c_269, Or.inl ⟨c_282, Or.inl ⟨c_295, ⟨_, em_304, Or.inr ⟨c_332, Or.inl ⟨c_959, ⟨_, em_968, Or.inl ⟨c_985, Or.inl ⟨c_998, Or.inl ⟨c_1011, Or.inl ⟨c_1024, Or.inl ⟨c_1037, ⟨_, em_1046, ⟨_, em_1070, Or.inr ⟨c_1087, ⟨_, em_1269, Or.inl ⟨c_1286, Or.inr ⟨c_1299, ⟨_, em_1380, ⟨rfl, rfl⟩⟩⟩⟩⟩⟩⟩⟩⟩⟩⟩⟩⟩⟩⟩⟩⟩⟩⟩⟩⟩⟩⟩⟩⟩⟩⟩⟩⟩⟩⟩⟩⟩⟩⟩⟩⟩⟩, rfl, (by unfold sv_I; omega), ok_1379⟩
                                                · obtain ⟨n_1403, e_1404, hr_1405⟩ := iv_sipush xm_203 xd_203_404 (by decide) hr_1289
                                                  obtain ⟨n_1406, e_1407, hr_1408⟩ := iv_goto 438 xm_203 xd_203_407 (by decide) hr_1405
                                                  obtain ⟨h_1409, ok_1410, em_1411, n_1413, e_1414, hr_1415⟩ := iv_puti (j := 20) (fk := 0) xm_203 xd_203_438 (by decide +kernel) ok_1268 (rfl : sv_ty 114 = some 12) dt_12 rfl (by decide +kernel) rfl (by unfold sv_I; omega) hr_1408
                                                  obtain ⟨n_1416, e_1417, hr_1418⟩ := iv_aload_n xm_203 xd_203_441 q0 hr_1415
                                                  have f_1419 := dc_fi (j := 20) ok_1410 (rfl : sv_ty 114 = some 12) dt_12 rfl
                                                  obtain ⟨n_1420, e_1421, hr_1422⟩ := iv_getf (j := 20) xm_203 xd_203_442 (by decide +kernel) ok_1410 (rfl : sv_ty 114 = some 12) dt_12 f_1419.1 hr_1418
                                                  rcases iv_if 452 xm_203 xd_203_445 (by decide) f_1419.2 hr_1422 with ⟨c_1423, n_1424, e_1425, hr_1426⟩ | ⟨c_1423, n_1424, e_1425, hr_1426⟩
                                                  · exact absurd (show (132 : Int) < 0 by have z := c_1423; rw [em_1411, dc_up_s] at z; exact z) (by decide)
                                                  obtain ⟨n_1427, e_1428, hr_1429⟩ := iv_iconst xm_203 xd_203_448 (by decide) hr_1426
                                                  obtain ⟨n_1430, e_1431, hr_1432⟩ := iv_goto 453 xm_203 xd_203_449 (by decide) hr_1429
                                                  have rr_1433 := iv_ireturn xm_203 xd_203_453 hr_1432
                                                  subst rr_1433
                                                  exact ⟨_, ⟨_, em_9, ⟨_, em_22, Or.inl ⟨c_39, Or.inl ⟨c_52, Or.inl ⟨c_65, Or.inl ⟨c_78, ⟨_, em_87, ⟨_, em_111, Or.inl ⟨c_128, Or.inl ⟨c_141, Or.inl ⟨c_154, ⟨_, em_163, ⟨_, em_187, Or.inl ⟨c_204, Or.inl ⟨c_217, Or.inl ⟨c_230, Or.inl ⟨c_243, Or.inl ⟨c_256, Or.inl ⟨c_269, Or.inl ⟨c_282, Or.inl ⟨c_295, ⟨_, em_304, Or.inr ⟨c_332, Or.inl ⟨c_959, ⟨_, em_968, Or.inl ⟨c_985, Or.inl ⟨c_998, Or.inl ⟨c_1011, Or.inl ⟨c_1024, Or.inl ⟨c_1037, ⟨_, em_1046, ⟨_, em_1070, Or.inr ⟨c_1087, ⟨_, em_1269, Or.inr ⟨c_1286, ⟨_, em_1411, ⟨rfl, rfl⟩⟩⟩⟩⟩⟩⟩⟩⟩⟩⟩⟩⟩⟩⟩⟩⟩⟩⟩⟩⟩⟩⟩⟩⟩⟩⟩⟩⟩⟩⟩⟩⟩⟩⟩⟩⟩, rfl, (by unfold sv_I; omega), ok_1410⟩
                                            · obtain ⟨n_1434, e_1435, hr_1436⟩ := iv_sipush xm_203 xd_203_353 (by decide) hr_1040
                                              obtain ⟨n_1437, e_1438, hr_1439⟩ := iv_goto 360 xm_203 xd_203_356 (by decide) hr_1436
                                              obtain ⟨h_1440, ok_1441, em_1442, n_1444, e_1445, hr_1446⟩ := iv_puti (j := 20) (fk := 0) xm_203 xd_203_360 (by decide +kernel) ok_967 (rfl : sv_ty 114 = some 12) dt_12 rfl (by decide +kernel) rfl (by unfold sv_I; omega) hr_1439
                                              obtain ⟨n_1447, e_1448, hr_1449⟩ := iv_aload_n xm_203 xd_203_363 q0 hr_1446
                                              have f_1450 := dc_fi (j := 20) ok_1441 (rfl : sv_ty 114 = some 12) dt_12 rfl
                                              obtain ⟨n_1451, e_1452, hr_1453⟩ := iv_getf (j := 20) xm_203 xd_203_364 (by decide +kernel) ok_1441 (rfl : sv_ty 114 = some 12) dt_12 f_1450.1 hr_1449
                                              rcases iv_if 372 xm_203 xd_203_367 (by decide) f_1450.2 hr_1453 with ⟨c_1454, n_1455, e_1456, hr_1457⟩ | ⟨c_1454, n_1455, e_1456, hr_1457⟩
                                              · exact absurd (show (205 : Int) < 0 by have z := c_1454; rw [em_1442, dc_up_s] at z; exact z) (by decide)
                                              obtain ⟨n_1458, e_1459, hr_1460⟩ := iv_iconst xm_203 xd_203_370 (by decide) hr_1457
                                              have rr_1461 := iv_ireturn xm_203 xd_203_371 hr_1460
                                              subst rr_1461
                                              exact ⟨_, ⟨_, em_9, ⟨_, em_22, Or.inl ⟨c_39, Or.inl ⟨c_52, Or.inl ⟨c_65, Or.inl ⟨c_78, ⟨_, em_87, ⟨_, em_111, Or.inl ⟨c_128, Or.inl ⟨c_141, Or.inl ⟨c_154, ⟨_, em_163, ⟨_, em_187, Or.inl ⟨c_204, Or.inl ⟨c_217, Or.inl ⟨c_230, Or.inl ⟨c_243, Or.inl ⟨c_256, Or.inl ⟨c_269, Or.inl ⟨c_282, Or.inl ⟨c_295, ⟨_, em_304, Or.inr ⟨c_332, Or.inl ⟨c_959, ⟨_, em_968, Or.inl ⟨c_985, Or.inl ⟨c_998, Or.inl ⟨c_1011, Or.inl ⟨c_1024, Or.inr ⟨c_1037, ⟨_, em_1442, ⟨rfl, rfl⟩⟩⟩⟩⟩⟩⟩⟩⟩⟩⟩⟩⟩⟩⟩⟩⟩⟩⟩⟩⟩⟩⟩⟩⟩⟩⟩⟩⟩⟩⟩⟩, rfl, (by unfold sv_I; omega), ok_1441⟩
                                          · obtain ⟨n_1462, e_1463, hr_1464⟩ := iv_sipush xm_203 xd_203_339 (by decide) hr_1027
                                            obtain ⟨n_1465, e_1466, hr_1467⟩ := iv_goto 360 xm_203 xd_203_342 (by decide) hr_1464
                                            obtain ⟨h_1468, ok_1469, em_1470, n_1472, e_1473, hr_1474⟩ := iv_puti (j := 20) (fk := 0) xm_203 xd_203_360 (by decide +kernel) ok_967 (rfl : sv_ty 114 = some 12) dt_12 rfl (by decide +kernel) rfl (by unfold sv_I; omega) hr_1467
                                            obtain ⟨n_1475, e_1476, hr_1477⟩ := iv_aload_n xm_203 xd_203_363 q0 hr_1474
                                            have f_1478 := dc_fi (j := 20) ok_1469 (rfl : sv_ty 114 = some 12) dt_12 rfl
                                            obtain ⟨n_1479, e_1480, hr_1481⟩ := iv_getf (j := 20) xm_203 xd_203_364 (by decide +kernel) ok_1469 (rfl : sv_ty 114 = some 12) dt_12 f_1478.1 hr_1477
                                            rcases iv_if 372 xm_203 xd_203_367 (by decide) f_1478.2 hr_1481 with ⟨c_1482, n_1483, e_1484, hr_1485⟩ | ⟨c_1482, n_1483, e_1484, hr_1485⟩
                                            · exact absurd (show (193 : Int) < 0 by have z := c_1482; rw [em_1470, dc_up_s] at z; exact z) (by decide)
                                            obtain ⟨n_1486, e_1487, hr_1488⟩ := iv_iconst xm_203 xd_203_370 (by decide) hr_1485
                                            have rr_1489 := iv_ireturn xm_203 xd_203_371 hr_1488
                                            subst rr_1489
                                            exact ⟨_, ⟨_, em_9, ⟨_, em_22, Or.inl ⟨c_39, Or.inl ⟨c_52, Or.inl ⟨c_65, Or.inl ⟨c_78, ⟨_, em_87, ⟨_, em_111, Or.inl ⟨c_128, Or.inl ⟨c_141, Or.inl ⟨c_154, ⟨_, em_163, ⟨_, em_187, Or.inl ⟨c_204, Or.inl ⟨c_217, Or.inl ⟨c_230, Or.inl ⟨c_243, Or.inl ⟨c_256, Or.inl ⟨c_269, Or.inl ⟨c_282, Or.inl ⟨c_295, ⟨_, em_304, Or.inr ⟨c_332, Or.inl ⟨c_959, ⟨_, em_968, Or.inl ⟨c_985, Or.inl ⟨c_998, Or.inl ⟨c_1011, Or.inr ⟨c_1024, ⟨_, em_1470, ⟨rfl, rfl⟩⟩⟩⟩⟩⟩⟩⟩⟩⟩⟩⟩⟩⟩⟩⟩⟩⟩⟩⟩⟩⟩⟩⟩⟩⟩⟩⟩⟩⟩⟩, rfl, (by unfold sv_I; omega), ok_1469⟩
                                        · obtain ⟨n_1490, e_1491, hr_1492⟩ := iv_sipush xm_203 xd_203_325 (by decide) hr_1014
                                          obtain ⟨n_1493, e_1494, hr_1495⟩ := iv_goto 360 xm_203 xd_203_328 (by decide) hr_1492
                                          obtain ⟨h_1496, ok_1497, em_1498, n_1500, e_1501, hr_1502⟩ := iv_puti (j := 20) (fk := 0) xm_203 xd_203_360 (by decide +kernel) ok_967 (rfl : sv_ty 114 = some 12) dt_12 rfl (by decide +kernel) rfl (by unfold sv_I; omega) hr_1495
                                          obtain ⟨n_1503, e_1504, hr_1505⟩ := iv_aload_n xm_203 xd_203_363 q0 hr_1502
                                          have f_1506 := dc_fi (j := 20) ok_1497 (rfl : sv_ty 114 = some 12) dt_12 rfl
                                          obtain ⟨n_1507, e_1508, hr_1509⟩ := iv_getf (j := 20) xm_203 xd_203_364 (by decide +kernel) ok_1497 (rfl : sv_ty 114 = some 12) dt_12 f_1506.1 hr_1505
                                          rcases iv_if 372 xm_203 xd_203_367 (by decide) f_1506.2 hr_1509 with ⟨c_1510, n_1511, e_1512, hr_1513⟩ | ⟨c_1510, n_1511, e_1512, hr_1513⟩
                                          · exact absurd (show (181 : Int) < 0 by have z := c_1510; rw [em_1498, dc_up_s] at z; exact z) (by decide)
                                          obtain ⟨n_1514, e_1515, hr_1516⟩ := iv_iconst xm_203 xd_203_370 (by decide) hr_1513
                                          have rr_1517 := iv_ireturn xm_203 xd_203_371 hr_1516
                                          subst rr_1517
                                          exact ⟨_, ⟨_, em_9, ⟨_, em_22, Or.inl ⟨c_39, Or.inl ⟨c_52, Or.inl ⟨c_65, Or.inl ⟨c_78, ⟨_, em_87, ⟨_, em_111, Or.inl ⟨c_128, Or.inl ⟨c_141, Or.inl ⟨c_154, ⟨_, em_163, ⟨_, em_187, Or.inl ⟨c_204, Or.inl ⟨c_217, Or.inl ⟨c_230, Or.inl ⟨c_243, Or.inl ⟨c_256, Or.inl ⟨c_269, Or.inl ⟨c_282, Or.inl ⟨c_295, ⟨_, em_304, Or.inr ⟨c_332, Or.inl ⟨c_959, ⟨_, em_968, Or.inl ⟨c_985, Or.inl ⟨c_998, Or.inr ⟨c_1011, ⟨_, em_1498, ⟨rfl, rfl⟩⟩⟩⟩⟩⟩⟩⟩⟩⟩⟩⟩⟩⟩⟩⟩⟩⟩⟩⟩⟩⟩⟩⟩⟩⟩⟩⟩⟩⟩, rfl, (by unfold sv_I; omega), ok_1497⟩
                                      · obtain ⟨n_1518, e_1519, hr_1520⟩ := iv_bipush xm_203 xd_203_312 (by decide) hr_1001
                                        obtain ⟨n_1521, e_1522, hr_1523⟩ := iv_goto 360 xm_203 xd_203_314 (by decide) hr_1520
                                        obtain ⟨h_1524, ok_1525, em_1526, n_1528, e_1529, hr_1530⟩ := iv_puti (j := 20) (fk := 0) xm_203 xd_203_360 (by decide +kernel) ok_967 (rfl : sv_ty 114 = some 12) dt_12 rfl (by decide +kernel) rfl (by unfold sv_I; omega) hr_1523
                                        obtain ⟨n_1531, e_1532, hr_1533⟩ := iv_aload_n xm_203 xd_203_363 q0 hr_1530
                                        have f_1534 := dc_fi (j := 20) ok_1525 (rfl : sv_ty 114 = some 12) dt_12 rfl
                                        obtain ⟨n_1535, e_1536, hr_1537⟩ := iv_getf (j := 20) xm_203 xd_203_364 (by decide +kernel) ok_1525 (rfl : sv_ty 114 = some 12) dt_12 f_1534.1 hr_1533
                                        rcases iv_if 372 xm_203 xd_203_367 (by decide) f_1534.2 hr_1537 with ⟨c_1538, n_1539, e_1540, hr_1541⟩ | ⟨c_1538, n_1539, e_1540, hr_1541⟩
                                        · exact absurd (show (96 : Int) < 0 by have z := c_1538; rw [em_1526, dc_up_s] at z; exact z) (by decide)
                                        obtain ⟨n_1542, e_1543, hr_1544⟩ := iv_iconst xm_203 xd_203_370 (by decide) hr_1541
                                        have rr_1545 := iv_ireturn xm_203 xd_203_371 hr_1544
                                        subst rr_1545
                                        exact ⟨_, ⟨_, em_9, ⟨_, em_22, Or.inl ⟨c_39, Or.inl ⟨c_52, Or.inl ⟨c_65, Or.inl ⟨c_78, ⟨_, em_87, ⟨_, em_111, Or.inl ⟨c_128, Or.inl ⟨c_141, Or.inl ⟨c_154, ⟨_, em_163, ⟨_, em_187, Or.inl ⟨c_204, Or.inl ⟨c_217, Or.inl ⟨c_230, Or.inl ⟨c_243, Or.inl ⟨c_256, Or.inl ⟨c_269, Or.inl ⟨c_282, Or.inl ⟨c_295, ⟨_, em_304, Or.inr ⟨c_332, Or.inl ⟨c_959, ⟨_, em_968, Or.inl ⟨c_985, Or.inr ⟨c_998, ⟨_, em_1526, ⟨rfl, rfl⟩⟩⟩⟩⟩⟩⟩⟩⟩⟩⟩⟩⟩⟩⟩⟩⟩⟩⟩⟩⟩⟩⟩⟩⟩⟩⟩⟩⟩, rfl, (by unfold sv_I; omega), ok_1525⟩
                                    · obtain ⟨n_1546, e_1547, hr_1548⟩ := iv_bipush xm_203 xd_203_299 (by decide) hr_988
                                      obtain ⟨n_1549, e_1550, hr_1551⟩ := iv_goto 360 xm_203 xd_203_301 (by decide) hr_1548
                                      obtain ⟨h_1552, ok_1553, em_1554, n_1556, e_1557, hr_1558⟩ := iv_puti (j := 20) (fk := 0) xm_203 xd_203_360 (by decide +kernel) ok_967 (rfl : sv_ty 114 = some 12) dt_12 rfl (by decide +kernel) rfl (by unfold sv_I; omega) hr_1551
                                      obtain ⟨n_1559, e_1560, hr_1561⟩ := iv_aload_n xm_203 xd_203_363 q0 hr_1558
                                      have f_1562 := dc_fi (j := 20) ok_1553 (rfl : sv_ty 114 = some 12) dt_12 rfl
                                      obtain ⟨n_1563, e_1564, hr_1565⟩ := iv_getf (j := 20) xm_203 xd_203_364 (by decide +kernel) ok_1553 (rfl : sv_ty 114 = some 12) dt_12 f_1562.1 hr_1561
                                      rcases iv_if 372 xm_203 xd_203_367 (by decide) f_1562.2 hr_1565 with ⟨c_1566, n_1567, e_1568, hr_1569⟩ | ⟨c_1566, n_1567, e_1568, hr_1569⟩
                                      · exact absurd (show (68 : Int) < 0 by have z := c_1566; rw [em_1554, dc_up_s] at z; exact z) (by decide)
                                      obtain ⟨n_1570, e_1571, hr_1572⟩ := iv_iconst xm_203 xd_203_370 (by decide) hr_1569
                                      have rr_1573 := iv_ireturn xm_203 xd_203_371 hr_1572
                                      subst rr_1573
                                      exact ⟨_, ⟨_, em_9, ⟨_, em_22, Or.inl ⟨c_39, Or.inl ⟨c_52, Or.inl ⟨c_65, Or.inl ⟨c_78, ⟨_, em_87, ⟨_, em_111, Or.inl ⟨c_128, Or.inl ⟨c_141, Or.inl ⟨c_154, ⟨_, em_163, ⟨_, em_187, Or.inl ⟨c_204, Or.inl ⟨c_217, Or.inl ⟨c_230, Or.inl ⟨c_243, Or.inl ⟨c_256, Or.inl ⟨c_269, Or.inl ⟨c_282, Or.inl ⟨c_295, ⟨_, em_304, Or.inr ⟨c_332, Or.inl ⟨c_959, ⟨_, em_968, Or.inr ⟨c_985, ⟨_, em_1554, ⟨rfl, rfl⟩⟩⟩⟩⟩⟩⟩⟩⟩⟩⟩⟩⟩⟩⟩⟩⟩⟩⟩⟩⟩⟩⟩⟩⟩⟩⟩⟩, rfl, (by unfold sv_I; omega), ok_1553⟩
                                  · obtain ⟨n_1574, e_1575, hr_1576⟩ := iv_bipush xm_203 xd_203_281 (by decide) hr_962
                                    obtain ⟨n_1577, e_1578, hr_1579⟩ := iv_goto 287 xm_203 xd_203_283 (by decide) hr_1576
                                    obtain ⟨h_1580, ok_1581, em_1582, n_1584, e_1585, hr_1586⟩ := iv_puti (j := 22) (fk := 0) xm_203 xd_203_287 (by decide +kernel) ok_303 (rfl : sv_ty 114 = some 12) dt_12 rfl (by decide +kernel) rfl (by unfold sv_I; omega) hr_1579
                                    obtain ⟨n_1587, e_1588, hr_1589⟩ := iv_aload_n xm_203 xd_203_290 q0 hr_1586
                                    obtain ⟨n_1590, e_1591, hr_1592⟩ := iv_lload_n xm_203 xd_203_291 q1 hr_1589
                                    obtain ⟨n_1593, e_1594, hr_1595⟩ := iv_ldc2 (v := 111) (z := 0) xm_203 xd_203_292 (by decide +kernel) hr_1592
                                    obtain ⟨n_1596, e_1597, hr_1598⟩ := iv_lcmp xm_203 xd_203_295 hr_1595
                                    rcases iv_if 304 xm_203 xd_203_296 (by decide) (sv_g_I (ae_lcmp_lt _ _)) hr_1598 with ⟨c_1599, n_1600, e_1601, hr_1602⟩ | ⟨c_1599, n_1600, e_1601, hr_1602⟩
                                    · obtain ⟨n_1603, e_1604, hr_1605⟩ := iv_lload_n xm_203 xd_203_304 q1 hr_1602
                                      obtain ⟨n_1606, e_1607, hr_1608⟩ := iv_ldc2 (v := 105) (z := 0) xm_203 xd_203_305 (by decide +kernel) hr_1605
                                      obtain ⟨n_1609, e_1610, hr_1611⟩ := iv_lcmp xm_203 xd_203_308 hr_1608
                                      rcases iv_if 317 xm_203 xd_203_309 (by decide) (sv_g_I (ae_lcmp_lt _ _)) hr_1611 with ⟨c_1612, n_1613, e_1614, hr_1615⟩ | ⟨c_1612, n_1613, e_1614, hr_1615⟩
                                      · obtain ⟨n_1616, e_1617, hr_1618⟩ := iv_lload_n xm_203 xd_203_317 q1 hr_1615
                                        obtain ⟨n_1619, e_1620, hr_1621⟩ := iv_ldc2 (v := 29283) (z := 0) xm_203 xd_203_318 (by decide +kernel) hr_1618
                                        obtain ⟨n_1622, e_1623, hr_1624⟩ := iv_lcmp xm_203 xd_203_321 hr_1621
                                        rcases iv_if 331 xm_203 xd_203_322 (by decide) (sv_g_I (ae_lcmp_lt _ _)) hr_1624 with ⟨c_1625, n_1626, e_1627, hr_1628⟩ | ⟨c_1625, n_1626, e_1627, hr_1628⟩
                                        · obtain ⟨n_1629, e_1630, hr_1631⟩ := iv_lload_n xm_203 xd_203_331 q1 hr_1628
                                          obtain ⟨n_1632, e_1633, hr_1634⟩ := iv_ldc2 (v := 29294) (z := 0) xm_203 xd_203_332 (by decide +kernel) hr_1631
                                          obtain ⟨n_1635, e_1636, hr_1637⟩ := iv_lcmp xm_203 xd_203_335 hr_1634
                                          rcases iv_if 345 xm_203 xd_203_336 (by decide) (sv_g_I (ae_lcmp_lt _ _)) hr_1637 with ⟨c_1638, n_1639, e_1640, hr_1641⟩ | ⟨c_1638, n_1639, e_1640, hr_1641⟩
                                          · obtain ⟨n_1642, e_1643, hr_1644⟩ := iv_lload_n xm_203 xd_203_345 q1 hr_1641
                                            obtain ⟨n_1645, e_1646, hr_1647⟩ := iv_ldc2 (v := 29300) (z := 0) xm_203 xd_203_346 (by decide +kernel) hr_1644
                                            obtain ⟨n_1648, e_1649, hr_1650⟩ := iv_lcmp xm_203 xd_203_349 hr_1647
                                            rcases iv_if 359 xm_203 xd_203_350 (by decide) (sv_g_I (ae_lcmp_lt _ _)) hr_1650 with ⟨c_1651, n_1652, e_1653, hr_1654⟩ | ⟨c_1651, n_1652, e_1653, hr_1654⟩
                                            · obtain ⟨n_1655, e_1656, hr_1657⟩ := iv_iconst xm_203 xd_203_359 (by decide) hr_1654
                                              obtain ⟨h_1658, ok_1659, em_1660, n_1662, e_1663, hr_1664⟩ := iv_puti (j := 20) (fk := 0) xm_203 xd_203_360 (by decide +kernel) ok_1581 (rfl : sv_ty 114 = some 12) dt_12 rfl (by decide +kernel) rfl (by unfold sv_I; omega) hr_1657
                                              obtain ⟨n_1665, e_1666, hr_1667⟩ := iv_aload_n xm_203 xd_203_363 q0 hr_1664
                                              have f_1668 := dc_fi (j := 20) ok_1659 (rfl : sv_ty 114 = some 12) dt_12 rfl
                                              obtain ⟨n_1669, e_1670, hr_1671⟩ := iv_getf (j := 20) xm_203 xd_203_364 (by decide +kernel) ok_1659 (rfl : sv_ty 114 = some 12) dt_12 f_1668.1 hr_1667
                                              rcases iv_if 372 xm_203 xd_203_367 (by decide) f_1668.2 hr_1671 with ⟨c_1672, n_1673, e_1674, hr_1675⟩ | ⟨c_1672, n_1673, e_1674, hr_1675⟩
                                              rotate_left
                                              · exact absurd (show ¬ (((-1) : Int) < 0) by have z := c_1672; rw [em_1660, dc_up_s] at z; exact z) (by decide)
                                              obtain ⟨n_1676, e_1677, hr_1678⟩ := iv_aload_n xm_203 xd_203_372 q0 hr_1675
                                              obtain ⟨n_1679, e_1680, hr_1681⟩ := iv_iconst xm_203 xd_203_373 (by decide) hr_1678
                                              obtain ⟨h_1682, ok_1683, em_1684, n_1686, e_1687, hr_1688⟩ := iv_puti (j := 22) (fk := 0) xm_203 xd_203_374 (by decide +kernel) ok_1659 (rfl : sv_ty 114 = some 12) dt_12 rfl (by decide +kernel) rfl (by unfold sv_I; omega) hr_1681
                                              obtain ⟨n_1689, e_1690, hr_1691⟩ := iv_aload_n xm_203 xd_203_377 q0 hr_1688
                                              obtain ⟨n_1692, e_1693, hr_1694⟩ := iv_lload_n xm_203 xd_203_378 q1 hr_1691
                                              obtain ⟨n_1695, e_1696, hr_1697⟩ := iv_ldc2 (v := 112) (z := 0) xm_203 xd_203_379 (by decide +kernel) hr_1694
                                              obtain ⟨n_1698, e_1699, hr_1700⟩ := iv_lcmp xm_203 xd_203_382 hr_1697
                                              rcases iv_if 391 xm_203 xd_203_383 (by decide) (sv_g_I (ae_lcmp_lt _ _)) hr_1700 with ⟨c_1701, n_1702, e_1703, hr_1704⟩ | ⟨c_1701, n_1702, e_1703, hr_1704⟩
                                              · obtain ⟨n_1705, e_1706, hr_1707⟩ := iv_iconst xm_203 xd_203_391 (by decide) hr_1704
                                                obtain ⟨h_1708, ok_1709, em_1710, n_1712, e_1713, hr_1714⟩ := iv_puti (j := 21) (fk := 0) xm_203 xd_203_392 (by decide +kernel) ok_1683 (rfl : sv_ty 114 = some 12) dt_12 rfl (by decide +kernel) rfl (by unfold sv_I; omega) hr_1707
                                                obtain ⟨n_1715, e_1716, hr_1717⟩ := iv_aload_n xm_203 xd_203_395 q0 hr_1714
                                                obtain ⟨n_1718, e_1719, hr_1720⟩ := iv_lload_n xm_203 xd_203_396 q1 hr_1717
                                                obtain ⟨n_1721, e_1722, hr_1723⟩ := iv_ldc2 (v := 112) (z := 0) xm_203 xd_203_397 (by decide +kernel) hr_1720
                                                obtain ⟨n_1724, e_1725, hr_1726⟩ := iv_lcmp xm_203 xd_203_400 hr_1723
                                                rcases iv_if 410 xm_203 xd_203_401 (by decide) (sv_g_I (ae_lcmp_lt _ _)) hr_1726 with ⟨c_1727, n_1728, e_1729, hr_1730⟩ | ⟨c_1727, n_1728, e_1729, hr_1730⟩
                                                · obtain ⟨n_1731, e_1732, hr_1733⟩ := iv_lload_n xm_203 xd_203_410 q1 hr_1730
                                                  obtain ⟨n_1734, e_1735, hr_1736⟩ := iv_ldc2 (v := 116) (z := 0) xm_203 xd_203_411 (by decide +kernel) hr_1733
                                                  obtain ⟨n_1737, e_1738, hr_1739⟩ := iv_lcmp xm_203 xd_203_414 hr_1736
                                                  rcases iv_if 423 xm_203 xd_203_415 (by decide) (sv_g_I (ae_lcmp_lt _ _)) hr_1739 with ⟨c_1740, n_1741, e_1742, hr_1743⟩ | ⟨c_1740, n_1741, e_1742, hr_1743⟩
                                                  · obtain ⟨n_1744, e_1745, hr_1746⟩ := iv_lload_n xm_203 xd_203_423 q1 hr_1743
                                                    obtain ⟨n_1747, e_1748, hr_1749⟩ := iv_ldc2 (v := 98) (z := 0) xm_203 xd_203_424 (by decide +kernel) hr_1746
                                                    obtain ⟨n_1750, e_1751, hr_1752⟩ := iv_lcmp xm_203 xd_203_427 hr_1749
                                                    rcases iv_if 437 xm_203 xd_203_428 (by decide) (sv_g_I (ae_lcmp_lt _ _)) hr_1752 with ⟨c_1753, n_1754, e_1755, hr_1756⟩ | ⟨c_1753, n_1754, e_1755, hr_1756⟩
                                                    · obtain ⟨n_1757, e_1758, hr_1759⟩ := iv_iconst xm_203 xd_203_437 (by decide) hr_1756
                                                      obtain ⟨h_1760, ok_1761, em_1762, n_1764, e_1765, hr_1766⟩ := iv_puti (j := 20) (fk := 0) xm_203 xd_203_438 (by decide +kernel) ok_1709 (rfl : sv_ty 114 = some 12) dt_12 rfl (by decide +kernel) rfl (by unfold sv_I; omega) hr_1759
                                                      obtain ⟨n_1767, e_1768, hr_1769⟩ := iv_aload_n xm_203 xd_203_441 q0 hr_1766
                                                      have f_1770 := dc_fi (j := 20) ok_1761 (rfl : sv_ty 114 = some 12) dt_12 rfl
                                                      obtain ⟨n_1771, e_1772, hr_1773⟩ := iv_getf (j := 20) xm_203 xd_203_442 (by decide +kernel) ok_1761 (rfl : sv_ty 114 = some 12) dt_12 f_1770.1 hr_1769
                                                      rcases iv_if 452 xm_203 xd_203_445 (by decide) f_1770.2 hr_1773 with ⟨c_1774, n_1775, e_1776, hr_1777⟩ | ⟨c_1774, n_1775, e_1776, hr_1777⟩
                                                      rotate_left
                                                      · exact absurd (show ¬ (((-1) : Int) < 0) by have z := c_1774; rw [em_1762, dc_up_s] at z; exact z) (by decide)
                                                      obtain ⟨n_1778, e_1779, hr_1780⟩ := iv_iconst xm_203 xd_203_452 (by decide) hr_1777
                                                      have rr_1781 := iv_ireturn xm_203 xd_203_453 hr_1780
                                                      subst rr_1781
                                                      exact ⟨_, ⟨_, em_9, ⟨_, em_22, Or.inl ⟨c_39, Or.inl ⟨c_52, Or.inl ⟨c_65, Or.inl ⟨c_78, ⟨_, em_87, ⟨_, em_111, Or.inl ⟨c_128, Or.inl ⟨c_141, Or.inl ⟨c_154, ⟨_, em_163, ⟨_, em_187, Or.inl ⟨c_204, Or.inl ⟨c_217, Or.inl ⟨c_230, Or.inl ⟨c_243, Or.inl ⟨c_256, Or.inl ⟨c_269, Or.inl ⟨c_282, Or.inl ⟨c_295, ⟨_, em_304, Or.inr ⟨c_332, Or.inr ⟨c_959, ⟨_, em_1582, Or.inl ⟨c_1599, Or.inl ⟨c_1612, Or.inl ⟨c_1625, Or.inl ⟨c_1638, Or.inl ⟨c_1651, ⟨_, em_1660, ⟨_, em_1684, Or.inl ⟨c_1701, ⟨_, em_1710, Or.inl ⟨c_1727, Or.inl ⟨c_1740, Or.inl ⟨c_1753, ⟨_, em_1762, ⟨rfl, rfl⟩⟩⟩⟩⟩⟩⟩⟩⟩⟩⟩⟩⟩⟩⟩⟩⟩⟩⟩⟩⟩⟩⟩⟩⟩⟩⟩⟩⟩⟩⟩⟩⟩⟩⟩⟩⟩⟩⟩, rfl, (by unfold sv_I; omega), ok_1761⟩
                                                    · obtain ⟨n_1782, e_1783, hr_1784⟩ := iv_sipush xm_203 xd_203_431 (by decide) hr_1756
                                                      obtain ⟨n_1785, e_1786, hr_1787⟩ := iv_goto 438 xm_203 xd_203_434 (by decide) hr_1784
                                                      obtain ⟨h_1788, ok_1789, em_1790, n_1792, e_1793, hr_1794⟩ := iv_puti (j := 20) (fk := 0) xm_203 xd_203_438 (by decide +kernel) ok_1709 (rfl : sv_ty 114 = some 12) dt_12 rfl (by decide +kernel) rfl (by unfold sv_I; omega) hr_1787
                                                      obtain ⟨n_1795, e_1796, hr_1797⟩ := iv_aload_n xm_203 xd_203_441 q0 hr_1794
                                                      have f_1798 := dc_fi (j := 20) ok_1789 (rfl : sv_ty 114 = some 12) dt_12 rfl
                                                      obtain ⟨n_1799, e_1800, hr_1801⟩ := iv_getf (j := 20) xm_203 xd_203_442 (by decide +kernel) ok_1789 (rfl : sv_ty 114 = some 12) dt_12 f_1798.1 hr_1797
                                                      rcases iv_if 452 xm_203 xd_203_445 (by decide) f_1798.2 hr_1801 with ⟨c_1802, n_1803, e_1804, hr_1805⟩ | ⟨c_1802, n_1803, e_1804, hr_1805⟩
                                                      · exact absurd (show (156 : Int) < 0 by have z := c_1802; rw [em_1790, dc_up_s] at z; exact z) (by decide)
                                                      obtain ⟨n_1806, e_1807, hr_1808⟩ := iv_iconst xm_203 xd_203_448 (by decide) hr_1805
                                                      obtain ⟨n_1809, e_1810, hr_1811⟩ := iv_goto 453 xm_203 xd_203_449 (by decide) hr_1808
                                                      have rr_1812 := iv_ireturn xm_203 xd_203_453 hr_1811
                                                      subst rr_1812
                                                      exact ⟨_, ⟨_, em_9, ⟨_, em_22, Or.inl ⟨c_39, Or.inl ⟨c_52, Or.inl ⟨c_65, Or.inl ⟨c_78, ⟨_, em_87, ⟨_, em_111, Or.inl ⟨c_128, Or.inl ⟨c_141, Or.inl ⟨c_154, ⟨_, em_163, ⟨_, em_187, Or.inl ⟨c_204, Or.inl ⟨c_217, Or.inl ⟨c_230, Or.inl ⟨c_243, Or.inl ⟨c_256, Or.inl ⟨c_269, Or.inl ⟨c_282, Or.inl ⟨c_295, ⟨_, em_304, Or.inr ⟨c_332, Or.inr ⟨c_959, ⟨_, em_1582, Or.inl ⟨c_1599, Or.inl ⟨c_1612, Or.inl ⟨c_1625, Or.inl ⟨c_1638, Or.inl ⟨c_1651, ⟨_, em_1660, ⟨_, em_1684, Or.inl ⟨c_1701, ⟨_, em_1710, Or.inl ⟨c_1727, Or.inl ⟨c_1740, Or.inr ⟨c_1753, ⟨_, em_1790, ⟨rfl, rfl⟩⟩⟩⟩⟩⟩⟩⟩⟩⟩⟩⟩⟩⟩⟩⟩⟩⟩⟩⟩⟩⟩⟩⟩⟩⟩⟩⟩⟩⟩⟩⟩⟩⟩⟩⟩⟩⟩⟩, rfl, (by unfold sv_I; omega), ok_1789⟩
                                                  · obtain ⟨n_1813, e_1814, hr_1815⟩ := iv_bipush xm_203 xd_203_418 (by decide) hr_1743
                                                    obtain ⟨n_1816, e_1817, hr_1818⟩ := iv_goto 438 xm_203 xd_203_420 (by decide) hr_1815
                                                    obtain ⟨h_1819, ok_1820, em_1821, n_1823, e_1824, hr_1825⟩ := iv_puti (j := 20) (fk := 0) xm_203 xd_203_438 (by decide +kernel) ok_1709 (rfl : sv_ty 114 = some 12) dt_12 rfl (by decide +kernel) rfl (by unfold sv_I; omega) hr_1818
                                                    obtain ⟨n_1826, e_1827, hr_1828⟩ := iv_aload_n xm_203 xd_203_441 q0 hr_1825
                                                    have f_1829 := dc_fi (j := 20) ok_1820 (rfl : sv_ty 114 = some 12) dt_12 rfl
                                                    obtain ⟨n_1830, e_1831, hr_1832⟩ := iv_getf (j := 20) xm_203 xd_203_442 (by decide +kernel) ok_1820 (rfl : sv_ty 114 = some 12) dt_12 f_1829.1 hr_1828
                                                    rcases iv_if 452 xm_203 xd_203_445 (by decide) f_1829.2 hr_1832 with ⟨c_1833, n_1834, e_1835, hr_1836⟩ | ⟨c_1833, n_1834, e_1835, hr_1836⟩
                                                    · exact absurd (show (65 : Int) < 0 by have z := c_1833; rw [em_1821, dc_up_s] at z; exact z) (by decide)
                                                    obtain ⟨n_1837, e_1838, hr_1839⟩ := iv_iconst xm_203 xd_203_448 (by decide) hr_1836
                                                    obtain ⟨n_1840, e_1841, hr_1842⟩ := iv_goto 453 xm_203 xd_203_449 (by decide) hr_1839
                                                    have rr_1843 := iv_ireturn xm_203 xd_203_453 hr_1842
                                                    subst rr_1843
                                                    exact ⟨_, ⟨_, em_9, ⟨_, em_22, Or.inl ⟨c_39, Or.inl ⟨c_52, Or.inl ⟨c_65, Or.inl ⟨c_78, ⟨_, em_87, ⟨_, em_111, Or.inl ⟨c_128, Or.inl ⟨c_141, Or.inl ⟨c_154, ⟨_, em_163, ⟨_, em_187, Or.inl ⟨c_204, Or.inl ⟨c_217, Or.inl ⟨c_230, Or.inl ⟨c_243, Or.inl ⟨c_256, Or.inl ⟨c_269, Or.inl ⟨c_282, Or.inl ⟨c_295, ⟨_, em_304, Or.inr ⟨c_332, Or.inr ⟨c_959, ⟨_, em_1582, Or.inl ⟨c_1599, Or.inl ⟨c_1612, Or.inl ⟨c_1625, Or.inl ⟨c_1638, Or.inl ⟨c_1651, ⟨_, em_1660, ⟨_, em_1684, Or.inl ⟨c_1701, ⟨_, em_1710, Or.inl ⟨c_1727, Or.inr ⟨c_1740, ⟨_, em_1821, ⟨rfl, rfl⟩⟩⟩⟩⟩⟩⟩⟩⟩⟩⟩⟩⟩⟩⟩⟩⟩⟩⟩⟩⟩⟩⟩⟩⟩⟩⟩⟩⟩⟩⟩⟩⟩⟩⟩⟩⟩⟩, rfl, (by unfold sv_I; omega), ok_1820⟩
                                                · obtain ⟨n_1844, e_1845, hr_1846⟩ := iv_sipush xm_203 xd_203_404 (by decide) hr_1730
                                                  obtain ⟨n_1847, e_1848, hr_1849⟩ := iv_goto 438 xm_203 xd_203_407 (by decide) hr_1846
                                                  obtain ⟨h_1850, ok_1851, em_1852, n_1854, e_1855, hr_1856⟩ := iv_puti (j := 20) (fk := 0) xm_203 xd_203_438 (by decide +kernel) ok_1709 (rfl : sv_ty 114 = some 12) dt_12 rfl (by decide +kernel) rfl (by unfold sv_I; omega) hr_1849
                                                  obtain ⟨n_1857, e_1858, hr_1859⟩ := iv_aload_n xm_203 xd_203_441 q0 hr_1856
                                                  have f_1860 := dc_fi (j := 20) ok_1851 (rfl : sv_ty 114 = some 12) dt_12 rfl
                                                  obtain ⟨n_1861, e_1862, hr_1863⟩ := iv_getf (j := 20) xm_203 xd_203_442 (by decide +kernel) ok_1851 (rfl : sv_ty 114 = some 12) dt_12 f_1860.1 hr_1859
                                                  rcases iv_if 452 xm_203 xd_203_445 (by decide) f_1860.2 hr_1863 with ⟨c_1864, n_1865, e_1866, hr_1867⟩ | ⟨c_1864, n_1865, e_1866, hr_1867⟩
                                                  · exact absurd (show (132 : Int) < 0 by have z := c_1864; rw [em_1852, dc_up_s] at z; exact z) (by decide)
                                                  obtain ⟨n_1868, e_1869, hr_1870⟩ := iv_iconst xm_203 xd_203_448 (by decide) hr_1867
                                                  obtain ⟨n_1871, e_1872, hr_1873⟩ := iv_goto 453 xm_203 xd_203_449 (by decide) hr_1870
                                                  have rr_1874 := iv_ireturn xm_203 xd_203_453 hr_1873
                                                  subst rr_1874
                                                  exact ⟨_, ⟨_, em_9, ⟨_, em_22, Or.inl ⟨c_39, Or.inl ⟨c_52, Or.inl ⟨c_65, Or.inl ⟨c_78, ⟨_, em_87, ⟨_, em_111, Or.inl ⟨c_128, Or.inl ⟨c_141, Or.inl ⟨c_154, ⟨_, em_163, ⟨_, em_187, Or.inl ⟨c_204, Or.inl ⟨c_217, Or.inl ⟨c_230, Or.inl ⟨c_243, Or.inl ⟨c_256, Or.inl ⟨c_269, Or.inl ⟨c_282, Or.inl ⟨c_295, ⟨_, em_304, Or.inr ⟨c_332, Or.inr ⟨c_959, ⟨_, em_1582, Or.inl ⟨c_1599, Or.inl ⟨c_1612, Or.inl ⟨c_1625, Or.inl ⟨c_1638, Or.inl ⟨c_1651, ⟨_, em_1660, ⟨_, em_1684, Or.inl ⟨c_1701, ⟨_, em_1710, Or.inr ⟨c_1727, ⟨_, em_1852, ⟨rfl, rfl⟩⟩⟩⟩⟩⟩⟩⟩⟩⟩⟩⟩⟩⟩⟩⟩⟩⟩⟩⟩⟩⟩⟩⟩⟩⟩⟩⟩⟩⟩⟩⟩⟩⟩⟩⟩⟩, rfl, (by unfold sv_I; omega), ok_1851⟩
                                              · obtain ⟨n_1875, e_1876, hr_1877⟩ := iv_bipush xm_203 xd_203_386 (by decide) hr_1704
                                                obtain ⟨n_1878, e_1879, hr_1880⟩ := iv_goto 392 xm_203 xd_203_388 (by decide) hr_1877
                                                obtain ⟨h_1881, ok_1882, em_1883, n_1885, e_1886, hr_1887⟩ := iv_puti (j := 21) (fk := 0) xm_203 xd_203_392 (by decide +kernel) ok_1683 (rfl : sv_ty 114 = some 12) dt_12 rfl (by decide +kernel) rfl (by unfold sv_I; omega) hr_1880
                                                obtain ⟨n_1888, e_1889, hr_1890⟩ := iv_aload_n xm_203 xd_203_395 q0 hr_1887
                                                obtain ⟨n_1891, e_1892, hr_1893⟩ := iv_lload_n xm_203 xd_203_396 q1 hr_1890
                                                obtain ⟨n_1894, e_1895, hr_1896⟩ := iv_ldc2 (v := 112) (z := 0) xm_203 xd_203_397 (by decide +kernel) hr_1893
                                                obtain ⟨n_1897, e_1898, hr_1899⟩ := iv_lcmp xm_203 xd_203_400 hr_1896
                                                rcases iv_if 410 xm_203 xd_203_401 (by decide) (sv_g_I (ae_lcmp_lt _ _)) hr_1899 with ⟨c_1900, n_1901, e_1902, hr_1903⟩ | ⟨c_1900, n_1901, e_1902, hr_1903⟩
                                                · obtain ⟨n_1904, e_1905, hr_1906⟩ := iv_lload_n xm_203 xd_203_410 q1 hr_1903
                                                  obtain ⟨n_1907, e_1908, hr_1909⟩ := iv_ldc2 (v := 116) (z := 0) xm_203 xd_203_411 (by decide +kernel) hr_1906
                                                  obtain ⟨n_1910, e_1911, hr_1912⟩ := iv_lcmp xm_203 xd_203_414 hr_1909
                                                  rcases iv_if 423 xm_203 xd_203_415 (by decide) (sv_g_I (ae_lcmp_lt _ _)) hr_1912 with ⟨c_1913, n_1914, e_1915, hr_1916⟩ | ⟨c_1913, n_1914, e_1915, hr_1916⟩
                                                  · obtain ⟨n_1917, e_1918, hr_1919⟩ := iv_lload_n xm_203 xd_203_423 q1 hr_1916
                                                    obtain ⟨n_1920, e_1921, hr_1922⟩ := iv_ldc2 (v := 98) (z := 0) xm_203 xd_203_424 (by decide +kernel) hr_1919
                                                    obtain ⟨n_1923, e_1924, hr_1925⟩ := iv_lcmp xm_203 xd_203_427 hr_1922
                                                    rcases iv_if 437 xm_203 xd_203_428 (by decide) (sv_g_I (ae_lcmp_lt _ _)) hr_1925 with ⟨c_1926, n_1927, e_1928, hr_1929⟩ | ⟨c_1926, n_1927, e_1928, hr_1929⟩
                                                    · obtain ⟨n_1930, e_1931, hr_1932⟩ := iv_iconst xm_203 xd_203_437 (by decide) hr_1929
                                                      obtain ⟨h_1933, ok_1934, em_1935, n_1937, e_1938, hr_1939⟩ := iv_puti (j := 20) (fk := 0) xm_203 xd_203_438 (by decide +kernel) ok_1882 (rfl : sv_ty 114 = some 12) dt_12 rfl (by decide +kernel) rfl (by unfold sv_I; omega) hr_1932
                                                      obtain ⟨n_1940, e_1941, hr_1942⟩ := iv_aload_n xm_203 xd_203_441 q0 hr_1939
                                                      have f_1943 := dc_fi (j := 20) ok_1934 (rfl : sv_ty 114 = some 12) dt_12 rfl
                                                      obtain ⟨n_1944, e_1945, hr_1946⟩ := iv_getf (j := 20) xm_203 xd_203_442 (by decide +kernel) ok_1934 (rfl : sv_ty 114 = some 12) dt_12 f_1943.1 hr_1942
                                                      rcases iv_if 452 xm_203 xd_203_445 (by decide) f_1943.2 hr_1946 with ⟨c_1947, n_1948, e_1949, hr_1950⟩ | ⟨c_1947, n_1948, e_1949, hr_1950⟩
                                                      rotate_left
                                                      · exact absurd (show ¬ (((-1) : Int) < 0) by have z := c_1947; rw [em_1935, dc_up_s] at z; exact z) (by decide)
                                                      obtain ⟨n_1951, e_1952, hr_1953⟩ := iv_iconst xm_203 xd_203_452 (by decide) hr_1950
                                                      have rr_1954 := iv_ireturn xm_203 xd_203_453 hr_1953
                                                      subst rr_1954
                                                      exact ⟨_, ⟨_, em_9, ⟨_, em_22, Or.inl ⟨c_39, Or.inl ⟨c_52, Or.inl ⟨c_65, Or.inl ⟨c_78, ⟨_, em_87, ⟨_, em_111, Or.inl ⟨c_128, Or.inl ⟨c_141, Or.inl ⟨c_154, ⟨_, em_163, ⟨_, em_187, Or.inl ⟨c_204, Or.inl ⟨c_217, Or.inl ⟨c_230, Or.inl ⟨c_243, Or.inl ⟨c_256, Or.inl ⟨c_269, Or.inl ⟨c_282, Or.inl ⟨c_295, ⟨_, em_304, Or.inr ⟨c_332, Or.inr ⟨c_959, ⟨_, em_1582, Or.inl ⟨c_1599, Or.inl ⟨c_1612, Or.inl ⟨c_1625, Or.inl ⟨c_1638, Or.inl ⟨c_1651, ⟨_, em_1660, ⟨_, em_1684, Or.inr ⟨c_1701, ⟨_, em_1883, Or.inl ⟨c_1900, Or.inl ⟨c_1913, Or.inl ⟨c_1926, ⟨_, em_1935, ⟨rfl, rfl⟩⟩⟩⟩⟩⟩⟩⟩⟩⟩⟩⟩⟩⟩⟩⟩⟩⟩⟩⟩⟩⟩⟩⟩⟩⟩⟩⟩⟩⟩⟩⟩⟩⟩⟩⟩⟩⟩⟩, rfl, (by unfold sv_I; omega), ok_1934⟩
                                                    · obtain ⟨n_1955, e_1956, hr_1957⟩ := iv_sipush xm_203 xd_203_431 (by decide) hr_1929
                                                      obtain ⟨n_1958, e_1959, hr_1960⟩ := iv_goto 438 xm_203 xd_203_434 (by decide) hr_1957
                                                      obtain ⟨h_1961, ok_1962, em_1963, n_1965, e_1966, hr_1967⟩ := iv_puti (j := 20) (fk := 0) xm_203 xd_203_438 (by decide +kernel) ok_1882 (rfl : sv_ty 114 = some 12) dt_12 rfl (by decide +kernel) rfl (by unfold sv_I; omega) hr_1960
                                                      obtain ⟨n_1968, e_1969, hr_1970⟩ := iv_aload_n xm_203 xd_203_441 q0 hr_1967
                                                      have f_1971 := dc_fi (j := 20) ok_1962 (rfl : sv_ty 114 = some 12) dt_12 rfl
                                                      obtain ⟨n_1972, e_1973, hr_1974⟩ := iv_getf (j := 20) xm_203 xd_203_442 (by decide +kernel) ok_1962 (rfl : sv_ty 114 = some 12) dt_12 f_1971.1 hr_1970
                                                      rcases iv_if 452 xm_203 xd_203_445 (by decide) f_1971.2 hr_1974 with ⟨c_1975, n_1976, e_1977, hr_1978⟩ | ⟨c_1975, n_1976, e_1977, hr_1978⟩
                                                      · exact absurd (show (156 : Int) < 0 by have z := c_1975; rw [em_1963, dc_up_s] at z; exact z) (by decide)
                                                      obtain ⟨n_1979, e_1980, hr_1981⟩ := iv_iconst xm_203 xd_203_448 (by decide) hr_1978
                                                      obtain ⟨n_1982, e_1983, hr_1984⟩ := iv_goto 453 xm_203 xd_203_449 (by decide) hr_1981
                                                      have rr_1985 := iv_ireturn xm_203 xd_203_453 hr_1984
                                                      subst rr_1985
                                                      exact ⟨_, ⟨_, em_9, ⟨_, em_22, Or.inl ⟨c_39, Or.inl ⟨c_52, Or.inl ⟨c_65, Or.inl ⟨c_78, ⟨_, em_87, ⟨_, em_111, Or.inl ⟨c_128, Or.inl ⟨c_141, Or.inl ⟨c_154, ⟨_, em_163, ⟨_, em_187, Or.inl ⟨c_204, Or.inl ⟨c_217, Or.inl ⟨c_230, Or.inl ⟨c_243, Or.inl ⟨c_256, Or.inl ⟨c_269, Or.inl ⟨c_282, Or.inl ⟨c_295, ⟨_, em_304, Or.inr ⟨c_332, Or.inr ⟨c_959, ⟨_, em_1582, Or.inl ⟨c_1599, Or.inl ⟨c_1612, Or.inl ⟨c_1625, Or.inl ⟨c_1638, Or.inl ⟨c_1651, ⟨_, em_1660, ⟨_, em_1684, Or.inr ⟨c_1701, ⟨_, em_1883, Or.inl ⟨c_1900, Or.inl ⟨c_1913, Or.inr ⟨c_1926, ⟨_, em_1963, ⟨rfl, rfl⟩⟩⟩⟩⟩⟩⟩⟩⟩⟩⟩⟩⟩⟩⟩⟩⟩⟩⟩⟩⟩⟩⟩⟩⟩⟩⟩⟩⟩⟩⟩⟩⟩⟩⟩⟩⟩⟩⟩, rfl, (by unfold sv_I; omega), ok_1962⟩
                                                  · obtain ⟨n_1986, e_1987, hr_1988⟩ := iv_bipush xm_203 xd_203_418 (by decide) hr_1916
                                                    obtain ⟨n_1989, e_1990, hr_1991⟩ := iv_goto 438 xm_203 xd_203_420 (by decide) hr_1988
                                                    obtain ⟨h_1992, ok_1993, em_1994, n_1996, e_1997, hr_1998⟩ := iv_puti (j := 20) (fk := 0) xm_203 xd_203_438 (by decide +kernel) ok_1882 (rfl : sv_ty 114 = some 12) dt_12 rfl (by decide +kernel) rfl (by unfold sv_I; omega) hr_1991
                                                    obtain ⟨n_1999, e_2000, hr_2001⟩ := iv_aload_n xm_203 xd_203_441 q0 hr_1998
                                                    have f_2002 := dc_fi (j := 20) ok_1993 (rfl : sv_ty 114 = some 12) dt_12 rfl
                                                    obtain ⟨n_2003, e_2004, hr_2005⟩ := iv_getf (j := 20) xm_203 xd_203_442 (by decide +kernel) ok_1993 (rfl : sv_ty 114 = some 12) dt_12 f_2002.1 hr_2001
                                                    rcases iv_if 452 xm_203 xd_203_445 (by decide) f_2002.2 hr_2005 with ⟨c_2006, n_2007, e_2008, hr_2009⟩ | ⟨c_2006, n_2007, e_2008, hr_2009⟩
                                                    · exact absurd (show (65 : Int) < 0 by have z := c_2006; rw [em_1994, dc_up_s] at z; exact z) (by decide)
                                                    obtain ⟨n_2010, e_2011, hr_2012⟩ := iv_iconst xm_203 xd_203_448 (by decide) hr_2009
                                                    obtain ⟨n_2013, e_2014, hr_2015⟩ := iv_goto 453 xm_203 xd_203_449 (by decide) hr_2012
                                                    have rr_2016 := iv_ireturn xm_203 xd_203_453 hr_2015
                                                    subst rr_2016
                                                    exact ⟨_, ⟨_, em_9, ⟨_, em_22, Or.inl ⟨c_39, Or.inl ⟨c_52, Or.inl ⟨c_65, Or.inl ⟨c_78, ⟨_, em_87, ⟨_, em_111, Or.inl ⟨c_128, Or.inl ⟨c_141, Or.inl ⟨c_154, ⟨_, em_163, ⟨_, em_187, Or.inl ⟨c_204, Or.inl ⟨c_217, Or.inl ⟨c_230, Or.inl ⟨c_243, Or.inl ⟨c_256, Or.inl ⟨c_269, Or.inl ⟨c_282, Or.inl ⟨c_295, ⟨_, em_304, Or.inr ⟨c_332, Or.inr ⟨c_959, ⟨_, em_1582, Or.inl ⟨c_1599, Or.inl ⟨c_1612, Or.inl ⟨c_1625, Or.inl ⟨c_1638, Or.inl ⟨c_1651, ⟨_, em_1660, ⟨_, em_1684, Or.inr ⟨c_1701, ⟨_, em_1883, Or.inl ⟨c_1900, Or.inr ⟨c_1913, ⟨_, em_1994, ⟨rfl, rfl⟩⟩⟩⟩⟩⟩⟩⟩⟩⟩⟩⟩⟩⟩⟩⟩⟩⟩⟩⟩⟩⟩⟩⟩⟩⟩⟩⟩⟩⟩⟩⟩⟩⟩⟩⟩⟩⟩, rfl, (by unfold sv_I; omega), ok_1993⟩
                                                · obtain ⟨n_2017, e_2018, hr_2019⟩ := iv_sipush xm_203 xd_203_404 (by decide) hr_1903
                                                  obtain ⟨n_2020, e_2021, hr_2022⟩ := iv_goto 438 xm_203 xd_203_407 (by decide) hr_2019
                                                  obtain ⟨h_2023, ok_2024, em_2025, n_2027, e_2028, hr_2029⟩ := iv_puti (j := 20) (fk := 0) xm_203 xd_203_438 (by decide +kernel) ok_1882 (rfl : sv_ty 114 = some 12) dt_12 rfl (by decide +kernel) rfl (by unfold sv_I; omega) hr_2022
                                                  obtain ⟨n_2030, e_2031, hr_2032⟩ := iv_aload_n xm_203 xd_203_441 q0 hr_2029
                                                  have f_2033 := dc_fi (j := 20) ok_2024 (rfl : sv_ty 114 = some 12) dt_12 rfl
                                                  obtain ⟨n_2034, e_2035, hr_2036⟩ := iv_getf (j := 20) xm_203 xd_203_442 (by decide +kernel) ok_2024 (rfl : sv_ty 114 = some 12) dt_12 f_2033.1 hr_2032
                                                  rcases iv_if 452 xm_203 xd_203_445 (by decide) f_2033.2 hr_2036 with ⟨c_2037, n_2038, e_2039, hr_2040⟩ | ⟨c_2037, n_2038, e_2039, hr_2040⟩
                                                  · exact absurd (show (132 : Int) < 0 by have z := c_2037; rw [em_2025, dc_up_s] at z; exact z) (by decide)
                                                  obtain ⟨n_2041, e_2042, hr_2043⟩ := iv_iconst xm_203 xd_203_448 (by decide) hr_2040
                                                  obtain ⟨n_2044, e_2045, hr_2046⟩ := iv_goto 453 xm_203 xd_203_449 (by decide) hr_2043
                                                  have rr_2047 := iv_ireturn xm_203 xd_203_453 hr_2046
                                                  subst rr_2047
                                                  exact ⟨_, ⟨_, em_9, ⟨_, em_22, Or.inl ⟨c_39, Or.inl ⟨c_52, Or.inl ⟨c_65, Or.inl ⟨c_78, ⟨_, em_87, ⟨_, em_111, Or.inl ⟨c_128, Or.inl ⟨c_141, Or.inl ⟨c_154, ⟨_, em_163, ⟨_, em_187, Or.inl ⟨c_204, Or.inl ⟨c_217, Or.inl ⟨c_230, Or.inl ⟨c_243, Or.inl ⟨c_256, Or.inl ⟨c_269, Or.inl ⟨c_282, Or.inl ⟨c_295, ⟨_, em_304, Or.inr ⟨c_332, Or.inr ⟨c_959, ⟨_, em_1582, Or.inl ⟨c_1599, Or.inl ⟨c_1612, Or.inl ⟨c_1625, Or.inl ⟨c_1638, Or.inl ⟨c_1651, ⟨_, em_1660, ⟨_, em_1684, Or.inr ⟨c_1701, ⟨_, em_1883, Or.inr ⟨c_1900, ⟨_, em_2025, ⟨rfl, rfl⟩⟩⟩⟩⟩⟩⟩⟩⟩⟩⟩⟩⟩⟩⟩⟩⟩⟩⟩⟩⟩⟩⟩⟩⟩⟩⟩⟩⟩⟩⟩⟩⟩⟩⟩⟩⟩, rfl, (by unfold sv_I; omega), ok_2024⟩
                                            · obtain ⟨n_2048, e_2049, hr_2050⟩ := iv_sipush xm_203 xd_203_353 (by decide) hr_1654
                                              obtain ⟨n_2051, e_2052, hr_2053⟩ := iv_goto 360 xm_203 xd_203_356 (by decide) hr_2050
                                              obtain ⟨h_2054, ok_2055, em_2056, n_2058, e_2059, hr_2060⟩ := iv_puti (j := 20) (fk := 0) xm_203 xd_203_360 (by decide +kernel) ok_1581 (rfl : sv_ty 114 = some 12) dt_12 rfl (by decide +kernel) rfl (by unfold sv_I; omega) hr_2053
                                              obtain ⟨n_2061, e_2062, hr_2063⟩ := iv_aload_n xm_203 xd_203_363 q0 hr_2060
                                              have f_2064 := dc_fi (j := 20) ok_2055 (rfl : sv_ty 114 = some 12) dt_12 rfl
                                              obtain ⟨n_2065, e_2066, hr_2067⟩ := iv_getf (j := 20) xm_203 xd_203_364 (by decide +kernel) ok_2055 (rfl : sv_ty 114 = some 12) dt_12 f_2064.1 hr_2063
                                              rcases iv_if 372 xm_203 xd_203_367 (by decide) f_2064.2 hr_2067 with ⟨c_2068, n_2069, e_2070, hr_2071⟩ | ⟨c_2068, n_2069, e_2070, hr_2071⟩
                                              · exact absurd (show (205 : Int) < 0 by have z := c_2068; rw [em_2056, dc_up_s] at z; exact z) (by decide)
                                              obtain ⟨n_2072, e_2073, hr_2074⟩ := iv_iconst xm_203 xd_203_370 (by decide) hr_2071
                                              have rr_2075 := iv_ireturn xm_203 xd_203_371 hr_2074
                                              subst rr_2075
                                              exact ⟨_, ⟨_, em_9, ⟨_, em_22, Or.inl ⟨c_39, Or.inl ⟨c_52, Or.inl ⟨c_65, Or.inl ⟨c_78, ⟨_, em_87, ⟨_, em_111, Or.inl ⟨c_128, Or.inl ⟨c_141, Or.inl ⟨c_154, ⟨_, em_163, ⟨_, em_187, Or.inl ⟨c_204, Or.inl ⟨c_217, Or.inl ⟨c_230, Or.inl ⟨c_243, Or.inl ⟨c_256, Or.inl ⟨c_269, Or.inl ⟨c_282, Or.inl ⟨c_295, ⟨_, em_304, Or.inr ⟨c_332, Or.inr ⟨c_959, ⟨_, em_1582, Or.inl ⟨c_1599, Or.inl ⟨c_1612, Or.inl ⟨c_1625, Or.inl ⟨c_1638, Or.inr ⟨c_1651, ⟨_, em_2056, ⟨rfl, rfl⟩⟩⟩⟩⟩⟩⟩⟩⟩⟩⟩⟩⟩⟩⟩⟩⟩⟩⟩⟩⟩⟩⟩⟩⟩⟩⟩⟩⟩⟩⟩⟩, rfl, (by unfold sv_I; omega), ok_2055⟩
                                          · obtain ⟨n_2076, e_2077, hr_2078⟩ := iv_sipush xm_203 xd_203_339 (by decide) hr_1641
                                            obtain ⟨n_2079, e_2080, hr_2081⟩ := iv_goto 360 xm_203 xd_203_342 (by decide) hr_2078
                                            obtain ⟨h_2082, ok_2083, em_2084, n_2086, e_2087, hr_2088⟩ := iv_puti (j := 20) (fk := 0) xm_203 xd_203_360 (by decide +kernel) ok_1581 (rfl : sv_ty 114 = some 12) dt_12 rfl (by decide +kernel) rfl (by unfold sv_I; omega) hr_2081
                                            obtain ⟨n_2089, e_2090, hr_2091⟩ := iv_aload_n xm_203 xd_203_363 q0 hr_2088
                                            have f_2092 := dc_fi (j := 20) ok_2083 (rfl : sv_ty 114 = some 12) dt_12 rfl
                                            obtain ⟨n_2093, e_2094, hr_2095⟩ := iv_getf (j := 20) xm_203 xd_203_364 (by decide +kernel) ok_2083 (rfl : sv_ty 114 = some 12) dt_12 f_2092.1 hr_2091
                                            rcases iv_if 372 xm_203 xd_203_367 (by decide) f_2092.2 hr_2095 with ⟨c_2096, n_2097, e_2098, hr_2099⟩ | ⟨c_2096, n_2097, e_2098, hr_2099⟩
                                            · exact absurd (show (193 : Int) < 0 by have z := c_2096; rw [em_2084, dc_up_s] at z; exact z) (by decide)
                                            obtain ⟨n_2100, e_2101, hr_2102⟩ := iv_iconst xm_203 xd_203_370 (by decide) hr_2099
                                            have rr_2103 := iv_ireturn xm_203 xd_203_371 hr_2102
                                            subst rr_2103
                                            exact ⟨_, ⟨_, em_9, ⟨_, em_22, Or.inl ⟨c_39, Or.inl ⟨c_52, Or.inl ⟨c_65, Or.inl ⟨c_78, ⟨_, em_87, ⟨_, em_111, Or.inl ⟨c_128, Or.inl ⟨c_141, Or.inl ⟨c_154, ⟨_, em_163, ⟨_, em_187, Or.inl ⟨c_204, Or.inl ⟨c_217, Or.inl ⟨c_230, Or.inl ⟨c_243, Or.inl ⟨c_256, Or.inl ⟨c_269, Or.inl ⟨c_282, Or.inl ⟨c_295, ⟨_, em_304, Or.inr ⟨c_332, Or.inr ⟨c_959, ⟨_, em_1582, Or.inl ⟨c_1599, Or.inl ⟨c_1612, Or.inl ⟨c_1625, Or.inr ⟨c_1638, ⟨_, em_2084, ⟨rfl, rfl⟩⟩⟩⟩⟩⟩⟩⟩⟩⟩⟩⟩⟩⟩⟩⟩⟩⟩⟩⟩⟩⟩⟩⟩⟩⟩⟩⟩⟩⟩⟩, rfl, (by unfold sv_I; omega), ok_2083⟩
                                        · obtain ⟨n_2104, e_2105, hr_2106⟩ := iv_sipush xm_203 xd_203_325 (by decide) hr_1628
                                          obtain ⟨n_2107, e_2108, hr_2109⟩ := iv_goto 360 xm_203 xd_203_328 (by decide) hr_2106
                                          obtain ⟨h_2110, ok_2111, em_2112, n_2114, e_2115, hr_2116⟩ := iv_puti (j := 20) (fk := 0) xm_203 xd_203_360 (by decide +kernel) ok_1581 (rfl : sv_ty 114 = some 12) dt_12 rfl (by decide +kernel) rfl (by unfold sv_I; omega) hr_2109
                                          obtain ⟨n_2117, e_2118, hr_2119⟩ := iv_aload_n xm_203 xd_203_363 q0 hr_2116
                                          have f_2120 := dc_fi (j := 20) ok_2111 (rfl : sv_ty 114 = some 12) dt_12 rfl
                                          obtain ⟨n_2121, e_2122, hr_2123⟩ := iv_getf (j := 20) xm_203 xd_203_364 (by decide +kernel) ok_2111 (rfl : sv_ty 114 = some 12) dt_12 f_2120.1 hr_2119
                                          rcases iv_if 372 xm_203 xd_203_367 (by decide) f_2120.2 hr_2123 with ⟨c_2124, n_2125, e_2126, hr_2127⟩ | ⟨c_2124, n_2125, e_2126, hr_2127⟩
                                          · exact absurd (show (181 : Int) < 0 by have z := c_2124; rw [em_2112, dc_up_s] at z; exact z) (by decide)
                                          obtain ⟨n_2128, e_2129, hr_2130⟩ := iv_iconst xm_203 xd_203_370 (by decide) hr_2127
                                          have rr_2131 := iv_ireturn xm_203 xd_203_371 hr_2130
                                          subst rr_2131
                                          exact ⟨_, ⟨_, em_9, ⟨_, em_22, Or.inl ⟨c_39, Or.inl ⟨c_52, Or.inl ⟨c_65, Or.inl ⟨c_78, ⟨_, em_87, ⟨_, em_111, Or.inl ⟨c_128, Or.inl ⟨c_141, Or.inl ⟨c_154, ⟨_, em_163, ⟨_, em_187, Or.inl ⟨c_204, Or.inl ⟨c_217, Or.inl ⟨c_230, Or.inl ⟨c_243, Or.inl ⟨c_256, Or.inl ⟨c_269, Or.inl ⟨c_282, Or.inl ⟨c_295, ⟨_, em_304, Or.inr ⟨c_332, Or.inr ⟨c_959, ⟨_, em_1582, Or.inl ⟨c_1599, Or.inl ⟨c_1612, Or.inr ⟨c_1625, ⟨_, em_2112, ⟨rfl, rfl⟩⟩⟩⟩⟩⟩⟩⟩⟩⟩⟩⟩⟩⟩⟩⟩⟩⟩⟩⟩⟩⟩⟩⟩⟩⟩⟩⟩⟩⟩, rfl, (by unfold sv_I; omega), ok_2111⟩
                                      · obtain ⟨n_2132, e_2133, hr_2134⟩ := iv_bipush xm_203 xd_203_312 (by decide) hr_1615
                                        obtain ⟨n_2135, e_2136, hr_2137⟩ := iv_goto 360 xm_203 xd_203_314 (by decide) hr_2134
                                        obtain ⟨h_2138, ok_2139, em_2140, n_2142, e_2143, hr_2144⟩ := iv_puti (j := 20) (fk := 0) xm_203 xd_203_360 (by decide +kernel) ok_1581 (rfl : sv_ty 114 = some 12) dt_12 rfl (by decide +kernel) rfl (by unfold sv_I; omega) hr_2137
                                        obtain ⟨n_2145, e_2146, hr_2147⟩ := iv_aload_n xm_203 xd_203_363 q0 hr_2144
                                        have f_2148 := dc_fi (j := 20) ok_2139 (rfl : sv_ty 114 = some 12) dt_12 rfl
                                        obtain ⟨n_2149, e_2150, hr_2151⟩ := iv_getf (j := 20) xm_203 xd_203_364 (by decide +kernel) ok_2139 (rfl : sv_ty 114 = some 12) dt_12 f_2148.1 hr_2147
                                        rcases iv_if 372 xm_203 xd_203_367 (by decide) f_2148.2 hr_2151 with ⟨c_2152, n_2153, e_2154, hr_2155⟩ | ⟨c_2152, n_2153, e_2154, hr_2155⟩
                                        · exact absurd (show (96 : Int) < 0 by have z := c_2152; rw [em_2140, dc_up_s] at z; exact z) (by decide)
                                        obtain ⟨n_2156, e_2157, hr_2158⟩ := iv_iconst xm_203 xd_203_370 (by decide) hr_2155
                                        have rr_2159 := iv_ireturn xm_203 xd_203_371 hr_2158
                                        subst rr_2159
                                        exact ⟨_, ⟨_, em_9, ⟨_, em_22, Or.inl ⟨c_39, Or.inl ⟨c_52, Or.inl ⟨c_65, Or.inl ⟨c_78, ⟨_, em_87, ⟨_, em_111, Or.inl ⟨c_128, Or.inl ⟨c_141, Or.inl ⟨c_154, ⟨_, em_163, ⟨_, em_187, Or.inl ⟨c_204, Or.inl ⟨c_217, Or.inl ⟨c_230, Or.inl ⟨c_243, Or.inl ⟨c_256, Or.inl ⟨c_269, Or.inl ⟨c_282, Or.inl ⟨c_295, ⟨_, em_304, Or.inr ⟨c_332, Or.inr ⟨c_959, ⟨_, em_1582, Or.inl ⟨c_1599, Or.inr ⟨c_1612, ⟨_, em_2140, ⟨rfl, rfl⟩⟩⟩⟩⟩⟩⟩⟩⟩⟩⟩⟩⟩⟩⟩⟩⟩⟩⟩⟩⟩⟩⟩⟩⟩⟩⟩⟩⟩, rfl, (by unfold sv_I; omega), ok_2139⟩
                                    · obtain ⟨n_2160, e_2161, hr_2162⟩ := iv_bipush xm_203 xd_203_299 (by decide) hr_1602
                                      obtain ⟨n_2163, e_2164, hr_2165⟩ := iv_goto 360 xm_203 xd_203_301 (by decide) hr_2162
                                      obtain ⟨h_2166, ok_2167, em_2168, n_2170, e_2171, hr_2172⟩ := iv_puti (j := 20) (fk := 0) xm_203 xd_203_360 (by decide +kernel) ok_1581 (rfl : sv_ty 114 = some 12) dt_12 rfl (by decide +kernel) rfl (by unfold sv_I; omega) hr_2165
                                      obtain ⟨n_2173, e_2174, hr_2175⟩ := iv_aload_n xm_203 xd_203_363 q0 hr_2172
                                      have f_2176 := dc_fi (j := 20) ok_2167 (rfl : sv_ty 114 = some 12) dt_12 rfl
                                      obtain ⟨n_2177, e_2178, hr_2179⟩ := iv_getf (j := 20) xm_203 xd_203_364 (by decide +kernel) ok_2167 (rfl : sv_ty 114 = some 12) dt_12 f_2176.1 hr_2175
                                      rcases iv_if 372 xm_203 xd_203_367 (by decide) f_2176.2 hr_2179 with ⟨c_2180, n_2181, e_2182, hr_2183⟩ | ⟨c_2180, n_2181, e_2182, hr_2183⟩
                                      · exact absurd (show (68 : Int) < 0 by have z := c_2180; rw [em_2168, dc_up_s] at z; exact z) (by decide)
                                      obtain ⟨n_2184, e_2185, hr_2186⟩ := iv_iconst xm_203 xd_203_370 (by decide) hr_2183
                                      have rr_2187 := iv_ireturn xm_203 xd_203_371 hr_2186
                                      subst rr_2187
                                      exact ⟨_, ⟨_, em_9, ⟨_, em_22, Or.inl ⟨c_39, Or.inl ⟨c_52, Or.inl ⟨c_65, Or.inl ⟨c_78, ⟨_, em_87, ⟨_, em_111, Or.inl ⟨c_128, Or.inl ⟨c_141, Or.inl ⟨c_154, ⟨_, em_163, ⟨_, em_187, Or.inl ⟨c_204, Or.inl ⟨c_217, Or.inl ⟨c_230, Or.inl ⟨c_243, Or.inl ⟨c_256, Or.inl ⟨c_269, Or.inl ⟨c_282, Or.inl ⟨c_295, ⟨_, em_304, Or.inr ⟨c_332, Or.inr ⟨c_959, ⟨_, em_1582, Or.inr ⟨c_1599, ⟨_, em_2168, ⟨rfl, rfl⟩⟩⟩⟩⟩⟩⟩⟩⟩⟩⟩⟩⟩⟩⟩⟩⟩⟩⟩⟩⟩⟩⟩⟩⟩⟩⟩⟩, rfl, (by unfold sv_I; omega), ok_2167⟩
                              · obtain ⟨n_2188, e_2189, hr_2190⟩ := iv_sipush xm_203 xd_203_245 (by decide) hr_298
                                obtain ⟨n_2191, e_2192, hr_2193⟩ := iv_goto 252 xm_203 xd_203_248 (by decide) hr_2190
                                obtain ⟨h_2194, ok_2195, em_2196, n_2198, e_2199, hr_2200⟩ := iv_puti (j := 20) (fk := 0) xm_203 xd_203_252 (by decide +kernel) ok_186 (rfl : sv_ty 114 = some 12) dt_12 rfl (by decide +kernel) rfl (by unfold sv_I; omega) hr_2193
                                obtain ⟨n_2201, e_2202, hr_2203⟩ := iv_aload_n xm_203 xd_203_255 q0 hr_2200
                                have f_2204 := dc_fi (j := 20) ok_2195 (rfl : sv_ty 114 = some 12) dt_12 rfl
                                obtain ⟨n_2205, e_2206, hr_2207⟩ := iv_getf (j := 20) xm_203 xd_203_256 (by decide +kernel) ok_2195 (rfl : sv_ty 114 = some 12) dt_12 f_2204.1 hr_2203
                                rcases iv_if 264 xm_203 xd_203_259 (by decide) f_2204.2 hr_2207 with ⟨c_2208, n_2209, e_2210, hr_2211⟩ | ⟨c_2208, n_2209, e_2210, hr_2211⟩
                                · exact absurd (show (152 : Int) < 0 by have z := c_2208; rw [em_2196, dc_up_s] at z; exact z) (by decide)
                                obtain ⟨n_2212, e_2213, hr_2214⟩ := iv_iconst xm_203 xd_203_262 (by decide) hr_2211
                                have rr_2215 := iv_ireturn xm_203 xd_203_263 hr_2214
                                subst rr_2215
                                exact ⟨_, ⟨_, em_9, ⟨_, em_22, Or.inl ⟨c_39, Or.inl ⟨c_52, Or.inl ⟨c_65, Or.inl ⟨c_78, ⟨_, em_87, ⟨_, em_111, Or.inl ⟨c_128, Or.inl ⟨c_141, Or.inl ⟨c_154, ⟨_, em_163, ⟨_, em_187, Or.inl ⟨c_204, Or.inl ⟨c_217, Or.inl ⟨c_230, Or.inl ⟨c_243, Or.inl ⟨c_256, Or.inl ⟨c_269, Or.inl ⟨c_282, Or.inr ⟨c_295, ⟨_, em_2196, ⟨rfl, rfl⟩⟩⟩⟩⟩⟩⟩⟩⟩⟩⟩⟩⟩⟩⟩⟩⟩⟩⟩⟩⟩⟩⟩, rfl, (by unfold sv_I; omega), ok_2195⟩
                            · obtain ⟨n_2216, e_2217, hr_2218⟩ := iv_sipush xm_203 xd_203_231 (by decide) hr_285
                              obtain ⟨n_2219, e_2220, hr_2221⟩ := iv_goto 252 xm_203 xd_203_234 (by decide) hr_2218
                              obtain ⟨h_2222, ok_2223, em_2224, n_2226, e_2227, hr_2228⟩ := iv_puti (j := 20) (fk := 0) xm_203 xd_203_252 (by decide +kernel) ok_186 (rfl : sv_ty 114 = some 12) dt_12 rfl (by decide +kernel) rfl (by unfold sv_I; omega) hr_2221
                              obtain ⟨n_2229, e_2230, hr_2231⟩ := iv_aload_n xm_203 xd_203_255 q0 hr_2228
                              have f_2232 := dc_fi (j := 20) ok_2223 (rfl : sv_ty 114 = some 12) dt_12 rfl
                              obtain ⟨n_2233, e_2234, hr_2235⟩ := iv_getf (j := 20) xm_203 xd_203_256 (by decide +kernel) ok_2223 (rfl : sv_ty 114 = some 12) dt_12 f_2232.1 hr_2231
                              rcases iv_if 264 xm_203 xd_203_259 (by decide) f_2232.2 hr_2235 with ⟨c_2236, n_2237, e_2238, hr_2239⟩ | ⟨c_2236, n_2237, e_2238, hr_2239⟩
                              · exact absurd (show (148 : Int) < 0 by have z := c_2236; rw [em_2224, dc_up_s] at z; exact z) (by decide)
                              obtain ⟨n_2240, e_2241, hr_2242⟩ := iv_iconst xm_203 xd_203_262 (by decide) hr_2239
                              have rr_2243 := iv_ireturn xm_203 xd_203_263 hr_2242
                              subst rr_2243
                              exact ⟨_, ⟨_, em_9, ⟨_, em_22, Or.inl ⟨c_39, Or.inl ⟨c_52, Or.inl ⟨c_65, Or.inl ⟨c_78, ⟨_, em_87, ⟨_, em_111, Or.inl ⟨c_128, Or.inl ⟨c_141, Or.inl ⟨c_154, ⟨_, em_163, ⟨_, em_187, Or.inl ⟨c_204, Or.inl ⟨c_217, Or.inl ⟨c_230, Or.inl ⟨c_243, Or.inl ⟨c_256, Or.inl ⟨c_269, Or.inr ⟨c_282, ⟨_, em_2224, ⟨rfl, rfl⟩⟩⟩⟩⟩⟩⟩⟩⟩⟩⟩⟩⟩⟩⟩⟩⟩⟩⟩⟩⟩⟩, rfl, (by unfold sv_I; omega), ok_2223⟩
                          · obtain ⟨n_2244, e_2245, hr_2246⟩ := iv_sipush xm_203 xd_203_217 (by decide) hr_272
                            obtain ⟨n_2247, e_2248, hr_2249⟩ := iv_goto 252 xm_203 xd_203_220 (by decide) hr_2246
                            obtain ⟨h_2250, ok_2251, em_2252, n_2254, e_2255, hr_2256⟩ := iv_puti (j := 20) (fk := 0) xm_203 xd_203_252 (by decide +kernel) ok_186 (rfl : sv_ty 114 = some 12) dt_12 rfl (by decide +kernel) rfl (by unfold sv_I; omega) hr_2249
                            obtain ⟨n_2257, e_2258, hr_2259⟩ := iv_aload_n xm_203 xd_203_255 q0 hr_2256
                            have f_2260 := dc_fi (j := 20) ok_2251 (rfl : sv_ty 114 = some 12) dt_12 rfl
                            obtain ⟨n_2261, e_2262, hr_2263⟩ := iv_getf (j := 20) xm_203 xd_203_256 (by decide +kernel) ok_2251 (rfl : sv_ty 114 = some 12) dt_12 f_2260.1 hr_2259
                            rcases iv_if 264 xm_203 xd_203_259 (by decide) f_2260.2 hr_2263 with ⟨c_2264, n_2265, e_2266, hr_2267⟩ | ⟨c_2264, n_2265, e_2266, hr_2267⟩
                            · exact absurd (show (144 : Int) < 0 by have z := c_2264; rw [em_2252, dc_up_s] at z; exact z) (by decide)
                            obtain ⟨n_2268, e_2269, hr_2270⟩ := iv_iconst xm_203 xd_203_262 (by decide) hr_2267
                            have rr_2271 := iv_ireturn xm_203 xd_203_263 hr_2270
                            subst rr_2271
                            exact ⟨_, ⟨_, em_9, ⟨_, em_22, Or.inl ⟨c_39, Or.inl ⟨c_52, Or.inl ⟨c_65, Or.inl ⟨c_78, ⟨_, em_87, ⟨_, em_111, Or.inl ⟨c_128, Or.inl ⟨c_141, Or.inl ⟨c_154, ⟨_, em_163, ⟨_, em_187, Or.inl ⟨c_204, Or.inl ⟨c_217, Or.inl ⟨c_230, Or.inl ⟨c_243, Or.inl ⟨c_256, Or.inr ⟨c_269, ⟨_, em_2252, ⟨rfl, rfl⟩⟩⟩⟩⟩⟩⟩⟩⟩⟩⟩⟩⟩⟩⟩⟩⟩⟩⟩⟩⟩, rfl, (by unfold sv_I; omega), ok_2251⟩
                        · obtain ⟨n_2272, e_2273, hr_2274⟩ := iv_sipush xm_203 xd_203_203 (by decide) hr_259
                          obtain ⟨n_2275, e_2276, hr_2277⟩ := iv_goto 252 xm_203 xd_203_206 (by decide) hr_2274
                          obtain ⟨h_2278, ok_2279, em_2280, n_2282, e_2283, hr_2284⟩ := iv_puti (j := 20) (fk := 0) xm_203 xd_203_252 (by decide +kernel) ok_186 (rfl : sv_ty 114 = some 12) dt_12 rfl (by decide +kernel) rfl (by unfold sv_I; omega) hr_2277
                          obtain ⟨n_2285, e_2286, hr_2287⟩ := iv_aload_n xm_203 xd_203_255 q0 hr_2284
                          have f_2288 := dc_fi (j := 20) ok_2279 (rfl : sv_ty 114 = some 12) dt_12 rfl
                          obtain ⟨n_2289, e_2290, hr_2291⟩ := iv_getf (j := 20) xm_203 xd_203_256 (by decide +kernel) ok_2279 (rfl : sv_ty 114 = some 12) dt_12 f_2288.1 hr_2287
                          rcases iv_if 264 xm_203 xd_203_259 (by decide) f_2288.2 hr_2291 with ⟨c_2292, n_2293, e_2294, hr_2295⟩ | ⟨c_2292, n_2293, e_2294, hr_2295⟩
                          · exact absurd (show (128 : Int) < 0 by have z := c_2292; rw [em_2280, dc_up_s] at z; exact z) (by decide)
                          obtain ⟨n_2296, e_2297, hr_2298⟩ := iv_iconst xm_203 xd_203_262 (by decide) hr_2295
                          have rr_2299 := iv_ireturn xm_203 xd_203_263 hr_2298
                          subst rr_2299
                          exact ⟨_, ⟨_, em_9, ⟨_, em_22, Or.inl ⟨c_39, Or.inl ⟨c_52, Or.inl ⟨c_65, Or.inl ⟨c_78, ⟨_, em_87, ⟨_, em_111, Or.inl ⟨c_128, Or.inl ⟨c_141, Or.inl ⟨c_154, ⟨_, em_163, ⟨_, em_187, Or.inl ⟨c_204, Or.inl ⟨c_217, Or.inl ⟨c_230, Or.inl ⟨c_243, Or.inr ⟨c_256, ⟨_, em_2280, ⟨rfl, rfl⟩⟩⟩⟩⟩⟩⟩⟩⟩⟩⟩⟩⟩⟩⟩⟩⟩⟩⟩⟩, rfl, (by unfold sv_I; omega), ok_2279⟩
                      · obtain ⟨n_2300, e_2301, hr_2302⟩ := iv_bipush xm_203 xd_203_190 (by decide) hr_246
                        obtain ⟨n_2303, e_2304, hr_2305⟩ := iv_goto 252 xm_203 xd_203_192 (by decide) hr_2302
                        obtain ⟨h_2306, ok_2307, em_2308, n_2310, e_2311, hr_2312⟩ := iv_puti (j := 20) (fk := 0) xm_203 xd_203_252 (by decide +kernel) ok_186 (rfl : sv_ty 114 = some 12) dt_12 rfl (by decide +kernel) rfl (by unfold sv_I; omega) hr_2305
                        obtain ⟨n_2313, e_2314, hr_2315⟩ := iv_aload_n xm_203 xd_203_255 q0 hr_2312
                        have f_2316 := dc_fi (j := 20) ok_2307 (rfl : sv_ty 114 = some 12) dt_12 rfl
                        obtain ⟨n_2317, e_2318, hr_2319⟩ := iv_getf (j := 20) xm_203 xd_203_256 (by decide +kernel) ok_2307 (rfl : sv_ty 114 = some 12) dt_12 f_2316.1 hr_2315
                        rcases iv_if 264 xm_203 xd_203_259 (by decide) f_2316.2 hr_2319 with ⟨c_2320, n_2321, e_2322, hr_2323⟩ | ⟨c_2320, n_2321, e_2322, hr_2323⟩
                        · exact absurd (show (124 : Int) < 0 by have z := c_2320; rw [em_2308, dc_up_s] at z; exact z) (by decide)
                        obtain ⟨n_2324, e_2325, hr_2326⟩ := iv_iconst xm_203 xd_203_262 (by decide) hr_2323
                        have rr_2327 := iv_ireturn xm_203 xd_203_263 hr_2326
                        subst rr_2327
                        exact ⟨_, ⟨_, em_9, ⟨_, em_22, Or.inl ⟨c_39, Or.inl ⟨c_52, Or.inl ⟨c_65, Or.inl ⟨c_78, ⟨_, em_87, ⟨_, em_111, Or.inl ⟨c_128, Or.inl ⟨c_141, Or.inl ⟨c_154, ⟨_, em_163, ⟨_, em_187, Or.inl ⟨c_204, Or.inl ⟨c_217, Or.inl ⟨c_230, Or.inr ⟨c_243, ⟨_, em_2308, ⟨rfl, rfl⟩⟩⟩⟩⟩⟩⟩⟩⟩⟩⟩⟩⟩⟩⟩⟩⟩⟩⟩, rfl, (by unfold sv_I; omega), ok_2307⟩
                    · obtain ⟨n_2328, e_2329, hr_2330⟩ := iv_bipush xm_203 xd_203_177 (by decide) hr_233
                      obtain ⟨n_2331, e_2332, hr_2333⟩ := iv_goto 252 xm_203 xd_203_179 (by decide) hr_2330
                      obtain ⟨h_2334, ok_2335, em_2336, n_2338, e_2339, hr_2340⟩ := iv_puti (j := 20) (fk := 0) xm_203 xd_203_252 (by decide +kernel) ok_186 (rfl : sv_ty 114 = some 12) dt_12 rfl (by decide +kernel) rfl (by unfold sv_I; omega) hr_2333
                      obtain ⟨n_2341, e_2342, hr_2343⟩ := iv_aload_n xm_203 xd_203_255 q0 hr_2340
                      have f_2344 := dc_fi (j := 20) ok_2335 (rfl : sv_ty 114 = some 12) dt_12 rfl
                      obtain ⟨n_2345, e_2346, hr_2347⟩ := iv_getf (j := 20) xm_203 xd_203_256 (by decide +kernel) ok_2335 (rfl : sv_ty 114 = some 12) dt_12 f_2344.1 hr_2343
                      rcases iv_if 264 xm_203 xd_203_259 (by decide) f_2344.2 hr_2347 with ⟨c_2348, n_2349, e_2350, hr_2351⟩ | ⟨c_2348, n_2349, e_2350, hr_2351⟩
                      · exact absurd (show (120 : Int) < 0 by have z := c_2348; rw [em_2336, dc_up_s] at z; exact z) (by decide)
                      obtain ⟨n_2352, e_2353, hr_2354⟩ := iv_iconst xm_203 xd_203_262 (by decide) hr_2351
                      have rr_2355 := iv_ireturn xm_203 xd_203_263 hr_2354
                      subst rr_2355
                      exact ⟨_, ⟨_, em_9, ⟨_, em_22, Or.inl ⟨c_39, Or.inl ⟨c_52, Or.inl ⟨c_65, Or.inl ⟨c_78, ⟨_, em_87, ⟨_, em_111, Or.inl ⟨c_128, Or.inl ⟨c_141, Or.inl ⟨c_154, ⟨_, em_163, ⟨_, em_187, Or.inl ⟨c_204, Or.inl ⟨c_217, Or.inr ⟨c_230, ⟨_, em_2336, ⟨rfl, rfl⟩⟩⟩⟩⟩⟩⟩⟩⟩⟩⟩⟩⟩⟩⟩⟩⟩⟩, rfl, (by unfold sv_I; omega), ok_2335⟩
                  · obtain ⟨n_2356, e_2357, hr_2358⟩ := iv_bipush xm_203 xd_203_164 (by decide) hr_220
                    obtain ⟨n_2359, e_2360, hr_2361⟩ := iv_goto 252 xm_203 xd_203_166 (by decide) hr_2358
                    obtain ⟨h_2362, ok_2363, em_2364, n_2366, e_2367, hr_2368⟩ := iv_puti (j := 20) (fk := 0) xm_203 xd_203_252 (by decide +kernel) ok_186 (rfl : sv_ty 114 = some 12) dt_12 rfl (by decide +kernel) rfl (by unfold sv_I; omega) hr_2361
                    obtain ⟨n_2369, e_2370, hr_2371⟩ := iv_aload_n xm_203 xd_203_255 q0 hr_2368
                    have f_2372 := dc_fi (j := 20) ok_2363 (rfl : sv_ty 114 = some 12) dt_12 rfl
                    obtain ⟨n_2373, e_2374, hr_2375⟩ := iv_getf (j := 20) xm_203 xd_203_256 (by decide +kernel) ok_2363 (rfl : sv_ty 114 = some 12) dt_12 f_2372.1 hr_2371
                    rcases iv_if 264 xm_203 xd_203_259 (by decide) f_2372.2 hr_2375 with ⟨c_2376, n_2377, e_2378, hr_2379⟩ | ⟨c_2376, n_2377, e_2378, hr_2379⟩
                    · exact absurd (show (92 : Int) < 0 by have z := c_2376; rw [em_2364, dc_up_s] at z; exact z) (by decide)
                    obtain ⟨n_2380, e_2381, hr_2382⟩ := iv_iconst xm_203 xd_203_262 (by decide) hr_2379
                    have rr_2383 := iv_ireturn xm_203 xd_203_263 hr_2382
                    subst rr_2383
                    exact ⟨_, ⟨_, em_9, ⟨_, em_22, Or.inl ⟨c_39, Or.inl ⟨c_52, Or.inl ⟨c_65, Or.inl ⟨c_78, ⟨_, em_87, ⟨_, em_111, Or.inl ⟨c_128, Or.inl ⟨c_141, Or.inl ⟨c_154, ⟨_, em_163, ⟨_, em_187, Or.inl ⟨c_204, Or.inr ⟨c_217, ⟨_, em_2364, ⟨rfl, rfl⟩⟩⟩⟩⟩⟩⟩⟩⟩⟩⟩⟩⟩⟩⟩⟩⟩, rfl, (by unfold sv_I; omega), ok_2363⟩
                · obtain ⟨n_2384, e_2385, hr_2386⟩ := iv_bipush xm_203 xd_203_151 (by decide) hr_207
                  obtain ⟨n_2387, e_2388, hr_2389⟩ := iv_goto 252 xm_203 xd_203_153 (by decide) hr_2386
                  obtain ⟨h_2390, ok_2391, em_2392, n_2394, e_2395, hr_2396⟩ := iv_puti (j := 20) (fk := 0) xm_203 xd_203_252 (by decide +kernel) ok_186 (rfl : sv_ty 114 = some 12) dt_12 rfl (by decide +kernel) rfl (by unfold sv_I; omega) hr_2389
                  obtain ⟨n_2397, e_2398, hr_2399⟩ := iv_aload_n xm_203 xd_203_255 q0 hr_2396
                  have f_2400 := dc_fi (j := 20) ok_2391 (rfl : sv_ty 114 = some 12) dt_12 rfl
                  obtain ⟨n_2401, e_2402, hr_2403⟩ := iv_getf (j := 20) xm_203 xd_203_256 (by decide +kernel) ok_2391 (rfl : sv_ty 114 = some 12) dt_12 f_2400.1 hr_2399
                  rcases iv_if 264 xm_203 xd_203_259 (by decide) f_2400.2 hr_2403 with ⟨c_2404, n_2405, e_2406, hr_2407⟩ | ⟨c_2404, n_2405, e_2406, hr_2407⟩
                  · exact absurd (show (61 : Int) < 0 by have z := c_2404; rw [em_2392, dc_up_s] at z; exact z) (by decide)
                  obtain ⟨n_2408, e_2409, hr_2410⟩ := iv_iconst xm_203 xd_203_262 (by decide) hr_2407
                  have rr_2411 := iv_ireturn xm_203 xd_203_263 hr_2410
                  subst rr_2411
                  exact ⟨_, ⟨_, em_9, ⟨_, em_22, Or.inl ⟨c_39, Or.inl ⟨c_52, Or.inl ⟨c_65, Or.inl ⟨c_78, ⟨_, em_87, ⟨_, em_111, Or.inl ⟨c_128, Or.inl ⟨c_141, Or.inl ⟨c_154, ⟨_, em_163, ⟨_, em_187, Or.inr ⟨c_204, ⟨_, em_2392, ⟨rfl, rfl⟩⟩⟩⟩⟩⟩⟩⟩⟩⟩⟩⟩⟩⟩⟩⟩, rfl, (by unfold sv_I; omega), ok_2391⟩
              · obtain ⟨n_2412, e_2413, hr_2414⟩ := iv_sipush xm_203 xd_203_118 (by decide) hr_157
                obtain ⟨n_2415, e_2416, hr_2417⟩ := iv_goto 125 xm_203 xd_203_121 (by decide) hr_2414
                obtain ⟨h_2418, ok_2419, em_2420, n_2422, e_2423, hr_2424⟩ := iv_puti (j := 20) (fk := 0) xm_203 xd_203_125 (by decide +kernel) ok_110 (rfl : sv_ty 114 = some 12) dt_12 rfl (by decide +kernel) rfl (by unfold sv_I; omega) hr_2417
                obtain ⟨n_2425, e_2426, hr_2427⟩ := iv_aload_n xm_203 xd_203_128 q0 hr_2424
                have f_2428 := dc_fi (j := 20) ok_2419 (rfl : sv_ty 114 = some 12) dt_12 rfl
                obtain ⟨n_2429, e_2430, hr_2431⟩ := iv_getf (j := 20) xm_203 xd_203_129 (by decide +kernel) ok_2419 (rfl : sv_ty 114 = some 12) dt_12 f_2428.1 hr_2427
                rcases iv_if 137 xm_203 xd_203_132 (by decide) f_2428.2 hr_2431 with ⟨c_2432, n_2433, e_2434, hr_2435⟩ | ⟨c_2432, n_2433, e_2434, hr_2435⟩
                · exact absurd (show (180 : Int) < 0 by have z := c_2432; rw [em_2420, dc_up_s] at z; exact z) (by decide)
                obtain ⟨n_2436, e_2437, hr_2438⟩ := iv_iconst xm_203 xd_203_135 (by decide) hr_2435
                have rr_2439 := iv_ireturn xm_203 xd_203_136 hr_2438
                subst rr_2439
                exact ⟨_, ⟨_, em_9, ⟨_, em_22, Or.inl ⟨c_39, Or.inl ⟨c_52, Or.inl ⟨c_65, Or.inl ⟨c_78, ⟨_, em_87, ⟨_, em_111, Or.inl ⟨c_128, Or.inl ⟨c_141, Or.inr ⟨c_154, ⟨_, em_2420, ⟨rfl, rfl⟩⟩⟩⟩⟩⟩⟩⟩⟩⟩⟩⟩⟩, rfl, (by unfold sv_I; omega), ok_2419⟩
            · obtain ⟨n_2440, e_2441, hr_2442⟩ := iv_sipush xm_203 xd_203_104 (by decide) hr_144
              obtain ⟨n_2443, e_2444, hr_2445⟩ := iv_goto 125 xm_203 xd_203_107 (by decide) hr_2442
              obtain ⟨h_2446, ok_2447, em_2448, n_2450, e_2451, hr_2452⟩ := iv_puti (j := 20) (fk := 0) xm_203 xd_203_125 (by decide +kernel) ok_110 (rfl : sv_ty 114 = some 12) dt_12 rfl (by decide +kernel) rfl (by unfold sv_I; omega) hr_2445
              obtain ⟨n_2453, e_2454, hr_2455⟩ := iv_aload_n xm_203 xd_203_128 q0 hr_2452
              have f_2456 := dc_fi (j := 20) ok_2447 (rfl : sv_ty 114 = some 12) dt_12 rfl
              obtain ⟨n_2457, e_2458, hr_2459⟩ := iv_getf (j := 20) xm_203 xd_203_129 (by decide +kernel) ok_2447 (rfl : sv_ty 114 = some 12) dt_12 f_2456.1 hr_2455
              rcases iv_if 137 xm_203 xd_203_132 (by decide) f_2456.2 hr_2459 with ⟨c_2460, n_2461, e_2462, hr_2463⟩ | ⟨c_2460, n_2461, e_2462, hr_2463⟩
              · exact absurd (show (179 : Int) < 0 by have z := c_2460; rw [em_2448, dc_up_s] at z; exact z) (by decide)
              obtain ⟨n_2464, e_2465, hr_2466⟩ := iv_iconst xm_203 xd_203_135 (by decide) hr_2463
              have rr_2467 := iv_ireturn xm_203 xd_203_136 hr_2466
              subst rr_2467
              exact ⟨_, ⟨_, em_9, ⟨_, em_22, Or.inl ⟨c_39, Or.inl ⟨c_52, Or.inl ⟨c_65, Or.inl ⟨c_78, ⟨_, em_87, ⟨_, em_111, Or.inl ⟨c_128, Or.inr ⟨c_141, ⟨_, em_2448, ⟨rfl, rfl⟩⟩⟩⟩⟩⟩⟩⟩⟩⟩⟩⟩, rfl, (by unfold sv_I; omega), ok_2447⟩
          · obtain ⟨n_2468, e_2469, hr_2470⟩ := iv_bipush xm_203 xd_203_91 (by decide) hr_131
            obtain ⟨n_2471, e_2472, hr_2473⟩ := iv_goto 125 xm_203 xd_203_93 (by decide) hr_2470
            obtain ⟨h_2474, ok_2475, em_2476, n_2478, e_2479, hr_2480⟩ := iv_puti (j := 20) (fk := 0) xm_203 xd_203_125 (by decide +kernel) ok_110 (rfl : sv_ty 114 = some 12) dt_12 rfl (by decide +kernel) rfl (by unfold sv_I; omega) hr_2473
            obtain ⟨n_2481, e_2482, hr_2483⟩ := iv_aload_n xm_203 xd_203_128 q0 hr_2480
            have f_2484 := dc_fi (j := 20) ok_2475 (rfl : sv_ty 114 = some 12) dt_12 rfl
            obtain ⟨n_2485, e_2486, hr_2487⟩ := iv_getf (j := 20) xm_203 xd_203_129 (by decide +kernel) ok_2475 (rfl : sv_ty 114 = some 12) dt_12 f_2484.1 hr_2483
            rcases iv_if 137 xm_203 xd_203_132 (by decide) f_2484.2 hr_2487 with ⟨c_2488, n_2489, e_2490, hr_2491⟩ | ⟨c_2488, n_2489, e_2490, hr_2491⟩
            · exact absurd (show (60 : Int) < 0 by have z := c_2488; rw [em_2476, dc_up_s] at z; exact z) (by decide)
            obtain ⟨n_2492, e_2493, hr_2494⟩ := iv_iconst xm_203 xd_203_135 (by decide) hr_2491
            have rr_2495 := iv_ireturn xm_203 xd_203_136 hr_2494
            subst rr_2495
            exact ⟨_, ⟨_, em_9, ⟨_, em_22, Or.inl ⟨c_39, Or.inl ⟨c_52, Or.inl ⟨c_65, Or.inl ⟨c_78, ⟨_, em_87, ⟨_, em_111, Or.inr ⟨c_128, ⟨_, em_2476, ⟨rfl, rfl⟩⟩⟩⟩⟩⟩⟩⟩⟩⟩⟩, rfl, (by unfold sv_I; omega), ok_2475⟩
        · obtain ⟨n_2496, e_2497, hr_2498⟩ := iv_sipush xm_203 xd_203_58 (by decide) hr_81
          obtain ⟨n_2499, e_2500, hr_2501⟩ := iv_goto 65 xm_203 xd_203_61 (by decide) hr_2498
          obtain ⟨h_2502, ok_2503, em_2504, n_2506, e_2507, hr_2508⟩ := iv_puti (j := 20) (fk := 0) xm_203 xd_203_65 (by decide +kernel) ok_21 (rfl : sv_ty 114 = some 12) dt_12 rfl (by decide +kernel) rfl (by unfold sv_I; omega) hr_2501
          obtain ⟨n_2509, e_2510, hr_2511⟩ := iv_aload_n xm_203 xd_203_68 q0 hr_2508
          have f_2512 := dc_fi (j := 20) ok_2503 (rfl : sv_ty 114 = some 12) dt_12 rfl
          obtain ⟨n_2513, e_2514, hr_2515⟩ := iv_getf (j := 20) xm_203 xd_203_69 (by decide +kernel) ok_2503 (rfl : sv_ty 114 = some 12) dt_12 f_2512.1 hr_2511
          rcases iv_if 77 xm_203 xd_203_72 (by decide) f_2512.2 hr_2515 with ⟨c_2516, n_2517, e_2518, hr_2519⟩ | ⟨c_2516, n_2517, e_2518, hr_2519⟩
          · exact absurd (show (159 : Int) < 0 by have z := c_2516; rw [em_2504, dc_up_s] at z; exact z) (by decide)
          obtain ⟨n_2520, e_2521, hr_2522⟩ := iv_iconst xm_203 xd_203_75 (by decide) hr_2519
          have rr_2523 := iv_ireturn xm_203 xd_203_76 hr_2522
          subst rr_2523
          exact ⟨_, ⟨_, em_9, ⟨_, em_22, Or.inl ⟨c_39, Or.inl ⟨c_52, Or.inl ⟨c_65, Or.inr ⟨c_78, ⟨_, em_2504, ⟨rfl, rfl⟩⟩⟩⟩⟩⟩⟩⟩, rfl, (by unfold sv_I; omega), ok_2503⟩
      · obtain ⟨n_2524, e_2525, hr_2526⟩ := iv_bipush xm_203 xd_203_45 (by decide) hr_68
        obtain ⟨n_2527, e_2528, hr_2529⟩ := iv_goto 65 xm_203 xd_203_47 (by decide) hr_2526
        obtain ⟨h_2530, ok_2531, em_2532, n_2534, e_2535, hr_2536⟩ := iv_puti (j := 20) (fk := 0) xm_203 xd_203_65 (by decide +kernel) ok_21 (rfl : sv_ty 114 = some 12) dt_12 rfl (by decide +kernel) rfl (by unfold sv_I; omega) hr_2529
        obtain ⟨n_2537, e_2538, hr_2539⟩ := iv_aload_n xm_203 xd_203_68 q0 hr_2536
        have f_2540 := dc_fi (j := 20) ok_2531 (rfl : sv_ty 114 = some 12) dt_12 rfl
        obtain ⟨n_2541, e_2542, hr_2543⟩ := iv_getf (j := 20) xm_203 xd_203_69 (by decide +kernel) ok_2531 (rfl : sv_ty 114 = some 12) dt_12 f_2540.1 hr_2539
        rcases iv_if 77 xm_203 xd_203_72 (by decide) f_2540.2 hr_2543 with ⟨c_2544, n_2545, e_2546, hr_2547⟩ | ⟨c_2544, n_2545, e_2546, hr_2547⟩
        · exact absurd (show (40 : Int) < 0 by have z := c_2544; rw [em_2532, dc_up_s] at z; exact z) (by decide)
        obtain ⟨n_2548, e_2549, hr_2550⟩ := iv_iconst xm_203 xd_203_75 (by decide) hr_2547
        have rr_2551 := iv_ireturn xm_203 xd_203_76 hr_2550
        subst rr_2551
        exact ⟨_, ⟨_, em_9, ⟨_, em_22, Or.inl ⟨c_39, Or.inl ⟨c_52, Or.inr ⟨c_65, ⟨_, em_2532, ⟨rfl, rfl⟩⟩⟩⟩⟩⟩⟩, rfl, (by unfold sv_I; omega), ok_2531⟩
    · obtain ⟨n_2552, e_2553, hr_2554⟩ := iv_bipush xm_203 xd_203_32 (by decide) hr_55
      obtain ⟨n_2555, e_2556, hr_2557⟩ := iv_goto 65 xm_203 xd_203_34 (by decide) hr_2554
      obtain ⟨h_2558, ok_2559, em_2560, n_2562, e_2563, hr_2564⟩ := iv_puti (j := 20) (fk := 0) xm_203 xd_203_65 (by decide +kernel) ok_21 (rfl : sv_ty 114 = some 12) dt_12 rfl (by decide +kernel) rfl (by unfold sv_I; omega) hr_2557
      obtain ⟨n_2565, e_2566, hr_2567⟩ := iv_aload_n xm_203 xd_203_68 q0 hr_2564
      have f_2568 := dc_fi (j := 20) ok_2559 (rfl : sv_ty 114 = some 12) dt_12 rfl
      obtain ⟨n_2569, e_2570, hr_2571⟩ := iv_getf (j := 20) xm_203 xd_203_69 (by decide +kernel) ok_2559 (rfl : sv_ty 114 = some 12) dt_12 f_2568.1 hr_2567
      rcases iv_if 77 xm_203 xd_203_72 (by decide) f_2568.2 hr_2571 with ⟨c_2572, n_2573, e_2574, hr_2575⟩ | ⟨c_2572, n_2573, e_2574, hr_2575⟩
      · exact absurd (show (20 : Int) < 0 by have z := c_2572; rw [em_2560, dc_up_s] at z; exact z) (by decide)
      obtain ⟨n_2576, e_2577, hr_2578⟩ := iv_iconst xm_203 xd_203_75 (by decide) hr_2575
      have rr_2579 := iv_ireturn xm_203 xd_203_76 hr_2578
      subst rr_2579
      exact ⟨_, ⟨_, em_9, ⟨_, em_22, Or.inl ⟨c_39, Or.inr ⟨c_52, ⟨_, em_2560, ⟨rfl, rfl⟩⟩⟩⟩⟩⟩, rfl, (by unfold sv_I; omega), ok_2559⟩
  · obtain ⟨n_2580, e_2581, hr_2582⟩ := iv_iconst xm_203 xd_203_20 (by decide) hr_42
    obtain ⟨n_2583, e_2584, hr_2585⟩ := iv_goto 65 xm_203 xd_203_21 (by decide) hr_2582
    obtain ⟨h_2586, ok_2587, em_2588, n_2590, e_2591, hr_2592⟩ := iv_puti (j := 20) (fk := 0) xm_203 xd_203_65 (by decide +kernel) ok_21 (rfl : sv_ty 114 = some 12) dt_12 rfl (by decide +kernel) rfl (by unfold sv_I; omega) hr_2585
    obtain ⟨n_2593, e_2594, hr_2595⟩ := iv_aload_n xm_203 xd_203_68 q0 hr_2592
    have f_2596 := dc_fi (j := 20) ok_2587 (rfl : sv_ty 114 = some 12) dt_12 rfl
    obtain ⟨n_2597, e_2598, hr_2599⟩ := iv_getf (j := 20) xm_203 xd_203_69 (by decide +kernel) ok_2587 (rfl : sv_ty 114 = some 12) dt_12 f_2596.1 hr_2595
    rcases iv_if 77 xm_203 xd_203_72 (by decide) f_2596.2 hr_2599 with ⟨c_2600, n_2601, e_2602, hr_2603⟩ | ⟨c_2600, n_2601, e_2602, hr_2603⟩
    · exact absurd (show (0 : Int) < 0 by have z := c_2600; rw [em_2588, dc_up_s] at z; exact z) (by decide)
    obtain ⟨n_2604, e_2605, hr_2606⟩ := iv_iconst xm_203 xd_203_75 (by decide) hr_2603
    have rr_2607 := iv_ireturn xm_203 xd_203_76 hr_2606
    subst rr_2607
    exact ⟨_, ⟨_, em_9, ⟨_, em_22, Or.inr ⟨c_39, ⟨_, em_2588, ⟨rfl, rfl⟩⟩⟩⟩⟩, rfl, (by unfold sv_I; omega), ok_2587⟩
/-! method 204 -/
theorem xm_204 : ae_m 204 = some (wk_M 204) := rfl
theorem xd_204_0 : decode (wk_M 204).2.2.1 0 = .ok (.iload_n 0, 1) := zd_by (by decide +kernel)
theorem xd_204_1 : decode (wk_M 204).2.2.1 1 = .ok (.bipush 96, 2) := zd_by (by decide +kernel)
theorem xd_204_3 : decode (wk_M 204).2.2.1 3 = .ok (.sipush 180, 3) := zd_by (by decide +kernel)
theorem xd_204_6 : decode (wk_M 204).2.2.1 6 = .ok (.invokestatic 207, 3) := zd_by (by decide +kernel)
theorem xd_204_9 : decode (wk_M 204).2.2.1 9 = .ok (.ireturn, 1) := zd_by (by decide +kernel)
abbrev D_204 (x0 : Int) (m : dc_M) (v : Int) (m' : dc_M) : Prop := ∃ v_12 m_17, D_188 x0 96 180 m v_12 m_17 ∧ (v = v_12 ∧ m' = m_17)
theorem ds_204 (n : Nat) (x0 : Int) {h : ae_H} {r : ae_R} (ok : dc_ok h) (ix0 : sv_I x0) (hr : ae_exe n 204 0 0 0 (ae_args [wk_i x0] 0) [] h = some r) : ∃ v, D_204 x0 (dc_m h) v (dc_m r.2) ∧ r.1 = some (wk_i v) ∧ sv_I v ∧ dc_ok r.2 := by
  have q0 : ae_lk (ae_args [wk_i x0] 0) 0 = some (wk_i x0) := rfl
  obtain ⟨n_1, e_2, hr_3⟩ := iv_iload_n xm_204 xd_204_0 q0 hr
  obtain ⟨n_4, e_5, hr_6⟩ := iv_bipush xm_204 xd_204_1 (by decide) hr_3
  obtain ⟨n_7, e_8, hr_9⟩ := iv_sipush xm_204 xd_204_3 (by decide) hr_6
  obtain ⟨n_19, r_10, e_20, hc_11, hr_21⟩ := iv_call (Or.inl ⟨rfl, rfl⟩) xm_204 xd_204_6 (by decide +kernel) xm_188 rfl (by decide +kernel) hr_9
  obtain ⟨v_12, d_13, er_14, iv_15, ok_16⟩ := ds_188 _ _ _ _ ok ix0 (by unfold sv_I; omega) (by unfold sv_I; omega) hc_11
  obtain ⟨_, h_18⟩ := r_10
  have er_14 : _ = some (wk_i v_12) := er_14
  subst er_14
  have hr_22 : ae_exe n_19 204 (6 + 3) 0 0 (ae_args [wk_i x0] 0) _ h_18 = some r := hr_21
  have rr_23 := iv_ireturn xm_204 xd_204_9 hr_22
  subst rr_23
  exact ⟨_, ⟨_, _, d_13, ⟨rfl, rfl⟩⟩, rfl, iv_15, ok_16⟩
/-! method 205 -/
theorem xm_205 : ae_m 205 = some (wk_M 205) := rfl
theorem xd_205_0 : decode (wk_M 205).2.2.1 0 = .ok (.iload_n 0, 1) := zd_by (by decide +kernel)
theorem xd_205_1 : decode (wk_M 205).2.2.1 1 = .ok (.invokestatic 323, 3) := zd_by (by decide +kernel)
theorem xd_205_4 : decode (wk_M 205).2.2.1 4 = .ok (.ifCond .eq 7, 3) := zd_by (by decide +kernel)
theorem xd_205_7 : decode (wk_M 205).2.2.1 7 = .ok (.iconst 1, 1) := zd_by (by decide +kernel)
theorem xd_205_8 : decode (wk_M 205).2.2.1 8 = .ok (.goto 5, 3) := zd_by (by decide +kernel)
theorem xd_205_11 : decode (wk_M 205).2.2.1 11 = .ok (.bipush 8, 2) := zd_by (by decide +kernel)
theorem xd_205_13 : decode (wk_M 205).2.2.1 13 = .ok (.ireturn, 1) := zd_by (by decide +kernel)
abbrev D_205 (x0 : Int) (m : dc_M) (v : Int) (m' : dc_M) : Prop := ∃ v_6 m_11, D_204 x0 m v_6 m_11 ∧ ((((v_6 : Int) = 0 ∧ (v = 8 ∧ m' = m_11)) ∨ (¬ ((v_6 : Int) = 0) ∧ (v = 1 ∧ m' = m_11))))
theorem ds_205 (n : Nat) (x0 : Int) {h : ae_H} {r : ae_R} (ok : dc_ok h) (ix0 : sv_I x0) (hr : ae_exe n 205 0 0 0 (ae_args [wk_i x0] 0) [] h = some r) : ∃ v, D_205 x0 (dc_m h) v (dc_m r.2) ∧ r.1 = some (wk_i v) ∧ sv_I v ∧ dc_ok r.2 := by
  have q0 : ae_lk (ae_args [wk_i x0] 0) 0 = some (wk_i x0) := rfl
  obtain ⟨n_1, e_2, hr_3⟩ := iv_iload_n xm_205 xd_205_0 q0 hr
  obtain ⟨n_13, r_4, e_14, hc_5, hr_15⟩ := iv_call (Or.inl ⟨rfl, rfl⟩) xm_205 xd_205_1 (by decide +kernel) xm_204 rfl (by decide +kernel) hr_3
  obtain ⟨v_6, d_7, er_8, iv_9, ok_10⟩ := ds_204 _ _ ok ix0 hc_5
  obtain ⟨_, h_12⟩ := r_4
  have er_8 : _ = some (wk_i v_6) := er_8
  subst er_8
  have hr_16 : ae_exe n_13 205 (1 + 3) 0 0 (ae_args [wk_i x0] 0) _ h_12 = some r := hr_15
  rcases iv_if 11 xm_205 xd_205_4 (by decide) iv_9 hr_16 with ⟨c_17, n_18, e_19, hr_20⟩ | ⟨c_17, n_18, e_19, hr_20⟩
  · obtain ⟨n_21, e_22, hr_23⟩ := iv_bipush xm_205 xd_205_11 (by decide) hr_20
    have rr_24 := iv_ireturn xm_205 xd_205_13 hr_23
    subst rr_24
    exact ⟨_, ⟨_, _, d_7, Or.inl ⟨c_17, ⟨rfl, rfl⟩⟩⟩, rfl, (by unfold sv_I; omega), ok_10⟩
  · obtain ⟨n_25, e_26, hr_27⟩ := iv_iconst xm_205 xd_205_7 (by decide) hr_20
    obtain ⟨n_28, e_29, hr_30⟩ := iv_goto 13 xm_205 xd_205_8 (by decide) hr_27
    have rr_31 := iv_ireturn xm_205 xd_205_13 hr_30
    subst rr_31
    exact ⟨_, ⟨_, _, d_7, Or.inr ⟨c_17, ⟨rfl, rfl⟩⟩⟩, rfl, (by unfold sv_I; omega), ok_10⟩
/-! method 206 -/
theorem xm_206 : ae_m 206 = some (wk_M 206) := rfl
theorem xd_206_0 : decode (wk_M 206).2.2.1 0 = .ok (.aload_n 0, 1) := zd_by (by decide +kernel)
theorem xd_206_1 : decode (wk_M 206).2.2.1 1 = .ok (.getfield 236, 3) := zd_by (by decide +kernel)
theorem xd_206_4 : decode (wk_M 206).2.2.1 4 = .ok (.iconst 1, 1) := zd_by (by decide +kernel)
theorem xd_206_5 : decode (wk_M 206).2.2.1 5 = .ok (.if_icmp .ne 14, 3) := zd_by (by decide +kernel)
theorem xd_206_8 : decode (wk_M 206).2.2.1 8 = .ok (.aload_n 0, 1) := zd_by (by decide +kernel)
theorem xd_206_9 : decode (wk_M 206).2.2.1 9 = .ok (.aload_n 0, 1) := zd_by (by decide +kernel)
theorem xd_206_10 : decode (wk_M 206).2.2.1 10 = .ok (.getfield 239, 3) := zd_by (by decide +kernel)
theorem xd_206_13 : decode (wk_M 206).2.2.1 13 = .ok (.invokevirtual 326, 3) := zd_by (by decide +kernel)
theorem xd_206_16 : decode (wk_M 206).2.2.1 16 = .ok (.ifCond .ne 15, 3) := zd_by (by decide +kernel)
theorem xd_206_19 : decode (wk_M 206).2.2.1 19 = .ok (.aload_n 0, 1) := zd_by (by decide +kernel)
theorem xd_206_20 : decode (wk_M 206).2.2.1 20 = .ok (.iconst 1, 1) := zd_by (by decide +kernel)
theorem xd_206_21 : decode (wk_M 206).2.2.1 21 = .ok (.aload_n 0, 1) := zd_by (by decide +kernel)
theorem xd_206_22 : decode (wk_M 206).2.2.1 22 = .ok (.getfield 230, 3) := zd_by (by decide +kernel)
theorem xd_206_25 : decode (wk_M 206).2.2.1 25 = .ok (.invokevirtual 258, 3) := zd_by (by decide +kernel)
theorem xd_206_28 : decode (wk_M 206).2.2.1 28 = .ok (.pop, 1) := zd_by (by decide +kernel)
theorem xd_206_29 : decode (wk_M 206).2.2.1 29 = .ok (.iconst (-1), 1) := zd_by (by decide +kernel)
theorem xd_206_30 : decode (wk_M 206).2.2.1 30 = .ok (.ireturn, 1) := zd_by (by decide +kernel)
theorem xd_206_31 : decode (wk_M 206).2.2.1 31 = .ok (.aload_n 0, 1) := zd_by (by decide +kernel)
theorem xd_206_32 : decode (wk_M 206).2.2.1 32 = .ok (.getfield 230, 3) := zd_by (by decide +kernel)
theorem xd_206_35 : decode (wk_M 206).2.2.1 35 = .ok (.istore_n 2, 1) := zd_by (by decide +kernel)
theorem xd_206_36 : decode (wk_M 206).2.2.1 36 = .ok (.aload_n 0, 1) := zd_by (by decide +kernel)
theorem xd_206_37 : decode (wk_M 206).2.2.1 37 = .ok (.getfield 282, 3) := zd_by (by decide +kernel)
theorem xd_206_40 : decode (wk_M 206).2.2.1 40 = .ok (.istore_n 3, 1) := zd_by (by decide +kernel)
theorem xd_206_41 : decode (wk_M 206).2.2.1 41 = .ok (.aload_n 0, 1) := zd_by (by decide +kernel)
theorem xd_206_42 : decode (wk_M 206).2.2.1 42 = .ok (.getfield 271, 3) := zd_by (by decide +kernel)
theorem xd_206_45 : decode (wk_M 206).2.2.1 45 = .ok (.istore 4, 2) := zd_by (by decide +kernel)
theorem xd_206_47 : decode (wk_M 206).2.2.1 47 = .ok (.aload_n 0, 1) := zd_by (by decide +kernel)
theorem xd_206_48 : decode (wk_M 206).2.2.1 48 = .ok (.getfield 268, 3) := zd_by (by decide +kernel)
theorem xd_206_51 : decode (wk_M 206).2.2.1 51 = .ok (.istore 5, 2) := zd_by (by decide +kernel)
theorem xd_206_53 : decode (wk_M 206).2.2.1 53 = .ok (.aload_n 0, 1) := zd_by (by decide +kernel)
theorem xd_206_54 : decode (wk_M 206).2.2.1 54 = .ok (.invokevirtual 262, 3) := zd_by (by decide +kernel)
theorem xd_206_57 : decode (wk_M 206).2.2.1 57 = .ok (.iload_n 3, 1) := zd_by (by decide +kernel)
theorem xd_206_58 : decode (wk_M 206).2.2.1 58 = .ok (.istore 6, 2) := zd_by (by decide +kernel)
theorem xd_206_60 : decode (wk_M 206).2.2.1 60 = .ok (.iload 4, 2) := zd_by (by decide +kernel)
theorem xd_206_62 : decode (wk_M 206).2.2.1 62 = .ok (.iconst 1, 1) := zd_by (by decide +kernel)
theorem xd_206_63 : decode (wk_M 206).2.2.1 63 = .ok (.if_icmp .le 67, 3) := zd_by (by decide +kernel)
theorem xd_206_66 : decode (wk_M 206).2.2.1 66 = .ok (.aload_n 0, 1) := zd_by (by decide +kernel)
theorem xd_206_67 : decode (wk_M 206).2.2.1 67 = .ok (.iconst 1, 1) := zd_by (by decide +kernel)
theorem xd_206_68 : decode (wk_M 206).2.2.1 68 = .ok (.iload 4, 2) := zd_by (by decide +kernel)
theorem xd_206_70 : decode (wk_M 206).2.2.1 70 = .ok (.invokevirtual 330, 3) := zd_by (by decide +kernel)
theorem xd_206_73 : decode (wk_M 206).2.2.1 73 = .ok (.ifCond .ne 5, 3) := zd_by (by decide +kernel)
theorem xd_206_76 : decode (wk_M 206).2.2.1 76 = .ok (.iconst (-1), 1) := zd_by (by decide +kernel)
theorem xd_206_77 : decode (wk_M 206).2.2.1 77 = .ok (.ireturn, 1) := zd_by (by decide +kernel)
theorem xd_206_78 : decode (wk_M 206).2.2.1 78 = .ok (.iload 6, 2) := zd_by (by decide +kernel)
theorem xd_206_80 : decode (wk_M 206).2.2.1 80 = .ok (.aload_n 0, 1) := zd_by (by decide +kernel)
theorem xd_206_81 : decode (wk_M 206).2.2.1 81 = .ok (.getfield 265, 3) := zd_by (by decide +kernel)
theorem xd_206_84 : decode (wk_M 206).2.2.1 84 = .ok (.iconst 1, 1) := zd_by (by decide +kernel)
theorem xd_206_85 : decode (wk_M 206).2.2.1 85 = .ok (.isub, 1) := zd_by (by decide +kernel)
theorem xd_206_86 : decode (wk_M 206).2.2.1 86 = .ok (.iload 5, 2) := zd_by (by decide +kernel)
theorem xd_206_88 : decode (wk_M 206).2.2.1 88 = .ok (.imul, 1) := zd_by (by decide +kernel)
theorem xd_206_89 : decode (wk_M 206).2.2.1 89 = .ok (.iadd, 1) := zd_by (by decide +kernel)
theorem xd_206_90 : decode (wk_M 206).2.2.1 90 = .ok (.istore 6, 2) := zd_by (by decide +kernel)
theorem xd_206_92 : decode (wk_M 206).2.2.1 92 = .ok (.iload 5, 2) := zd_by (by decide +kernel)
theorem xd_206_94 : decode (wk_M 206).2.2.1 94 = .ok (.iconst 1, 1) := zd_by (by decide +kernel)
theorem xd_206_95 : decode (wk_M 206).2.2.1 95 = .ok (.if_icmp .le 35, 3) := zd_by (by decide +kernel)
theorem xd_206_98 : decode (wk_M 206).2.2.1 98 = .ok (.aload_n 0, 1) := zd_by (by decide +kernel)
theorem xd_206_99 : decode (wk_M 206).2.2.1 99 = .ok (.bipush 46, 2) := zd_by (by decide +kernel)
theorem xd_206_101 : decode (wk_M 206).2.2.1 101 = .ok (.invokevirtual 333, 3) := zd_by (by decide +kernel)
theorem xd_206_104 : decode (wk_M 206).2.2.1 104 = .ok (.ifCond .eq 13, 3) := zd_by (by decide +kernel)
theorem xd_206_107 : decode (wk_M 206).2.2.1 107 = .ok (.aload_n 0, 1) := zd_by (by decide +kernel)
theorem xd_206_108 : decode (wk_M 206).2.2.1 108 = .ok (.iconst 1, 1) := zd_by (by decide +kernel)
theorem xd_206_109 : decode (wk_M 206).2.2.1 109 = .ok (.iload 5, 2) := zd_by (by decide +kernel)
theorem xd_206_111 : decode (wk_M 206).2.2.1 111 = .ok (.invokevirtual 330, 3) := zd_by (by decide +kernel)
theorem xd_206_114 : decode (wk_M 206).2.2.1 114 = .ok (.ifCond .ne 5, 3) := zd_by (by decide +kernel)
theorem xd_206_117 : decode (wk_M 206).2.2.1 117 = .ok (.iconst (-1), 1) := zd_by (by decide +kernel)
theorem xd_206_118 : decode (wk_M 206).2.2.1 118 = .ok (.ireturn, 1) := zd_by (by decide +kernel)
theorem xd_206_119 : decode (wk_M 206).2.2.1 119 = .ok (.iload 6, 2) := zd_by (by decide +kernel)
theorem xd_206_121 : decode (wk_M 206).2.2.1 121 = .ok (.aload_n 0, 1) := zd_by (by decide +kernel)
theorem xd_206_122 : decode (wk_M 206).2.2.1 122 = .ok (.getfield 265, 3) := zd_by (by decide +kernel)
theorem xd_206_125 : decode (wk_M 206).2.2.1 125 = .ok (.iconst 1, 1) := zd_by (by decide +kernel)
theorem xd_206_126 : decode (wk_M 206).2.2.1 126 = .ok (.isub, 1) := zd_by (by decide +kernel)
theorem xd_206_127 : decode (wk_M 206).2.2.1 127 = .ok (.iadd, 1) := zd_by (by decide +kernel)
theorem xd_206_128 : decode (wk_M 206).2.2.1 128 = .ok (.istore 6, 2) := zd_by (by decide +kernel)
theorem xd_206_130 : decode (wk_M 206).2.2.1 130 = .ok (.iload 6, 2) := zd_by (by decide +kernel)
theorem xd_206_132 : decode (wk_M 206).2.2.1 132 = .ok (.iload_n 1, 1) := zd_by (by decide +kernel)
theorem xd_206_133 : decode (wk_M 206).2.2.1 133 = .ok (.if_icmp .eq 18, 3) := zd_by (by decide +kernel)
theorem xd_206_136 : decode (wk_M 206).2.2.1 136 = .ok (.aload_n 0, 1) := zd_by (by decide +kernel)
theorem xd_206_137 : decode (wk_M 206).2.2.1 137 = .ok (.getfield 29, 3) := zd_by (by decide +kernel)
theorem xd_206_140 : decode (wk_M 206).2.2.1 140 = .ok (.iload 6, 2) := zd_by (by decide +kernel)
theorem xd_206_142 : decode (wk_M 206).2.2.1 142 = .ok (.iaload, 1) := zd_by (by decide +kernel)
theorem xd_206_143 : decode (wk_M 206).2.2.1 143 = .ok (.iload 6, 2) := zd_by (by decide +kernel)
theorem xd_206_145 : decode (wk_M 206).2.2.1 145 = .ok (.invokestatic 336, 3) := zd_by (by decide +kernel)
theorem xd_206_148 : decode (wk_M 206).2.2.1 148 = .ok (.if_icmp .ne 12, 3) := zd_by (by decide +kernel)
theorem xd_206_151 : decode (wk_M 206).2.2.1 151 = .ok (.aload_n 0, 1) := zd_by (by decide +kernel)
theorem xd_206_152 : decode (wk_M 206).2.2.1 152 = .ok (.iconst 3, 1) := zd_by (by decide +kernel)
theorem xd_206_153 : decode (wk_M 206).2.2.1 153 = .ok (.iload_n 2, 1) := zd_by (by decide +kernel)
theorem xd_206_154 : decode (wk_M 206).2.2.1 154 = .ok (.invokevirtual 258, 3) := zd_by (by decide +kernel)
theorem xd_206_157 : decode (wk_M 206).2.2.1 157 = .ok (.pop, 1) := zd_by (by decide +kernel)
theorem xd_206_158 : decode (wk_M 206).2.2.1 158 = .ok (.iconst (-1), 1) := zd_by (by decide +kernel)
theorem xd_206_159 : decode (wk_M 206).2.2.1 159 = .ok (.ireturn, 1) := zd_by (by decide +kernel)
theorem xd_206_160 : decode (wk_M 206).2.2.1 160 = .ok (.aload_n 0, 1) := zd_by (by decide +kernel)
theorem xd_206_161 : decode (wk_M 206).2.2.1 161 = .ok (.getfield 29, 3) := zd_by (by decide +kernel)
theorem xd_206_164 : decode (wk_M 206).2.2.1 164 = .ok (.iload 6, 2) := zd_by (by decide +kernel)
theorem xd_206_166 : decode (wk_M 206).2.2.1 166 = .ok (.dup2, 1) := zd_by (by decide +kernel)
theorem xd_206_167 : decode (wk_M 206).2.2.1 167 = .ok (.iaload, 1) := zd_by (by decide +kernel)
theorem xd_206_168 : decode (wk_M 206).2.2.1 168 = .ok (.iconst 1, 1) := zd_by (by decide +kernel)
theorem xd_206_169 : decode (wk_M 206).2.2.1 169 = .ok (.iadd, 1) := zd_by (by decide +kernel)
theorem xd_206_170 : decode (wk_M 206).2.2.1 170 = .ok (.iastore, 1) := zd_by (by decide +kernel)
theorem xd_206_171 : decode (wk_M 206).2.2.1 171 = .ok (.iload 6, 2) := zd_by (by decide +kernel)
theorem xd_206_173 : decode (wk_M 206).2.2.1 173 = .ok (.ireturn, 1) := zd_by (by decide +kernel)
abbrev D_206 (x0 : Int) (m : dc_M) (v : Int) (m' : dc_M) : Prop := ((((m 114 7) : Int) ≠ 1 ∧ (∃ v_30 m_35, D_199 1 ((m 114 8)) m v_30 m_35 ∧ (v = (-1) ∧ m' = m_35))) ∨ (¬ (((m 114 7) : Int) ≠ 1) ∧ (∃ v_60 m_65, D_203 ((m 114 13).toNat) m v_60 m_65 ∧ ((((v_60 : Int) ≠ 0 ∧ (∃ v_146 m_151, D_198 m_65 v_146 m_151 ∧ (((((m_65 114 21) : Int) ≤ 1 ∧ (((((m_65 114 20) : Int) = x0 ∧ (∃ v_203 m_208, D_199 3 ((m_65 114 8)) m_151 v_203 m_208 ∧ (v = (-1) ∧ m' = m_208))) ∨ (¬ (((m_65 114 20) : Int) = x0) ∧ ((0 ≤ ((m_65 114 20) : Int) ∧ ((m_65 114 20) : Int) < 217) ∧ (∃ v_241 m_246, D_205 ((m_65 114 20)) m_151 v_241 m_246 ∧ (((((m_151 121 (m_65 114 20)) : Int) ≠ v_241 ∧ ((0 ≤ ((m_65 114 20) : Int) ∧ ((m_65 114 20) : Int) < 217) ∧ ((0 ≤ ((m_65 114 20) : Int) ∧ ((m_65 114 20) : Int) < 217) ∧ ∃ m_284, m_284 = dc_up m_246 121 (m_65 114 20) (dc_w ((m_246 121 (m_65 114 20)) + 1)) ∧ (v = (m_65 114 20) ∧ m' = m_284)))) ∨ (¬ (((m_151 121 (m_65 114 20)) : Int) ≠ v_241) ∧ (∃ v_303 m_308, D_199 3 ((m_65 114 8)) m_246 v_303 m_308 ∧ (v = (-1) ∧ m' = m_308))))))))))) ∨ (¬ (((m_65 114 21) : Int) ≤ 1) ∧ (∃ v_332 m_337, D_201 1 ((m_65 114 21)) m_151 v_332 m_337 ∧ ((((v_332 : Int) ≠ 0 ∧ (((((m_65 114 22) : Int) ≤ 1 ∧ (((((dc_w ((m_65 114 20) + (dc_w ((dc_w ((m_337 114 14) - 1)) * (m_65 114 22))))) : Int) = x0 ∧ (∃ v_415 m_420, D_199 3 ((m_65 114 8)) m_337 v_415 m_420 ∧ (v = (-1) ∧ m' = m_420))) ∨ (¬ (((dc_w ((m_65 114 20) + (dc_w ((dc_w ((m_337 114 14) - 1)) * (m_65 114 22))))) : Int) = x0) ∧ ((0 ≤ ((dc_w ((m_65 114 20) + (dc_w ((dc_w ((m_337 114 14) - 1)) * (m_65 114 22))))) : Int) ∧ ((dc_w ((m_65 114 20) + (dc_w ((dc_w ((m_337 114 14) - 1)) * (m_65 114 22))))) : Int) < 217) ∧ (∃ v_453 m_458, D_205 ((dc_w ((m_65 114 20) + (dc_w ((dc_w ((m_337 114 14) - 1)) * (m_65 114 22)))))) m_337 v_453 m_458 ∧ (((((m_337 121 (dc_w ((m_65 114 20) + (dc_w ((dc_w ((m_337 114 14) - 1)) * (m_65 114 22)))))) : Int) ≠ v_453 ∧ ((0 ≤ ((dc_w ((m_65 114 20) + (dc_w ((dc_w ((m_337 114 14) - 1)) * (m_65 114 22))))) : Int) ∧ ((dc_w ((m_65 114 20) + (dc_w ((dc_w ((m_337 114 14) - 1)) * (m_65 114 22))))) : Int) < 217) ∧ ((0 ≤ ((dc_w ((m_65 114 20) + (dc_w ((dc_w ((m_337 114 14) - 1)) * (m_65 114 22))))) : Int) ∧ ((dc_w ((m_65 114 20) + (dc_w ((dc_w ((m_337 114 14) - 1)) * (m_65 114 22))))) : Int) < 217) ∧ ∃ m_496, m_496 = dc_up m_458 121 (dc_w ((m_65 114 20) + (dc_w ((dc_w ((m_337 114 14) - 1)) * (m_65 114 22))))) (dc_w ((m_458 121 (dc_w ((m_65 114 20) + (dc_w ((dc_w ((m_337 114 14) - 1)) * (m_65 114 22)))))) + 1)) ∧ (v = (dc_w ((m_65 114 20) + (dc_w ((dc_w ((m_337 114 14) - 1)) * (m_65 114 22))))) ∧ m' = m_496)))) ∨ (¬ (((m_337 121 (dc_w ((m_65 114 20) + (dc_w ((dc_w ((m_337 114 14) - 1)) * (m_65 114 22)))))) : Int) ≠ v_453) ∧ (∃ v_515 m_520, D_199 3 ((m_65 114 8)) m_458 v_515 m_520 ∧ (v = (-1) ∧ m' = m_520))))))))))) ∨ (¬ (((m_65 114 22) : Int) ≤ 1) ∧ (∃ v_541 m_546, D_200 46 m_337 v_541 m_546 ∧ ((((v_541 : Int) = 0 ∧ (v = (-1) ∧ m' = m_546)) ∨ (¬ ((v_541 : Int) = 0) ∧ (∃ v_571 m_576, D_201 1 ((m_65 114 22)) m_546 v_571 m_576 ∧ ((((v_571 : Int) ≠ 0 ∧ (((((dc_w ((dc_w ((m_65 114 20) + (dc_w ((dc_w ((m_337 114 14) - 1)) * (m_65 114 22))))) + (dc_w ((m_576 114 14) - 1)))) : Int) = x0 ∧ (∃ v_638 m_643, D_199 3 ((m_65 114 8)) m_576 v_638 m_643 ∧ (v = (-1) ∧ m' = m_643))) ∨ (¬ (((dc_w ((dc_w ((m_65 114 20) + (dc_w ((dc_w ((m_337 114 14) - 1)) * (m_65 114 22))))) + (dc_w ((m_576 114 14) - 1)))) : Int) = x0) ∧ ((0 ≤ ((dc_w ((dc_w ((m_65 114 20) + (dc_w ((dc_w ((m_337 114 14) - 1)) * (m_65 114 22))))) + (dc_w ((m_576 114 14) - 1)))) : Int) ∧ ((dc_w ((dc_w ((m_65 114 20) + (dc_w ((dc_w ((m_337 114 14) - 1)) * (m_65 114 22))))) + (dc_w ((m_576 114 14) - 1)))) : Int) < 217) ∧ (∃ v_676 m_681, D_205 ((dc_w ((dc_w ((m_65 114 20) + (dc_w ((dc_w ((m_337 114 14) - 1)) * (m_65 114 22))))) + (dc_w ((m_576 114 14) - 1))))) m_576 v_676 m_681 ∧ (((((m_576 121 (dc_w ((dc_w ((m_65 114 20) + (dc_w ((dc_w ((m_337 114 14) - 1)) * (m_65 114 22))))) + (dc_w ((m_576 114 14) - 1))))) : Int) ≠ v_676 ∧ ((0 ≤ ((dc_w ((dc_w ((m_65 114 20) + (dc_w ((dc_w ((m_337 114 14) - 1)) * (m_65 114 22))))) + (dc_w ((m_576 114 14) - 1)))) : Int) ∧ ((dc_w ((dc_w ((m_65 114 20) + (dc_w ((dc_w ((m_337 114 14) - 1)) * (m_65 114 22))))) + (dc_w ((m_576 114 14) - 1)))) : Int) < 217) ∧ ((0 ≤ ((dc_w ((dc_w ((m_65 114 20) + (dc_w ((dc_w ((m_337 114 14) - 1)) * (m_65 114 22))))) + (dc_w ((m_576 114 14) - 1)))) : Int) ∧ ((dc_w ((dc_w ((m_65 114 20) + (dc_w ((dc_w ((m_337 114 14) - 1)) * (m_65 114 22))))) + (dc_w ((m_576 114 14) - 1)))) : Int) < 217) ∧ ∃ m_719, m_719 = dc_up m_681 121 (dc_w ((dc_w ((m_65 114 20) + (dc_w ((dc_w ((m_337 114 14) - 1)) * (m_65 114 22))))) + (dc_w ((m_576 114 14) - 1)))) (dc_w ((m_681 121 (dc_w ((dc_w ((m_65 114 20) + (dc_w ((dc_w ((m_337 114 14) - 1)) * (m_65 114 22))))) + (dc_w ((m_576 114 14) - 1))))) + 1)) ∧ (v = (dc_w ((dc_w ((m_65 114 20) + (dc_w ((dc_w ((m_337 114 14) - 1)) * (m_65 114 22))))) + (dc_w ((m_576 114 14) - 1)))) ∧ m' = m_719)))) ∨ (¬ (((m_576 121 (dc_w ((dc_w ((m_65 114 20) + (dc_w ((dc_w ((m_337 114 14) - 1)) * (m_65 114 22))))) + (dc_w ((m_576 114 14) - 1))))) : Int) ≠ v_676) ∧ (∃ v_738 m_743, D_199 3 ((m_65 114 8)) m_681 v_738 m_743 ∧ (v = (-1) ∧ m' = m_743))))))))))) ∨ (¬ ((v_571 : Int) ≠ 0) ∧ (v = (-1) ∧ m' = m_576))))))))))))) ∨ (¬ ((v_332 : Int) ≠ 0) ∧ (v = (-1) ∧ m' = m_337)))))))))) ∨ (¬ ((v_60 : Int) ≠ 0) ∧ (∃ v_779 m_784, D_199 1 ((m_65 114 8)) m_65 v_779 m_784 ∧ (v = (-1) ∧ m' = m_784))))))))
theorem ds_206 (n : Nat) (x0 : Int) {h : ae_H} {r : ae_R} (ok : dc_ok h) (ix0 : sv_I x0) (hr : ae_exe n 206 0 0 0 (ae_args [wk_r 114, wk_i x0] 0) [] h = some r) : ∃ v, D_206 x0 (dc_m h) v (dc_m r.2) ∧ r.1 = some (wk_i v) ∧ sv_I v ∧ dc_ok r.2 := by
  have q0 : ae_lk (ae_args [wk_r 114, wk_i x0] 0) 0 = some (wk_r 114) := rfl
  have q1 : ae_lk (ae_args [wk_r 114, wk_i x0] 0) 1 = some (wk_i x0) := rfl
  obtain ⟨n_1, e_2, hr_3⟩ := iv_aload_n xm_206 xd_206_0 q0 hr
  have f_4 := dc_fi (j := 7) ok (rfl : sv_ty 114 = some 12) dt_12 rfl
  obtain ⟨n_5, e_6, hr_7⟩ := iv_getf (j := 7) xm_206 xd_206_1 (by decide +kernel) ok (rfl : sv_ty 114 = some 12) dt_12 f_4.1 hr_3
  obtain ⟨n_8, e_9, hr_10⟩ := iv_iconst xm_206 xd_206_4 (by decide) hr_7
  rcases iv_icmp 19 xm_206 xd_206_5 (by decide) f_4.2 (by unfold sv_I; omega) hr_10 with ⟨c_11, n_12, e_13, hr_14⟩ | ⟨c_11, n_12, e_13, hr_14⟩
  · obtain ⟨n_15, e_16, hr_17⟩ := iv_aload_n xm_206 xd_206_19 q0 hr_14
    obtain ⟨n_18, e_19, hr_20⟩ := iv_iconst xm_206 xd_206_20 (by decide) hr_17
    obtain ⟨n_21, e_22, hr_23⟩ := iv_aload_n xm_206 xd_206_21 q0 hr_20
    have f_24 := dc_fi (j := 8) ok (rfl : sv_ty 114 = some 12) dt_12 rfl
    obtain ⟨n_25, e_26, hr_27⟩ := iv_getf (j := 8) xm_206 xd_206_22 (by decide +kernel) ok (rfl : sv_ty 114 = some 12) dt_12 f_24.1 hr_23
    obtain ⟨n_37, r_28, e_38, hc_29, hr_39⟩ := iv_call (Or.inr ⟨rfl, rfl⟩) xm_206 xd_206_25 (by decide +kernel) xm_199 rfl (by decide +kernel) hr_27
    obtain ⟨v_30, d_31, er_32, iv_33, ok_34⟩ := ds_199 _ _ _ ok (by unfold sv_I; omega) f_24.2 hc_29
    obtain ⟨_, h_36⟩ := r_28
    have er_32 : _ = some (wk_i v_30) := er_32
    subst er_32
    have hr_40 : ae_exe n_37 206 (25 + 3) 0 0 (ae_args [wk_r 114, wk_i x0] 0) _ h_36 = some r := hr_39
    obtain ⟨n_41, e_42, hr_43⟩ := iv_pop xm_206 xd_206_28 rfl hr_40
    obtain ⟨n_44, e_45, hr_46⟩ := iv_iconst xm_206 xd_206_29 (by decide) hr_43
    have rr_47 := iv_ireturn xm_206 xd_206_30 hr_46
    subst rr_47
    exact ⟨_, Or.inl ⟨c_11, ⟨_, _, d_31, ⟨rfl, rfl⟩⟩⟩, rfl, (by unfold sv_I; omega), ok_34⟩
  · obtain ⟨n_48, e_49, hr_50⟩ := iv_aload_n xm_206 xd_206_8 q0 hr_14
    obtain ⟨n_51, e_52, hr_53⟩ := iv_aload_n xm_206 xd_206_9 q0 hr_50
    have f_54 := dc_fl (j := 13) ok (rfl : sv_ty 114 = some 12) dt_12 rfl
    obtain ⟨n_55, e_56, hr_57⟩ := iv_getf (j := 13) xm_206 xd_206_10 (by decide +kernel) ok (rfl : sv_ty 114 = some 12) dt_12 f_54.1 hr_53
    obtain ⟨n_67, r_58, e_68, hc_59, hr_69⟩ := iv_call (Or.inr ⟨rfl, rfl⟩) xm_206 xd_206_13 (by decide +kernel) xm_203 rfl (by decide +kernel) hr_57
    obtain ⟨v_60, d_61, er_62, iv_63, ok_64⟩ := ds_203 _ _ ok f_54.2 hc_59
    obtain ⟨_, h_66⟩ := r_58
    have er_62 : _ = some (wk_i v_60) := er_62
    subst er_62
    have hr_70 : ae_exe n_67 206 (13 + 3) 0 0 (ae_args [wk_r 114, wk_i x0] 0) _ h_66 = some r := hr_69
    rcases iv_if 31 xm_206 xd_206_16 (by decide) iv_63 hr_70 with ⟨c_71, n_72, e_73, hr_74⟩ | ⟨c_71, n_72, e_73, hr_74⟩
    · obtain ⟨n_75, e_76, hr_77⟩ := iv_aload_n xm_206 xd_206_31 q0 hr_74
      have f_78 := dc_fi (j := 8) ok_64 (rfl : sv_ty 114 = some 12) dt_12 rfl
      obtain ⟨n_79, e_80, hr_81⟩ := iv_getf (j := 8) xm_206 xd_206_32 (by decide +kernel) ok_64 (rfl : sv_ty 114 = some 12) dt_12 f_78.1 hr_77
      obtain ⟨lv_83, sl_82, n_84, e_85, hr_86⟩ := iv_istore_n xm_206 xd_206_35 (by decide +kernel) hr_81
      have l_87 := sl_82.2 0 _ q0 (by decide) (Or.inl rfl)
      have l_88 := sl_82.2 1 _ q1 (by decide) (Or.inl rfl)
      have l_89 := sl_82.1
      obtain ⟨n_90, e_91, hr_92⟩ := iv_aload_n xm_206 xd_206_36 l_87 hr_86
      have f_93 := dc_fi (j := 20) ok_64 (rfl : sv_ty 114 = some 12) dt_12 rfl
      obtain ⟨n_94, e_95, hr_96⟩ := iv_getf (j := 20) xm_206 xd_206_37 (by decide +kernel) ok_64 (rfl : sv_ty 114 = some 12) dt_12 f_93.1 hr_92
      obtain ⟨lv_98, sl_97, n_99, e_100, hr_101⟩ := iv_istore_n xm_206 xd_206_40 (by decide +kernel) hr_96
      have l_102 := sl_97.2 0 _ l_87 (by decide) (Or.inl rfl)
      have l_103 := sl_97.2 1 _ l_88 (by decide) (Or.inl rfl)
      have l_104 := sl_97.2 2 _ l_89 (by decide) (Or.inl rfl)
      have l_105 := sl_97.1
      obtain ⟨n_106, e_107, hr_108⟩ := iv_aload_n xm_206 xd_206_41 l_102 hr_101
      have f_109 := dc_fi (j := 21) ok_64 (rfl : sv_ty 114 = some 12) dt_12 rfl
      obtain ⟨n_110, e_111, hr_112⟩ := iv_getf (j := 21) xm_206 xd_206_42 (by decide +kernel) ok_64 (rfl : sv_ty 114 = some 12) dt_12 f_109.1 hr_108
      obtain ⟨lv_114, sl_113, n_115, e_116, hr_117⟩ := iv_istore xm_206 xd_206_45 (by decide +kernel) hr_112
      have l_118 := sl_113.2 0 _ l_102 (by decide) (Or.inl rfl)
      have l_119 := sl_113.2 1 _ l_103 (by decide) (Or.inl rfl)
      have l_120 := sl_113.2 2 _ l_104 (by decide) (Or.inl rfl)
      have l_121 := sl_113.2 3 _ l_105 (by decide) (Or.inl rfl)
      have l_122 := sl_113.1
      obtain ⟨n_123, e_124, hr_125⟩ := iv_aload_n xm_206 xd_206_47 l_118 hr_117
      have f_126 := dc_fi (j := 22) ok_64 (rfl : sv_ty 114 = some 12) dt_12 rfl
      obtain ⟨n_127, e_128, hr_129⟩ := iv_getf (j := 22) xm_206 xd_206_48 (by decide +kernel) ok_64 (rfl : sv_ty 114 = some 12) dt_12 f_126.1 hr_125
      obtain ⟨lv_131, sl_130, n_132, e_133, hr_134⟩ := iv_istore xm_206 xd_206_51 (by decide +kernel) hr_129
      have l_135 := sl_130.2 0 _ l_118 (by decide) (Or.inl rfl)
      have l_136 := sl_130.2 1 _ l_119 (by decide) (Or.inl rfl)
      have l_137 := sl_130.2 2 _ l_120 (by decide) (Or.inl rfl)
      have l_138 := sl_130.2 3 _ l_121 (by decide) (Or.inl rfl)
      have l_139 := sl_130.2 4 _ l_122 (by decide) (Or.inl rfl)
      have l_140 := sl_130.1
      obtain ⟨n_141, e_142, hr_143⟩ := iv_aload_n xm_206 xd_206_53 l_135 hr_134
      obtain ⟨n_153, r_144, e_154, hc_145, hr_155⟩ := iv_call (Or.inr ⟨rfl, rfl⟩) xm_206 xd_206_54 (by decide +kernel) xm_198 rfl (by decide +kernel) hr_143
      obtain ⟨v_146, d_147, er_148, iv_149, ok_150⟩ := ds_198 _  ok_64 hc_145
      obtain ⟨_, h_152⟩ := r_144
      have er_148 : _ = none := er_148
      subst er_148
      have hr_156 : ae_exe n_153 206 (54 + 3) 0 0 lv_131 _ h_152 = some r := hr_155
      obtain ⟨n_157, e_158, hr_159⟩ := iv_iload_n xm_206 xd_206_57 l_138 hr_156
      obtain ⟨lv_161, sl_160, n_162, e_163, hr_164⟩ := iv_istore xm_206 xd_206_58 (by decide +kernel) hr_159
      have l_165 := sl_160.2 0 _ l_135 (by decide) (Or.inl rfl)
      have l_166 := sl_160.2 1 _ l_136 (by decide) (Or.inl rfl)
      have l_167 := sl_160.2 2 _ l_137 (by decide) (Or.inl rfl)
      have l_168 := sl_160.2 3 _ l_138 (by decide) (Or.inl rfl)
      have l_169 := sl_160.2 4 _ l_139 (by decide) (Or.inl rfl)
      have l_170 := sl_160.2 5 _ l_140 (by decide) (Or.inl rfl)
      have l_171 := sl_160.1
      obtain ⟨n_172, e_173, hr_174⟩ := iv_iload xm_206 xd_206_60 l_169 hr_164
      obtain ⟨n_175, e_176, hr_177⟩ := iv_iconst xm_206 xd_206_62 (by decide) hr_174
      rcases iv_icmp 130 xm_206 xd_206_63 (by decide) f_109.2 (by unfold sv_I; omega) hr_177 with ⟨c_178, n_179, e_180, hr_181⟩ | ⟨c_178, n_179, e_180, hr_181⟩
      · obtain ⟨n_182, e_183, hr_184⟩ := iv_iload xm_206 xd_206_130 l_171 hr_181
        obtain ⟨n_185, e_186, hr_187⟩ := iv_iload_n xm_206 xd_206_132 l_166 hr_184
        rcases iv_icmp 151 xm_206 xd_206_133 (by decide) f_93.2 ix0 hr_187 with ⟨c_188, n_189, e_190, hr_191⟩ | ⟨c_188, n_189, e_190, hr_191⟩
        · obtain ⟨n_192, e_193, hr_194⟩ := iv_aload_n xm_206 xd_206_151 l_165 hr_191
          obtain ⟨n_195, e_196, hr_197⟩ := iv_iconst xm_206 xd_206_152 (by decide) hr_194
          obtain ⟨n_198, e_199, hr_200⟩ := iv_iload_n xm_206 xd_206_153 l_167 hr_197
          obtain ⟨n_210, r_201, e_211, hc_202, hr_212⟩ := iv_call (Or.inr ⟨rfl, rfl⟩) xm_206 xd_206_154 (by decide +kernel) xm_199 rfl (by decide +kernel) hr_200
          obtain ⟨v_203, d_204, er_205, iv_206, ok_207⟩ := ds_199 _ _ _ ok_150 (by unfold sv_I; omega) f_78.2 hc_202
          obtain ⟨_, h_209⟩ := r_201
          have er_205 : _ = some (wk_i v_203) := er_205
          subst er_205
          have hr_213 : ae_exe n_210 206 (154 + 3) 0 0 lv_161 _ h_209 = some r := hr_212
          obtain ⟨n_214, e_215, hr_216⟩ := iv_pop xm_206 xd_206_157 rfl hr_213
          obtain ⟨n_217, e_218, hr_219⟩ := iv_iconst xm_206 xd_206_158 (by decide) hr_216
          have rr_220 := iv_ireturn xm_206 xd_206_159 hr_219
          subst rr_220
          exact ⟨_, Or.inr ⟨c_11, ⟨_, _, d_61, Or.inl ⟨c_71, ⟨_, _, d_147, Or.inl ⟨c_178, Or.inl ⟨c_188, ⟨_, _, d_204, ⟨rfl, rfl⟩⟩⟩⟩⟩⟩⟩⟩, rfl, (by unfold sv_I; omega), ok_207⟩
        · obtain ⟨n_221, e_222, hr_223⟩ := iv_aload_n xm_206 xd_206_136 l_165 hr_191
          have f_224 := dc_fr (j := 18) ok_150 (rfl : sv_ty 114 = some 12) dt_12 rfl
          obtain ⟨n_225, e_226, hr_227⟩ := iv_getf (j := 18) xm_206 xd_206_137 (by decide +kernel) ok_150 (rfl : sv_ty 114 = some 12) dt_12 f_224 hr_223
          obtain ⟨n_228, e_229, hr_230⟩ := iv_iload xm_206 xd_206_140 l_171 hr_227
          obtain ⟨q_231, qi_232, n_233, e_234, hr_235⟩ := iv_iald xm_206 xd_206_142 ok_150 (rfl : sv_ty 121 = some 65) dt_65 (by decide) f_93.2 hr_230
          obtain ⟨n_236, e_237, hr_238⟩ := iv_iload xm_206 xd_206_143 l_171 hr_235
          obtain ⟨n_248, r_239, e_249, hc_240, hr_250⟩ := iv_call (Or.inl ⟨rfl, rfl⟩) xm_206 xd_206_145 (by decide +kernel) xm_205 rfl (by decide +kernel) hr_238
          obtain ⟨v_241, d_242, er_243, iv_244, ok_245⟩ := ds_205 _ _ ok_150 f_93.2 hc_240
          obtain ⟨_, h_247⟩ := r_239
          have er_243 : _ = some (wk_i v_241) := er_243
          subst er_243
          have hr_251 : ae_exe n_248 206 (145 + 3) 0 0 lv_161 _ h_247 = some r := hr_250
          rcases iv_icmp 160 xm_206 xd_206_148 (by decide) qi_232 iv_244 hr_251 with ⟨c_252, n_253, e_254, hr_255⟩ | ⟨c_252, n_253, e_254, hr_255⟩
          · obtain ⟨n_256, e_257, hr_258⟩ := iv_aload_n xm_206 xd_206_160 l_165 hr_255
            have f_259 := dc_fr (j := 18) ok_245 (rfl : sv_ty 114 = some 12) dt_12 rfl
            obtain ⟨n_260, e_261, hr_262⟩ := iv_getf (j := 18) xm_206 xd_206_161 (by decide +kernel) ok_245 (rfl : sv_ty 114 = some 12) dt_12 f_259 hr_258
            obtain ⟨n_263, e_264, hr_265⟩ := iv_iload xm_206 xd_206_164 l_171 hr_262
            obtain ⟨n_266, e_267, hr_268⟩ := iv_dup2 xm_206 xd_206_166 rfl rfl hr_265
            obtain ⟨q_269, qi_270, n_271, e_272, hr_273⟩ := iv_iald xm_206 xd_206_167 ok_245 (rfl : sv_ty 121 = some 65) dt_65 (by decide) f_93.2 hr_268
            obtain ⟨n_274, e_275, hr_276⟩ := iv_iconst xm_206 xd_206_168 (by decide) hr_273
            obtain ⟨n_277, e_278, hr_279⟩ := iw_iadd xm_206 xd_206_169 hr_276
            obtain ⟨q_280, h_281, ok_282, em_283, n_285, e_286, hr_287⟩ := iv_iast xm_206 xd_206_170 ok_245 (rfl : sv_ty 121 = some 65) dt_65 (by decide) f_93.2 (dc_w_I _) hr_279
            obtain ⟨n_288, e_289, hr_290⟩ := iv_iload xm_206 xd_206_171 l_171 hr_287
            have rr_291 := iv_ireturn xm_206 xd_206_173 hr_290
            subst rr_291
            exact ⟨_, Or.inr ⟨c_11, ⟨_, _, d_61, Or.inl ⟨c_71, ⟨_, _, d_147, Or.inl ⟨c_178, Or.inr ⟨c_188, ⟨q_231, ⟨_, _, d_242, Or.inl ⟨c_252, ⟨q_269, ⟨q_280, _, em_283, ⟨rfl, rfl⟩⟩⟩⟩⟩⟩⟩⟩⟩⟩⟩⟩, rfl, f_93.2, ok_282⟩
          · obtain ⟨n_292, e_293, hr_294⟩ := iv_aload_n xm_206 xd_206_151 l_165 hr_255
            obtain ⟨n_295, e_296, hr_297⟩ := iv_iconst xm_206 xd_206_152 (by decide) hr_294
            obtain ⟨n_298, e_299, hr_300⟩ := iv_iload_n xm_206 xd_206_153 l_167 hr_297
            obtain ⟨n_310, r_301, e_311, hc_302, hr_312⟩ := iv_call (Or.inr ⟨rfl, rfl⟩) xm_206 xd_206_154 (by decide +kernel) xm_199 rfl (by decide +kernel) hr_300
            obtain ⟨v_303, d_304, er_305, iv_306, ok_307⟩ := ds_199 _ _ _ ok_245 (by unfold sv_I; omega) f_78.2 hc_302
            obtain ⟨_, h_309⟩ := r_301
            have er_305 : _ = some (wk_i v_303) := er_305
            subst er_305
            have hr_313 : ae_exe n_310 206 (154 + 3) 0 0 lv_161 _ h_309 = some r := hr_312
            obtain ⟨n_314, e_315, hr_316⟩ := iv_pop xm_206 xd_206_157 rfl hr_313
            obtain ⟨n_317, e_318, hr_319⟩ := iv_iconst xm_206 xd_206_158 (by decide) hr_316
            have rr_320 := iv_ireturn xm_206 xd_206_159 hr_319
            subst rr_320
            exact ⟨_, Or.inr ⟨c_11, ⟨_, _, d_61, Or.inl ⟨c_71, ⟨_, _, d_147, Or.inl ⟨c_178, Or.inr ⟨c_188, ⟨q_231, ⟨_, _, d_242, Or.inr ⟨c_252, ⟨_, _, d_304, ⟨rfl, rfl⟩⟩⟩⟩⟩⟩⟩⟩⟩⟩⟩, rfl, (by unfold sv_I; omega), ok_307⟩
      · obtain ⟨n_321, e_322, hr_323⟩ := iv_aload_n xm_206 xd_206_66 l_165 hr_181
        obtain ⟨n_324, e_325, hr_326⟩ := iv_iconst xm_206 xd_206_67 (by decide) hr_323
        obtain ⟨n_327, e_328, hr_329⟩ := iv_iload xm_206 xd_206_68 l_169 hr_326
        obtain ⟨n_339, r_330, e_340, hc_331, hr_341⟩ := iv_call (Or.inr ⟨rfl, rfl⟩) xm_206 xd_206_70 (by decide +kernel) xm_201 rfl (by decide +kernel) hr_329
        obtain ⟨v_332, d_333, er_334, iv_335, ok_336⟩ := ds_201 _ _ _ ok_150 (by unfold sv_I; omega) f_109.2 hc_331
        obtain ⟨_, h_338⟩ := r_330
        have er_334 : _ = some (wk_i v_332) := er_334
        subst er_334
        have hr_342 : ae_exe n_339 206 (70 + 3) 0 0 lv_161 _ h_338 = some r := hr_341
        rcases iv_if 78 xm_206 xd_206_73 (by decide) iv_335 hr_342 with ⟨c_343, n_344, e_345, hr_346⟩ | ⟨c_343, n_344, e_345, hr_346⟩
        · obtain ⟨n_347, e_348, hr_349⟩ := iv_iload xm_206 xd_206_78 l_171 hr_346
          obtain ⟨n_350, e_351, hr_352⟩ := iv_aload_n xm_206 xd_206_80 l_165 hr_349
          have f_353 := dc_fi (j := 14) ok_336 (rfl : sv_ty 114 = some 12) dt_12 rfl
          obtain ⟨n_354, e_355, hr_356⟩ := iv_getf (j := 14) xm_206 xd_206_81 (by decide +kernel) ok_336 (rfl : sv_ty 114 = some 12) dt_12 f_353.1 hr_352
          obtain ⟨n_357, e_358, hr_359⟩ := iv_iconst xm_206 xd_206_84 (by decide) hr_356
          obtain ⟨n_360, e_361, hr_362⟩ := iw_isub xm_206 xd_206_85 hr_359
          obtain ⟨n_363, e_364, hr_365⟩ := iv_iload xm_206 xd_206_86 l_170 hr_362
          obtain ⟨n_366, e_367, hr_368⟩ := iw_imul xm_206 xd_206_88 hr_365
          obtain ⟨n_369, e_370, hr_371⟩ := iw_iadd xm_206 xd_206_89 hr_368
          obtain ⟨lv_373, sl_372, n_374, e_375, hr_376⟩ := iv_istore xm_206 xd_206_90 (by decide +kernel) hr_371
          have l_377 := sl_372.2 0 _ l_165 (by decide) (Or.inl rfl)
          have l_378 := sl_372.2 1 _ l_166 (by decide) (Or.inl rfl)
          have l_379 := sl_372.2 2 _ l_167 (by decide) (Or.inl rfl)
          have l_380 := sl_372.2 3 _ l_168 (by decide) (Or.inl rfl)
          have l_381 := sl_372.2 4 _ l_169 (by decide) (Or.inl rfl)
          have l_382 := sl_372.2 5 _ l_170 (by decide) (Or.inl rfl)
          have l_383 := sl_372.1
          obtain ⟨n_384, e_385, hr_386⟩ := iv_iload xm_206 xd_206_92 l_382 hr_376
          obtain ⟨n_387, e_388, hr_389⟩ := iv_iconst xm_206 xd_206_94 (by decide) hr_386
          rcases iv_icmp 130 xm_206 xd_206_95 (by decide) f_126.2 (by unfold sv_I; omega) hr_389 with ⟨c_390, n_391, e_392, hr_393⟩ | ⟨c_390, n_391, e_392, hr_393⟩
          · obtain ⟨n_394, e_395, hr_396⟩ := iv_iload xm_206 xd_206_130 l_383 hr_393
            obtain ⟨n_397, e_398, hr_399⟩ := iv_iload_n xm_206 xd_206_132 l_378 hr_396
            rcases iv_icmp 151 xm_206 xd_206_133 (by decide) (dc_w_I _) ix0 hr_399 with ⟨c_400, n_401, e_402, hr_403⟩ | ⟨c_400, n_401, e_402, hr_403⟩
            · obtain ⟨n_404, e_405, hr_406⟩ := iv_aload_n xm_206 xd_206_151 l_377 hr_403
              obtain ⟨n_407, e_408, hr_409⟩ := iv_iconst xm_206 xd_206_152 (by decide) hr_406
              obtain ⟨n_410, e_411, hr_412⟩ := iv_iload_n xm_206 xd_206_153 l_379 hr_409
              obtain ⟨n_422, r_413, e_423, hc_414, hr_424⟩ := iv_call (Or.inr ⟨rfl, rfl⟩) xm_206 xd_206_154 (by decide +kernel) xm_199 rfl (by decide +kernel) hr_412
              obtain ⟨v_415, d_416, er_417, iv_418, ok_419⟩ := ds_199 _ _ _ ok_336 (by unfold sv_I; omega) f_78.2 hc_414
              obtain ⟨_, h_421⟩ := r_413
              have er_417 : _ = some (wk_i v_415) := er_417
              subst er_417
              have hr_425 : ae_exe n_422 206 (154 + 3) 0 0 lv_373 _ h_421 = some r := hr_424
              obtain ⟨n_426, e_427, hr_428⟩ := iv_pop xm_206 xd_206_157 rfl hr_425
              obtain ⟨n_429, e_430, hr_431⟩ := iv_iconst xm_206 xd_206_158 (by decide) hr_428
              have rr_432 := iv_ireturn xm_206 xd_206_159 hr_431
              subst rr_432
              exact ⟨_, Or.inr ⟨c_11, ⟨_, _, d_61, Or.inl ⟨c_71, ⟨_, _, d_147, Or.inr ⟨c_178, ⟨_, _, d_333, Or.inl ⟨c_343, Or.inl ⟨c_390, Or.inl ⟨c_400, ⟨_, _, d_416, ⟨rfl, rfl⟩⟩⟩⟩⟩⟩⟩⟩⟩⟩⟩, rfl, (by unfold sv_I; omega), ok_419⟩
            · obtain ⟨n_433, e_434, hr_435⟩ := iv_aload_n xm_206 xd_206_136 l_377 hr_403
              have f_436 := dc_fr (j := 18) ok_336 (rfl : sv_ty 114 = some 12) dt_12 rfl
              obtain ⟨n_437, e_438, hr_439⟩ := iv_getf (j := 18) xm_206 xd_206_137 (by decide +kernel) ok_336 (rfl : sv_ty 114 = some 12) dt_12 f_436 hr_435
              obtain ⟨n_440, e_441, hr_442⟩ := iv_iload xm_206 xd_206_140 l_383 hr_439
              obtain ⟨q_443, qi_444, n_445, e_446, hr_447⟩ := iv_iald xm_206 xd_206_142 ok_336 (rfl : sv_ty 121 = some 65) dt_65 (by decide) (dc_w_I _) hr_442
              obtain ⟨n_448, e_449, hr_450⟩ := iv_iload xm_206 xd_206_143 l_383 hr_447
              obtain ⟨n_460, r_451, e_461, hc_452, hr_462⟩ := iv_call (Or.inl ⟨rfl, rfl⟩) xm_206 xd_206_145 (by decide +kernel) xm_205 rfl (by decide +kernel) hr_450
              obtain ⟨v_453, d_454, er_455, iv_456, ok_457⟩ := ds_205 _ _ ok_336 (dc_w_I _) hc_452
              obtain ⟨_, h_459⟩ := r_451
              have er_455 : _ = some (wk_i v_453) := er_455
              subst er_455
              have hr_463 : ae_exe n_460 206 (145 + 3) 0 0 lv_373 _ h_459 = some r := hr_462
              rcases iv_icmp 160 xm_206 xd_206_148 (by decide) qi_444 iv_456 hr_463 with ⟨c_464, n_465, e_466, hr_467⟩ | ⟨c_464, n_465, e_466, hr_467⟩
              · obtain ⟨n_468, e_469, hr_470⟩ := iv_aload_n xm_206 xd_206_160 l_377 hr_467
                have f_471 := dc_fr (j := 18) ok_457 (rfl : sv_ty 114 = some 12) dt_12 rfl
                obtain ⟨n_472, e_473, hr_474⟩ := iv_getf (j := 18) xm_206 xd_206_161 (by decide +kernel) ok_457 (rfl : sv_ty 114 = some 12) dt_12 f_471 hr_470
                obtain ⟨n_475, e_476, hr_477⟩ := iv_iload xm_206 xd_206_164 l_383 hr_474
                obtain ⟨n_478, e_479, hr_480⟩ := iv_dup2 xm_206 xd_206_166 rfl rfl hr_477
                obtain ⟨q_481, qi_482, n_483, e_484, hr_485⟩ := iv_iald xm_206 xd_206_167 ok_457 (rfl : sv_ty 121 = some 65) dt_65 (by decide) (dc_w_I _) hr_480
                obtain ⟨n_486, e_487, hr_488⟩ := iv_iconst xm_206 xd_206_168 (by decide) hr_485
                obtain ⟨n_489, e_490, hr_491⟩ := iw_iadd xm_206 xd_206_169 hr_488
                obtain ⟨q_492, h_493, ok_494, em_495, n_497, e_498, hr_499⟩ := iv_iast xm_206 xd_206_170 ok_457 (rfl : sv_ty 121 = some 65) dt_65 (by decide) (dc_w_I _) (dc_w_I _) hr_491
                obtain ⟨n_500, e_501, hr_502⟩ := iv_iload xm_206 xd_206_171 l_383 hr_499
                have rr_503 := iv_ireturn xm_206 xd_206_173 hr_502
                subst rr_503
                exact ⟨_, Or.inr ⟨c_11, ⟨_, _, d_61, Or.inl ⟨c_71, ⟨_, _, d_147, Or.inr ⟨c_178, ⟨_, _, d_333, Or.inl ⟨c_343, Or.inl ⟨c_390, Or.inr ⟨c_400, ⟨q_443, ⟨_, _, d_454, Or.inl ⟨c_464, ⟨q_481, ⟨q_492, _, em_495, ⟨rfl, rfl⟩⟩⟩⟩⟩⟩⟩⟩⟩⟩⟩⟩⟩⟩⟩, rfl, (dc_w_I _), ok_494⟩
              · obtain ⟨n_504, e_505, hr_506⟩ := iv_aload_n xm_206 xd_206_151 l_377 hr_467
                obtain ⟨n_507, e_508, hr_509⟩ := iv_iconst xm_206 xd_206_152 (by decide) hr_506
                obtain ⟨n_510, e_511, hr_512⟩ := iv_iload_n xm_206 xd_206_153 l_379 hr_509
                obtain ⟨n_522, r_513, e_523, hc_514, hr_524⟩ := iv_call (Or.inr ⟨rfl, rfl⟩) xm_206 xd_206_154 (by decide +kernel) xm_199 rfl (by decide +kernel) hr_512
                obtain ⟨v_515, d_516, er_517, iv_518, ok_519⟩ := ds_199 _ _ _ ok_457 (by unfold sv_I; omega) f_78.2 hc_514
                obtain ⟨_, h_521⟩ := r_513
                have er_517 : _ = some (wk_i v_515) := er_517
                subst er_517
                have hr_525 : ae_exe n_522 206 (154 + 3) 0 0 lv_373 _ h_521 = some r := hr_524
                obtain ⟨n_526, e_527, hr_528⟩ := iv_pop xm_206 xd_206_157 rfl hr_525
                obtain ⟨n_529, e_530, hr_531⟩ := iv_iconst xm_206 xd_206_158 (by decide) hr_528
                have rr_532 := iv_ireturn xm_206 xd_206_159 hr_531
                subst rr_532
                exact ⟨_, Or.inr ⟨c_11, ⟨_, _, d_61, Or.inl ⟨c_71, ⟨_, _, d_147, Or.inr ⟨c_178, ⟨_, _, d_333, Or.inl ⟨c_343, Or.inl ⟨c_390, Or.inr ⟨c_400, ⟨q_443, ⟨_, _, d_454, Or.inr ⟨c_464, ⟨_, _, d_516, ⟨rfl, rfl⟩⟩⟩⟩⟩⟩⟩⟩⟩⟩⟩⟩⟩⟩, rfl, (by unfold sv_I; omega), ok_519⟩
          · obtain ⟨n_533, e_534, hr_535⟩ := iv_aload_n xm_206 xd_206_98 l_377 hr_393
            obtain ⟨n_536, e_537, hr_538⟩ := iv_bipush xm_206 xd_206_99 (by decide) hr_535
            obtain ⟨n_548, r_539, e_549, hc_540, hr_550⟩ := iv_call (Or.inr ⟨rfl, rfl⟩) xm_206 xd_206_101 (by decide +kernel) xm_200 rfl (by decide +kernel) hr_538
            obtain ⟨v_541, d_542, er_543, iv_544, ok_545⟩ := ds_200 _ _ ok_336 (by unfold sv_I; omega) hc_540
            obtain ⟨_, h_547⟩ := r_539
            have er_543 : _ = some (wk_i v_541) := er_543
            subst er_543
            have hr_551 : ae_exe n_548 206 (101 + 3) 0 0 lv_373 _ h_547 = some r := hr_550
            rcases iv_if 117 xm_206 xd_206_104 (by decide) iv_544 hr_551 with ⟨c_552, n_553, e_554, hr_555⟩ | ⟨c_552, n_553, e_554, hr_555⟩
            · obtain ⟨n_556, e_557, hr_558⟩ := iv_iconst xm_206 xd_206_117 (by decide) hr_555
              have rr_559 := iv_ireturn xm_206 xd_206_118 hr_558
              subst rr_559
              exact ⟨_, Or.inr ⟨c_11, ⟨_, _, d_61, Or.inl ⟨c_71, ⟨_, _, d_147, Or.inr ⟨c_178, ⟨_, _, d_333, Or.inl ⟨c_343, Or.inr ⟨c_390, ⟨_, _, d_542, Or.inl ⟨c_552, ⟨rfl, rfl⟩⟩⟩⟩⟩⟩⟩⟩⟩⟩⟩, rfl, (by unfold sv_I; omega), ok_545⟩
            · obtain ⟨n_560, e_561, hr_562⟩ := iv_aload_n xm_206 xd_206_107 l_377 hr_555
              obtain ⟨n_563, e_564, hr_565⟩ := iv_iconst xm_206 xd_206_108 (by decide) hr_562
              obtain ⟨n_566, e_567, hr_568⟩ := iv_iload xm_206 xd_206_109 l_382 hr_565
              obtain ⟨n_578, r_569, e_579, hc_570, hr_580⟩ := iv_call (Or.inr ⟨rfl, rfl⟩) xm_206 xd_206_111 (by decide +kernel) xm_201 rfl (by decide +kernel) hr_568
              obtain ⟨v_571, d_572, er_573, iv_574, ok_575⟩ := ds_201 _ _ _ ok_545 (by unfold sv_I; omega) f_126.2 hc_570
              obtain ⟨_, h_577⟩ := r_569
              have er_573 : _ = some (wk_i v_571) := er_573
              subst er_573
              have hr_581 : ae_exe n_578 206 (111 + 3) 0 0 lv_373 _ h_577 = some r := hr_580
              rcases iv_if 119 xm_206 xd_206_114 (by decide) iv_574 hr_581 with ⟨c_582, n_583, e_584, hr_585⟩ | ⟨c_582, n_583, e_584, hr_585⟩
              · obtain ⟨n_586, e_587, hr_588⟩ := iv_iload xm_206 xd_206_119 l_383 hr_585
                obtain ⟨n_589, e_590, hr_591⟩ := iv_aload_n xm_206 xd_206_121 l_377 hr_588
                have f_592 := dc_fi (j := 14) ok_575 (rfl : sv_ty 114 = some 12) dt_12 rfl
                obtain ⟨n_593, e_594, hr_595⟩ := iv_getf (j := 14) xm_206 xd_206_122 (by decide +kernel) ok_575 (rfl : sv_ty 114 = some 12) dt_12 f_592.1 hr_591
                obtain ⟨n_596, e_597, hr_598⟩ := iv_iconst xm_206 xd_206_125 (by decide) hr_595
                obtain ⟨n_599, e_600, hr_601⟩ := iw_isub xm_206 xd_206_126 hr_598
                obtain ⟨n_602, e_603, hr_604⟩ := iw_iadd xm_206 xd_206_127 hr_601
                obtain ⟨lv_606, sl_605, n_607, e_608, hr_609⟩ := iv_istore xm_206 xd_206_128 (by decide +kernel) hr_604
                have l_610 := sl_605.2 0 _ l_377 (by decide) (Or.inl rfl)
                have l_611 := sl_605.2 1 _ l_378 (by decide) (Or.inl rfl)
                have l_612 := sl_605.2 2 _ l_379 (by decide) (Or.inl rfl)
                have l_613 := sl_605.2 3 _ l_380 (by decide) (Or.inl rfl)
                have l_614 := sl_605.2 4 _ l_381 (by decide) (Or.inl rfl)
                have l_615 := sl_605.2 5 _ l_382 (by decide) (Or.inl rfl)
                have l_616 := sl_605.1
                obtain ⟨n_617, e_618, hr_619⟩ := iv_iload xm_206 xd_206_130 l_616 hr_609
                obtain ⟨n_620, e_621, hr_622⟩ := iv_iload_n xm_206 xd_206_132 l_611 hr_619
                rcases iv_icmp 151 xm_206 xd_206_133 (by decide) (dc_w_I _) ix0 hr_622 with ⟨c_623, n_624, e_625, hr_626⟩ | ⟨c_623, n_624, e_625, hr_626⟩
                · obtain ⟨n_627, e_628, hr_629⟩ := iv_aload_n xm_206 xd_206_151 l_610 hr_626
                  obtain ⟨n_630, e_631, hr_632⟩ := iv_iconst xm_206 xd_206_152 (by decide) hr_629
                  obtain ⟨n_633, e_634, hr_635⟩ := iv_iload_n xm_206 xd_206_153 l_612 hr_632
                  obtain ⟨n_645, r_636, e_646, hc_637, hr_647⟩ := iv_call (Or.inr ⟨rfl, rfl⟩) xm_206 xd_206_154 (by decide +kernel) xm_199 rfl (by decide +kernel) hr_635
                  obtain ⟨v_638, d_639, er_640, iv_641, ok_642⟩ := ds_199 _ _ _ ok_575 (by unfold sv_I; omega) f_78.2 hc_637
                  obtain ⟨_, h_644⟩ := r_636
                  have er_640 : _ = some (wk_i v_638) := er_640
                  subst er_640
                  have hr_648 : ae_exe n_645 206 (154 + 3) 0 0 lv_606 _ h_644 = some r := hr_647
                  obtain ⟨n_649, e_650, hr_651⟩ := iv_pop xm_206 xd_206_157 rfl hr_648
                  obtain ⟨n_652, e_653, hr_654⟩ := iv_iconst xm_206 xd_206_158 (by decide) hr_651
                  have rr_655 := iv_ireturn xm_206 xd_206_159 hr_654
                  subst rr_655
                  exact ⟨_, Or.inr ⟨c_11, ⟨_, _, d_61, Or.inl ⟨c_71, ⟨_, _, d_147, Or.inr ⟨c_178, ⟨_, _, d_333, Or.inl ⟨c_343, Or.inr ⟨c_390, ⟨_, _, d_542, Or.inr ⟨c_552, ⟨_, _, d_572, Or.inl ⟨c_582, Or.inl ⟨c_623, ⟨_, _, d_639, ⟨rfl, rfl⟩⟩⟩⟩⟩⟩⟩⟩⟩⟩⟩⟩⟩⟩⟩, rfl, (by unfold sv_I; omega), ok_642⟩
                · obtain ⟨n_656, e_657, hr_658⟩ := iv_aload_n xm_206 xd_206_136 l_610 hr_626
                  have f_659 := dc_fr (j := 18) ok_575 (rfl : sv_ty 114 = some 12) dt_12 rfl
                  obtain ⟨n_660, e_661, hr_662⟩ := iv_getf (j := 18) xm_206 xd_206_137 (by decide +kernel) ok_575 (rfl : sv_ty 114 = some 12) dt_12 f_659 hr_658
                  obtain ⟨n_663, e_664, hr_665⟩ := iv_iload xm_206 xd_206_140 l_616 hr_662
                  obtain ⟨q_666, qi_667, n_668, e_669, hr_670⟩ := iv_iald xm_206 xd_206_142 ok_575 (rfl : sv_ty 121 = some 65) dt_65 (by decide) (dc_w_I _) hr_665
                  obtain ⟨n_671, e_672, hr_673⟩ := iv_iload xm_206 xd_206_143 l_616 hr_670
                  obtain ⟨n_683, r_674, e_684, hc_675, hr_685⟩ := iv_call (Or.inl ⟨rfl, rfl⟩) xm_206 xd_206_145 (by decide +kernel) xm_205 rfl (by decide +kernel) hr_673
                  obtain ⟨v_676, d_677, er_678, iv_679, ok_680⟩ := ds_205 _ _ ok_575 (dc_w_I _) hc_675
                  obtain ⟨_, h_682⟩ := r_674
                  have er_678 : _ = some (wk_i v_676) := er_678
                  subst er_678
                  have hr_686 : ae_exe n_683 206 (145 + 3) 0 0 lv_606 _ h_682 = some r := hr_685
                  rcases iv_icmp 160 xm_206 xd_206_148 (by decide) qi_667 iv_679 hr_686 with ⟨c_687, n_688, e_689, hr_690⟩ | ⟨c_687, n_688, e_689, hr_690⟩
                  · obtain ⟨n_691, e_692, hr_693⟩ := iv_aload_n xm_206 xd_206_160 l_610 hr_690
                    have f_694 := dc_fr (j := 18) ok_680 (rfl : sv_ty 114 = some 12) dt_12 rfl
                    obtain ⟨n_695, e_696, hr_697⟩ := iv_getf (j := 18) xm_206 xd_206_161 (by decide +kernel) ok_680 (rfl : sv_ty 114 = some 12) dt_12 f_694 hr_693
                    obtain ⟨n_698, e_699, hr_700⟩ := iv_iload xm_206 xd_206_164 l_616 hr_697
                    obtain ⟨n_701, e_702, hr_703⟩ := iv_dup2 xm_206 xd_206_166 rfl rfl hr_700
                    obtain ⟨q_704, qi_705, n_706, e_707, hr_708⟩ := iv_iald xm_206 xd_206_167 ok_680 (rfl : sv_ty 121 = some 65) dt_65 (by decide) (dc_w_I _) hr_703
                    obtain ⟨n_709, e_710, hr_711⟩ := iv_iconst xm_206 xd_206_168 (by decide) hr_708
                    obtain ⟨n_712, e_713, hr_714⟩ := iw_iadd xm_206 xd_206_169 hr_711
                    obtain ⟨q_715, h_716, ok_717, em_718, n_720, e_721, hr_722⟩ := iv_iast xm_206 xd_206_170 ok_680 (rfl : sv_ty 121 = some 65) dt_65 (by decide) (dc_w_I _) (dc_w_I _) hr_714
                    obtain ⟨n_723, e_724, hr_725⟩ := iv_iload xm_206 xd_206_171 l_616 hr_722
                    have rr_726 := iv_ireturn xm_206 xd_206_173 hr_725
                    subst rr_726
                    exact ⟨_, Or.inr ⟨c_11, ⟨_, _, d_61, Or.inl ⟨c_71, ⟨_, _, d_147, Or.inr ⟨c_178, ⟨_, _, d_333, Or.inl ⟨c_343, Or.inr ⟨c_390, ⟨_, _, d_542, Or.inr ⟨c_552, ⟨_, _, d_572, Or.inl ⟨c_582, Or.inr ⟨c_623, ⟨q_666, ⟨_, _, d_677, Or.inl ⟨c_687, ⟨q_704, ⟨q_715, _, em_718, ⟨rfl, rfl⟩⟩⟩⟩⟩⟩⟩⟩⟩⟩⟩⟩⟩⟩⟩⟩⟩⟩⟩, rfl, (dc_w_I _), ok_717⟩
                  · obtain ⟨n_727, e_728, hr_729⟩ := iv_aload_n xm_206 xd_206_151 l_610 hr_690
                    obtain ⟨n_730, e_731, hr_732⟩ := iv_iconst xm_206 xd_206_152 (by decide) hr_729
                    obtain ⟨n_733, e_734, hr_735⟩ := iv_iload_n xm_206 xd_206_153 l_612 hr_732
                    obtain ⟨n_745, r_736, e_746, hc_737, hr_747⟩ := iv_call (Or.inr ⟨rfl, rfl⟩) xm_206 xd_206_154 (by decide +kernel) xm_199 rfl (by decide +kernel) hr_735
                    obtain ⟨v_738, d_739, er_740, iv_741, ok_742⟩ := ds_199 _ _ _ ok_680 (by unfold sv_I; omega) f_78.2 hc_737
                    obtain ⟨_, h_744⟩ := r_736
                    have er_740 : _ = some (wk_i v_738) := er_740
                    subst er_740
                    have hr_748 : ae_exe n_745 206 (154 + 3) 0 0 lv_606 _ h_744 = some r := hr_747
                    obtain ⟨n_749, e_750, hr_751⟩ := iv_pop xm_206 xd_206_157 rfl hr_748
                    obtain ⟨n_752, e_753, hr_754⟩ := iv_iconst xm_206 xd_206_158 (by decide) hr_751
                    have rr_755 := iv_ireturn xm_206 xd_206_159 hr_754
                    subst rr_755
                    exact ⟨_, Or.inr ⟨c_11, ⟨_, _, d_61, Or.inl ⟨c_71, ⟨_, _, d_147, Or.inr ⟨c_178, ⟨_, _, d_333, Or.inl ⟨c_343, Or.inr ⟨c_390, ⟨_, _, d_542, Or.inr ⟨c_552, ⟨_, _, d_572, Or.inl ⟨c_582, Or.inr ⟨c_623, ⟨q_666, ⟨_, _, d_677, Or.inr ⟨c_687, ⟨_, _, d_739, ⟨rfl, rfl⟩⟩⟩⟩⟩⟩⟩⟩⟩⟩⟩⟩⟩⟩⟩⟩⟩⟩, rfl, (by unfold sv_I; omega), ok_742⟩
              · obtain ⟨n_756, e_757, hr_758⟩ := iv_iconst xm_206 xd_206_117 (by decide) hr_585
                have rr_759 := iv_ireturn xm_206 xd_206_118 hr_758
                subst rr_759
                exact ⟨_, Or.inr ⟨c_11, ⟨_, _, d_61, Or.inl ⟨c_71, ⟨_, _, d_147, Or.inr ⟨c_178, ⟨_, _, d_333, Or.inl ⟨c_343, Or.inr ⟨c_390, ⟨_, _, d_542, Or.inr ⟨c_552, ⟨_, _, d_572, Or.inr ⟨c_582, ⟨rfl, rfl⟩⟩⟩⟩⟩⟩⟩⟩⟩⟩⟩⟩⟩, rfl, (by unfold sv_I; omega), ok_575⟩
        · obtain ⟨n_760, e_761, hr_762⟩ := iv_iconst xm_206 xd_206_76 (by decide) hr_346
          have rr_763 := iv_ireturn xm_206 xd_206_77 hr_762
          subst rr_763
          exact ⟨_, Or.inr ⟨c_11, ⟨_, _, d_61, Or.inl ⟨c_71, ⟨_, _, d_147, Or.inr ⟨c_178, ⟨_, _, d_333, Or.inr ⟨c_343, ⟨rfl, rfl⟩⟩⟩⟩⟩⟩⟩⟩, rfl, (by unfold sv_I; omega), ok_336⟩
    · obtain ⟨n_764, e_765, hr_766⟩ := iv_aload_n xm_206 xd_206_19 q0 hr_74
      obtain ⟨n_767, e_768, hr_769⟩ := iv_iconst xm_206 xd_206_20 (by decide) hr_766
      obtain ⟨n_770, e_771, hr_772⟩ := iv_aload_n xm_206 xd_206_21 q0 hr_769
      have f_773 := dc_fi (j := 8) ok_64 (rfl : sv_ty 114 = some 12) dt_12 rfl
      obtain ⟨n_774, e_775, hr_776⟩ := iv_getf (j := 8) xm_206 xd_206_22 (by decide +kernel) ok_64 (rfl : sv_ty 114 = some 12) dt_12 f_773.1 hr_772
      obtain ⟨n_786, r_777, e_787, hc_778, hr_788⟩ := iv_call (Or.inr ⟨rfl, rfl⟩) xm_206 xd_206_25 (by decide +kernel) xm_199 rfl (by decide +kernel) hr_776
      obtain ⟨v_779, d_780, er_781, iv_782, ok_783⟩ := ds_199 _ _ _ ok_64 (by unfold sv_I; omega) f_773.2 hc_778
      obtain ⟨_, h_785⟩ := r_777
      have er_781 : _ = some (wk_i v_779) := er_781
      subst er_781
      have hr_789 : ae_exe n_786 206 (25 + 3) 0 0 (ae_args [wk_r 114, wk_i x0] 0) _ h_785 = some r := hr_788
      obtain ⟨n_790, e_791, hr_792⟩ := iv_pop xm_206 xd_206_28 rfl hr_789
      obtain ⟨n_793, e_794, hr_795⟩ := iv_iconst xm_206 xd_206_29 (by decide) hr_792
      have rr_796 := iv_ireturn xm_206 xd_206_30 hr_795
      subst rr_796
      exact ⟨_, Or.inr ⟨c_11, ⟨_, _, d_61, Or.inr ⟨c_71, ⟨_, _, d_780, ⟨rfl, rfl⟩⟩⟩⟩⟩, rfl, (by unfold sv_I; omega), ok_783⟩
/-! method 207 -/
theorem xm_207 : ae_m 207 = some (wk_M 207) := rfl
theorem xd_207_0 : decode (wk_M 207).2.2.1 0 = .ok (.aload_n 0, 1) := zd_by (by decide +kernel)
theorem xd_207_1 : decode (wk_M 207).2.2.1 1 = .ok (.getfield 236, 3) := zd_by (by decide +kernel)
theorem xd_207_4 : decode (wk_M 207).2.2.1 4 = .ok (.ifCond .eq 146, 3) := zd_by (by decide +kernel)
theorem xd_207_7 : decode (wk_M 207).2.2.1 7 = .ok (.aload_n 0, 1) := zd_by (by decide +kernel)
theorem xd_207_8 : decode (wk_M 207).2.2.1 8 = .ok (.getfield 236, 3) := zd_by (by decide +kernel)
theorem xd_207_11 : decode (wk_M 207).2.2.1 11 = .ok (.iconst 1, 1) := zd_by (by decide +kernel)
theorem xd_207_12 : decode (wk_M 207).2.2.1 12 = .ok (.if_icmp .ne 18, 3) := zd_by (by decide +kernel)
theorem xd_207_15 : decode (wk_M 207).2.2.1 15 = .ok (.aload_n 0, 1) := zd_by (by decide +kernel)
theorem xd_207_16 : decode (wk_M 207).2.2.1 16 = .ok (.aload_n 0, 1) := zd_by (by decide +kernel)
theorem xd_207_17 : decode (wk_M 207).2.2.1 17 = .ok (.getfield 239, 3) := zd_by (by decide +kernel)
theorem xd_207_20 : decode (wk_M 207).2.2.1 20 = .ok (.invokevirtual 326, 3) := zd_by (by decide +kernel)
theorem xd_207_23 : decode (wk_M 207).2.2.1 23 = .ok (.ifCond .eq 7, 3) := zd_by (by decide +kernel)
theorem xd_207_26 : decode (wk_M 207).2.2.1 26 = .ok (.iconst 1, 1) := zd_by (by decide +kernel)
theorem xd_207_27 : decode (wk_M 207).2.2.1 27 = .ok (.goto 4, 3) := zd_by (by decide +kernel)
theorem xd_207_30 : decode (wk_M 207).2.2.1 30 = .ok (.iconst 0, 1) := zd_by (by decide +kernel)
theorem xd_207_31 : decode (wk_M 207).2.2.1 31 = .ok (.istore_n 1, 1) := zd_by (by decide +kernel)
theorem xd_207_32 : decode (wk_M 207).2.2.1 32 = .ok (.iload_n 1, 1) := zd_by (by decide +kernel)
theorem xd_207_33 : decode (wk_M 207).2.2.1 33 = .ok (.ifCond .eq 14, 3) := zd_by (by decide +kernel)
theorem xd_207_36 : decode (wk_M 207).2.2.1 36 = .ok (.aload_n 0, 1) := zd_by (by decide +kernel)
theorem xd_207_37 : decode (wk_M 207).2.2.1 37 = .ok (.getfield 26, 3) := zd_by (by decide +kernel)
theorem xd_207_40 : decode (wk_M 207).2.2.1 40 = .ok (.iconst 1, 1) := zd_by (by decide +kernel)
theorem xd_207_41 : decode (wk_M 207).2.2.1 41 = .ok (.iaload, 1) := zd_by (by decide +kernel)
theorem xd_207_42 : decode (wk_M 207).2.2.1 42 = .ok (.bipush 60, 2) := zd_by (by decide +kernel)
theorem xd_207_44 : decode (wk_M 207).2.2.1 44 = .ok (.if_icmp .ne 21, 3) := zd_by (by decide +kernel)
theorem xd_207_47 : decode (wk_M 207).2.2.1 47 = .ok (.aload_n 0, 1) := zd_by (by decide +kernel)
theorem xd_207_48 : decode (wk_M 207).2.2.1 48 = .ok (.iload_n 1, 1) := zd_by (by decide +kernel)
theorem xd_207_49 : decode (wk_M 207).2.2.1 49 = .ok (.ifCond .eq 7, 3) := zd_by (by decide +kernel)
theorem xd_207_52 : decode (wk_M 207).2.2.1 52 = .ok (.iconst 4, 1) := zd_by (by decide +kernel)
theorem xd_207_53 : decode (wk_M 207).2.2.1 53 = .ok (.goto 4, 3) := zd_by (by decide +kernel)
theorem xd_207_56 : decode (wk_M 207).2.2.1 56 = .ok (.iconst 1, 1) := zd_by (by decide +kernel)
theorem xd_207_57 : decode (wk_M 207).2.2.1 57 = .ok (.aload_n 0, 1) := zd_by (by decide +kernel)
theorem xd_207_58 : decode (wk_M 207).2.2.1 58 = .ok (.getfield 230, 3) := zd_by (by decide +kernel)
theorem xd_207_61 : decode (wk_M 207).2.2.1 61 = .ok (.invokevirtual 258, 3) := zd_by (by decide +kernel)
theorem xd_207_64 : decode (wk_M 207).2.2.1 64 = .ok (.ireturn, 1) := zd_by (by decide +kernel)
theorem xd_207_65 : decode (wk_M 207).2.2.1 65 = .ok (.aload_n 0, 1) := zd_by (by decide +kernel)
theorem xd_207_66 : decode (wk_M 207).2.2.1 66 = .ok (.iconst (-1), 1) := zd_by (by decide +kernel)
theorem xd_207_67 : decode (wk_M 207).2.2.1 67 = .ok (.invokevirtual 339, 3) := zd_by (by decide +kernel)
theorem xd_207_70 : decode (wk_M 207).2.2.1 70 = .ok (.istore_n 2, 1) := zd_by (by decide +kernel)
theorem xd_207_71 : decode (wk_M 207).2.2.1 71 = .ok (.iload_n 2, 1) := zd_by (by decide +kernel)
theorem xd_207_72 : decode (wk_M 207).2.2.1 72 = .ok (.ifCond .lt 12, 3) := zd_by (by decide +kernel)
theorem xd_207_75 : decode (wk_M 207).2.2.1 75 = .ok (.aload_n 0, 1) := zd_by (by decide +kernel)
theorem xd_207_76 : decode (wk_M 207).2.2.1 76 = .ok (.bipush 45, 2) := zd_by (by decide +kernel)
theorem xd_207_78 : decode (wk_M 207).2.2.1 78 = .ok (.invokevirtual 333, 3) := zd_by (by decide +kernel)
theorem xd_207_81 : decode (wk_M 207).2.2.1 81 = .ok (.ifCond .ne 5, 3) := zd_by (by decide +kernel)
theorem xd_207_84 : decode (wk_M 207).2.2.1 84 = .ok (.iconst 0, 1) := zd_by (by decide +kernel)
theorem xd_207_85 : decode (wk_M 207).2.2.1 85 = .ok (.ireturn, 1) := zd_by (by decide +kernel)
theorem xd_207_86 : decode (wk_M 207).2.2.1 86 = .ok (.aload_n 0, 1) := zd_by (by decide +kernel)
theorem xd_207_87 : decode (wk_M 207).2.2.1 87 = .ok (.iload_n 2, 1) := zd_by (by decide +kernel)
theorem xd_207_88 : decode (wk_M 207).2.2.1 88 = .ok (.invokevirtual 339, 3) := zd_by (by decide +kernel)
theorem xd_207_91 : decode (wk_M 207).2.2.1 91 = .ok (.istore_n 3, 1) := zd_by (by decide +kernel)
theorem xd_207_92 : decode (wk_M 207).2.2.1 92 = .ok (.iload_n 3, 1) := zd_by (by decide +kernel)
theorem xd_207_93 : decode (wk_M 207).2.2.1 93 = .ok (.ifCond .lt 12, 3) := zd_by (by decide +kernel)
theorem xd_207_96 : decode (wk_M 207).2.2.1 96 = .ok (.aload_n 0, 1) := zd_by (by decide +kernel)
theorem xd_207_97 : decode (wk_M 207).2.2.1 97 = .ok (.bipush 59, 2) := zd_by (by decide +kernel)
theorem xd_207_99 : decode (wk_M 207).2.2.1 99 = .ok (.invokevirtual 333, 3) := zd_by (by decide +kernel)
theorem xd_207_102 : decode (wk_M 207).2.2.1 102 = .ok (.ifCond .ne 5, 3) := zd_by (by decide +kernel)
theorem xd_207_105 : decode (wk_M 207).2.2.1 105 = .ok (.iconst 0, 1) := zd_by (by decide +kernel)
theorem xd_207_106 : decode (wk_M 207).2.2.1 106 = .ok (.ireturn, 1) := zd_by (by decide +kernel)
theorem xd_207_107 : decode (wk_M 207).2.2.1 107 = .ok (.aload_n 0, 1) := zd_by (by decide +kernel)
theorem xd_207_108 : decode (wk_M 207).2.2.1 108 = .ok (.getfield 20, 3) := zd_by (by decide +kernel)
theorem xd_207_111 : decode (wk_M 207).2.2.1 111 = .ok (.bipush 60, 2) := zd_by (by decide +kernel)
theorem xd_207_113 : decode (wk_M 207).2.2.1 113 = .ok (.aload_n 0, 1) := zd_by (by decide +kernel)
theorem xd_207_114 : decode (wk_M 207).2.2.1 114 = .ok (.getfield 26, 3) := zd_by (by decide +kernel)
theorem xd_207_117 : decode (wk_M 207).2.2.1 117 = .ok (.iconst 1, 1) := zd_by (by decide +kernel)
theorem xd_207_118 : decode (wk_M 207).2.2.1 118 = .ok (.iaload, 1) := zd_by (by decide +kernel)
theorem xd_207_119 : decode (wk_M 207).2.2.1 119 = .ok (.iadd, 1) := zd_by (by decide +kernel)
theorem xd_207_120 : decode (wk_M 207).2.2.1 120 = .ok (.iload_n 2, 1) := zd_by (by decide +kernel)
theorem xd_207_121 : decode (wk_M 207).2.2.1 121 = .ok (.iastore, 1) := zd_by (by decide +kernel)
theorem xd_207_122 : decode (wk_M 207).2.2.1 122 = .ok (.aload_n 0, 1) := zd_by (by decide +kernel)
theorem xd_207_123 : decode (wk_M 207).2.2.1 123 = .ok (.getfield 23, 3) := zd_by (by decide +kernel)
theorem xd_207_126 : decode (wk_M 207).2.2.1 126 = .ok (.bipush 60, 2) := zd_by (by decide +kernel)
theorem xd_207_128 : decode (wk_M 207).2.2.1 128 = .ok (.aload_n 0, 1) := zd_by (by decide +kernel)
theorem xd_207_129 : decode (wk_M 207).2.2.1 129 = .ok (.getfield 26, 3) := zd_by (by decide +kernel)
theorem xd_207_132 : decode (wk_M 207).2.2.1 132 = .ok (.iconst 1, 1) := zd_by (by decide +kernel)
theorem xd_207_133 : decode (wk_M 207).2.2.1 133 = .ok (.iaload, 1) := zd_by (by decide +kernel)
theorem xd_207_134 : decode (wk_M 207).2.2.1 134 = .ok (.iadd, 1) := zd_by (by decide +kernel)
theorem xd_207_135 : decode (wk_M 207).2.2.1 135 = .ok (.iload_n 3, 1) := zd_by (by decide +kernel)
theorem xd_207_136 : decode (wk_M 207).2.2.1 136 = .ok (.iastore, 1) := zd_by (by decide +kernel)
theorem xd_207_137 : decode (wk_M 207).2.2.1 137 = .ok (.aload_n 0, 1) := zd_by (by decide +kernel)
theorem xd_207_138 : decode (wk_M 207).2.2.1 138 = .ok (.getfield 26, 3) := zd_by (by decide +kernel)
theorem xd_207_141 : decode (wk_M 207).2.2.1 141 = .ok (.iconst 1, 1) := zd_by (by decide +kernel)
theorem xd_207_142 : decode (wk_M 207).2.2.1 142 = .ok (.dup2, 1) := zd_by (by decide +kernel)
theorem xd_207_143 : decode (wk_M 207).2.2.1 143 = .ok (.iaload, 1) := zd_by (by decide +kernel)
theorem xd_207_144 : decode (wk_M 207).2.2.1 144 = .ok (.iconst 1, 1) := zd_by (by decide +kernel)
theorem xd_207_145 : decode (wk_M 207).2.2.1 145 = .ok (.iadd, 1) := zd_by (by decide +kernel)
theorem xd_207_146 : decode (wk_M 207).2.2.1 146 = .ok (.iastore, 1) := zd_by (by decide +kernel)
theorem xd_207_147 : decode (wk_M 207).2.2.1 147 = .ok (.goto (-147), 3) := zd_by (by decide +kernel)
theorem xd_207_150 : decode (wk_M 207).2.2.1 150 = .ok (.iconst 1, 1) := zd_by (by decide +kernel)
theorem xd_207_151 : decode (wk_M 207).2.2.1 151 = .ok (.ireturn, 1) := zd_by (by decide +kernel)
def LM_207  : Nat → Nat → dc_M → Int → dc_M → Prop
  | 0, _, _, _, _ => False
  | c + 1, tag, m, v, m' => match tag with
    | _ => ((((m 114 7) : Int) = 0 ∧ (v = 1 ∧ m' = m)) ∨ (¬ (((m 114 7) : Int) = 0) ∧ (((((m 114 7) : Int) ≠ 1 ∧ (∃ v_69 m_74, D_199 1 ((m 114 8)) m v_69 m_74 ∧ (v = v_69 ∧ m' = m_74))) ∨ (¬ (((m 114 7) : Int) ≠ 1) ∧ (∃ v_93 m_98, D_203 ((m 114 13).toNat) m v_93 m_98 ∧ ((((v_93 : Int) = 0 ∧ (∃ v_147 m_152, D_199 1 ((m_98 114 8)) m_98 v_147 m_152 ∧ (v = v_147 ∧ m' = m_152))) ∨ (¬ ((v_93 : Int) = 0) ∧ ((0 ≤ (1 : Int) ∧ (1 : Int) < 10) ∧ (((((m_98 120 1) : Int) ≠ 60 ∧ (∃ v_209 m_214, D_206 ((-1)) m_98 v_209 m_214 ∧ ((((v_209 : Int) < 0 ∧ (v = 0 ∧ m' = m_214)) ∨ (¬ ((v_209 : Int) < 0) ∧ (∃ v_247 m_252, D_200 45 m_214 v_247 m_252 ∧ ((((v_247 : Int) ≠ 0 ∧ (∃ v_270 m_275, D_206 v_209 m_252 v_270 m_275 ∧ ((((v_270 : Int) < 0 ∧ (v = 0 ∧ m' = m_275)) ∨ (¬ ((v_270 : Int) < 0) ∧ (∃ v_309 m_314, D_200 59 m_275 v_309 m_314 ∧ ((((v_309 : Int) ≠ 0 ∧ ((0 ≤ (1 : Int) ∧ (1 : Int) < 10) ∧ ((0 ≤ ((dc_w (60 + (m_314 120 1))) : Int) ∧ ((dc_w (60 + (m_314 120 1))) : Int) < 600) ∧ ∃ m_359, m_359 = dc_up m_314 118 (dc_w (60 + (m_314 120 1))) v_209 ∧ ((0 ≤ (1 : Int) ∧ (1 : Int) < 10) ∧ ((0 ≤ ((dc_w (60 + (m_359 120 1))) : Int) ∧ ((dc_w (60 + (m_359 120 1))) : Int) < 600) ∧ ∃ m_398, m_398 = dc_up m_359 119 (dc_w (60 + (m_359 120 1))) v_270 ∧ ((0 ≤ (1 : Int) ∧ (1 : Int) < 10) ∧ ((0 ≤ (1 : Int) ∧ (1 : Int) < 10) ∧ ∃ m_430, m_430 = dc_up m_398 120 1 (dc_w ((m_398 120 1) + 1)) ∧ (LM_207  c 0 m_430 v m')))))))) ∨ (¬ ((v_309 : Int) ≠ 0) ∧ (v = 0 ∧ m' = m_314)))))))))) ∨ (¬ ((v_247 : Int) ≠ 0) ∧ (v = 0 ∧ m' = m_252)))))))))) ∨ (¬ (((m_98 120 1) : Int) ≠ 60) ∧ (∃ v_470 m_475, D_199 4 ((m_98 114 8)) m_98 v_470 m_475 ∧ (v = v_470 ∧ m' = m_475)))))))))))))))
theorem lm_207_0  {c : Nat} {m : dc_M} {v : Int} {m' : dc_M} : LM_207  (c + 1) 0 m v m' ↔ ((((m 114 7) : Int) = 0 ∧ (v = 1 ∧ m' = m)) ∨ (¬ (((m 114 7) : Int) = 0) ∧ (((((m 114 7) : Int) ≠ 1 ∧ (∃ v_69 m_74, D_199 1 ((m 114 8)) m v_69 m_74 ∧ (v = v_69 ∧ m' = m_74))) ∨ (¬ (((m 114 7) : Int) ≠ 1) ∧ (∃ v_93 m_98, D_203 ((m 114 13).toNat) m v_93 m_98 ∧ ((((v_93 : Int) = 0 ∧ (∃ v_147 m_152, D_199 1 ((m_98 114 8)) m_98 v_147 m_152 ∧ (v = v_147 ∧ m' = m_152))) ∨ (¬ ((v_93 : Int) = 0) ∧ ((0 ≤ (1 : Int) ∧ (1 : Int) < 10) ∧ (((((m_98 120 1) : Int) ≠ 60 ∧ (∃ v_209 m_214, D_206 ((-1)) m_98 v_209 m_214 ∧ ((((v_209 : Int) < 0 ∧ (v = 0 ∧ m' = m_214)) ∨ (¬ ((v_209 : Int) < 0) ∧ (∃ v_247 m_252, D_200 45 m_214 v_247 m_252 ∧ ((((v_247 : Int) ≠ 0 ∧ (∃ v_270 m_275, D_206 v_209 m_252 v_270 m_275 ∧ ((((v_270 : Int) < 0 ∧ (v = 0 ∧ m' = m_275)) ∨ (¬ ((v_270 : Int) < 0) ∧ (∃ v_309 m_314, D_200 59 m_275 v_309 m_314 ∧ ((((v_309 : Int) ≠ 0 ∧ ((0 ≤ (1 : Int) ∧ (1 : Int) < 10) ∧ ((0 ≤ ((dc_w (60 + (m_314 120 1))) : Int) ∧ ((dc_w (60 + (m_314 120 1))) : Int) < 600) ∧ ∃ m_359, m_359 = dc_up m_314 118 (dc_w (60 + (m_314 120 1))) v_209 ∧ ((0 ≤ (1 : Int) ∧ (1 : Int) < 10) ∧ ((0 ≤ ((dc_w (60 + (m_359 120 1))) : Int) ∧ ((dc_w (60 + (m_359 120 1))) : Int) < 600) ∧ ∃ m_398, m_398 = dc_up m_359 119 (dc_w (60 + (m_359 120 1))) v_270 ∧ ((0 ≤ (1 : Int) ∧ (1 : Int) < 10) ∧ ((0 ≤ (1 : Int) ∧ (1 : Int) < 10) ∧ ∃ m_430, m_430 = dc_up m_398 120 1 (dc_w ((m_398 120 1) + 1)) ∧ (LM_207  c 0 m_430 v m')))))))) ∨ (¬ ((v_309 : Int) ≠ 0) ∧ (v = 0 ∧ m' = m_314)))))))))) ∨ (¬ ((v_247 : Int) ≠ 0) ∧ (v = 0 ∧ m' = m_252)))))))))) ∨ (¬ (((m_98 120 1) : Int) ≠ 60) ∧ (∃ v_470 m_475, D_199 4 ((m_98 114 8)) m_98 v_470 m_475 ∧ (v = v_470 ∧ m' = m_475))))))))))))))) := Iff.rfl
theorem dl_207   : ∀ N : Nat, (∀ (n : Nat) (lv : ae_L) (h : ae_H) (r : ae_R), n ≤ N → dc_ok h → ae_lk lv 0 = some (wk_r 114) → ae_exe n 207 0 0 0 lv [] h = some r → ∃ v, (∃ c, LM_207  c 0 (dc_m h) v (dc_m r.2)) ∧ r.1 = some (wk_i v) ∧ sv_I v ∧ dc_ok r.2) := by
  intro N
  induction N with
  | zero =>
    exact fun n lv h r hn ok q0 hr => by
      have e : n = 0 := by omega
      subst e
      cases hr
  | succ N ih =>
    have ih0 := ih
    intro n lv h r hn ok q0 hr
    obtain ⟨n_1, e_2, hr_3⟩ := iv_aload_n xm_207 xd_207_0 q0 hr
    have f_4 := dc_fi (j := 7) ok (rfl : sv_ty 114 = some 12) dt_12 rfl
    obtain ⟨n_5, e_6, hr_7⟩ := iv_getf (j := 7) xm_207 xd_207_1 (by decide +kernel) ok (rfl : sv_ty 114 = some 12) dt_12 f_4.1 hr_3
    rcases iv_if 150 xm_207 xd_207_4 (by decide) f_4.2 hr_7 with ⟨c_8, n_9, e_10, hr_11⟩ | ⟨c_8, n_9, e_10, hr_11⟩
    · obtain ⟨n_12, e_13, hr_14⟩ := iv_iconst xm_207 xd_207_150 (by decide) hr_11
      have rr_15 := iv_ireturn xm_207 xd_207_151 hr_14
      subst rr_15
      exact ⟨_, ⟨0 + 1, lm_207_0.mpr (Or.inl ⟨c_8, ⟨rfl, rfl⟩⟩)⟩, rfl, (by unfold sv_I; omega), ok⟩
    · obtain ⟨n_16, e_17, hr_18⟩ := iv_aload_n xm_207 xd_207_7 q0 hr_11
      have f_19 := dc_fi (j := 7) ok (rfl : sv_ty 114 = some 12) dt_12 rfl
      obtain ⟨n_20, e_21, hr_22⟩ := iv_getf (j := 7) xm_207 xd_207_8 (by decide +kernel) ok (rfl : sv_ty 114 = some 12) dt_12 f_19.1 hr_18
      obtain ⟨n_23, e_24, hr_25⟩ := iv_iconst xm_207 xd_207_11 (by decide) hr_22
      rcases iv_icmp 30 xm_207 xd_207_12 (by decide) f_19.2 (by unfold sv_I; omega) hr_25 with ⟨c_26, n_27, e_28, hr_29⟩ | ⟨c_26, n_27, e_28, hr_29⟩
      · obtain ⟨n_30, e_31, hr_32⟩ := iv_iconst xm_207 xd_207_30 (by decide) hr_29
        obtain ⟨lv_34, sl_33, n_35, e_36, hr_37⟩ := iv_istore_n xm_207 xd_207_31 (by decide +kernel) hr_32
        have l_38 := sl_33.2 0 _ q0 (by decide) (Or.inl rfl)
        have l_39 := sl_33.1
        obtain ⟨n_40, e_41, hr_42⟩ := iv_iload_n xm_207 xd_207_32 l_39 hr_37
        rcases iv_if 47 xm_207 xd_207_33 (by decide) (by unfold sv_I; omega) hr_42 with ⟨c_43, n_44, e_45, hr_46⟩ | ⟨c_43, n_44, e_45, hr_46⟩
        rotate_left
        · exact absurd (show ¬ ((0 : Int) = 0) from c_43) (by decide)
        obtain ⟨n_47, e_48, hr_49⟩ := iv_aload_n xm_207 xd_207_47 l_38 hr_46
        obtain ⟨n_50, e_51, hr_52⟩ := iv_iload_n xm_207 xd_207_48 l_39 hr_49
        rcases iv_if 56 xm_207 xd_207_49 (by decide) (by unfold sv_I; omega) hr_52 with ⟨c_53, n_54, e_55, hr_56⟩ | ⟨c_53, n_54, e_55, hr_56⟩
        rotate_left
        · exact absurd (show ¬ ((0 : Int) = 0) from c_53) (by decide)
        obtain ⟨n_57, e_58, hr_59⟩ := iv_iconst xm_207 xd_207_56 (by decide) hr_56
        obtain ⟨n_60, e_61, hr_62⟩ := iv_aload_n xm_207 xd_207_57 l_38 hr_59
        have f_63 := dc_fi (j := 8) ok (rfl : sv_ty 114 = some 12) dt_12 rfl
        obtain ⟨n_64, e_65, hr_66⟩ := iv_getf (j := 8) xm_207 xd_207_58 (by decide +kernel) ok (rfl : sv_ty 114 = some 12) dt_12 f_63.1 hr_62
        obtain ⟨n_76, r_67, e_77, hc_68, hr_78⟩ := iv_call (Or.inr ⟨rfl, rfl⟩) xm_207 xd_207_61 (by decide +kernel) xm_199 rfl (by decide +kernel) hr_66
        obtain ⟨v_69, d_70, er_71, iv_72, ok_73⟩ := ds_199 _ _ _ ok (by unfold sv_I; omega) f_63.2 hc_68
        obtain ⟨_, h_75⟩ := r_67
        have er_71 : _ = some (wk_i v_69) := er_71
        subst er_71
        have hr_79 : ae_exe n_76 207 (61 + 3) 0 0 lv_34 _ h_75 = some r := hr_78
        have rr_80 := iv_ireturn xm_207 xd_207_64 hr_79
        subst rr_80
        exact ⟨_, ⟨0 + 1, lm_207_0.mpr (Or.inr ⟨c_8, Or.inl ⟨c_26, ⟨_, _, d_70, ⟨rfl, rfl⟩⟩⟩⟩)⟩, rfl, iv_72, ok_73⟩
      · obtain ⟨n_81, e_82, hr_83⟩ := iv_aload_n xm_207 xd_207_15 q0 hr_29
        obtain ⟨n_84, e_85, hr_86⟩ := iv_aload_n xm_207 xd_207_16 q0 hr_83
        have f_87 := dc_fl (j := 13) ok (rfl : sv_ty 114 = some 12) dt_12 rfl
        obtain ⟨n_88, e_89, hr_90⟩ := iv_getf (j := 13) xm_207 xd_207_17 (by decide +kernel) ok (rfl : sv_ty 114 = some 12) dt_12 f_87.1 hr_86
        obtain ⟨n_100, r_91, e_101, hc_92, hr_102⟩ := iv_call (Or.inr ⟨rfl, rfl⟩) xm_207 xd_207_20 (by decide +kernel) xm_203 rfl (by decide +kernel) hr_90
        obtain ⟨v_93, d_94, er_95, iv_96, ok_97⟩ := ds_203 _ _ ok f_87.2 hc_92
        obtain ⟨_, h_99⟩ := r_91
        have er_95 : _ = some (wk_i v_93) := er_95
        subst er_95
        have hr_103 : ae_exe n_100 207 (20 + 3) 0 0 lv _ h_99 = some r := hr_102
        rcases iv_if 30 xm_207 xd_207_23 (by decide) iv_96 hr_103 with ⟨c_104, n_105, e_106, hr_107⟩ | ⟨c_104, n_105, e_106, hr_107⟩
        · obtain ⟨n_108, e_109, hr_110⟩ := iv_iconst xm_207 xd_207_30 (by decide) hr_107
          obtain ⟨lv_112, sl_111, n_113, e_114, hr_115⟩ := iv_istore_n xm_207 xd_207_31 (by decide +kernel) hr_110
          have l_116 := sl_111.2 0 _ q0 (by decide) (Or.inl rfl)
          have l_117 := sl_111.1
          obtain ⟨n_118, e_119, hr_120⟩ := iv_iload_n xm_207 xd_207_32 l_117 hr_115
          rcases iv_if 47 xm_207 xd_207_33 (by decide) (by unfold sv_I; omega) hr_120 with ⟨c_121, n_122, e_123, hr_124⟩ | ⟨c_121, n_122, e_123, hr_124⟩
          rotate_left
          · exact absurd (show ¬ ((0 : Int) = 0) from c_121) (by decide)
          obtain ⟨n_125, e_126, hr_127⟩ := iv_aload_n xm_207 xd_207_47 l_116 hr_124
          obtain ⟨n_128, e_129, hr_130⟩ := iv_iload_n xm_207 xd_207_48 l_117 hr_127
          rcases iv_if 56 xm_207 xd_207_49 (by decide) (by unfold sv_I; omega) hr_130 with ⟨c_131, n_132, e_133, hr_134⟩ | ⟨c_131, n_132, e_133, hr_134⟩
          rotate_left
          · exact absurd (show ¬ ((0 : Int) = 0) from c_131) (by decide)
          obtain ⟨n_135, e_136, hr_137⟩ := iv_iconst xm_207 xd_207_56 (by decide) hr_134
          obtain ⟨n_138, e_139, hr_140⟩ := iv_aload_n xm_207 xd_207_57 l_116 hr_137
          have f_141 := dc_fi (j := 8) ok_97 (rfl : sv_ty 114 = some 12) dt_12 rfl
          obtain ⟨n_142, e_143, hr_144⟩ := iv_getf (j := 8) xm_207 xd_207_58 (by decide +kernel) ok_97 (rfl : sv_ty 114 = some 12) dt_12 f_141.1 hr_140
          obtain ⟨n_154, r_145, e_155, hc_146, hr_156⟩ := iv_call (Or.inr ⟨rfl, rfl⟩) xm_207 xd_207_61 (by decide +kernel) xm_199 rfl (by decide +kernel) hr_144
          obtain ⟨v_147, d_148, er_149, iv_150, ok_151⟩ := ds_199 _ _ _ ok_97 (by unfold sv_I; omega) f_141.2 hc_146
          obtain ⟨_, h_153⟩ := r_145
          have er_149 : _ = some (wk_i v_147) := er_149
          subst er_149
          have hr_157 : ae_exe n_154 207 (61 + 3) 0 0 lv_112 _ h_153 = some r := hr_156
          have rr_158 := iv_ireturn xm_207 xd_207_64 hr_157
          subst rr_158
          exact ⟨_, ⟨0 + 1, lm_207_0.mpr (Or.inr ⟨c_8, Or.inr ⟨c_26, ⟨_, _, d_94, Or.inl ⟨c_104, ⟨_, _, d_148, ⟨rfl, rfl⟩⟩⟩⟩⟩⟩)⟩, rfl, iv_150, ok_151⟩
        · obtain ⟨n_159, e_160, hr_161⟩ := iv_iconst xm_207 xd_207_26 (by decide) hr_107
          obtain ⟨n_162, e_163, hr_164⟩ := iv_goto 31 xm_207 xd_207_27 (by decide) hr_161
          obtain ⟨lv_166, sl_165, n_167, e_168, hr_169⟩ := iv_istore_n xm_207 xd_207_31 (by decide +kernel) hr_164
          have l_170 := sl_165.2 0 _ q0 (by decide) (Or.inl rfl)
          have l_171 := sl_165.1
          obtain ⟨n_172, e_173, hr_174⟩ := iv_iload_n xm_207 xd_207_32 l_171 hr_169
          rcases iv_if 47 xm_207 xd_207_33 (by decide) (by unfold sv_I; omega) hr_174 with ⟨c_175, n_176, e_177, hr_178⟩ | ⟨c_175, n_176, e_177, hr_178⟩
          · exact absurd (show (1 : Int) = 0 from c_175) (by decide)
          obtain ⟨n_179, e_180, hr_181⟩ := iv_aload_n xm_207 xd_207_36 l_170 hr_178
          have f_182 := dc_fr (j := 17) ok_97 (rfl : sv_ty 114 = some 12) dt_12 rfl
          obtain ⟨n_183, e_184, hr_185⟩ := iv_getf (j := 17) xm_207 xd_207_37 (by decide +kernel) ok_97 (rfl : sv_ty 114 = some 12) dt_12 f_182 hr_181
          obtain ⟨n_186, e_187, hr_188⟩ := iv_iconst xm_207 xd_207_40 (by decide) hr_185
          obtain ⟨q_189, qi_190, n_191, e_192, hr_193⟩ := iv_iald xm_207 xd_207_41 ok_97 (rfl : sv_ty 120 = some 64) dt_64 (by decide) (by unfold sv_I; omega) hr_188
          obtain ⟨n_194, e_195, hr_196⟩ := iv_bipush xm_207 xd_207_42 (by decide) hr_193
          rcases iv_icmp 65 xm_207 xd_207_44 (by decide) qi_190 (by unfold sv_I; omega) hr_196 with ⟨c_197, n_198, e_199, hr_200⟩ | ⟨c_197, n_198, e_199, hr_200⟩
          · obtain ⟨n_201, e_202, hr_203⟩ := iv_aload_n xm_207 xd_207_65 l_170 hr_200
            obtain ⟨n_204, e_205, hr_206⟩ := iv_iconst xm_207 xd_207_66 (by decide) hr_203
            obtain ⟨n_216, r_207, e_217, hc_208, hr_218⟩ := iv_call (Or.inr ⟨rfl, rfl⟩) xm_207 xd_207_67 (by decide +kernel) xm_206 rfl (by decide +kernel) hr_206
            obtain ⟨v_209, d_210, er_211, iv_212, ok_213⟩ := ds_206 _ _ ok_97 (by unfold sv_I; omega) hc_208
            obtain ⟨_, h_215⟩ := r_207
            have er_211 : _ = some (wk_i v_209) := er_211
            subst er_211
            have hr_219 : ae_exe n_216 207 (67 + 3) 0 0 lv_166 _ h_215 = some r := hr_218
            obtain ⟨lv_221, sl_220, n_222, e_223, hr_224⟩ := iv_istore_n xm_207 xd_207_70 (by decide +kernel) hr_219
            have l_225 := sl_220.2 0 _ l_170 (by decide) (Or.inl rfl)
            have l_226 := sl_220.2 1 _ l_171 (by decide) (Or.inl rfl)
            have l_227 := sl_220.1
            obtain ⟨n_228, e_229, hr_230⟩ := iv_iload_n xm_207 xd_207_71 l_227 hr_224
            rcases iv_if 84 xm_207 xd_207_72 (by decide) iv_212 hr_230 with ⟨c_231, n_232, e_233, hr_234⟩ | ⟨c_231, n_232, e_233, hr_234⟩
            · obtain ⟨n_235, e_236, hr_237⟩ := iv_iconst xm_207 xd_207_84 (by decide) hr_234
              have rr_238 := iv_ireturn xm_207 xd_207_85 hr_237
              subst rr_238
              exact ⟨_, ⟨0 + 1, lm_207_0.mpr (Or.inr ⟨c_8, Or.inr ⟨c_26, ⟨_, _, d_94, Or.inr ⟨c_104, ⟨q_189, Or.inl ⟨c_197, ⟨_, _, d_210, Or.inl ⟨c_231, ⟨rfl, rfl⟩⟩⟩⟩⟩⟩⟩⟩⟩)⟩, rfl, (by unfold sv_I; omega), ok_213⟩
            · obtain ⟨n_239, e_240, hr_241⟩ := iv_aload_n xm_207 xd_207_75 l_225 hr_234
              obtain ⟨n_242, e_243, hr_244⟩ := iv_bipush xm_207 xd_207_76 (by decide) hr_241
              obtain ⟨n_254, r_245, e_255, hc_246, hr_256⟩ := iv_call (Or.inr ⟨rfl, rfl⟩) xm_207 xd_207_78 (by decide +kernel) xm_200 rfl (by decide +kernel) hr_244
              obtain ⟨v_247, d_248, er_249, iv_250, ok_251⟩ := ds_200 _ _ ok_213 (by unfold sv_I; omega) hc_246
              obtain ⟨_, h_253⟩ := r_245
              have er_249 : _ = some (wk_i v_247) := er_249
              subst er_249
              have hr_257 : ae_exe n_254 207 (78 + 3) 0 0 lv_221 _ h_253 = some r := hr_256
              rcases iv_if 86 xm_207 xd_207_81 (by decide) iv_250 hr_257 with ⟨c_258, n_259, e_260, hr_261⟩ | ⟨c_258, n_259, e_260, hr_261⟩
              · obtain ⟨n_262, e_263, hr_264⟩ := iv_aload_n xm_207 xd_207_86 l_225 hr_261
                obtain ⟨n_265, e_266, hr_267⟩ := iv_iload_n xm_207 xd_207_87 l_227 hr_264
                obtain ⟨n_277, r_268, e_278, hc_269, hr_279⟩ := iv_call (Or.inr ⟨rfl, rfl⟩) xm_207 xd_207_88 (by decide +kernel) xm_206 rfl (by decide +kernel) hr_267
                obtain ⟨v_270, d_271, er_272, iv_273, ok_274⟩ := ds_206 _ _ ok_251 iv_212 hc_269
                obtain ⟨_, h_276⟩ := r_268
                have er_272 : _ = some (wk_i v_270) := er_272
                subst er_272
                have hr_280 : ae_exe n_277 207 (88 + 3) 0 0 lv_221 _ h_276 = some r := hr_279
                obtain ⟨lv_282, sl_281, n_283, e_284, hr_285⟩ := iv_istore_n xm_207 xd_207_91 (by decide +kernel) hr_280
                have l_286 := sl_281.2 0 _ l_225 (by decide) (Or.inl rfl)
                have l_287 := sl_281.2 1 _ l_226 (by decide) (Or.inl rfl)
                have l_288 := sl_281.2 2 _ l_227 (by decide) (Or.inl rfl)
                have l_289 := sl_281.1
                obtain ⟨n_290, e_291, hr_292⟩ := iv_iload_n xm_207 xd_207_92 l_289 hr_285
                rcases iv_if 105 xm_207 xd_207_93 (by decide) iv_273 hr_292 with ⟨c_293, n_294, e_295, hr_296⟩ | ⟨c_293, n_294, e_295, hr_296⟩
                · obtain ⟨n_297, e_298, hr_299⟩ := iv_iconst xm_207 xd_207_105 (by decide) hr_296
                  have rr_300 := iv_ireturn xm_207 xd_207_106 hr_299
                  subst rr_300
                  exact ⟨_, ⟨0 + 1, lm_207_0.mpr (Or.inr ⟨c_8, Or.inr ⟨c_26, ⟨_, _, d_94, Or.inr ⟨c_104, ⟨q_189, Or.inl ⟨c_197, ⟨_, _, d_210, Or.inr ⟨c_231, ⟨_, _, d_248, Or.inl ⟨c_258, ⟨_, _, d_271, Or.inl ⟨c_293, ⟨rfl, rfl⟩⟩⟩⟩⟩⟩⟩⟩⟩⟩⟩⟩⟩)⟩, rfl, (by unfold sv_I; omega), ok_274⟩
                · obtain ⟨n_301, e_302, hr_303⟩ := iv_aload_n xm_207 xd_207_96 l_286 hr_296
                  obtain ⟨n_304, e_305, hr_306⟩ := iv_bipush xm_207 xd_207_97 (by decide) hr_303
                  obtain ⟨n_316, r_307, e_317, hc_308, hr_318⟩ := iv_call (Or.inr ⟨rfl, rfl⟩) xm_207 xd_207_99 (by decide +kernel) xm_200 rfl (by decide +kernel) hr_306
                  obtain ⟨v_309, d_310, er_311, iv_312, ok_313⟩ := ds_200 _ _ ok_274 (by unfold sv_I; omega) hc_308
                  obtain ⟨_, h_315⟩ := r_307
                  have er_311 : _ = some (wk_i v_309) := er_311
                  subst er_311
                  have hr_319 : ae_exe n_316 207 (99 + 3) 0 0 lv_282 _ h_315 = some r := hr_318
                  rcases iv_if 107 xm_207 xd_207_102 (by decide) iv_312 hr_319 with ⟨c_320, n_321, e_322, hr_323⟩ | ⟨c_320, n_321, e_322, hr_323⟩
                  · obtain ⟨n_324, e_325, hr_326⟩ := iv_aload_n xm_207 xd_207_107 l_286 hr_323
                    have f_327 := dc_fr (j := 15) ok_313 (rfl : sv_ty 114 = some 12) dt_12 rfl
                    obtain ⟨n_328, e_329, hr_330⟩ := iv_getf (j := 15) xm_207 xd_207_108 (by decide +kernel) ok_313 (rfl : sv_ty 114 = some 12) dt_12 f_327 hr_326
                    obtain ⟨n_331, e_332, hr_333⟩ := iv_bipush xm_207 xd_207_111 (by decide) hr_330
                    obtain ⟨n_334, e_335, hr_336⟩ := iv_aload_n xm_207 xd_207_113 l_286 hr_333
                    have f_337 := dc_fr (j := 17) ok_313 (rfl : sv_ty 114 = some 12) dt_12 rfl
                    obtain ⟨n_338, e_339, hr_340⟩ := iv_getf (j := 17) xm_207 xd_207_114 (by decide +kernel) ok_313 (rfl : sv_ty 114 = some 12) dt_12 f_337 hr_336
                    obtain ⟨n_341, e_342, hr_343⟩ := iv_iconst xm_207 xd_207_117 (by decide) hr_340
                    obtain ⟨q_344, qi_345, n_346, e_347, hr_348⟩ := iv_iald xm_207 xd_207_118 ok_313 (rfl : sv_ty 120 = some 64) dt_64 (by decide) (by unfold sv_I; omega) hr_343
                    obtain ⟨n_349, e_350, hr_351⟩ := iw_iadd xm_207 xd_207_119 hr_348
                    obtain ⟨n_352, e_353, hr_354⟩ := iv_iload_n xm_207 xd_207_120 l_288 hr_351
                    obtain ⟨q_355, h_356, ok_357, em_358, n_360, e_361, hr_362⟩ := iv_iast xm_207 xd_207_121 ok_313 (rfl : sv_ty 118 = some 63) dt_63 (by decide) (dc_w_I _) iv_212 hr_354
                    obtain ⟨n_363, e_364, hr_365⟩ := iv_aload_n xm_207 xd_207_122 l_286 hr_362
                    have f_366 := dc_fr (j := 16) ok_357 (rfl : sv_ty 114 = some 12) dt_12 rfl
                    obtain ⟨n_367, e_368, hr_369⟩ := iv_getf (j := 16) xm_207 xd_207_123 (by decide +kernel) ok_357 (rfl : sv_ty 114 = some 12) dt_12 f_366 hr_365
                    obtain ⟨n_370, e_371, hr_372⟩ := iv_bipush xm_207 xd_207_126 (by decide) hr_369
                    obtain ⟨n_373, e_374, hr_375⟩ := iv_aload_n xm_207 xd_207_128 l_286 hr_372
                    have f_376 := dc_fr (j := 17) ok_357 (rfl : sv_ty 114 = some 12) dt_12 rfl
                    obtain ⟨n_377, e_378, hr_379⟩ := iv_getf (j := 17) xm_207 xd_207_129 (by decide +kernel) ok_357 (rfl : sv_ty 114 = some 12) dt_12 f_376 hr_375
                    obtain ⟨n_380, e_381, hr_382⟩ := iv_iconst xm_207 xd_207_132 (by decide) hr_379
                    obtain ⟨q_383, qi_384, n_385, e_386, hr_387⟩ := iv_iald xm_207 xd_207_133 ok_357 (rfl : sv_ty 120 = some 64) dt_64 (by decide) (by unfold sv_I; omega) hr_382
                    obtain ⟨n_388, e_389, hr_390⟩ := iw_iadd xm_207 xd_207_134 hr_387
                    obtain ⟨n_391, e_392, hr_393⟩ := iv_iload_n xm_207 xd_207_135 l_289 hr_390
                    obtain ⟨q_394, h_395, ok_396, em_397, n_399, e_400, hr_401⟩ := iv_iast xm_207 xd_207_136 ok_357 (rfl : sv_ty 119 = some 63) dt_63 (by decide) (dc_w_I _) iv_273 hr_393
                    obtain ⟨n_402, e_403, hr_404⟩ := iv_aload_n xm_207 xd_207_137 l_286 hr_401
                    have f_405 := dc_fr (j := 17) ok_396 (rfl : sv_ty 114 = some 12) dt_12 rfl
                    obtain ⟨n_406, e_407, hr_408⟩ := iv_getf (j := 17) xm_207 xd_207_138 (by decide +kernel) ok_396 (rfl : sv_ty 114 = some 12) dt_12 f_405 hr_404
                    obtain ⟨n_409, e_410, hr_411⟩ := iv_iconst xm_207 xd_207_141 (by decide) hr_408
                    obtain ⟨n_412, e_413, hr_414⟩ := iv_dup2 xm_207 xd_207_142 rfl rfl hr_411
                    obtain ⟨q_415, qi_416, n_417, e_418, hr_419⟩ := iv_iald xm_207 xd_207_143 ok_396 (rfl : sv_ty 120 = some 64) dt_64 (by decide) (by unfold sv_I; omega) hr_414
                    obtain ⟨n_420, e_421, hr_422⟩ := iv_iconst xm_207 xd_207_144 (by decide) hr_419
                    obtain ⟨n_423, e_424, hr_425⟩ := iw_iadd xm_207 xd_207_145 hr_422
                    obtain ⟨q_426, h_427, ok_428, em_429, n_431, e_432, hr_433⟩ := iv_iast xm_207 xd_207_146 ok_396 (rfl : sv_ty 120 = some 64) dt_64 (by decide) (by unfold sv_I; omega) (dc_w_I _) hr_425
                    obtain ⟨n_434, e_435, hr_436⟩ := iv_goto 0 xm_207 xd_207_147 (by decide) hr_433
                    obtain ⟨v, ⟨c, hL⟩, e1, e2, e3⟩ := ih0 _ lv_282 h_427 _  (by omega) ok_428  l_286 hr_436
                    exact ⟨v, ⟨c + 1, lm_207_0.mpr (Or.inr ⟨c_8, Or.inr ⟨c_26, ⟨_, _, d_94, Or.inr ⟨c_104, ⟨q_189, Or.inl ⟨c_197, ⟨_, _, d_210, Or.inr ⟨c_231, ⟨_, _, d_248, Or.inl ⟨c_258, ⟨_, _, d_271, Or.inr ⟨c_293, ⟨_, _, d_310, Or.inl ⟨c_320, ⟨q_344, ⟨q_355, _, em_358, ⟨q_383, ⟨q_394, _, em_397, ⟨q_415, ⟨q_426, _, em_429, hL⟩⟩⟩⟩⟩⟩⟩⟩⟩⟩⟩⟩⟩⟩⟩⟩⟩⟩⟩⟩)⟩, e1, e2, e3⟩
                  · obtain ⟨n_437, e_438, hr_439⟩ := iv_iconst xm_207 xd_207_105 (by decide) hr_323
                    have rr_440 := iv_ireturn xm_207 xd_207_106 hr_439
                    subst rr_440
                    exact ⟨_, ⟨0 + 1, lm_207_0.mpr (Or.inr ⟨c_8, Or.inr ⟨c_26, ⟨_, _, d_94, Or.inr ⟨c_104, ⟨q_189, Or.inl ⟨c_197, ⟨_, _, d_210, Or.inr ⟨c_231, ⟨_, _, d_248, Or.inl ⟨c_258, ⟨_, _, d_271, Or.inr ⟨c_293, ⟨_, _, d_310, Or.inr ⟨c_320, ⟨rfl, rfl⟩⟩⟩⟩⟩⟩⟩⟩⟩⟩⟩⟩⟩⟩⟩)⟩, rfl, (by unfold sv_I; omega), ok_313⟩
              · obtain ⟨n_441, e_442, hr_443⟩ := iv_iconst xm_207 xd_207_84 (by decide) hr_261
                have rr_444 := iv_ireturn xm_207 xd_207_85 hr_443
                subst rr_444
                exact ⟨_, ⟨0 + 1, lm_207_0.mpr (Or.inr ⟨c_8, Or.inr ⟨c_26, ⟨_, _, d_94, Or.inr ⟨c_104, ⟨q_189, Or.inl ⟨c_197, ⟨_, _, d_210, Or.inr ⟨c_231, ⟨_, _, d_248, Or.inr ⟨c_258, ⟨rfl, rfl⟩⟩⟩⟩⟩⟩⟩⟩⟩⟩⟩)⟩, rfl, (by unfold sv_I; omega), ok_251⟩
          · obtain ⟨n_445, e_446, hr_447⟩ := iv_aload_n xm_207 xd_207_47 l_170 hr_200
            obtain ⟨n_448, e_449, hr_450⟩ := iv_iload_n xm_207 xd_207_48 l_171 hr_447
            rcases iv_if 56 xm_207 xd_207_49 (by decide) (by unfold sv_I; omega) hr_450 with ⟨c_451, n_452, e_453, hr_454⟩ | ⟨c_451, n_452, e_453, hr_454⟩
            · exact absurd (show (1 : Int) = 0 from c_451) (by decide)
            obtain ⟨n_455, e_456, hr_457⟩ := iv_iconst xm_207 xd_207_52 (by decide) hr_454
            obtain ⟨n_458, e_459, hr_460⟩ := iv_goto 57 xm_207 xd_207_53 (by decide) hr_457
            obtain ⟨n_461, e_462, hr_463⟩ := iv_aload_n xm_207 xd_207_57 l_170 hr_460
            have f_464 := dc_fi (j := 8) ok_97 (rfl : sv_ty 114 = some 12) dt_12 rfl
            obtain ⟨n_465, e_466, hr_467⟩ := iv_getf (j := 8) xm_207 xd_207_58 (by decide +kernel) ok_97 (rfl : sv_ty 114 = some 12) dt_12 f_464.1 hr_463
            obtain ⟨n_477, r_468, e_478, hc_469, hr_479⟩ := iv_call (Or.inr ⟨rfl, rfl⟩) xm_207 xd_207_61 (by decide +kernel) xm_199 rfl (by decide +kernel) hr_467
            obtain ⟨v_470, d_471, er_472, iv_473, ok_474⟩ := ds_199 _ _ _ ok_97 (by unfold sv_I; omega) f_464.2 hc_469
            obtain ⟨_, h_476⟩ := r_468
            have er_472 : _ = some (wk_i v_470) := er_472
            subst er_472
            have hr_480 : ae_exe n_477 207 (61 + 3) 0 0 lv_166 _ h_476 = some r := hr_479
            have rr_481 := iv_ireturn xm_207 xd_207_64 hr_480
            subst rr_481
            exact ⟨_, ⟨0 + 1, lm_207_0.mpr (Or.inr ⟨c_8, Or.inr ⟨c_26, ⟨_, _, d_94, Or.inr ⟨c_104, ⟨q_189, Or.inr ⟨c_197, ⟨_, _, d_471, ⟨rfl, rfl⟩⟩⟩⟩⟩⟩⟩⟩)⟩, rfl, iv_473, ok_474⟩
abbrev D_207  (m : dc_M) (v : Int) (m' : dc_M) : Prop := ∃ c, LM_207  c 0 m v m'
theorem ds_207 (n : Nat)  {h : ae_H} {r : ae_R} (ok : dc_ok h)  (hr : ae_exe n 207 0 0 0 (ae_args [wk_r 114] 0) [] h = some r) : ∃ v, D_207  (dc_m h) v (dc_m r.2) ∧ r.1 = some (wk_i v) ∧ sv_I v ∧ dc_ok r.2 := by
  have q0 : ae_lk (ae_args [wk_r 114] 0) 0 = some (wk_r 114) := rfl
  obtain ⟨v, ⟨c, hL⟩, e1, e2, e3⟩ := (dl_207  _) _ (ae_args [wk_r 114] 0) h _  (Nat.le_refl _) ok  q0 hr
  exact ⟨v, ⟨_, hL⟩, e1, e2, e3⟩
/-! method 208 -/
theorem xm_208 : ae_m 208 = some (wk_M 208) := rfl
theorem xd_208_0 : decode (wk_M 208).2.2.1 0 = .ok (.aload_n 0, 1) := zd_by (by decide +kernel)
theorem xd_208_1 : decode (wk_M 208).2.2.1 1 = .ok (.getfield 26, 3) := zd_by (by decide +kernel)
theorem xd_208_4 : decode (wk_M 208).2.2.1 4 = .ok (.iload_n 2, 1) := zd_by (by decide +kernel)
theorem xd_208_5 : decode (wk_M 208).2.2.1 5 = .ok (.aload_n 0, 1) := zd_by (by decide +kernel)
theorem xd_208_6 : decode (wk_M 208).2.2.1 6 = .ok (.getfield 26, 3) := zd_by (by decide +kernel)
theorem xd_208_9 : decode (wk_M 208).2.2.1 9 = .ok (.iload_n 1, 1) := zd_by (by decide +kernel)
theorem xd_208_10 : decode (wk_M 208).2.2.1 10 = .ok (.iaload, 1) := zd_by (by decide +kernel)
theorem xd_208_11 : decode (wk_M 208).2.2.1 11 = .ok (.iastore, 1) := zd_by (by decide +kernel)
theorem xd_208_12 : decode (wk_M 208).2.2.1 12 = .ok (.iconst 0, 1) := zd_by (by decide +kernel)
theorem xd_208_13 : decode (wk_M 208).2.2.1 13 = .ok (.istore_n 3, 1) := zd_by (by decide +kernel)
theorem xd_208_14 : decode (wk_M 208).2.2.1 14 = .ok (.iload_n 3, 1) := zd_by (by decide +kernel)
theorem xd_208_15 : decode (wk_M 208).2.2.1 15 = .ok (.bipush 60, 2) := zd_by (by decide +kernel)
theorem xd_208_17 : decode (wk_M 208).2.2.1 17 = .ok (.if_icmp .ge 53, 3) := zd_by (by decide +kernel)
theorem xd_208_20 : decode (wk_M 208).2.2.1 20 = .ok (.aload_n 0, 1) := zd_by (by decide +kernel)
theorem xd_208_21 : decode (wk_M 208).2.2.1 21 = .ok (.getfield 20, 3) := zd_by (by decide +kernel)
theorem xd_208_24 : decode (wk_M 208).2.2.1 24 = .ok (.bipush 60, 2) := zd_by (by decide +kernel)
theorem xd_208_26 : decode (wk_M 208).2.2.1 26 = .ok (.iload_n 2, 1) := zd_by (by decide +kernel)
theorem xd_208_27 : decode (wk_M 208).2.2.1 27 = .ok (.imul, 1) := zd_by (by decide +kernel)
theorem xd_208_28 : decode (wk_M 208).2.2.1 28 = .ok (.iload_n 3, 1) := zd_by (by decide +kernel)
theorem xd_208_29 : decode (wk_M 208).2.2.1 29 = .ok (.iadd, 1) := zd_by (by decide +kernel)
theorem xd_208_30 : decode (wk_M 208).2.2.1 30 = .ok (.aload_n 0, 1) := zd_by (by decide +kernel)
theorem xd_208_31 : decode (wk_M 208).2.2.1 31 = .ok (.getfield 20, 3) := zd_by (by decide +kernel)
theorem xd_208_34 : decode (wk_M 208).2.2.1 34 = .ok (.bipush 60, 2) := zd_by (by decide +kernel)
theorem xd_208_36 : decode (wk_M 208).2.2.1 36 = .ok (.iload_n 1, 1) := zd_by (by decide +kernel)
theorem xd_208_37 : decode (wk_M 208).2.2.1 37 = .ok (.imul, 1) := zd_by (by decide +kernel)
theorem xd_208_38 : decode (wk_M 208).2.2.1 38 = .ok (.iload_n 3, 1) := zd_by (by decide +kernel)
theorem xd_208_39 : decode (wk_M 208).2.2.1 39 = .ok (.iadd, 1) := zd_by (by decide +kernel)
theorem xd_208_40 : decode (wk_M 208).2.2.1 40 = .ok (.iaload, 1) := zd_by (by decide +kernel)
theorem xd_208_41 : decode (wk_M 208).2.2.1 41 = .ok (.iastore, 1) := zd_by (by decide +kernel)
theorem xd_208_42 : decode (wk_M 208).2.2.1 42 = .ok (.aload_n 0, 1) := zd_by (by decide +kernel)
theorem xd_208_43 : decode (wk_M 208).2.2.1 43 = .ok (.getfield 23, 3) := zd_by (by decide +kernel)
theorem xd_208_46 : decode (wk_M 208).2.2.1 46 = .ok (.bipush 60, 2) := zd_by (by decide +kernel)
theorem xd_208_48 : decode (wk_M 208).2.2.1 48 = .ok (.iload_n 2, 1) := zd_by (by decide +kernel)
theorem xd_208_49 : decode (wk_M 208).2.2.1 49 = .ok (.imul, 1) := zd_by (by decide +kernel)
theorem xd_208_50 : decode (wk_M 208).2.2.1 50 = .ok (.iload_n 3, 1) := zd_by (by decide +kernel)
theorem xd_208_51 : decode (wk_M 208).2.2.1 51 = .ok (.iadd, 1) := zd_by (by decide +kernel)
theorem xd_208_52 : decode (wk_M 208).2.2.1 52 = .ok (.aload_n 0, 1) := zd_by (by decide +kernel)
theorem xd_208_53 : decode (wk_M 208).2.2.1 53 = .ok (.getfield 23, 3) := zd_by (by decide +kernel)
theorem xd_208_56 : decode (wk_M 208).2.2.1 56 = .ok (.bipush 60, 2) := zd_by (by decide +kernel)
theorem xd_208_58 : decode (wk_M 208).2.2.1 58 = .ok (.iload_n 1, 1) := zd_by (by decide +kernel)
theorem xd_208_59 : decode (wk_M 208).2.2.1 59 = .ok (.imul, 1) := zd_by (by decide +kernel)
theorem xd_208_60 : decode (wk_M 208).2.2.1 60 = .ok (.iload_n 3, 1) := zd_by (by decide +kernel)
theorem xd_208_61 : decode (wk_M 208).2.2.1 61 = .ok (.iadd, 1) := zd_by (by decide +kernel)
theorem xd_208_62 : decode (wk_M 208).2.2.1 62 = .ok (.iaload, 1) := zd_by (by decide +kernel)
theorem xd_208_63 : decode (wk_M 208).2.2.1 63 = .ok (.iastore, 1) := zd_by (by decide +kernel)
theorem xd_208_64 : decode (wk_M 208).2.2.1 64 = .ok (.iinc 3 1, 3) := zd_by (by decide +kernel)
theorem xd_208_67 : decode (wk_M 208).2.2.1 67 = .ok (.goto (-53), 3) := zd_by (by decide +kernel)
theorem xd_208_70 : decode (wk_M 208).2.2.1 70 = .ok (.return_, 1) := zd_by (by decide +kernel)
def LM_208 (x0 : Int) (x1 : Int) : Nat → Nat → Int → dc_M → Int → dc_M → Prop
  | 0, _, _, _, _, _ => False
  | c + 1, tag, l3, m, v, m' => match tag with
    | _ => (((l3 : Int) ≥ 60 ∧ (v = 0 ∧ m' = m)) ∨ (¬ ((l3 : Int) ≥ 60) ∧ ((0 ≤ ((dc_w ((dc_w (60 * x0)) + l3)) : Int) ∧ ((dc_w ((dc_w (60 * x0)) + l3)) : Int) < 600) ∧ ((0 ≤ ((dc_w ((dc_w (60 * x1)) + l3)) : Int) ∧ ((dc_w ((dc_w (60 * x1)) + l3)) : Int) < 600) ∧ ∃ m_65, m_65 = dc_up m 118 (dc_w ((dc_w (60 * x1)) + l3)) (m 118 (dc_w ((dc_w (60 * x0)) + l3))) ∧ ((0 ≤ ((dc_w ((dc_w (60 * x0)) + l3)) : Int) ∧ ((dc_w ((dc_w (60 * x0)) + l3)) : Int) < 600) ∧ ((0 ≤ ((dc_w ((dc_w (60 * x1)) + l3)) : Int) ∧ ((dc_w ((dc_w (60 * x1)) + l3)) : Int) < 600) ∧ ∃ m_122, m_122 = dc_up m_65 119 (dc_w ((dc_w (60 * x1)) + l3)) (m_65 119 (dc_w ((dc_w (60 * x0)) + l3))) ∧ (LM_208 x0 x1 c 14 (dc_w (l3 + 1)) m_122 v m')))))))
theorem lm_208_14 {x0 : Int} {x1 : Int} {c : Nat} {l3 : Int} {m : dc_M} {v : Int} {m' : dc_M} : LM_208 x0 x1 (c + 1) 14 l3 m v m' ↔ (((l3 : Int) ≥ 60 ∧ (v = 0 ∧ m' = m)) ∨ (¬ ((l3 : Int) ≥ 60) ∧ ((0 ≤ ((dc_w ((dc_w (60 * x0)) + l3)) : Int) ∧ ((dc_w ((dc_w (60 * x0)) + l3)) : Int) < 600) ∧ ((0 ≤ ((dc_w ((dc_w (60 * x1)) + l3)) : Int) ∧ ((dc_w ((dc_w (60 * x1)) + l3)) : Int) < 600) ∧ ∃ m_65, m_65 = dc_up m 118 (dc_w ((dc_w (60 * x1)) + l3)) (m 118 (dc_w ((dc_w (60 * x0)) + l3))) ∧ ((0 ≤ ((dc_w ((dc_w (60 * x0)) + l3)) : Int) ∧ ((dc_w ((dc_w (60 * x0)) + l3)) : Int) < 600) ∧ ((0 ≤ ((dc_w ((dc_w (60 * x1)) + l3)) : Int) ∧ ((dc_w ((dc_w (60 * x1)) + l3)) : Int) < 600) ∧ ∃ m_122, m_122 = dc_up m_65 119 (dc_w ((dc_w (60 * x1)) + l3)) (m_65 119 (dc_w ((dc_w (60 * x0)) + l3))) ∧ (LM_208 x0 x1 c 14 (dc_w (l3 + 1)) m_122 v m'))))))) := Iff.rfl
theorem dl_208 {x0 : Int} {x1 : Int} (ix0 : sv_I x0) (ix1 : sv_I x1) : ∀ N : Nat, (∀ (n : Nat) (lv : ae_L) (h : ae_H) (r : ae_R) (l3 : Int), n ≤ N → dc_ok h → sv_I l3 → ae_lk lv 0 = some (wk_r 114) → ae_lk lv 1 = some (wk_i x0) → ae_lk lv 2 = some (wk_i x1) → ae_lk lv 3 = some (wk_i l3) → ae_exe n 208 14 0 0 lv [] h = some r → ∃ v, (∃ c, LM_208 x0 x1 c 14 l3 (dc_m h) v (dc_m r.2)) ∧ r.1 = none ∧ sv_I v ∧ dc_ok r.2) := by
  intro N
  induction N with
  | zero =>
    exact fun n lv h r l3 hn ok il3 q0 q1 q2 q3 hr => by
      have e : n = 0 := by omega
      subst e
      cases hr
  | succ N ih =>
    have ih0 := ih
    intro n lv h r l3 hn ok il3 q0 q1 q2 q3 hr
    obtain ⟨n_1, e_2, hr_3⟩ := iv_iload_n xm_208 xd_208_14 q3 hr
    obtain ⟨n_4, e_5, hr_6⟩ := iv_bipush xm_208 xd_208_15 (by decide) hr_3
    rcases iv_icmp 70 xm_208 xd_208_17 (by decide) il3 (by unfold sv_I; omega) hr_6 with ⟨c_7, n_8, e_9, hr_10⟩ | ⟨c_7, n_8, e_9, hr_10⟩
    · have rr_11 := iv_return xm_208 xd_208_70 hr_10 rfl
      subst rr_11
      exact ⟨_, ⟨0 + 1, lm_208_14.mpr (Or.inl ⟨c_7, ⟨rfl, rfl⟩⟩)⟩, rfl, (by unfold sv_I; omega), ok⟩
    · obtain ⟨n_12, e_13, hr_14⟩ := iv_aload_n xm_208 xd_208_20 q0 hr_10
      have f_15 := dc_fr (j := 15) ok (rfl : sv_ty 114 = some 12) dt_12 rfl
      obtain ⟨n_16, e_17, hr_18⟩ := iv_getf (j := 15) xm_208 xd_208_21 (by decide +kernel) ok (rfl : sv_ty 114 = some 12) dt_12 f_15 hr_14
      obtain ⟨n_19, e_20, hr_21⟩ := iv_bipush xm_208 xd_208_24 (by decide) hr_18
      obtain ⟨n_22, e_23, hr_24⟩ := iv_iload_n xm_208 xd_208_26 q2 hr_21
      obtain ⟨n_25, e_26, hr_27⟩ := iw_imul xm_208 xd_208_27 hr_24
      obtain ⟨n_28, e_29, hr_30⟩ := iv_iload_n xm_208 xd_208_28 q3 hr_27
      obtain ⟨n_31, e_32, hr_33⟩ := iw_iadd xm_208 xd_208_29 hr_30
      obtain ⟨n_34, e_35, hr_36⟩ := iv_aload_n xm_208 xd_208_30 q0 hr_33
      have f_37 := dc_fr (j := 15) ok (rfl : sv_ty 114 = some 12) dt_12 rfl
      obtain ⟨n_38, e_39, hr_40⟩ := iv_getf (j := 15) xm_208 xd_208_31 (by decide +kernel) ok (rfl : sv_ty 114 = some 12) dt_12 f_37 hr_36
      obtain ⟨n_41, e_42, hr_43⟩ := iv_bipush xm_208 xd_208_34 (by decide) hr_40
      obtain ⟨n_44, e_45, hr_46⟩ := iv_iload_n xm_208 xd_208_36 q1 hr_43
      obtain ⟨n_47, e_48, hr_49⟩ := iw_imul xm_208 xd_208_37 hr_46
      obtain ⟨n_50, e_51, hr_52⟩ := iv_iload_n xm_208 xd_208_38 q3 hr_49
      obtain ⟨n_53, e_54, hr_55⟩ := iw_iadd xm_208 xd_208_39 hr_52
      obtain ⟨q_56, qi_57, n_58, e_59, hr_60⟩ := iv_iald xm_208 xd_208_40 ok (rfl : sv_ty 118 = some 63) dt_63 (by decide) (dc_w_I _) hr_55
      obtain ⟨q_61, h_62, ok_63, em_64, n_66, e_67, hr_68⟩ := iv_iast xm_208 xd_208_41 ok (rfl : sv_ty 118 = some 63) dt_63 (by decide) (dc_w_I _) qi_57 hr_60
      obtain ⟨n_69, e_70, hr_71⟩ := iv_aload_n xm_208 xd_208_42 q0 hr_68
      have f_72 := dc_fr (j := 16) ok_63 (rfl : sv_ty 114 = some 12) dt_12 rfl
      obtain ⟨n_73, e_74, hr_75⟩ := iv_getf (j := 16) xm_208 xd_208_43 (by decide +kernel) ok_63 (rfl : sv_ty 114 = some 12) dt_12 f_72 hr_71
      obtain ⟨n_76, e_77, hr_78⟩ := iv_bipush xm_208 xd_208_46 (by decide) hr_75
      obtain ⟨n_79, e_80, hr_81⟩ := iv_iload_n xm_208 xd_208_48 q2 hr_78
      obtain ⟨n_82, e_83, hr_84⟩ := iw_imul xm_208 xd_208_49 hr_81
      obtain ⟨n_85, e_86, hr_87⟩ := iv_iload_n xm_208 xd_208_50 q3 hr_84
      obtain ⟨n_88, e_89, hr_90⟩ := iw_iadd xm_208 xd_208_51 hr_87
      obtain ⟨n_91, e_92, hr_93⟩ := iv_aload_n xm_208 xd_208_52 q0 hr_90
      have f_94 := dc_fr (j := 16) ok_63 (rfl : sv_ty 114 = some 12) dt_12 rfl
      obtain ⟨n_95, e_96, hr_97⟩ := iv_getf (j := 16) xm_208 xd_208_53 (by decide +kernel) ok_63 (rfl : sv_ty 114 = some 12) dt_12 f_94 hr_93
      obtain ⟨n_98, e_99, hr_100⟩ := iv_bipush xm_208 xd_208_56 (by decide) hr_97
      obtain ⟨n_101, e_102, hr_103⟩ := iv_iload_n xm_208 xd_208_58 q1 hr_100
      obtain ⟨n_104, e_105, hr_106⟩ := iw_imul xm_208 xd_208_59 hr_103
      obtain ⟨n_107, e_108, hr_109⟩ := iv_iload_n xm_208 xd_208_60 q3 hr_106
      obtain ⟨n_110, e_111, hr_112⟩ := iw_iadd xm_208 xd_208_61 hr_109
      obtain ⟨q_113, qi_114, n_115, e_116, hr_117⟩ := iv_iald xm_208 xd_208_62 ok_63 (rfl : sv_ty 119 = some 63) dt_63 (by decide) (dc_w_I _) hr_112
      obtain ⟨q_118, h_119, ok_120, em_121, n_123, e_124, hr_125⟩ := iv_iast xm_208 xd_208_63 ok_63 (rfl : sv_ty 119 = some 63) dt_63 (by decide) (dc_w_I _) qi_114 hr_117
      obtain ⟨lv_127, sl_126, n_128, e_129, hr_130⟩ := iw_iinc xm_208 xd_208_64 (by decide +kernel) (by decide) q3 hr_125
      have l_131 := sl_126.2 0 _ q0 (by decide) (Or.inl rfl)
      have l_132 := sl_126.2 1 _ q1 (by decide) (Or.inl rfl)
      have l_133 := sl_126.2 2 _ q2 (by decide) (Or.inl rfl)
      have l_134 := sl_126.1
      obtain ⟨n_135, e_136, hr_137⟩ := iv_goto 14 xm_208 xd_208_67 (by decide) hr_130
      obtain ⟨v, ⟨c, hL⟩, e1, e2, e3⟩ := ih0 _ lv_127 h_119 _ _ (by omega) ok_120 (dc_w_I _) l_131 l_132 l_133 l_134 hr_137
      exact ⟨v, ⟨c + 1, lm_208_14.mpr (Or.inr ⟨c_7, ⟨q_56, ⟨q_61, _, em_64, ⟨q_113, ⟨q_118, _, em_121, hL⟩⟩⟩⟩⟩)⟩, e1, e2, e3⟩
abbrev D_208 (x0 : Int) (x1 : Int) (m : dc_M) (v : Int) (m' : dc_M) : Prop := (0 ≤ (x0 : Int) ∧ (x0 : Int) < 10) ∧ ((0 ≤ (x1 : Int) ∧ (x1 : Int) < 10) ∧ ∃ m_167, m_167 = dc_up m 120 x1 (m 120 x0) ∧ (∃ c, LM_208 x0 x1 c 14 0 m_167 v m'))
theorem ds_208 (n : Nat) (x0 : Int) (x1 : Int) {h : ae_H} {r : ae_R} (ok : dc_ok h) (ix0 : sv_I x0) (ix1 : sv_I x1) (hr : ae_exe n 208 0 0 0 (ae_args [wk_r 114, wk_i x0, wk_i x1] 0) [] h = some r) : ∃ v, D_208 x0 x1 (dc_m h) v (dc_m r.2) ∧ r.1 = none ∧ sv_I v ∧ dc_ok r.2 := by
  have q0 : ae_lk (ae_args [wk_r 114, wk_i x0, wk_i x1] 0) 0 = some (wk_r 114) := rfl
  have q1 : ae_lk (ae_args [wk_r 114, wk_i x0, wk_i x1] 0) 1 = some (wk_i x0) := rfl
  have q2 : ae_lk (ae_args [wk_r 114, wk_i x0, wk_i x1] 0) 2 = some (wk_i x1) := rfl
  obtain ⟨n_138, e_139, hr_140⟩ := iv_aload_n xm_208 xd_208_0 q0 hr
  have f_141 := dc_fr (j := 17) ok (rfl : sv_ty 114 = some 12) dt_12 rfl
  obtain ⟨n_142, e_143, hr_144⟩ := iv_getf (j := 17) xm_208 xd_208_1 (by decide +kernel) ok (rfl : sv_ty 114 = some 12) dt_12 f_141 hr_140
  obtain ⟨n_145, e_146, hr_147⟩ := iv_iload_n xm_208 xd_208_4 q2 hr_144
  obtain ⟨n_148, e_149, hr_150⟩ := iv_aload_n xm_208 xd_208_5 q0 hr_147
  have f_151 := dc_fr (j := 17) ok (rfl : sv_ty 114 = some 12) dt_12 rfl
  obtain ⟨n_152, e_153, hr_154⟩ := iv_getf (j := 17) xm_208 xd_208_6 (by decide +kernel) ok (rfl : sv_ty 114 = some 12) dt_12 f_151 hr_150
  obtain ⟨n_155, e_156, hr_157⟩ := iv_iload_n xm_208 xd_208_9 q1 hr_154
  obtain ⟨q_158, qi_159, n_160, e_161, hr_162⟩ := iv_iald xm_208 xd_208_10 ok (rfl : sv_ty 120 = some 64) dt_64 (by decide) ix0 hr_157
  obtain ⟨q_163, h_164, ok_165, em_166, n_168, e_169, hr_170⟩ := iv_iast xm_208 xd_208_11 ok (rfl : sv_ty 120 = some 64) dt_64 (by decide) ix1 qi_159 hr_162
  obtain ⟨n_171, e_172, hr_173⟩ := iv_iconst xm_208 xd_208_12 (by decide) hr_170
  obtain ⟨lv_175, sl_174, n_176, e_177, hr_178⟩ := iv_istore_n xm_208 xd_208_13 (by decide +kernel) hr_173
  have l_179 := sl_174.2 0 _ q0 (by decide) (Or.inl rfl)
  have l_180 := sl_174.2 1 _ q1 (by decide) (Or.inl rfl)
  have l_181 := sl_174.2 2 _ q2 (by decide) (Or.inl rfl)
  have l_182 := sl_174.1
  obtain ⟨v, ⟨c, hL⟩, e1, e2, e3⟩ := (dl_208 ix0 ix1 _) _ lv_175 h_164 _ _ (Nat.le_refl _) ok_165 (by unfold sv_I; omega) l_179 l_180 l_181 l_182 hr_178
  exact ⟨v, ⟨q_158, ⟨q_163, _, em_166, ⟨_, hL⟩⟩⟩, e1, e2, e3⟩
/-! method 209 -/
theorem xm_209 : ae_m 209 = some (wk_M 209) := rfl
theorem xd_209_0 : decode (wk_M 209).2.2.1 0 = .ok (.aload_n 0, 1) := zd_by (by decide +kernel)
theorem xd_209_1 : decode (wk_M 209).2.2.1 1 = .ok (.iconst 0, 1) := zd_by (by decide +kernel)
theorem xd_209_2 : decode (wk_M 209).2.2.1 2 = .ok (.putfield 190, 3) := zd_by (by decide +kernel)
theorem xd_209_5 : decode (wk_M 209).2.2.1 5 = .ok (.aload_n 0, 1) := zd_by (by decide +kernel)
theorem xd_209_6 : decode (wk_M 209).2.2.1 6 = .ok (.invokevirtual 211, 3) := zd_by (by decide +kernel)
theorem xd_209_9 : decode (wk_M 209).2.2.1 9 = .ok (.aload_n 0, 1) := zd_by (by decide +kernel)
theorem xd_209_10 : decode (wk_M 209).2.2.1 10 = .ok (.iconst 0, 1) := zd_by (by decide +kernel)
theorem xd_209_11 : decode (wk_M 209).2.2.1 11 = .ok (.putfield 252, 3) := zd_by (by decide +kernel)
theorem xd_209_14 : decode (wk_M 209).2.2.1 14 = .ok (.aload_n 0, 1) := zd_by (by decide +kernel)
theorem xd_209_15 : decode (wk_M 209).2.2.1 15 = .ok (.sipush 700, 3) := zd_by (by decide +kernel)
theorem xd_209_18 : decode (wk_M 209).2.2.1 18 = .ok (.putfield 233, 3) := zd_by (by decide +kernel)
theorem xd_209_21 : decode (wk_M 209).2.2.1 21 = .ok (.aload_n 0, 1) := zd_by (by decide +kernel)
theorem xd_209_22 : decode (wk_M 209).2.2.1 22 = .ok (.getfield 26, 3) := zd_by (by decide +kernel)
theorem xd_209_25 : decode (wk_M 209).2.2.1 25 = .ok (.iconst 1, 1) := zd_by (by decide +kernel)
theorem xd_209_26 : decode (wk_M 209).2.2.1 26 = .ok (.iconst 0, 1) := zd_by (by decide +kernel)
theorem xd_209_27 : decode (wk_M 209).2.2.1 27 = .ok (.iastore, 1) := zd_by (by decide +kernel)
theorem xd_209_28 : decode (wk_M 209).2.2.1 28 = .ok (.iconst 0, 1) := zd_by (by decide +kernel)
theorem xd_209_29 : decode (wk_M 209).2.2.1 29 = .ok (.istore_n 1, 1) := zd_by (by decide +kernel)
theorem xd_209_30 : decode (wk_M 209).2.2.1 30 = .ok (.iload_n 1, 1) := zd_by (by decide +kernel)
theorem xd_209_31 : decode (wk_M 209).2.2.1 31 = .ok (.sipush 217, 3) := zd_by (by decide +kernel)
theorem xd_209_34 : decode (wk_M 209).2.2.1 34 = .ok (.if_icmp .ge 16, 3) := zd_by (by decide +kernel)
theorem xd_209_37 : decode (wk_M 209).2.2.1 37 = .ok (.aload_n 0, 1) := zd_by (by decide +kernel)
theorem xd_209_38 : decode (wk_M 209).2.2.1 38 = .ok (.getfield 29, 3) := zd_by (by decide +kernel)
theorem xd_209_41 : decode (wk_M 209).2.2.1 41 = .ok (.iload_n 1, 1) := zd_by (by decide +kernel)
theorem xd_209_42 : decode (wk_M 209).2.2.1 42 = .ok (.iconst 0, 1) := zd_by (by decide +kernel)
theorem xd_209_43 : decode (wk_M 209).2.2.1 43 = .ok (.iastore, 1) := zd_by (by decide +kernel)
theorem xd_209_44 : decode (wk_M 209).2.2.1 44 = .ok (.iinc 1 1, 3) := zd_by (by decide +kernel)
theorem xd_209_47 : decode (wk_M 209).2.2.1 47 = .ok (.goto (-17), 3) := zd_by (by decide +kernel)
theorem xd_209_50 : decode (wk_M 209).2.2.1 50 = .ok (.aload_n 0, 1) := zd_by (by decide +kernel)
theorem xd_209_51 : decode (wk_M 209).2.2.1 51 = .ok (.invokevirtual 262, 3) := zd_by (by decide +kernel)
theorem xd_209_54 : decode (wk_M 209).2.2.1 54 = .ok (.aload_n 0, 1) := zd_by (by decide +kernel)
theorem xd_209_55 : decode (wk_M 209).2.2.1 55 = .ok (.invokevirtual 342, 3) := zd_by (by decide +kernel)
theorem xd_209_58 : decode (wk_M 209).2.2.1 58 = .ok (.ifCond .ne 10, 3) := zd_by (by decide +kernel)
theorem xd_209_61 : decode (wk_M 209).2.2.1 61 = .ok (.iconst (-1), 1) := zd_by (by decide +kernel)
theorem xd_209_62 : decode (wk_M 209).2.2.1 62 = .ok (.aload_n 0, 1) := zd_by (by decide +kernel)
theorem xd_209_63 : decode (wk_M 209).2.2.1 63 = .ok (.getfield 255, 3) := zd_by (by decide +kernel)
theorem xd_209_66 : decode (wk_M 209).2.2.1 66 = .ok (.isub, 1) := zd_by (by decide +kernel)
theorem xd_209_67 : decode (wk_M 209).2.2.1 67 = .ok (.ireturn, 1) := zd_by (by decide +kernel)
theorem xd_209_68 : decode (wk_M 209).2.2.1 68 = .ok (.aload_n 0, 1) := zd_by (by decide +kernel)
theorem xd_209_69 : decode (wk_M 209).2.2.1 69 = .ok (.iconst 1, 1) := zd_by (by decide +kernel)
theorem xd_209_70 : decode (wk_M 209).2.2.1 70 = .ok (.iconst 0, 1) := zd_by (by decide +kernel)
theorem xd_209_71 : decode (wk_M 209).2.2.1 71 = .ok (.invokevirtual 346, 3) := zd_by (by decide +kernel)
theorem xd_209_74 : decode (wk_M 209).2.2.1 74 = .ok (.aload_n 0, 1) := zd_by (by decide +kernel)
theorem xd_209_75 : decode (wk_M 209).2.2.1 75 = .ok (.getfield 26, 3) := zd_by (by decide +kernel)
theorem xd_209_78 : decode (wk_M 209).2.2.1 78 = .ok (.iconst 0, 1) := zd_by (by decide +kernel)
theorem xd_209_79 : decode (wk_M 209).2.2.1 79 = .ok (.iaload, 1) := zd_by (by decide +kernel)
theorem xd_209_80 : decode (wk_M 209).2.2.1 80 = .ok (.ireturn, 1) := zd_by (by decide +kernel)
def LM_209  : Nat → Nat → Int → dc_M → Int → dc_M → Prop
  | 0, _, _, _, _, _ => False
  | c + 1, tag, l1, m, v, m' => match tag with
    | _ => (((l1 : Int) ≥ 217 ∧ (∃ v_16 m_21, D_198 m v_16 m_21 ∧ (∃ v_32 m_37, D_207 m_21 v_32 m_37 ∧ ((((v_32 : Int) ≠ 0 ∧ (∃ v_58 m_63, D_208 1 0 m_37 v_58 m_63 ∧ ((0 ≤ (0 : Int) ∧ (0 : Int) < 10) ∧ (v = (m_63 120 0) ∧ m' = m_63)))) ∨ (¬ ((v_32 : Int) ≠ 0) ∧ (v = (dc_w ((-1) - (m_37 114 11))) ∧ m' = m_37))))))) ∨ (¬ ((l1 : Int) ≥ 217) ∧ ((0 ≤ (l1 : Int) ∧ (l1 : Int) < 217) ∧ ∃ m_116, m_116 = dc_up m 121 l1 0 ∧ (LM_209  c 30 (dc_w (l1 + 1)) m_116 v m'))))
theorem lm_209_30  {c : Nat} {l1 : Int} {m : dc_M} {v : Int} {m' : dc_M} : LM_209  (c + 1) 30 l1 m v m' ↔ (((l1 : Int) ≥ 217 ∧ (∃ v_16 m_21, D_198 m v_16 m_21 ∧ (∃ v_32 m_37, D_207 m_21 v_32 m_37 ∧ ((((v_32 : Int) ≠ 0 ∧ (∃ v_58 m_63, D_208 1 0 m_37 v_58 m_63 ∧ ((0 ≤ (0 : Int) ∧ (0 : Int) < 10) ∧ (v = (m_63 120 0) ∧ m' = m_63)))) ∨ (¬ ((v_32 : Int) ≠ 0) ∧ (v = (dc_w ((-1) - (m_37 114 11))) ∧ m' = m_37))))))) ∨ (¬ ((l1 : Int) ≥ 217) ∧ ((0 ≤ (l1 : Int) ∧ (l1 : Int) < 217) ∧ ∃ m_116, m_116 = dc_up m 121 l1 0 ∧ (LM_209  c 30 (dc_w (l1 + 1)) m_116 v m')))) := Iff.rfl
theorem dl_209   : ∀ N : Nat, (∀ (n : Nat) (lv : ae_L) (h : ae_H) (r : ae_R) (l1 : Int), n ≤ N → dc_ok h → sv_I l1 → ae_lk lv 0 = some (wk_r 114) → ae_lk lv 1 = some (wk_i l1) → ae_exe n 209 30 0 0 lv [] h = some r → ∃ v, (∃ c, LM_209  c 30 l1 (dc_m h) v (dc_m r.2)) ∧ r.1 = some (wk_i v) ∧ sv_I v ∧ dc_ok r.2) := by
  intro N
  induction N with
  | zero =>
    exact fun n lv h r l1 hn ok il1 q0 q1 hr => by
      have e : n = 0 := by omega
      subst e
      cases hr
  | succ N ih =>
    have ih0 := ih
    intro n lv h r l1 hn ok il1 q0 q1 hr
    obtain ⟨n_1, e_2, hr_3⟩ := iv_iload_n xm_209 xd_209_30 q1 hr
    obtain ⟨n_4, e_5, hr_6⟩ := iv_sipush xm_209 xd_209_31 (by decide) hr_3
    rcases iv_icmp 50 xm_209 xd_209_34 (by decide) il1 (by unfold sv_I; omega) hr_6 with ⟨c_7, n_8, e_9, hr_10⟩ | ⟨c_7, n_8, e_9, hr_10⟩
    · obtain ⟨n_11, e_12, hr_13⟩ := iv_aload_n xm_209 xd_209_50 q0 hr_10
      obtain ⟨n_23, r_14, e_24, hc_15, hr_25⟩ := iv_call (Or.inr ⟨rfl, rfl⟩) xm_209 xd_209_51 (by decide +kernel) xm_198 rfl (by decide +kernel) hr_13
      obtain ⟨v_16, d_17, er_18, iv_19, ok_20⟩ := ds_198 _  ok hc_15
      obtain ⟨_, h_22⟩ := r_14
      have er_18 : _ = none := er_18
      subst er_18
      have hr_26 : ae_exe n_23 209 (51 + 3) 0 0 lv _ h_22 = some r := hr_25
      obtain ⟨n_27, e_28, hr_29⟩ := iv_aload_n xm_209 xd_209_54 q0 hr_26
      obtain ⟨n_39, r_30, e_40, hc_31, hr_41⟩ := iv_call (Or.inr ⟨rfl, rfl⟩) xm_209 xd_209_55 (by decide +kernel) xm_207 rfl (by decide +kernel) hr_29
      obtain ⟨v_32, d_33, er_34, iv_35, ok_36⟩ := ds_207 _  ok_20 hc_31
      obtain ⟨_, h_38⟩ := r_30
      have er_34 : _ = some (wk_i v_32) := er_34
      subst er_34
      have hr_42 : ae_exe n_39 209 (55 + 3) 0 0 lv _ h_38 = some r := hr_41
      rcases iv_if 68 xm_209 xd_209_58 (by decide) iv_35 hr_42 with ⟨c_43, n_44, e_45, hr_46⟩ | ⟨c_43, n_44, e_45, hr_46⟩
      · obtain ⟨n_47, e_48, hr_49⟩ := iv_aload_n xm_209 xd_209_68 q0 hr_46
        obtain ⟨n_50, e_51, hr_52⟩ := iv_iconst xm_209 xd_209_69 (by decide) hr_49
        obtain ⟨n_53, e_54, hr_55⟩ := iv_iconst xm_209 xd_209_70 (by decide) hr_52
        obtain ⟨n_65, r_56, e_66, hc_57, hr_67⟩ := iv_call (Or.inr ⟨rfl, rfl⟩) xm_209 xd_209_71 (by decide +kernel) xm_208 rfl (by decide +kernel) hr_55
        obtain ⟨v_58, d_59, er_60, iv_61, ok_62⟩ := ds_208 _ _ _ ok_36 (by unfold sv_I; omega) (by unfold sv_I; omega) hc_57
        obtain ⟨_, h_64⟩ := r_56
        have er_60 : _ = none := er_60
        subst er_60
        have hr_68 : ae_exe n_65 209 (71 + 3) 0 0 lv _ h_64 = some r := hr_67
        obtain ⟨n_69, e_70, hr_71⟩ := iv_aload_n xm_209 xd_209_74 q0 hr_68
        have f_72 := dc_fr (j := 17) ok_62 (rfl : sv_ty 114 = some 12) dt_12 rfl
        obtain ⟨n_73, e_74, hr_75⟩ := iv_getf (j := 17) xm_209 xd_209_75 (by decide +kernel) ok_62 (rfl : sv_ty 114 = some 12) dt_12 f_72 hr_71
        obtain ⟨n_76, e_77, hr_78⟩ := iv_iconst xm_209 xd_209_78 (by decide) hr_75
        obtain ⟨q_79, qi_80, n_81, e_82, hr_83⟩ := iv_iald xm_209 xd_209_79 ok_62 (rfl : sv_ty 120 = some 64) dt_64 (by decide) (by unfold sv_I; omega) hr_78
        have rr_84 := iv_ireturn xm_209 xd_209_80 hr_83
        subst rr_84
        exact ⟨_, ⟨0 + 1, lm_209_30.mpr (Or.inl ⟨c_7, ⟨_, _, d_17, ⟨_, _, d_33, Or.inl ⟨c_43, ⟨_, _, d_59, ⟨q_79, ⟨rfl, rfl⟩⟩⟩⟩⟩⟩⟩)⟩, rfl, qi_80, ok_62⟩
      · obtain ⟨n_85, e_86, hr_87⟩ := iv_iconst xm_209 xd_209_61 (by decide) hr_46
        obtain ⟨n_88, e_89, hr_90⟩ := iv_aload_n xm_209 xd_209_62 q0 hr_87
        have f_91 := dc_fi (j := 11) ok_36 (rfl : sv_ty 114 = some 12) dt_12 rfl
        obtain ⟨n_92, e_93, hr_94⟩ := iv_getf (j := 11) xm_209 xd_209_63 (by decide +kernel) ok_36 (rfl : sv_ty 114 = some 12) dt_12 f_91.1 hr_90
        obtain ⟨n_95, e_96, hr_97⟩ := iw_isub xm_209 xd_209_66 hr_94
        have rr_98 := iv_ireturn xm_209 xd_209_67 hr_97
        subst rr_98
        exact ⟨_, ⟨0 + 1, lm_209_30.mpr (Or.inl ⟨c_7, ⟨_, _, d_17, ⟨_, _, d_33, Or.inr ⟨c_43, ⟨rfl, rfl⟩⟩⟩⟩⟩)⟩, rfl, (dc_w_I _), ok_36⟩
    · obtain ⟨n_99, e_100, hr_101⟩ := iv_aload_n xm_209 xd_209_37 q0 hr_10
      have f_102 := dc_fr (j := 18) ok (rfl : sv_ty 114 = some 12) dt_12 rfl
      obtain ⟨n_103, e_104, hr_105⟩ := iv_getf (j := 18) xm_209 xd_209_38 (by decide +kernel) ok (rfl : sv_ty 114 = some 12) dt_12 f_102 hr_101
      obtain ⟨n_106, e_107, hr_108⟩ := iv_iload_n xm_209 xd_209_41 q1 hr_105
      obtain ⟨n_109, e_110, hr_111⟩ := iv_iconst xm_209 xd_209_42 (by decide) hr_108
      obtain ⟨q_112, h_113, ok_114, em_115, n_117, e_118, hr_119⟩ := iv_iast xm_209 xd_209_43 ok (rfl : sv_ty 121 = some 65) dt_65 (by decide) il1 (by unfold sv_I; omega) hr_111
      obtain ⟨lv_121, sl_120, n_122, e_123, hr_124⟩ := iw_iinc xm_209 xd_209_44 (by decide +kernel) (by decide) q1 hr_119
      have l_125 := sl_120.2 0 _ q0 (by decide) (Or.inl rfl)
      have l_126 := sl_120.1
      obtain ⟨n_127, e_128, hr_129⟩ := iv_goto 30 xm_209 xd_209_47 (by decide) hr_124
      obtain ⟨v, ⟨c, hL⟩, e1, e2, e3⟩ := ih0 _ lv_121 h_113 _ _ (by omega) ok_114 (dc_w_I _) l_125 l_126 hr_129
      exact ⟨v, ⟨c + 1, lm_209_30.mpr (Or.inr ⟨c_7, ⟨q_112, _, em_115, hL⟩⟩)⟩, e1, e2, e3⟩
abbrev D_209  (m : dc_M) (v : Int) (m' : dc_M) : Prop := ∃ m_139, m_139 = dc_up m 114 0 0 ∧ (∃ v_148 m_153, D_187 m_139 v_148 m_153 ∧ (∃ m_168, m_168 = dc_up m_153 114 10 0 ∧ (∃ m_181, m_181 = dc_up m_168 114 12 700 ∧ ((0 ≤ (1 : Int) ∧ (1 : Int) < 10) ∧ ∃ m_202, m_202 = dc_up m_181 120 1 0 ∧ (∃ c, LM_209  c 30 0 m_202 v m')))))
theorem ds_209 (n : Nat)  {h : ae_H} {r : ae_R} (ok : dc_ok h)  (hr : ae_exe n 209 0 0 0 (ae_args [wk_r 114] 0) [] h = some r) : ∃ v, D_209  (dc_m h) v (dc_m r.2) ∧ r.1 = some (wk_i v) ∧ sv_I v ∧ dc_ok r.2 := by
  have q0 : ae_lk (ae_args [wk_r 114] 0) 0 = some (wk_r 114) := rfl
  obtain ⟨n_130, e_131, hr_132⟩ := iv_aload_n xm_209 xd_209_0 q0 hr
  obtain ⟨n_133, e_134, hr_135⟩ := iv_iconst xm_209 xd_209_1 (by decide) hr_132
  obtain ⟨h_136, ok_137, em_138, n_140, e_141, hr_142⟩ := iv_puti (j := 0) (fk := 0) xm_209 xd_209_2 (by decide +kernel) ok (rfl : sv_ty 114 = some 12) dt_12 rfl (by decide +kernel) rfl (by unfold sv_I; omega) hr_135
  obtain ⟨n_143, e_144, hr_145⟩ := iv_aload_n xm_209 xd_209_5 q0 hr_142
  obtain ⟨n_155, r_146, e_156, hc_147, hr_157⟩ := iv_call (Or.inr ⟨rfl, rfl⟩) xm_209 xd_209_6 (by decide +kernel) xm_187 rfl (by decide +kernel) hr_145
  obtain ⟨v_148, d_149, er_150, iv_151, ok_152⟩ := ds_187 _  ok_137 hc_147
  obtain ⟨_, h_154⟩ := r_146
  have er_150 : _ = none := er_150
  subst er_150
  have hr_158 : ae_exe n_155 209 (6 + 3) 0 0 (ae_args [wk_r 114] 0) _ h_154 = some r := hr_157
  obtain ⟨n_159, e_160, hr_161⟩ := iv_aload_n xm_209 xd_209_9 q0 hr_158
  obtain ⟨n_162, e_163, hr_164⟩ := iv_iconst xm_209 xd_209_10 (by decide) hr_161
  obtain ⟨h_165, ok_166, em_167, n_169, e_170, hr_171⟩ := iv_puti (j := 10) (fk := 0) xm_209 xd_209_11 (by decide +kernel) ok_152 (rfl : sv_ty 114 = some 12) dt_12 rfl (by decide +kernel) rfl (by unfold sv_I; omega) hr_164
  obtain ⟨n_172, e_173, hr_174⟩ := iv_aload_n xm_209 xd_209_14 q0 hr_171
  obtain ⟨n_175, e_176, hr_177⟩ := iv_sipush xm_209 xd_209_15 (by decide) hr_174
  obtain ⟨h_178, ok_179, em_180, n_182, e_183, hr_184⟩ := iv_puti (j := 12) (fk := 0) xm_209 xd_209_18 (by decide +kernel) ok_166 (rfl : sv_ty 114 = some 12) dt_12 rfl (by decide +kernel) rfl (by unfold sv_I; omega) hr_177
  obtain ⟨n_185, e_186, hr_187⟩ := iv_aload_n xm_209 xd_209_21 q0 hr_184
  have f_188 := dc_fr (j := 17) ok_179 (rfl : sv_ty 114 = some 12) dt_12 rfl
  obtain ⟨n_189, e_190, hr_191⟩ := iv_getf (j := 17) xm_209 xd_209_22 (by decide +kernel) ok_179 (rfl : sv_ty 114 = some 12) dt_12 f_188 hr_187
  obtain ⟨n_192, e_193, hr_194⟩ := iv_iconst xm_209 xd_209_25 (by decide) hr_191
  obtain ⟨n_195, e_196, hr_197⟩ := iv_iconst xm_209 xd_209_26 (by decide) hr_194
  obtain ⟨q_198, h_199, ok_200, em_201, n_203, e_204, hr_205⟩ := iv_iast xm_209 xd_209_27 ok_179 (rfl : sv_ty 120 = some 64) dt_64 (by decide) (by unfold sv_I; omega) (by unfold sv_I; omega) hr_197
  obtain ⟨n_206, e_207, hr_208⟩ := iv_iconst xm_209 xd_209_28 (by decide) hr_205
  obtain ⟨lv_210, sl_209, n_211, e_212, hr_213⟩ := iv_istore_n xm_209 xd_209_29 (by decide +kernel) hr_208
  have l_214 := sl_209.2 0 _ q0 (by decide) (Or.inl rfl)
  have l_215 := sl_209.1
  obtain ⟨v, ⟨c, hL⟩, e1, e2, e3⟩ := (dl_209  _) _ lv_210 h_199 _ _ (Nat.le_refl _) ok_200 (by unfold sv_I; omega) l_214 l_215 hr_213
  exact ⟨v, ⟨_, em_138, ⟨_, _, d_149, ⟨_, em_167, ⟨_, em_180, ⟨q_198, _, em_201, ⟨_, hL⟩⟩⟩⟩⟩⟩, e1, e2, e3⟩
