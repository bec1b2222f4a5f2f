/-! method 232 -/
theorem xm_232 : ae_m 232 = some (wk_M 232) := rfl
theorem xd_232_0 : decode (wk_M 232).2.2.1 0 = .ok (.iconst 0, 1) := zd_by (by decide +kernel)
theorem xd_232_1 : decode (wk_M 232).2.2.1 1 = .ok (.istore_n 2, 1) := zd_by (by decide +kernel)
theorem xd_232_2 : decode (wk_M 232).2.2.1 2 = .ok (.lload_n 0, 1) := zd_by (by decide +kernel)
theorem xd_232_3 : decode (wk_M 232).2.2.1 3 = .ok (.lstore_n 3, 1) := zd_by (by decide +kernel)
theorem xd_232_4 : decode (wk_M 232).2.2.1 4 = .ok (.lload_n 3, 1) := zd_by (by decide +kernel)
theorem xd_232_5 : decode (wk_M 232).2.2.1 5 = .ok (.lconst 0, 1) := zd_by (by decide +kernel)
theorem xd_232_6 : decode (wk_M 232).2.2.1 6 = .ok (.lcmp, 1) := zd_by (by decide +kernel)
theorem xd_232_7 : decode (wk_M 232).2.2.1 7 = .ok (.ifCond .eq 15, 3) := zd_by (by decide +kernel)
theorem xd_232_10 : decode (wk_M 232).2.2.1 10 = .ok (.iinc 2 1, 3) := zd_by (by decide +kernel)
theorem xd_232_13 : decode (wk_M 232).2.2.1 13 = .ok (.lload_n 3, 1) := zd_by (by decide +kernel)
theorem xd_232_14 : decode (wk_M 232).2.2.1 14 = .ok (.lload_n 3, 1) := zd_by (by decide +kernel)
theorem xd_232_15 : decode (wk_M 232).2.2.1 15 = .ok (.lconst 1, 1) := zd_by (by decide +kernel)
theorem xd_232_16 : decode (wk_M 232).2.2.1 16 = .ok (.lsub, 1) := zd_by (by decide +kernel)
theorem xd_232_17 : decode (wk_M 232).2.2.1 17 = .ok (.land, 1) := zd_by (by decide +kernel)
theorem xd_232_18 : decode (wk_M 232).2.2.1 18 = .ok (.lstore_n 3, 1) := zd_by (by decide +kernel)
theorem xd_232_19 : decode (wk_M 232).2.2.1 19 = .ok (.goto (-15), 3) := zd_by (by decide +kernel)
theorem xd_232_22 : decode (wk_M 232).2.2.1 22 = .ok (.iload_n 2, 1) := zd_by (by decide +kernel)
theorem xd_232_23 : decode (wk_M 232).2.2.1 23 = .ok (.ireturn, 1) := zd_by (by decide +kernel)
def LM_232 (y0 : Nat) : Nat → Nat → Int → Nat → dc_M → Int → dc_M → Prop
  | 0, _, _, _, _, _, _ => False
  | c + 1, tag, l2, l3, m, v, m' => match tag with
    | _ => ((((sv_g (ae_lcmp l3 0)) : Int) = 0 ∧ (v = l2 ∧ m' = m)) ∨ (¬ (((sv_g (ae_lcmp l3 0)) : Int) = 0) ∧ (LM_232 y0 c 4 (dc_w (l2 + 1)) (Nat.land l3 (ae_lsub l3 1)) m v m')))
theorem lm_232_4 {y0 : Nat} {c : Nat} {l2 : Int} {l3 : Nat} {m : dc_M} {v : Int} {m' : dc_M} : LM_232 y0 (c + 1) 4 l2 l3 m v m' ↔ ((((sv_g (ae_lcmp l3 0)) : Int) = 0 ∧ (v = l2 ∧ m' = m)) ∨ (¬ (((sv_g (ae_lcmp l3 0)) : Int) = 0) ∧ (LM_232 y0 c 4 (dc_w (l2 + 1)) (Nat.land l3 (ae_lsub l3 1)) m v m'))) := Iff.rfl
theorem dl_232 {y0 : Nat} (iy0 : y0 < 18446744073709551616) : ∀ N : Nat, (∀ (n : Nat) (lv : ae_L) (h : ae_H) (r : ae_R) (l2 : Int) (l3 : Nat), n ≤ N → dc_ok h → sv_I l2 → l3 < 18446744073709551616 → ae_lk lv 0 = some (wk_l y0) → ae_lk lv 2 = some (wk_i l2) → ae_lk lv 3 = some (wk_l l3) → ae_exe n 232 4 0 0 lv [] h = some r → ∃ v, (∃ c, LM_232 y0 c 4 l2 l3 (dc_m h) v (dc_m r.2)) ∧ r.1 = some (wk_i v) ∧ sv_I v ∧ dc_ok r.2) := by
  intro N
  induction N with
  | zero =>
    exact fun n lv h r l2 l3 hn ok il2 il3 q0 q2 q3 hr => by
      have e : n = 0 := by omega
      subst e
      cases hr
  | succ N ih =>
    have ih0 := ih
    intro n lv h r l2 l3 hn ok il2 il3 q0 q2 q3 hr
    obtain ⟨n_1, e_2, hr_3⟩ := iv_lload_n xm_232 xd_232_4 q3 hr
    obtain ⟨n_4, e_5, hr_6⟩ := iv_lconst xm_232 xd_232_5 hr_3
    obtain ⟨n_7, e_8, hr_9⟩ := iv_lcmp xm_232 xd_232_6 hr_6
    rcases iv_if 22 xm_232 xd_232_7 (by decide) (sv_g_I (ae_lcmp_lt _ _)) hr_9 with ⟨c_10, n_11, e_12, hr_13⟩ | ⟨c_10, n_11, e_12, hr_13⟩
    · obtain ⟨n_14, e_15, hr_16⟩ := iv_iload_n xm_232 xd_232_22 q2 hr_13
      have rr_17 := iv_ireturn xm_232 xd_232_23 hr_16
      subst rr_17
      exact ⟨_, ⟨0 + 1, lm_232_4.mpr (Or.inl ⟨c_10, ⟨rfl, rfl⟩⟩)⟩, rfl, il2, ok⟩
    · obtain ⟨lv_19, sl_18, n_20, e_21, hr_22⟩ := iw_iinc xm_232 xd_232_10 (by decide +kernel) (by decide) q2 hr_13
      have l_23 := sl_18.2 0 _ q0 (by decide) (Or.inr (by decide))
      have l_24 := sl_18.2 3 _ q3 (by decide) (Or.inr (by decide))
      have l_25 := sl_18.1
      obtain ⟨n_26, e_27, hr_28⟩ := iv_lload_n xm_232 xd_232_13 l_24 hr_22
      obtain ⟨n_29, e_30, hr_31⟩ := iv_lload_n xm_232 xd_232_14 l_24 hr_28
      obtain ⟨n_32, e_33, hr_34⟩ := iv_lconst xm_232 xd_232_15 hr_31
      obtain ⟨n_35, e_36, hr_37⟩ := iv_lsub xm_232 xd_232_16 hr_34
      obtain ⟨n_38, e_39, hr_40⟩ := iv_land xm_232 xd_232_17 hr_37
      obtain ⟨lv_42, sl_41, n_43, e_44, hr_45⟩ := iv_lstore_n xm_232 xd_232_18 (by decide +kernel) hr_40
      have l_46 := sl_41.2 0 _ l_23 (by decide) (by decide) (Or.inr (by decide))
      have l_47 := sl_41.2 2 _ l_25 (by decide) (by decide) (Or.inl rfl)
      have l_48 := sl_41.1
      obtain ⟨n_49, e_50, hr_51⟩ := iv_goto 4 xm_232 xd_232_19 (by decide) hr_45
      obtain ⟨v, ⟨c, hL⟩, e1, e2, e3⟩ := ih0 _ lv_42 h _ _ _ (by omega) ok (dc_w_I _) (dc_land_lt il3) l_46 l_47 l_48 hr_51
      exact ⟨v, ⟨c + 1, lm_232_4.mpr (Or.inr ⟨c_10, hL⟩)⟩, e1, e2, e3⟩
abbrev D_232 (y0 : Nat) (m : dc_M) (v : Int) (m' : dc_M) : Prop := ∃ c, LM_232 y0 c 4 0 y0 m v m'
theorem ds_232 (n : Nat) (y0 : Nat) {h : ae_H} {r : ae_R} (ok : dc_ok h) (iy0 : y0 < 18446744073709551616) (hr : ae_exe n 232 0 0 0 (ae_args [wk_l y0] 0) [] h = some r) : ∃ v, D_232 y0 (dc_m h) v (dc_m r.2) ∧ r.1 = some (wk_i v) ∧ sv_I v ∧ dc_ok r.2 := by
  have q0 : ae_lk (ae_args [wk_l y0] 0) 0 = some (wk_l y0) := rfl
  obtain ⟨n_52, e_53, hr_54⟩ := iv_iconst xm_232 xd_232_0 (by decide) hr
  obtain ⟨lv_56, sl_55, n_57, e_58, hr_59⟩ := iv_istore_n xm_232 xd_232_1 (by decide +kernel) hr_54
  have l_60 := sl_55.2 0 _ q0 (by decide) (Or.inr (by decide))
  have l_61 := sl_55.1
  obtain ⟨n_62, e_63, hr_64⟩ := iv_lload_n xm_232 xd_232_2 l_60 hr_59
  obtain ⟨lv_66, sl_65, n_67, e_68, hr_69⟩ := iv_lstore_n xm_232 xd_232_3 (by decide +kernel) hr_64
  have l_70 := sl_65.2 0 _ l_60 (by decide) (by decide) (Or.inr (by decide))
  have l_71 := sl_65.2 2 _ l_61 (by decide) (by decide) (Or.inl rfl)
  have l_72 := sl_65.1
  obtain ⟨v, ⟨c, hL⟩, e1, e2, e3⟩ := (dl_232 iy0 _) _ lv_66 h _ _ _ (Nat.le_refl _) ok (by unfold sv_I; omega) iy0 l_70 l_71 l_72 hr_69
  exact ⟨v, ⟨_, hL⟩, e1, e2, e3⟩
/-! method 257 -/
theorem xm_257 : ae_m 257 = some (wk_M 257) := rfl
theorem xd_257_0 : decode (wk_M 257).2.2.1 0 = .ok (.aload_n 0, 1) := zd_by (by decide +kernel)
theorem xd_257_1 : decode (wk_M 257).2.2.1 1 = .ok (.getfield 151, 3) := zd_by (by decide +kernel)
theorem xd_257_4 : decode (wk_M 257).2.2.1 4 = .ok (.aload_n 0, 1) := zd_by (by decide +kernel)
theorem xd_257_5 : decode (wk_M 257).2.2.1 5 = .ok (.getfield 491, 3) := zd_by (by decide +kernel)
theorem xd_257_8 : decode (wk_M 257).2.2.1 8 = .ok (.iload_n 1, 1) := zd_by (by decide +kernel)
theorem xd_257_9 : decode (wk_M 257).2.2.1 9 = .ok (.iastore, 1) := zd_by (by decide +kernel)
theorem xd_257_10 : decode (wk_M 257).2.2.1 10 = .ok (.aload_n 0, 1) := zd_by (by decide +kernel)
theorem xd_257_11 : decode (wk_M 257).2.2.1 11 = .ok (.getfield 154, 3) := zd_by (by decide +kernel)
theorem xd_257_14 : decode (wk_M 257).2.2.1 14 = .ok (.aload_n 0, 1) := zd_by (by decide +kernel)
theorem xd_257_15 : decode (wk_M 257).2.2.1 15 = .ok (.getfield 491, 3) := zd_by (by decide +kernel)
theorem xd_257_18 : decode (wk_M 257).2.2.1 18 = .ok (.iload_n 2, 1) := zd_by (by decide +kernel)
theorem xd_257_19 : decode (wk_M 257).2.2.1 19 = .ok (.iastore, 1) := zd_by (by decide +kernel)
theorem xd_257_20 : decode (wk_M 257).2.2.1 20 = .ok (.aload_n 0, 1) := zd_by (by decide +kernel)
theorem xd_257_21 : decode (wk_M 257).2.2.1 21 = .ok (.dup, 1) := zd_by (by decide +kernel)
theorem xd_257_22 : decode (wk_M 257).2.2.1 22 = .ok (.getfield 491, 3) := zd_by (by decide +kernel)
theorem xd_257_25 : decode (wk_M 257).2.2.1 25 = .ok (.iconst 1, 1) := zd_by (by decide +kernel)
theorem xd_257_26 : decode (wk_M 257).2.2.1 26 = .ok (.iadd, 1) := zd_by (by decide +kernel)
theorem xd_257_27 : decode (wk_M 257).2.2.1 27 = .ok (.putfield 491, 3) := zd_by (by decide +kernel)
theorem xd_257_30 : decode (wk_M 257).2.2.1 30 = .ok (.return_, 1) := zd_by (by decide +kernel)
abbrev D_257 (x0 : Int) (x1 : Int) (m : dc_M) (v : Int) (m' : dc_M) : Prop := (0 ≤ ((m 114 79) : Int) ∧ ((m 114 79) : Int) < 200) ∧ ∃ m_22, m_22 = dc_up m 161 (m 114 79) x0 ∧ ((0 ≤ ((m_22 114 79) : Int) ∧ ((m_22 114 79) : Int) < 200) ∧ ∃ m_47, m_47 = dc_up m_22 162 (m_22 114 79) x1 ∧ (∃ m_70, m_70 = dc_up m_47 114 79 (dc_w ((m_47 114 79) + 1)) ∧ (v = 0 ∧ m' = m_70)))
theorem ds_257 (n : Nat) (x0 : Int) (x1 : Int) {h : ae_H} {r : ae_R} (ok : dc_ok h) (ix0 : sv_I x0) (ix1 : sv_I x1) (hr : ae_exe n 257 0 0 0 (ae_args [wk_r 114, wk_i x0, wk_i x1] 0) [] h = some r) : ∃ v, D_257 x0 x1 (dc_m h) v (dc_m r.2) ∧ r.1 = none ∧ sv_I v ∧ dc_ok r.2 := by
  have q0 : ae_lk (ae_args [wk_r 114, wk_i x0, wk_i x1] 0) 0 = some (wk_r 114) := rfl
  have q1 : ae_lk (ae_args [wk_r 114, wk_i x0, wk_i x1] 0) 1 = some (wk_i x0) := rfl
  have q2 : ae_lk (ae_args [wk_r 114, wk_i x0, wk_i x1] 0) 2 = some (wk_i x1) := rfl
  obtain ⟨n_1, e_2, hr_3⟩ := iv_aload_n xm_257 xd_257_0 q0 hr
  have f_4 := dc_fr (j := 72) ok (rfl : sv_ty 114 = some 12) dt_12 rfl
  obtain ⟨n_5, e_6, hr_7⟩ := iv_getf (j := 72) xm_257 xd_257_1 (by decide +kernel) ok (rfl : sv_ty 114 = some 12) dt_12 f_4 hr_3
  obtain ⟨n_8, e_9, hr_10⟩ := iv_aload_n xm_257 xd_257_4 q0 hr_7
  have f_11 := dc_fi (j := 79) ok (rfl : sv_ty 114 = some 12) dt_12 rfl
  obtain ⟨n_12, e_13, hr_14⟩ := iv_getf (j := 79) xm_257 xd_257_5 (by decide +kernel) ok (rfl : sv_ty 114 = some 12) dt_12 f_11.1 hr_10
  obtain ⟨n_15, e_16, hr_17⟩ := iv_iload_n xm_257 xd_257_8 q1 hr_14
  obtain ⟨q_18, h_19, ok_20, em_21, n_23, e_24, hr_25⟩ := iv_iast xm_257 xd_257_9 ok (rfl : sv_ty 161 = some 98) dt_98 (by decide) f_11.2 ix0 hr_17
  obtain ⟨n_26, e_27, hr_28⟩ := iv_aload_n xm_257 xd_257_10 q0 hr_25
  have f_29 := dc_fr (j := 73) ok_20 (rfl : sv_ty 114 = some 12) dt_12 rfl
  obtain ⟨n_30, e_31, hr_32⟩ := iv_getf (j := 73) xm_257 xd_257_11 (by decide +kernel) ok_20 (rfl : sv_ty 114 = some 12) dt_12 f_29 hr_28
  obtain ⟨n_33, e_34, hr_35⟩ := iv_aload_n xm_257 xd_257_14 q0 hr_32
  have f_36 := dc_fi (j := 79) ok_20 (rfl : sv_ty 114 = some 12) dt_12 rfl
  obtain ⟨n_37, e_38, hr_39⟩ := iv_getf (j := 79) xm_257 xd_257_15 (by decide +kernel) ok_20 (rfl : sv_ty 114 = some 12) dt_12 f_36.1 hr_35
  obtain ⟨n_40, e_41, hr_42⟩ := iv_iload_n xm_257 xd_257_18 q2 hr_39
  obtain ⟨q_43, h_44, ok_45, em_46, n_48, e_49, hr_50⟩ := iv_iast xm_257 xd_257_19 ok_20 (rfl : sv_ty 162 = some 98) dt_98 (by decide) f_36.2 ix1 hr_42
  obtain ⟨n_51, e_52, hr_53⟩ := iv_aload_n xm_257 xd_257_20 q0 hr_50
  obtain ⟨n_54, e_55, hr_56⟩ := iv_dup xm_257 xd_257_21 rfl hr_53
  have f_57 := dc_fi (j := 79) ok_45 (rfl : sv_ty 114 = some 12) dt_12 rfl
  obtain ⟨n_58, e_59, hr_60⟩ := iv_getf (j := 79) xm_257 xd_257_22 (by decide +kernel) ok_45 (rfl : sv_ty 114 = some 12) dt_12 f_57.1 hr_56
  obtain ⟨n_61, e_62, hr_63⟩ := iv_iconst xm_257 xd_257_25 (by decide) hr_60
  obtain ⟨n_64, e_65, hr_66⟩ := iw_iadd xm_257 xd_257_26 hr_63
  obtain ⟨h_67, ok_68, em_69, n_71, e_72, hr_73⟩ := iv_puti (j := 79) (fk := 0) xm_257 xd_257_27 (by decide +kernel) ok_45 (rfl : sv_ty 114 = some 12) dt_12 rfl (by decide +kernel) rfl (dc_w_I _) hr_66
  have rr_74 := iv_return xm_257 xd_257_30 hr_73 rfl
  subst rr_74
  exact ⟨_, ⟨q_18, _, em_21, ⟨q_43, _, em_46, ⟨_, em_69, ⟨rfl, rfl⟩⟩⟩⟩, rfl, (by unfold sv_I; omega), ok_68⟩
/-! method 258 -/
theorem xm_258 : ae_m 258 = some (wk_M 258) := rfl
theorem xd_258_0 : decode (wk_M 258).2.2.1 0 = .ok (.iconst 0, 1) := zd_by (by decide +kernel)
theorem xd_258_1 : decode (wk_M 258).2.2.1 1 = .ok (.istore_n 2, 1) := zd_by (by decide +kernel)
theorem xd_258_2 : decode (wk_M 258).2.2.1 2 = .ok (.iload_n 2, 1) := zd_by (by decide +kernel)
theorem xd_258_3 : decode (wk_M 258).2.2.1 3 = .ok (.aload_n 0, 1) := zd_by (by decide +kernel)
theorem xd_258_4 : decode (wk_M 258).2.2.1 4 = .ok (.getfield 494, 3) := zd_by (by decide +kernel)
theorem xd_258_7 : decode (wk_M 258).2.2.1 7 = .ok (.if_icmp .ge 29, 3) := zd_by (by decide +kernel)
theorem xd_258_10 : decode (wk_M 258).2.2.1 10 = .ok (.aload_n 0, 1) := zd_by (by decide +kernel)
theorem xd_258_11 : decode (wk_M 258).2.2.1 11 = .ok (.getfield 157, 3) := zd_by (by decide +kernel)
theorem xd_258_14 : decode (wk_M 258).2.2.1 14 = .ok (.iload_n 2, 1) := zd_by (by decide +kernel)
theorem xd_258_15 : decode (wk_M 258).2.2.1 15 = .ok (.iaload, 1) := zd_by (by decide +kernel)
theorem xd_258_16 : decode (wk_M 258).2.2.1 16 = .ok (.iload_n 1, 1) := zd_by (by decide +kernel)
theorem xd_258_17 : decode (wk_M 258).2.2.1 17 = .ok (.if_icmp .ne 13, 3) := zd_by (by decide +kernel)
theorem xd_258_20 : decode (wk_M 258).2.2.1 20 = .ok (.aload_n 0, 1) := zd_by (by decide +kernel)
theorem xd_258_21 : decode (wk_M 258).2.2.1 21 = .ok (.getfield 160, 3) := zd_by (by decide +kernel)
theorem xd_258_24 : decode (wk_M 258).2.2.1 24 = .ok (.iload_n 2, 1) := zd_by (by decide +kernel)
theorem xd_258_25 : decode (wk_M 258).2.2.1 25 = .ok (.iaload, 1) := zd_by (by decide +kernel)
theorem xd_258_26 : decode (wk_M 258).2.2.1 26 = .ok (.iconst 3, 1) := zd_by (by decide +kernel)
theorem xd_258_27 : decode (wk_M 258).2.2.1 27 = .ok (.if_icmp .ne 9, 3) := zd_by (by decide +kernel)
theorem xd_258_30 : decode (wk_M 258).2.2.1 30 = .ok (.iinc 2 1, 3) := zd_by (by decide +kernel)
theorem xd_258_33 : decode (wk_M 258).2.2.1 33 = .ok (.goto (-31), 3) := zd_by (by decide +kernel)
theorem xd_258_36 : decode (wk_M 258).2.2.1 36 = .ok (.iload_n 2, 1) := zd_by (by decide +kernel)
theorem xd_258_37 : decode (wk_M 258).2.2.1 37 = .ok (.iconst 4, 1) := zd_by (by decide +kernel)
theorem xd_258_38 : decode (wk_M 258).2.2.1 38 = .ok (.if_icmp .ne 10, 3) := zd_by (by decide +kernel)
theorem xd_258_41 : decode (wk_M 258).2.2.1 41 = .ok (.aload_n 0, 1) := zd_by (by decide +kernel)
theorem xd_258_42 : decode (wk_M 258).2.2.1 42 = .ok (.iconst 1, 1) := zd_by (by decide +kernel)
theorem xd_258_43 : decode (wk_M 258).2.2.1 43 = .ok (.putfield 497, 3) := zd_by (by decide +kernel)
theorem xd_258_46 : decode (wk_M 258).2.2.1 46 = .ok (.iconst 0, 1) := zd_by (by decide +kernel)
theorem xd_258_47 : decode (wk_M 258).2.2.1 47 = .ok (.ireturn, 1) := zd_by (by decide +kernel)
theorem xd_258_48 : decode (wk_M 258).2.2.1 48 = .ok (.iload_n 2, 1) := zd_by (by decide +kernel)
theorem xd_258_49 : decode (wk_M 258).2.2.1 49 = .ok (.aload_n 0, 1) := zd_by (by decide +kernel)
theorem xd_258_50 : decode (wk_M 258).2.2.1 50 = .ok (.getfield 494, 3) := zd_by (by decide +kernel)
theorem xd_258_53 : decode (wk_M 258).2.2.1 53 = .ok (.if_icmp .ne 60, 3) := zd_by (by decide +kernel)
theorem xd_258_56 : decode (wk_M 258).2.2.1 56 = .ok (.aload_n 0, 1) := zd_by (by decide +kernel)
theorem xd_258_57 : decode (wk_M 258).2.2.1 57 = .ok (.getfield 157, 3) := zd_by (by decide +kernel)
theorem xd_258_60 : decode (wk_M 258).2.2.1 60 = .ok (.iload_n 2, 1) := zd_by (by decide +kernel)
theorem xd_258_61 : decode (wk_M 258).2.2.1 61 = .ok (.iload_n 1, 1) := zd_by (by decide +kernel)
theorem xd_258_62 : decode (wk_M 258).2.2.1 62 = .ok (.iastore, 1) := zd_by (by decide +kernel)
theorem xd_258_63 : decode (wk_M 258).2.2.1 63 = .ok (.aload_n 0, 1) := zd_by (by decide +kernel)
theorem xd_258_64 : decode (wk_M 258).2.2.1 64 = .ok (.getfield 160, 3) := zd_by (by decide +kernel)
theorem xd_258_67 : decode (wk_M 258).2.2.1 67 = .ok (.iload_n 2, 1) := zd_by (by decide +kernel)
theorem xd_258_68 : decode (wk_M 258).2.2.1 68 = .ok (.iconst 0, 1) := zd_by (by decide +kernel)
theorem xd_258_69 : decode (wk_M 258).2.2.1 69 = .ok (.iastore, 1) := zd_by (by decide +kernel)
theorem xd_258_70 : decode (wk_M 258).2.2.1 70 = .ok (.aload_n 0, 1) := zd_by (by decide +kernel)
theorem xd_258_71 : decode (wk_M 258).2.2.1 71 = .ok (.dup, 1) := zd_by (by decide +kernel)
theorem xd_258_72 : decode (wk_M 258).2.2.1 72 = .ok (.getfield 494, 3) := zd_by (by decide +kernel)
theorem xd_258_75 : decode (wk_M 258).2.2.1 75 = .ok (.iconst 1, 1) := zd_by (by decide +kernel)
theorem xd_258_76 : decode (wk_M 258).2.2.1 76 = .ok (.iadd, 1) := zd_by (by decide +kernel)
theorem xd_258_77 : decode (wk_M 258).2.2.1 77 = .ok (.putfield 494, 3) := zd_by (by decide +kernel)
theorem xd_258_80 : decode (wk_M 258).2.2.1 80 = .ok (.aload_n 0, 1) := zd_by (by decide +kernel)
theorem xd_258_81 : decode (wk_M 258).2.2.1 81 = .ok (.iload_n 1, 1) := zd_by (by decide +kernel)
theorem xd_258_82 : decode (wk_M 258).2.2.1 82 = .ok (.bipush 20, 2) := zd_by (by decide +kernel)
theorem xd_258_84 : decode (wk_M 258).2.2.1 84 = .ok (.if_icmp .le 15, 3) := zd_by (by decide +kernel)
theorem xd_258_87 : decode (wk_M 258).2.2.1 87 = .ok (.bipush 65, 2) := zd_by (by decide +kernel)
theorem xd_258_89 : decode (wk_M 258).2.2.1 89 = .ok (.iload_n 1, 1) := zd_by (by decide +kernel)
theorem xd_258_90 : decode (wk_M 258).2.2.1 90 = .ok (.iadd, 1) := zd_by (by decide +kernel)
theorem xd_258_91 : decode (wk_M 258).2.2.1 91 = .ok (.bipush 20, 2) := zd_by (by decide +kernel)
theorem xd_258_93 : decode (wk_M 258).2.2.1 93 = .ok (.isub, 1) := zd_by (by decide +kernel)
theorem xd_258_94 : decode (wk_M 258).2.2.1 94 = .ok (.iconst 1, 1) := zd_by (by decide +kernel)
theorem xd_258_95 : decode (wk_M 258).2.2.1 95 = .ok (.isub, 1) := zd_by (by decide +kernel)
theorem xd_258_96 : decode (wk_M 258).2.2.1 96 = .ok (.goto 9, 3) := zd_by (by decide +kernel)
theorem xd_258_99 : decode (wk_M 258).2.2.1 99 = .ok (.bipush 40, 2) := zd_by (by decide +kernel)
theorem xd_258_101 : decode (wk_M 258).2.2.1 101 = .ok (.iload_n 1, 1) := zd_by (by decide +kernel)
theorem xd_258_102 : decode (wk_M 258).2.2.1 102 = .ok (.iadd, 1) := zd_by (by decide +kernel)
theorem xd_258_103 : decode (wk_M 258).2.2.1 103 = .ok (.iconst 1, 1) := zd_by (by decide +kernel)
theorem xd_258_104 : decode (wk_M 258).2.2.1 104 = .ok (.isub, 1) := zd_by (by decide +kernel)
theorem xd_258_105 : decode (wk_M 258).2.2.1 105 = .ok (.sipush 144, 3) := zd_by (by decide +kernel)
theorem xd_258_108 : decode (wk_M 258).2.2.1 108 = .ok (.iload_n 2, 1) := zd_by (by decide +kernel)
theorem xd_258_109 : decode (wk_M 258).2.2.1 109 = .ok (.iadd, 1) := zd_by (by decide +kernel)
theorem xd_258_110 : decode (wk_M 258).2.2.1 110 = .ok (.invokevirtual 500, 3) := zd_by (by decide +kernel)
theorem xd_258_113 : decode (wk_M 258).2.2.1 113 = .ok (.aload_n 0, 1) := zd_by (by decide +kernel)
theorem xd_258_114 : decode (wk_M 258).2.2.1 114 = .ok (.getfield 160, 3) := zd_by (by decide +kernel)
theorem xd_258_117 : decode (wk_M 258).2.2.1 117 = .ok (.iload_n 2, 1) := zd_by (by decide +kernel)
theorem xd_258_118 : decode (wk_M 258).2.2.1 118 = .ok (.dup2, 1) := zd_by (by decide +kernel)
theorem xd_258_119 : decode (wk_M 258).2.2.1 119 = .ok (.iaload, 1) := zd_by (by decide +kernel)
theorem xd_258_120 : decode (wk_M 258).2.2.1 120 = .ok (.iconst 1, 1) := zd_by (by decide +kernel)
theorem xd_258_121 : decode (wk_M 258).2.2.1 121 = .ok (.iadd, 1) := zd_by (by decide +kernel)
theorem xd_258_122 : decode (wk_M 258).2.2.1 122 = .ok (.iastore, 1) := zd_by (by decide +kernel)
theorem xd_258_123 : decode (wk_M 258).2.2.1 123 = .ok (.iconst 3, 1) := zd_by (by decide +kernel)
theorem xd_258_124 : decode (wk_M 258).2.2.1 124 = .ok (.iload_n 2, 1) := zd_by (by decide +kernel)
theorem xd_258_125 : decode (wk_M 258).2.2.1 125 = .ok (.imul, 1) := zd_by (by decide +kernel)
theorem xd_258_126 : decode (wk_M 258).2.2.1 126 = .ok (.aload_n 0, 1) := zd_by (by decide +kernel)
theorem xd_258_127 : decode (wk_M 258).2.2.1 127 = .ok (.getfield 160, 3) := zd_by (by decide +kernel)
theorem xd_258_130 : decode (wk_M 258).2.2.1 130 = .ok (.iload_n 2, 1) := zd_by (by decide +kernel)
theorem xd_258_131 : decode (wk_M 258).2.2.1 131 = .ok (.iaload, 1) := zd_by (by decide +kernel)
theorem xd_258_132 : decode (wk_M 258).2.2.1 132 = .ok (.iadd, 1) := zd_by (by decide +kernel)
theorem xd_258_133 : decode (wk_M 258).2.2.1 133 = .ok (.iconst 1, 1) := zd_by (by decide +kernel)
theorem xd_258_134 : decode (wk_M 258).2.2.1 134 = .ok (.isub, 1) := zd_by (by decide +kernel)
theorem xd_258_135 : decode (wk_M 258).2.2.1 135 = .ok (.ireturn, 1) := zd_by (by decide +kernel)
def LM_258 (x0 : Int) : Nat → Nat → Int → dc_M → Int → dc_M → Prop
  | 0, _, _, _, _, _ => False
  | c + 1, tag, l2, m, v, m' => match tag with
    | _ => (((l2 : Int) ≥ (m 114 80) ∧ ((((l2 : Int) ≠ 4 ∧ ((((l2 : Int) ≠ (m 114 80) ∧ ((0 ≤ (l2 : Int) ∧ (l2 : Int) < 4) ∧ ((0 ≤ (l2 : Int) ∧ (l2 : Int) < 4) ∧ ∃ m_67, m_67 = dc_up m 164 l2 (dc_w ((m 164 l2) + 1)) ∧ ((0 ≤ (l2 : Int) ∧ (l2 : Int) < 4) ∧ (v = (dc_w ((dc_w ((dc_w (3 * l2)) + (m_67 164 l2))) - 1)) ∧ m' = m_67))))) ∨ (¬ ((l2 : Int) ≠ (m 114 80)) ∧ ((0 ≤ (l2 : Int) ∧ (l2 : Int) < 4) ∧ ∃ m_122, m_122 = dc_up m 163 l2 x0 ∧ ((0 ≤ (l2 : Int) ∧ (l2 : Int) < 4) ∧ ∃ m_143, m_143 = dc_up m_122 164 l2 0 ∧ (∃ m_166, m_166 = dc_up m_143 114 80 (dc_w ((m_143 114 80) + 1)) ∧ ((((x0 : Int) ≤ 20 ∧ (∃ v_209 m_214, D_257 ((dc_w ((dc_w (40 + x0)) - 1))) ((dc_w (144 + l2))) m_166 v_209 m_214 ∧ ((0 ≤ (l2 : Int) ∧ (l2 : Int) < 4) ∧ ((0 ≤ (l2 : Int) ∧ (l2 : Int) < 4) ∧ ∃ m_248, m_248 = dc_up m_214 164 l2 (dc_w ((m_214 164 l2) + 1)) ∧ ((0 ≤ (l2 : Int) ∧ (l2 : Int) < 4) ∧ (v = (dc_w ((dc_w ((dc_w (3 * l2)) + (m_248 164 l2))) - 1)) ∧ m' = m_248)))))) ∨ (¬ ((x0 : Int) ≤ 20) ∧ (∃ v_321 m_326, D_257 ((dc_w ((dc_w ((dc_w (65 + x0)) - 20)) - 1))) ((dc_w (144 + l2))) m_166 v_321 m_326 ∧ ((0 ≤ (l2 : Int) ∧ (l2 : Int) < 4) ∧ ((0 ≤ (l2 : Int) ∧ (l2 : Int) < 4) ∧ ∃ m_360, m_360 = dc_up m_326 164 l2 (dc_w ((m_326 164 l2) + 1)) ∧ ((0 ≤ (l2 : Int) ∧ (l2 : Int) < 4) ∧ (v = (dc_w ((dc_w ((dc_w (3 * l2)) + (m_360 164 l2))) - 1)) ∧ m' = m_360))))))))))))))) ∨ (¬ ((l2 : Int) ≠ 4) ∧ (∃ m_407, m_407 = dc_up m 114 81 1 ∧ (v = 0 ∧ m' = m_407)))))) ∨ (¬ ((l2 : Int) ≥ (m 114 80)) ∧ ((0 ≤ (l2 : Int) ∧ (l2 : Int) < 4) ∧ (((((m 163 l2) : Int) ≠ x0 ∧ (LM_258 x0 c 2 (dc_w (l2 + 1)) m v m')) ∨ (¬ (((m 163 l2) : Int) ≠ x0) ∧ ((0 ≤ (l2 : Int) ∧ (l2 : Int) < 4) ∧ (((((m 164 l2) : Int) ≠ 3 ∧ ((((l2 : Int) ≠ 4 ∧ ((((l2 : Int) ≠ (m 114 80) ∧ ((0 ≤ (l2 : Int) ∧ (l2 : Int) < 4) ∧ ((0 ≤ (l2 : Int) ∧ (l2 : Int) < 4) ∧ ∃ m_522, m_522 = dc_up m 164 l2 (dc_w ((m 164 l2) + 1)) ∧ ((0 ≤ (l2 : Int) ∧ (l2 : Int) < 4) ∧ (v = (dc_w ((dc_w ((dc_w (3 * l2)) + (m_522 164 l2))) - 1)) ∧ m' = m_522))))) ∨ (¬ ((l2 : Int) ≠ (m 114 80)) ∧ ((0 ≤ (l2 : Int) ∧ (l2 : Int) < 4) ∧ ∃ m_577, m_577 = dc_up m 163 l2 x0 ∧ ((0 ≤ (l2 : Int) ∧ (l2 : Int) < 4) ∧ ∃ m_598, m_598 = dc_up m_577 164 l2 0 ∧ (∃ m_621, m_621 = dc_up m_598 114 80 (dc_w ((m_598 114 80) + 1)) ∧ ((((x0 : Int) ≤ 20 ∧ (∃ v_664 m_669, D_257 ((dc_w ((dc_w (40 + x0)) - 1))) ((dc_w (144 + l2))) m_621 v_664 m_669 ∧ ((0 ≤ (l2 : Int) ∧ (l2 : Int) < 4) ∧ ((0 ≤ (l2 : Int) ∧ (l2 : Int) < 4) ∧ ∃ m_703, m_703 = dc_up m_669 164 l2 (dc_w ((m_669 164 l2) + 1)) ∧ ((0 ≤ (l2 : Int) ∧ (l2 : Int) < 4) ∧ (v = (dc_w ((dc_w ((dc_w (3 * l2)) + (m_703 164 l2))) - 1)) ∧ m' = m_703)))))) ∨ (¬ ((x0 : Int) ≤ 20) ∧ (∃ v_776 m_781, D_257 ((dc_w ((dc_w ((dc_w (65 + x0)) - 20)) - 1))) ((dc_w (144 + l2))) m_621 v_776 m_781 ∧ ((0 ≤ (l2 : Int) ∧ (l2 : Int) < 4) ∧ ((0 ≤ (l2 : Int) ∧ (l2 : Int) < 4) ∧ ∃ m_815, m_815 = dc_up m_781 164 l2 (dc_w ((m_781 164 l2) + 1)) ∧ ((0 ≤ (l2 : Int) ∧ (l2 : Int) < 4) ∧ (v = (dc_w ((dc_w ((dc_w (3 * l2)) + (m_815 164 l2))) - 1)) ∧ m' = m_815))))))))))))))) ∨ (¬ ((l2 : Int) ≠ 4) ∧ (∃ m_862, m_862 = dc_up m 114 81 1 ∧ (v = 0 ∧ m' = m_862)))))) ∨ (¬ (((m 164 l2) : Int) ≠ 3) ∧ (LM_258 x0 c 2 (dc_w (l2 + 1)) m v m')))))))))))
theorem lm_258_2 {x0 : Int} {c : Nat} {l2 : Int} {m : dc_M} {v : Int} {m' : dc_M} : LM_258 x0 (c + 1) 2 l2 m v m' ↔ (((l2 : Int) ≥ (m 114 80) ∧ ((((l2 : Int) ≠ 4 ∧ ((((l2 : Int) ≠ (m 114 80) ∧ ((0 ≤ (l2 : Int) ∧ (l2 : Int) < 4) ∧ ((0 ≤ (l2 : Int) ∧ (l2 : Int) < 4) ∧ ∃ m_67, m_67 = dc_up m 164 l2 (dc_w ((m 164 l2) + 1)) ∧ ((0 ≤ (l2 : Int) ∧ (l2 : Int) < 4) ∧ (v = (dc_w ((dc_w ((dc_w (3 * l2)) + (m_67 164 l2))) - 1)) ∧ m' = m_67))))) ∨ (¬ ((l2 : Int) ≠ (m 114 80)) ∧ ((0 ≤ (l2 : Int) ∧ (l2 : Int) < 4) ∧ ∃ m_122, m_122 = dc_up m 163 l2 x0 ∧ ((0 ≤ (l2 : Int) ∧ (l2 : Int) < 4) ∧ ∃ m_143, m_143 = dc_up m_122 164 l2 0 ∧ (∃ m_166, m_166 = dc_up m_143 114 80 (dc_w ((m_143 114 80) + 1)) ∧ ((((x0 : Int) ≤ 20 ∧ (∃ v_209 m_214, D_257 ((dc_w ((dc_w (40 + x0)) - 1))) ((dc_w (144 + l2))) m_166 v_209 m_214 ∧ ((0 ≤ (l2 : Int) ∧ (l2 : Int) < 4) ∧ ((0 ≤ (l2 : Int) ∧ (l2 : Int) < 4) ∧ ∃ m_248, m_248 = dc_up m_214 164 l2 (dc_w ((m_214 164 l2) + 1)) ∧ ((0 ≤ (l2 : Int) ∧ (l2 : Int) < 4) ∧ (v = (dc_w ((dc_w ((dc_w (3 * l2)) + (m_248 164 l2))) - 1)) ∧ m' = m_248)))))) ∨ (¬ ((x0 : Int) ≤ 20) ∧ (∃ v_321 m_326, D_257 ((dc_w ((dc_w ((dc_w (65 + x0)) - 20)) - 1))) ((dc_w (144 + l2))) m_166 v_321 m_326 ∧ ((0 ≤ (l2 : Int) ∧ (l2 : Int) < 4) ∧ ((0 ≤ (l2 : Int) ∧ (l2 : Int) < 4) ∧ ∃ m_360, m_360 = dc_up m_326 164 l2 (dc_w ((m_326 164 l2) + 1)) ∧ ((0 ≤ (l2 : Int) ∧ (l2 : Int) < 4) ∧ (v = (dc_w ((dc_w ((dc_w (3 * l2)) + (m_360 164 l2))) - 1)) ∧ m' = m_360))))))))))))))) ∨ (¬ ((l2 : Int) ≠ 4) ∧ (∃ m_407, m_407 = dc_up m 114 81 1 ∧ (v = 0 ∧ m' = m_407)))))) ∨ (¬ ((l2 : Int) ≥ (m 114 80)) ∧ ((0 ≤ (l2 : Int) ∧ (l2 : Int) < 4) ∧ (((((m 163 l2) : Int) ≠ x0 ∧ (LM_258 x0 c 2 (dc_w (l2 + 1)) m v m')) ∨ (¬ (((m 163 l2) : Int) ≠ x0) ∧ ((0 ≤ (l2 : Int) ∧ (l2 : Int) < 4) ∧ (((((m 164 l2) : Int) ≠ 3 ∧ ((((l2 : Int) ≠ 4 ∧ ((((l2 : Int) ≠ (m 114 80) ∧ ((0 ≤ (l2 : Int) ∧ (l2 : Int) < 4) ∧ ((0 ≤ (l2 : Int) ∧ (l2 : Int) < 4) ∧ ∃ m_522, m_522 = dc_up m 164 l2 (dc_w ((m 164 l2) + 1)) ∧ ((0 ≤ (l2 : Int) ∧ (l2 : Int) < 4) ∧ (v = (dc_w ((dc_w ((dc_w (3 * l2)) + (m_522 164 l2))) - 1)) ∧ m' = m_522))))) ∨ (¬ ((l2 : Int) ≠ (m 114 80)) ∧ ((0 ≤ (l2 : Int) ∧ (l2 : Int) < 4) ∧ ∃ m_577, m_577 = dc_up m 163 l2 x0 ∧ ((0 ≤ (l2 : Int) ∧ (l2 : Int) < 4) ∧ ∃ m_598, m_598 = dc_up m_577 164 l2 0 ∧ (∃ m_621, m_621 = dc_up m_598 114 80 (dc_w ((m_598 114 80) + 1)) ∧ ((((x0 : Int) ≤ 20 ∧ (∃ v_664 m_669, D_257 ((dc_w ((dc_w (40 + x0)) - 1))) ((dc_w (144 + l2))) m_621 v_664 m_669 ∧ ((0 ≤ (l2 : Int) ∧ (l2 : Int) < 4) ∧ ((0 ≤ (l2 : Int) ∧ (l2 : Int) < 4) ∧ ∃ m_703, m_703 = dc_up m_669 164 l2 (dc_w ((m_669 164 l2) + 1)) ∧ ((0 ≤ (l2 : Int) ∧ (l2 : Int) < 4) ∧ (v = (dc_w ((dc_w ((dc_w (3 * l2)) + (m_703 164 l2))) - 1)) ∧ m' = m_703)))))) ∨ (¬ ((x0 : Int) ≤ 20) ∧ (∃ v_776 m_781, D_257 ((dc_w ((dc_w ((dc_w (65 + x0)) - 20)) - 1))) ((dc_w (144 + l2))) m_621 v_776 m_781 ∧ ((0 ≤ (l2 : Int) ∧ (l2 : Int) < 4) ∧ ((0 ≤ (l2 : Int) ∧ (l2 : Int) < 4) ∧ ∃ m_815, m_815 = dc_up m_781 164 l2 (dc_w ((m_781 164 l2) + 1)) ∧ ((0 ≤ (l2 : Int) ∧ (l2 : Int) < 4) ∧ (v = (dc_w ((dc_w ((dc_w (3 * l2)) + (m_815 164 l2))) - 1)) ∧ m' = m_815))))))))))))))) ∨ (¬ ((l2 : Int) ≠ 4) ∧ (∃ m_862, m_862 = dc_up m 114 81 1 ∧ (v = 0 ∧ m' = m_862)))))) ∨ (¬ (((m 164 l2) : Int) ≠ 3) ∧ (LM_258 x0 c 2 (dc_w (l2 + 1)) m v m'))))))))))) := Iff.rfl
theorem dl_258 {x0 : Int} (ix0 : sv_I x0) : ∀ N : Nat, (∀ (n : Nat) (lv : ae_L) (h : ae_H) (r : ae_R) (l2 : Int), n ≤ N → dc_ok h → sv_I l2 → ae_lk lv 0 = some (wk_r 114) → ae_lk lv 1 = some (wk_i x0) → ae_lk lv 2 = some (wk_i l2) → ae_exe n 258 2 0 0 lv [] h = some r → ∃ v, (∃ c, LM_258 x0 c 2 l2 (dc_m h) v (dc_m r.2)) ∧ r.1 = some (wk_i v) ∧ sv_I v ∧ dc_ok r.2) := by
  intro N
  induction N with
  | zero =>
    exact fun n lv h r l2 hn ok il2 q0 q1 q2 hr => by
      have e : n = 0 := by omega
      subst e
      cases hr
  | succ N ih =>
    have ih0 := ih
    intro n lv h r l2 hn ok il2 q0 q1 q2 hr
    obtain ⟨n_1, e_2, hr_3⟩ := iv_iload_n xm_258 xd_258_2 q2 hr
    obtain ⟨n_4, e_5, hr_6⟩ := iv_aload_n xm_258 xd_258_3 q0 hr_3
    have f_7 := dc_fi (j := 80) ok (rfl : sv_ty 114 = some 12) dt_12 rfl
    obtain ⟨n_8, e_9, hr_10⟩ := iv_getf (j := 80) xm_258 xd_258_4 (by decide +kernel) ok (rfl : sv_ty 114 = some 12) dt_12 f_7.1 hr_6
    rcases iv_icmp 36 xm_258 xd_258_7 (by decide) il2 f_7.2 hr_10 with ⟨c_11, n_12, e_13, hr_14⟩ | ⟨c_11, n_12, e_13, hr_14⟩
    · obtain ⟨n_15, e_16, hr_17⟩ := iv_iload_n xm_258 xd_258_36 q2 hr_14
      obtain ⟨n_18, e_19, hr_20⟩ := iv_iconst xm_258 xd_258_37 (by decide) hr_17
      rcases iv_icmp 48 xm_258 xd_258_38 (by decide) il2 (by unfold sv_I; omega) hr_20 with ⟨c_21, n_22, e_23, hr_24⟩ | ⟨c_21, n_22, e_23, hr_24⟩
      · obtain ⟨n_25, e_26, hr_27⟩ := iv_iload_n xm_258 xd_258_48 q2 hr_24
        obtain ⟨n_28, e_29, hr_30⟩ := iv_aload_n xm_258 xd_258_49 q0 hr_27
        have f_31 := dc_fi (j := 80) ok (rfl : sv_ty 114 = some 12) dt_12 rfl
        obtain ⟨n_32, e_33, hr_34⟩ := iv_getf (j := 80) xm_258 xd_258_50 (by decide +kernel) ok (rfl : sv_ty 114 = some 12) dt_12 f_31.1 hr_30
        rcases iv_icmp 113 xm_258 xd_258_53 (by decide) il2 f_31.2 hr_34 with ⟨c_35, n_36, e_37, hr_38⟩ | ⟨c_35, n_36, e_37, hr_38⟩
        · obtain ⟨n_39, e_40, hr_41⟩ := iv_aload_n xm_258 xd_258_113 q0 hr_38
          have f_42 := dc_fr (j := 75) ok (rfl : sv_ty 114 = some 12) dt_12 rfl
          obtain ⟨n_43, e_44, hr_45⟩ := iv_getf (j := 75) xm_258 xd_258_114 (by decide +kernel) ok (rfl : sv_ty 114 = some 12) dt_12 f_42 hr_41
          obtain ⟨n_46, e_47, hr_48⟩ := iv_iload_n xm_258 xd_258_117 q2 hr_45
          obtain ⟨n_49, e_50, hr_51⟩ := iv_dup2 xm_258 xd_258_118 rfl rfl hr_48
          obtain ⟨q_52, qi_53, n_54, e_55, hr_56⟩ := iv_iald xm_258 xd_258_119 ok (rfl : sv_ty 164 = some 100) dt_100 (by decide) il2 hr_51
          obtain ⟨n_57, e_58, hr_59⟩ := iv_iconst xm_258 xd_258_120 (by decide) hr_56
          obtain ⟨n_60, e_61, hr_62⟩ := iw_iadd xm_258 xd_258_121 hr_59
          obtain ⟨q_63, h_64, ok_65, em_66, n_68, e_69, hr_70⟩ := iv_iast xm_258 xd_258_122 ok (rfl : sv_ty 164 = some 100) dt_100 (by decide) il2 (dc_w_I _) hr_62
          obtain ⟨n_71, e_72, hr_73⟩ := iv_iconst xm_258 xd_258_123 (by decide) hr_70
          obtain ⟨n_74, e_75, hr_76⟩ := iv_iload_n xm_258 xd_258_124 q2 hr_73
          obtain ⟨n_77, e_78, hr_79⟩ := iw_imul xm_258 xd_258_125 hr_76
          obtain ⟨n_80, e_81, hr_82⟩ := iv_aload_n xm_258 xd_258_126 q0 hr_79
          have f_83 := dc_fr (j := 75) ok_65 (rfl : sv_ty 114 = some 12) dt_12 rfl
          obtain ⟨n_84, e_85, hr_86⟩ := iv_getf (j := 75) xm_258 xd_258_127 (by decide +kernel) ok_65 (rfl : sv_ty 114 = some 12) dt_12 f_83 hr_82
          obtain ⟨n_87, e_88, hr_89⟩ := iv_iload_n xm_258 xd_258_130 q2 hr_86
          obtain ⟨q_90, qi_91, n_92, e_93, hr_94⟩ := iv_iald xm_258 xd_258_131 ok_65 (rfl : sv_ty 164 = some 100) dt_100 (by decide) il2 hr_89
          obtain ⟨n_95, e_96, hr_97⟩ := iw_iadd xm_258 xd_258_132 hr_94
          obtain ⟨n_98, e_99, hr_100⟩ := iv_iconst xm_258 xd_258_133 (by decide) hr_97
          obtain ⟨n_101, e_102, hr_103⟩ := iw_isub xm_258 xd_258_134 hr_100
          have rr_104 := iv_ireturn xm_258 xd_258_135 hr_103
          subst rr_104
          exact ⟨_, ⟨0 + 1, lm_258_2.mpr (Or.inl ⟨c_11, Or.inl ⟨c_21, Or.inl ⟨c_35, ⟨q_52, ⟨q_63, _, em_66, ⟨q_90, ⟨rfl, rfl⟩⟩⟩⟩⟩⟩⟩)⟩, rfl, (dc_w_I _), ok_65⟩
        · obtain ⟨n_105, e_106, hr_107⟩ := iv_aload_n xm_258 xd_258_56 q0 hr_38
          have f_108 := dc_fr (j := 74) ok (rfl : sv_ty 114 = some 12) dt_12 rfl
          obtain ⟨n_109, e_110, hr_111⟩ := iv_getf (j := 74) xm_258 xd_258_57 (by decide +kernel) ok (rfl : sv_ty 114 = some 12) dt_12 f_108 hr_107
          obtain ⟨n_112, e_113, hr_114⟩ := iv_iload_n xm_258 xd_258_60 q2 hr_111
          obtain ⟨n_115, e_116, hr_117⟩ := iv_iload_n xm_258 xd_258_61 q1 hr_114
          obtain ⟨q_118, h_119, ok_120, em_121, n_123, e_124, hr_125⟩ := iv_iast xm_258 xd_258_62 ok (rfl : sv_ty 163 = some 99) dt_99 (by decide) il2 ix0 hr_117
          obtain ⟨n_126, e_127, hr_128⟩ := iv_aload_n xm_258 xd_258_63 q0 hr_125
          have f_129 := dc_fr (j := 75) ok_120 (rfl : sv_ty 114 = some 12) dt_12 rfl
          obtain ⟨n_130, e_131, hr_132⟩ := iv_getf (j := 75) xm_258 xd_258_64 (by decide +kernel) ok_120 (rfl : sv_ty 114 = some 12) dt_12 f_129 hr_128
          obtain ⟨n_133, e_134, hr_135⟩ := iv_iload_n xm_258 xd_258_67 q2 hr_132
          obtain ⟨n_136, e_137, hr_138⟩ := iv_iconst xm_258 xd_258_68 (by decide) hr_135
          obtain ⟨q_139, h_140, ok_141, em_142, n_144, e_145, hr_146⟩ := iv_iast xm_258 xd_258_69 ok_120 (rfl : sv_ty 164 = some 100) dt_100 (by decide) il2 (by unfold sv_I; omega) hr_138
          obtain ⟨n_147, e_148, hr_149⟩ := iv_aload_n xm_258 xd_258_70 q0 hr_146
          obtain ⟨n_150, e_151, hr_152⟩ := iv_dup xm_258 xd_258_71 rfl hr_149
          have f_153 := dc_fi (j := 80) ok_141 (rfl : sv_ty 114 = some 12) dt_12 rfl
          obtain ⟨n_154, e_155, hr_156⟩ := iv_getf (j := 80) xm_258 xd_258_72 (by decide +kernel) ok_141 (rfl : sv_ty 114 = some 12) dt_12 f_153.1 hr_152
          obtain ⟨n_157, e_158, hr_159⟩ := iv_iconst xm_258 xd_258_75 (by decide) hr_156
          obtain ⟨n_160, e_161, hr_162⟩ := iw_iadd xm_258 xd_258_76 hr_159
          obtain ⟨h_163, ok_164, em_165, n_167, e_168, hr_169⟩ := iv_puti (j := 80) (fk := 0) xm_258 xd_258_77 (by decide +kernel) ok_141 (rfl : sv_ty 114 = some 12) dt_12 rfl (by decide +kernel) rfl (dc_w_I _) hr_162
          obtain ⟨n_170, e_171, hr_172⟩ := iv_aload_n xm_258 xd_258_80 q0 hr_169
          obtain ⟨n_173, e_174, hr_175⟩ := iv_iload_n xm_258 xd_258_81 q1 hr_172
          obtain ⟨n_176, e_177, hr_178⟩ := iv_bipush xm_258 xd_258_82 (by decide) hr_175
          rcases iv_icmp 99 xm_258 xd_258_84 (by decide) ix0 (by unfold sv_I; omega) hr_178 with ⟨c_179, n_180, e_181, hr_182⟩ | ⟨c_179, n_180, e_181, hr_182⟩
          · obtain ⟨n_183, e_184, hr_185⟩ := iv_bipush xm_258 xd_258_99 (by decide) hr_182
            obtain ⟨n_186, e_187, hr_188⟩ := iv_iload_n xm_258 xd_258_101 q1 hr_185
            obtain ⟨n_189, e_190, hr_191⟩ := iw_iadd xm_258 xd_258_102 hr_188
            obtain ⟨n_192, e_193, hr_194⟩ := iv_iconst xm_258 xd_258_103 (by decide) hr_191
            obtain ⟨n_195, e_196, hr_197⟩ := iw_isub xm_258 xd_258_104 hr_194
            obtain ⟨n_198, e_199, hr_200⟩ := iv_sipush xm_258 xd_258_105 (by decide) hr_197
            obtain ⟨n_201, e_202, hr_203⟩ := iv_iload_n xm_258 xd_258_108 q2 hr_200
            obtain ⟨n_204, e_205, hr_206⟩ := iw_iadd xm_258 xd_258_109 hr_203
            obtain ⟨n_216, r_207, e_217, hc_208, hr_218⟩ := iv_call (Or.inr ⟨rfl, rfl⟩) xm_258 xd_258_110 (by decide +kernel) xm_257 rfl (by decide +kernel) hr_206
            obtain ⟨v_209, d_210, er_211, iv_212, ok_213⟩ := ds_257 _ _ _ ok_164 (dc_w_I _) (dc_w_I _) hc_208
            obtain ⟨_, h_215⟩ := r_207
            have er_211 : _ = none := er_211
            subst er_211
            have hr_219 : ae_exe n_216 258 (110 + 3) 0 0 lv _ h_215 = some r := hr_218
            obtain ⟨n_220, e_221, hr_222⟩ := iv_aload_n xm_258 xd_258_113 q0 hr_219
            have f_223 := dc_fr (j := 75) ok_213 (rfl : sv_ty 114 = some 12) dt_12 rfl
            obtain ⟨n_224, e_225, hr_226⟩ := iv_getf (j := 75) xm_258 xd_258_114 (by decide +kernel) ok_213 (rfl : sv_ty 114 = some 12) dt_12 f_223 hr_222
            obtain ⟨n_227, e_228, hr_229⟩ := iv_iload_n xm_258 xd_258_117 q2 hr_226
            obtain ⟨n_230, e_231, hr_232⟩ := iv_dup2 xm_258 xd_258_118 rfl rfl hr_229
            obtain ⟨q_233, qi_234, n_235, e_236, hr_237⟩ := iv_iald xm_258 xd_258_119 ok_213 (rfl : sv_ty 164 = some 100) dt_100 (by decide) il2 hr_232
            obtain ⟨n_238, e_239, hr_240⟩ := iv_iconst xm_258 xd_258_120 (by decide) hr_237
            obtain ⟨n_241, e_242, hr_243⟩ := iw_iadd xm_258 xd_258_121 hr_240
            obtain ⟨q_244, h_245, ok_246, em_247, n_249, e_250, hr_251⟩ := iv_iast xm_258 xd_258_122 ok_213 (rfl : sv_ty 164 = some 100) dt_100 (by decide) il2 (dc_w_I _) hr_243
            obtain ⟨n_252, e_253, hr_254⟩ := iv_iconst xm_258 xd_258_123 (by decide) hr_251
            obtain ⟨n_255, e_256, hr_257⟩ := iv_iload_n xm_258 xd_258_124 q2 hr_254
            obtain ⟨n_258, e_259, hr_260⟩ := iw_imul xm_258 xd_258_125 hr_257
            obtain ⟨n_261, e_262, hr_263⟩ := iv_aload_n xm_258 xd_258_126 q0 hr_260
            have f_264 := dc_fr (j := 75) ok_246 (rfl : sv_ty 114 = some 12) dt_12 rfl
            obtain ⟨n_265, e_266, hr_267⟩ := iv_getf (j := 75) xm_258 xd_258_127 (by decide +kernel) ok_246 (rfl : sv_ty 114 = some 12) dt_12 f_264 hr_263
            obtain ⟨n_268, e_269, hr_270⟩ := iv_iload_n xm_258 xd_258_130 q2 hr_267
            obtain ⟨q_271, qi_272, n_273, e_274, hr_275⟩ := iv_iald xm_258 xd_258_131 ok_246 (rfl : sv_ty 164 = some 100) dt_100 (by decide) il2 hr_270
            obtain ⟨n_276, e_277, hr_278⟩ := iw_iadd xm_258 xd_258_132 hr_275
            obtain ⟨n_279, e_280, hr_281⟩ := iv_iconst xm_258 xd_258_133 (by decide) hr_278
            obtain ⟨n_282, e_283, hr_284⟩ := iw_isub xm_258 xd_258_134 hr_281
            have rr_285 := iv_ireturn xm_258 xd_258_135 hr_284
            subst rr_285
            exact ⟨_, ⟨0 + 1, lm_258_2.mpr (Or.inl ⟨c_11, Or.inl ⟨c_21, Or.inr ⟨c_35, ⟨q_118, _, em_121, ⟨q_139, _, em_142, ⟨_, em_165, Or.inl ⟨c_179, ⟨_, _, d_210, ⟨q_233, ⟨q_244, _, em_247, ⟨q_271, ⟨rfl, rfl⟩⟩⟩⟩⟩⟩⟩⟩⟩⟩⟩⟩)⟩, rfl, (dc_w_I _), ok_246⟩
          · obtain ⟨n_286, e_287, hr_288⟩ := iv_bipush xm_258 xd_258_87 (by decide) hr_182
            obtain ⟨n_289, e_290, hr_291⟩ := iv_iload_n xm_258 xd_258_89 q1 hr_288
            obtain ⟨n_292, e_293, hr_294⟩ := iw_iadd xm_258 xd_258_90 hr_291
            obtain ⟨n_295, e_296, hr_297⟩ := iv_bipush xm_258 xd_258_91 (by decide) hr_294
            obtain ⟨n_298, e_299, hr_300⟩ := iw_isub xm_258 xd_258_93 hr_297
            obtain ⟨n_301, e_302, hr_303⟩ := iv_iconst xm_258 xd_258_94 (by decide) hr_300
            obtain ⟨n_304, e_305, hr_306⟩ := iw_isub xm_258 xd_258_95 hr_303
            obtain ⟨n_307, e_308, hr_309⟩ := iv_goto 105 xm_258 xd_258_96 (by decide) hr_306
            obtain ⟨n_310, e_311, hr_312⟩ := iv_sipush xm_258 xd_258_105 (by decide) hr_309
            obtain ⟨n_313, e_314, hr_315⟩ := iv_iload_n xm_258 xd_258_108 q2 hr_312
            obtain ⟨n_316, e_317, hr_318⟩ := iw_iadd xm_258 xd_258_109 hr_315
            obtain ⟨n_328, r_319, e_329, hc_320, hr_330⟩ := iv_call (Or.inr ⟨rfl, rfl⟩) xm_258 xd_258_110 (by decide +kernel) xm_257 rfl (by decide +kernel) hr_318
            obtain ⟨v_321, d_322, er_323, iv_324, ok_325⟩ := ds_257 _ _ _ ok_164 (dc_w_I _) (dc_w_I _) hc_320
            obtain ⟨_, h_327⟩ := r_319
            have er_323 : _ = none := er_323
            subst er_323
            have hr_331 : ae_exe n_328 258 (110 + 3) 0 0 lv _ h_327 = some r := hr_330
            obtain ⟨n_332, e_333, hr_334⟩ := iv_aload_n xm_258 xd_258_113 q0 hr_331
            have f_335 := dc_fr (j := 75) ok_325 (rfl : sv_ty 114 = some 12) dt_12 rfl
            obtain ⟨n_336, e_337, hr_338⟩ := iv_getf (j := 75) xm_258 xd_258_114 (by decide +kernel) ok_325 (rfl : sv_ty 114 = some 12) dt_12 f_335 hr_334
            obtain ⟨n_339, e_340, hr_341⟩ := iv_iload_n xm_258 xd_258_117 q2 hr_338
            obtain ⟨n_342, e_343, hr_344⟩ := iv_dup2 xm_258 xd_258_118 rfl rfl hr_341
            obtain ⟨q_345, qi_346, n_347, e_348, hr_349⟩ := iv_iald xm_258 xd_258_119 ok_325 (rfl : sv_ty 164 = some 100) dt_100 (by decide) il2 hr_344
            obtain ⟨n_350, e_351, hr_352⟩ := iv_iconst xm_258 xd_258_120 (by decide) hr_349
            obtain ⟨n_353, e_354, hr_355⟩ := iw_iadd xm_258 xd_258_121 hr_352
            obtain ⟨q_356, h_357, ok_358, em_359, n_361, e_362, hr_363⟩ := iv_iast xm_258 xd_258_122 ok_325 (rfl : sv_ty 164 = some 100) dt_100 (by decide) il2 (dc_w_I _) hr_355
            obtain ⟨n_364, e_365, hr_366⟩ := iv_iconst xm_258 xd_258_123 (by decide) hr_363
            obtain ⟨n_367, e_368, hr_369⟩ := iv_iload_n xm_258 xd_258_124 q2 hr_366
            obtain ⟨n_370, e_371, hr_372⟩ := iw_imul xm_258 xd_258_125 hr_369
            obtain ⟨n_373, e_374, hr_375⟩ := iv_aload_n xm_258 xd_258_126 q0 hr_372
            have f_376 := dc_fr (j := 75) ok_358 (rfl : sv_ty 114 = some 12) dt_12 rfl
            obtain ⟨n_377, e_378, hr_379⟩ := iv_getf (j := 75) xm_258 xd_258_127 (by decide +kernel) ok_358 (rfl : sv_ty 114 = some 12) dt_12 f_376 hr_375
            obtain ⟨n_380, e_381, hr_382⟩ := iv_iload_n xm_258 xd_258_130 q2 hr_379
            obtain ⟨q_383, qi_384, n_385, e_386, hr_387⟩ := iv_iald xm_258 xd_258_131 ok_358 (rfl : sv_ty 164 = some 100) dt_100 (by decide) il2 hr_382
            obtain ⟨n_388, e_389, hr_390⟩ := iw_iadd xm_258 xd_258_132 hr_387
            obtain ⟨n_391, e_392, hr_393⟩ := iv_iconst xm_258 xd_258_133 (by decide) hr_390
            obtain ⟨n_394, e_395, hr_396⟩ := iw_isub xm_258 xd_258_134 hr_393
            have rr_397 := iv_ireturn xm_258 xd_258_135 hr_396
            subst rr_397
            exact ⟨_, ⟨0 + 1, lm_258_2.mpr (Or.inl ⟨c_11, Or.inl ⟨c_21, Or.inr ⟨c_35, ⟨q_118, _, em_121, ⟨q_139, _, em_142, ⟨_, em_165, Or.inr ⟨c_179, ⟨_, _, d_322, ⟨q_345, ⟨q_356, _, em_359, ⟨q_383, ⟨rfl, rfl⟩⟩⟩⟩⟩⟩⟩⟩⟩⟩⟩⟩)⟩, rfl, (dc_w_I _), ok_358⟩
      · obtain ⟨n_398, e_399, hr_400⟩ := iv_aload_n xm_258 xd_258_41 q0 hr_24
        obtain ⟨n_401, e_402, hr_403⟩ := iv_iconst xm_258 xd_258_42 (by decide) hr_400
        obtain ⟨h_404, ok_405, em_406, n_408, e_409, hr_410⟩ := iv_puti (j := 81) (fk := 1) xm_258 xd_258_43 (by decide +kernel) ok (rfl : sv_ty 114 = some 12) dt_12 rfl (by decide +kernel) rfl (by unfold sv_I; omega) hr_403
        obtain ⟨n_411, e_412, hr_413⟩ := iv_iconst xm_258 xd_258_46 (by decide) hr_410
        have rr_414 := iv_ireturn xm_258 xd_258_47 hr_413
        subst rr_414
        exact ⟨_, ⟨0 + 1, lm_258_2.mpr (Or.inl ⟨c_11, Or.inr ⟨c_21, ⟨_, em_406, ⟨rfl, rfl⟩⟩⟩⟩)⟩, rfl, (by unfold sv_I; omega), ok_405⟩
    · obtain ⟨n_415, e_416, hr_417⟩ := iv_aload_n xm_258 xd_258_10 q0 hr_14
      have f_418 := dc_fr (j := 74) ok (rfl : sv_ty 114 = some 12) dt_12 rfl
      obtain ⟨n_419, e_420, hr_421⟩ := iv_getf (j := 74) xm_258 xd_258_11 (by decide +kernel) ok (rfl : sv_ty 114 = some 12) dt_12 f_418 hr_417
      obtain ⟨n_422, e_423, hr_424⟩ := iv_iload_n xm_258 xd_258_14 q2 hr_421
      obtain ⟨q_425, qi_426, n_427, e_428, hr_429⟩ := iv_iald xm_258 xd_258_15 ok (rfl : sv_ty 163 = some 99) dt_99 (by decide) il2 hr_424
      obtain ⟨n_430, e_431, hr_432⟩ := iv_iload_n xm_258 xd_258_16 q1 hr_429
      rcases iv_icmp 30 xm_258 xd_258_17 (by decide) qi_426 ix0 hr_432 with ⟨c_433, n_434, e_435, hr_436⟩ | ⟨c_433, n_434, e_435, hr_436⟩
      · obtain ⟨lv_438, sl_437, n_439, e_440, hr_441⟩ := iw_iinc xm_258 xd_258_30 (by decide +kernel) (by decide) q2 hr_436
        have l_442 := sl_437.2 0 _ q0 (by decide) (Or.inl rfl)
        have l_443 := sl_437.2 1 _ q1 (by decide) (Or.inl rfl)
        have l_444 := sl_437.1
        obtain ⟨n_445, e_446, hr_447⟩ := iv_goto 2 xm_258 xd_258_33 (by decide) hr_441
        obtain ⟨v, ⟨c, hL⟩, e1, e2, e3⟩ := ih0 _ lv_438 h _ _ (by omega) ok (dc_w_I _) l_442 l_443 l_444 hr_447
        exact ⟨v, ⟨c + 1, lm_258_2.mpr (Or.inr ⟨c_11, ⟨q_425, Or.inl ⟨c_433, hL⟩⟩⟩)⟩, e1, e2, e3⟩
      · obtain ⟨n_448, e_449, hr_450⟩ := iv_aload_n xm_258 xd_258_20 q0 hr_436
        have f_451 := dc_fr (j := 75) ok (rfl : sv_ty 114 = some 12) dt_12 rfl
        obtain ⟨n_452, e_453, hr_454⟩ := iv_getf (j := 75) xm_258 xd_258_21 (by decide +kernel) ok (rfl : sv_ty 114 = some 12) dt_12 f_451 hr_450
        obtain ⟨n_455, e_456, hr_457⟩ := iv_iload_n xm_258 xd_258_24 q2 hr_454
        obtain ⟨q_458, qi_459, n_460, e_461, hr_462⟩ := iv_iald xm_258 xd_258_25 ok (rfl : sv_ty 164 = some 100) dt_100 (by decide) il2 hr_457
        obtain ⟨n_463, e_464, hr_465⟩ := iv_iconst xm_258 xd_258_26 (by decide) hr_462
        rcases iv_icmp 36 xm_258 xd_258_27 (by decide) qi_459 (by unfold sv_I; omega) hr_465 with ⟨c_466, n_467, e_468, hr_469⟩ | ⟨c_466, n_467, e_468, hr_469⟩
        · obtain ⟨n_470, e_471, hr_472⟩ := iv_iload_n xm_258 xd_258_36 q2 hr_469
          obtain ⟨n_473, e_474, hr_475⟩ := iv_iconst xm_258 xd_258_37 (by decide) hr_472
          rcases iv_icmp 48 xm_258 xd_258_38 (by decide) il2 (by unfold sv_I; omega) hr_475 with ⟨c_476, n_477, e_478, hr_479⟩ | ⟨c_476, n_477, e_478, hr_479⟩
          · obtain ⟨n_480, e_481, hr_482⟩ := iv_iload_n xm_258 xd_258_48 q2 hr_479
            obtain ⟨n_483, e_484, hr_485⟩ := iv_aload_n xm_258 xd_258_49 q0 hr_482
            have f_486 := dc_fi (j := 80) ok (rfl : sv_ty 114 = some 12) dt_12 rfl
            obtain ⟨n_487, e_488, hr_489⟩ := iv_getf (j := 80) xm_258 xd_258_50 (by decide +kernel) ok (rfl : sv_ty 114 = some 12) dt_12 f_486.1 hr_485
            rcases iv_icmp 113 xm_258 xd_258_53 (by decide) il2 f_486.2 hr_489 with ⟨c_490, n_491, e_492, hr_493⟩ | ⟨c_490, n_491, e_492, hr_493⟩
            · obtain ⟨n_494, e_495, hr_496⟩ := iv_aload_n xm_258 xd_258_113 q0 hr_493
              have f_497 := dc_fr (j := 75) ok (rfl : sv_ty 114 = some 12) dt_12 rfl
              obtain ⟨n_498, e_499, hr_500⟩ := iv_getf (j := 75) xm_258 xd_258_114 (by decide +kernel) ok (rfl : sv_ty 114 = some 12) dt_12 f_497 hr_496
              obtain ⟨n_501, e_502, hr_503⟩ := iv_iload_n xm_258 xd_258_117 q2 hr_500
              obtain ⟨n_504, e_505, hr_506⟩ := iv_dup2 xm_258 xd_258_118 rfl rfl hr_503
              obtain ⟨q_507, qi_508, n_509, e_510, hr_511⟩ := iv_iald xm_258 xd_258_119 ok (rfl : sv_ty 164 = some 100) dt_100 (by decide) il2 hr_506
              obtain ⟨n_512, e_513, hr_514⟩ := iv_iconst xm_258 xd_258_120 (by decide) hr_511
              obtain ⟨n_515, e_516, hr_517⟩ := iw_iadd xm_258 xd_258_121 hr_514
              obtain ⟨q_518, h_519, ok_520, em_521, n_523, e_524, hr_525⟩ := iv_iast xm_258 xd_258_122 ok (rfl : sv_ty 164 = some 100) dt_100 (by decide) il2 (dc_w_I _) hr_517
              obtain ⟨n_526, e_527, hr_528⟩ := iv_iconst xm_258 xd_258_123 (by decide) hr_525
              obtain ⟨n_529, e_530, hr_531⟩ := iv_iload_n xm_258 xd_258_124 q2 hr_528
              obtain ⟨n_532, e_533, hr_534⟩ := iw_imul xm_258 xd_258_125 hr_531
              obtain ⟨n_535, e_536, hr_537⟩ := iv_aload_n xm_258 xd_258_126 q0 hr_534
              have f_538 := dc_fr (j := 75) ok_520 (rfl : sv_ty 114 = some 12) dt_12 rfl
              obtain ⟨n_539, e_540, hr_541⟩ := iv_getf (j := 75) xm_258 xd_258_127 (by decide +kernel) ok_520 (rfl : sv_ty 114 = some 12) dt_12 f_538 hr_537
              obtain ⟨n_542, e_543, hr_544⟩ := iv_iload_n xm_258 xd_258_130 q2 hr_541
              obtain ⟨q_545, qi_546, n_547, e_548, hr_549⟩ := iv_iald xm_258 xd_258_131 ok_520 (rfl : sv_ty 164 = some 100) dt_100 (by decide) il2 hr_544
              obtain ⟨n_550, e_551, hr_552⟩ := iw_iadd xm_258 xd_258_132 hr_549
              obtain ⟨n_553, e_554, hr_555⟩ := iv_iconst xm_258 xd_258_133 (by decide) hr_552
              obtain ⟨n_556, e_557, hr_558⟩ := iw_isub xm_258 xd_258_134 hr_555
              have rr_559 := iv_ireturn xm_258 xd_258_135 hr_558
              subst rr_559
              exact ⟨_, ⟨0 + 1, lm_258_2.mpr (Or.inr ⟨c_11, ⟨q_425, Or.inr ⟨c_433, ⟨q_458, Or.inl ⟨c_466, Or.inl ⟨c_476, Or.inl ⟨c_490, ⟨q_507, ⟨q_518, _, em_521, ⟨q_545, ⟨rfl, rfl⟩⟩⟩⟩⟩⟩⟩⟩⟩⟩⟩)⟩, rfl, (dc_w_I _), ok_520⟩
            · obtain ⟨n_560, e_561, hr_562⟩ := iv_aload_n xm_258 xd_258_56 q0 hr_493
              have f_563 := dc_fr (j := 74) ok (rfl : sv_ty 114 = some 12) dt_12 rfl
              obtain ⟨n_564, e_565, hr_566⟩ := iv_getf (j := 74) xm_258 xd_258_57 (by decide +kernel) ok (rfl : sv_ty 114 = some 12) dt_12 f_563 hr_562
              obtain ⟨n_567, e_568, hr_569⟩ := iv_iload_n xm_258 xd_258_60 q2 hr_566
              obtain ⟨n_570, e_571, hr_572⟩ := iv_iload_n xm_258 xd_258_61 q1 hr_569
              obtain ⟨q_573, h_574, ok_575, em_576, n_578, e_579, hr_580⟩ := iv_iast xm_258 xd_258_62 ok (rfl : sv_ty 163 = some 99) dt_99 (by decide) il2 ix0 hr_572
              obtain ⟨n_581, e_582, hr_583⟩ := iv_aload_n xm_258 xd_258_63 q0 hr_580
              have f_584 := dc_fr (j := 75) ok_575 (rfl : sv_ty 114 = some 12) dt_12 rfl
              obtain ⟨n_585, e_586, hr_587⟩ := iv_getf (j := 75) xm_258 xd_258_64 (by decide +kernel) ok_575 (rfl : sv_ty 114 = some 12) dt_12 f_584 hr_583
              obtain ⟨n_588, e_589, hr_590⟩ := iv_iload_n xm_258 xd_258_67 q2 hr_587
              obtain ⟨n_591, e_592, hr_593⟩ := iv_iconst xm_258 xd_258_68 (by decide) hr_590
              obtain ⟨q_594, h_595, ok_596, em_597, n_599, e_600, hr_601⟩ := iv_iast xm_258 xd_258_69 ok_575 (rfl : sv_ty 164 = some 100) dt_100 (by decide) il2 (by unfold sv_I; omega) hr_593
              obtain ⟨n_602, e_603, hr_604⟩ := iv_aload_n xm_258 xd_258_70 q0 hr_601
              obtain ⟨n_605, e_606, hr_607⟩ := iv_dup xm_258 xd_258_71 rfl hr_604
              have f_608 := dc_fi (j := 80) ok_596 (rfl : sv_ty 114 = some 12) dt_12 rfl
              obtain ⟨n_609, e_610, hr_611⟩ := iv_getf (j := 80) xm_258 xd_258_72 (by decide +kernel) ok_596 (rfl : sv_ty 114 = some 12) dt_12 f_608.1 hr_607
              obtain ⟨n_612, e_613, hr_614⟩ := iv_iconst xm_258 xd_258_75 (by decide) hr_611
              obtain ⟨n_615, e_616, hr_617⟩ := iw_iadd xm_258 xd_258_76 hr_614
              obtain ⟨h_618, ok_619, em_620, n_622, e_623, hr_624⟩ := iv_puti (j := 80) (fk := 0) xm_258 xd_258_77 (by decide +kernel) ok_596 (rfl : sv_ty 114 = some 12) dt_12 rfl (by decide +kernel) rfl (dc_w_I _) hr_617
              obtain ⟨n_625, e_626, hr_627⟩ := iv_aload_n xm_258 xd_258_80 q0 hr_624
              obtain ⟨n_628, e_629, hr_630⟩ := iv_iload_n xm_258 xd_258_81 q1 hr_627
              obtain ⟨n_631, e_632, hr_633⟩ := iv_bipush xm_258 xd_258_82 (by decide) hr_630
              rcases iv_icmp 99 xm_258 xd_258_84 (by decide) ix0 (by unfold sv_I; omega) hr_633 with ⟨c_634, n_635, e_636, hr_637⟩ | ⟨c_634, n_635, e_636, hr_637⟩
              · obtain ⟨n_638, e_639, hr_640⟩ := iv_bipush xm_258 xd_258_99 (by decide) hr_637
                obtain ⟨n_641, e_642, hr_643⟩ := iv_iload_n xm_258 xd_258_101 q1 hr_640
                obtain ⟨n_644, e_645, hr_646⟩ := iw_iadd xm_258 xd_258_102 hr_643
                obtain ⟨n_647, e_648, hr_649⟩ := iv_iconst xm_258 xd_258_103 (by decide) hr_646
                obtain ⟨n_650, e_651, hr_652⟩ := iw_isub xm_258 xd_258_104 hr_649
                obtain ⟨n_653, e_654, hr_655⟩ := iv_sipush xm_258 xd_258_105 (by decide) hr_652
                obtain ⟨n_656, e_657, hr_658⟩ := iv_iload_n xm_258 xd_258_108 q2 hr_655
                obtain ⟨n_659, e_660, hr_661⟩ := iw_iadd xm_258 xd_258_109 hr_658
                obtain ⟨n_671, r_662, e_672, hc_663, hr_673⟩ := iv_call (Or.inr ⟨rfl, rfl⟩) xm_258 xd_258_110 (by decide +kernel) xm_257 rfl (by decide +kernel) hr_661
                obtain ⟨v_664, d_665, er_666, iv_667, ok_668⟩ := ds_257 _ _ _ ok_619 (dc_w_I _) (dc_w_I _) hc_663
                obtain ⟨_, h_670⟩ := r_662
                have er_666 : _ = none := er_666
                subst er_666
                have hr_674 : ae_exe n_671 258 (110 + 3) 0 0 lv _ h_670 = some r := hr_673
                obtain ⟨n_675, e_676, hr_677⟩ := iv_aload_n xm_258 xd_258_113 q0 hr_674
                have f_678 := dc_fr (j := 75) ok_668 (rfl : sv_ty 114 = some 12) dt_12 rfl
                obtain ⟨n_679, e_680, hr_681⟩ := iv_getf (j := 75) xm_258 xd_258_114 (by decide +kernel) ok_668 (rfl : sv_ty 114 = some 12) dt_12 f_678 hr_677
                obtain ⟨n_682, e_683, hr_684⟩ := iv_iload_n xm_258 xd_258_117 q2 hr_681
                obtain ⟨n_685, e_686, hr_687⟩ := iv_dup2 xm_258 xd_258_118 rfl rfl hr_684
                obtain ⟨q_688, qi_689, n_690, e_691, hr_692⟩ := iv_iald xm_258 xd_258_119 ok_668 (rfl : sv_ty 164 = some 100) dt_100 (by decide) il2 hr_687
                obtain ⟨n_693, e_694, hr_695⟩ := iv_iconst xm_258 xd_258_120 (by decide) hr_692
                obtain ⟨n_696, e_697, hr_698⟩ := iw_iadd xm_258 xd_258_121 hr_695
                obtain ⟨q_699, h_700, ok_701, em_702, n_704, e_705, hr_706⟩ := iv_iast xm_258 xd_258_122 ok_668 (rfl : sv_ty 164 = some 100) dt_100 (by decide) il2 (dc_w_I _) hr_698
                obtain ⟨n_707, e_708, hr_709⟩ := iv_iconst xm_258 xd_258_123 (by decide) hr_706
                obtain ⟨n_710, e_711, hr_712⟩ := iv_iload_n xm_258 xd_258_124 q2 hr_709
                obtain ⟨n_713, e_714, hr_715⟩ := iw_imul xm_258 xd_258_125 hr_712
                obtain ⟨n_716, e_717, hr_718⟩ := iv_aload_n xm_258 xd_258_126 q0 hr_715
                have f_719 := dc_fr (j := 75) ok_701 (rfl : sv_ty 114 = some 12) dt_12 rfl
                obtain ⟨n_720, e_721, hr_722⟩ := iv_getf (j := 75) xm_258 xd_258_127 (by decide +kernel) ok_701 (rfl : sv_ty 114 = some 12) dt_12 f_719 hr_718
                obtain ⟨n_723, e_724, hr_725⟩ := iv_iload_n xm_258 xd_258_130 q2 hr_722
                obtain ⟨q_726, qi_727, n_728, e_729, hr_730⟩ := iv_iald xm_258 xd_258_131 ok_701 (rfl : sv_ty 164 = some 100) dt_100 (by decide) il2 hr_725
                obtain ⟨n_731, e_732, hr_733⟩ := iw_iadd xm_258 xd_258_132 hr_730
                obtain ⟨n_734, e_735, hr_736⟩ := iv_iconst xm_258 xd_258_133 (by decide) hr_733
                obtain ⟨n_737, e_738, hr_739⟩ := iw_isub xm_258 xd_258_134 hr_736
                have rr_740 := iv_ireturn xm_258 xd_258_135 hr_739
                subst rr_740
                exact ⟨_, ⟨0 + 1, lm_258_2.mpr (Or.inr ⟨c_11, ⟨q_425, Or.inr ⟨c_433, ⟨q_458, Or.inl ⟨c_466, Or.inl ⟨c_476, Or.inr ⟨c_490, ⟨q_573, _, em_576, ⟨q_594, _, em_597, ⟨_, em_620, Or.inl ⟨c_634, ⟨_, _, d_665, ⟨q_688, ⟨q_699, _, em_702, ⟨q_726, ⟨rfl, rfl⟩⟩⟩⟩⟩⟩⟩⟩⟩⟩⟩⟩⟩⟩⟩⟩)⟩, rfl, (dc_w_I _), ok_701⟩
              · obtain ⟨n_741, e_742, hr_743⟩ := iv_bipush xm_258 xd_258_87 (by decide) hr_637
                obtain ⟨n_744, e_745, hr_746⟩ := iv_iload_n xm_258 xd_258_89 q1 hr_743
                obtain ⟨n_747, e_748, hr_749⟩ := iw_iadd xm_258 xd_258_90 hr_746
                obtain ⟨n_750, e_751, hr_752⟩ := iv_bipush xm_258 xd_258_91 (by decide) hr_749
                obtain ⟨n_753, e_754, hr_755⟩ := iw_isub xm_258 xd_258_93 hr_752
                obtain ⟨n_756, e_757, hr_758⟩ := iv_iconst xm_258 xd_258_94 (by decide) hr_755
                obtain ⟨n_759, e_760, hr_761⟩ := iw_isub xm_258 xd_258_95 hr_758
                obtain ⟨n_762, e_763, hr_764⟩ := iv_goto 105 xm_258 xd_258_96 (by decide) hr_761
                obtain ⟨n_765, e_766, hr_767⟩ := iv_sipush xm_258 xd_258_105 (by decide) hr_764
                obtain ⟨n_768, e_769, hr_770⟩ := iv_iload_n xm_258 xd_258_108 q2 hr_767
                obtain ⟨n_771, e_772, hr_773⟩ := iw_iadd xm_258 xd_258_109 hr_770
                obtain ⟨n_783, r_774, e_784, hc_775, hr_785⟩ := iv_call (Or.inr ⟨rfl, rfl⟩) xm_258 xd_258_110 (by decide +kernel) xm_257 rfl (by decide +kernel) hr_773
                obtain ⟨v_776, d_777, er_778, iv_779, ok_780⟩ := ds_257 _ _ _ ok_619 (dc_w_I _) (dc_w_I _) hc_775
                obtain ⟨_, h_782⟩ := r_774
                have er_778 : _ = none := er_778
                subst er_778
                have hr_786 : ae_exe n_783 258 (110 + 3) 0 0 lv _ h_782 = some r := hr_785
                obtain ⟨n_787, e_788, hr_789⟩ := iv_aload_n xm_258 xd_258_113 q0 hr_786
                have f_790 := dc_fr (j := 75) ok_780 (rfl : sv_ty 114 = some 12) dt_12 rfl
                obtain ⟨n_791, e_792, hr_793⟩ := iv_getf (j := 75) xm_258 xd_258_114 (by decide +kernel) ok_780 (rfl : sv_ty 114 = some 12) dt_12 f_790 hr_789
                obtain ⟨n_794, e_795, hr_796⟩ := iv_iload_n xm_258 xd_258_117 q2 hr_793
                obtain ⟨n_797, e_798, hr_799⟩ := iv_dup2 xm_258 xd_258_118 rfl rfl hr_796
                obtain ⟨q_800, qi_801, n_802, e_803, hr_804⟩ := iv_iald xm_258 xd_258_119 ok_780 (rfl : sv_ty 164 = some 100) dt_100 (by decide) il2 hr_799
                obtain ⟨n_805, e_806, hr_807⟩ := iv_iconst xm_258 xd_258_120 (by decide) hr_804
                obtain ⟨n_808, e_809, hr_810⟩ := iw_iadd xm_258 xd_258_121 hr_807
                obtain ⟨q_811, h_812, ok_813, em_814, n_816, e_817, hr_818⟩ := iv_iast xm_258 xd_258_122 ok_780 (rfl : sv_ty 164 = some 100) dt_100 (by decide) il2 (dc_w_I _) hr_810
                obtain ⟨n_819, e_820, hr_821⟩ := iv_iconst xm_258 xd_258_123 (by decide) hr_818
                obtain ⟨n_822, e_823, hr_824⟩ := iv_iload_n xm_258 xd_258_124 q2 hr_821
                obtain ⟨n_825, e_826, hr_827⟩ := iw_imul xm_258 xd_258_125 hr_824
                obtain ⟨n_828, e_829, hr_830⟩ := iv_aload_n xm_258 xd_258_126 q0 hr_827
                have f_831 := dc_fr (j := 75) ok_813 (rfl : sv_ty 114 = some 12) dt_12 rfl
                obtain ⟨n_832, e_833, hr_834⟩ := iv_getf (j := 75) xm_258 xd_258_127 (by decide +kernel) ok_813 (rfl : sv_ty 114 = some 12) dt_12 f_831 hr_830
                obtain ⟨n_835, e_836, hr_837⟩ := iv_iload_n xm_258 xd_258_130 q2 hr_834
                obtain ⟨q_838, qi_839, n_840, e_841, hr_842⟩ := iv_iald xm_258 xd_258_131 ok_813 (rfl : sv_ty 164 = some 100) dt_100 (by decide) il2 hr_837
                obtain ⟨n_843, e_844, hr_845⟩ := iw_iadd xm_258 xd_258_132 hr_842
                obtain ⟨n_846, e_847, hr_848⟩ := iv_iconst xm_258 xd_258_133 (by decide) hr_845
                obtain ⟨n_849, e_850, hr_851⟩ := iw_isub xm_258 xd_258_134 hr_848
                have rr_852 := iv_ireturn xm_258 xd_258_135 hr_851
                subst rr_852
                exact ⟨_, ⟨0 + 1, lm_258_2.mpr (Or.inr ⟨c_11, ⟨q_425, Or.inr ⟨c_433, ⟨q_458, Or.inl ⟨c_466, Or.inl ⟨c_476, Or.inr ⟨c_490, ⟨q_573, _, em_576, ⟨q_594, _, em_597, ⟨_, em_620, Or.inr ⟨c_634, ⟨_, _, d_777, ⟨q_800, ⟨q_811, _, em_814, ⟨q_838, ⟨rfl, rfl⟩⟩⟩⟩⟩⟩⟩⟩⟩⟩⟩⟩⟩⟩⟩⟩)⟩, rfl, (dc_w_I _), ok_813⟩
          · obtain ⟨n_853, e_854, hr_855⟩ := iv_aload_n xm_258 xd_258_41 q0 hr_479
            obtain ⟨n_856, e_857, hr_858⟩ := iv_iconst xm_258 xd_258_42 (by decide) hr_855
            obtain ⟨h_859, ok_860, em_861, n_863, e_864, hr_865⟩ := iv_puti (j := 81) (fk := 1) xm_258 xd_258_43 (by decide +kernel) ok (rfl : sv_ty 114 = some 12) dt_12 rfl (by decide +kernel) rfl (by unfold sv_I; omega) hr_858
            obtain ⟨n_866, e_867, hr_868⟩ := iv_iconst xm_258 xd_258_46 (by decide) hr_865
            have rr_869 := iv_ireturn xm_258 xd_258_47 hr_868
            subst rr_869
            exact ⟨_, ⟨0 + 1, lm_258_2.mpr (Or.inr ⟨c_11, ⟨q_425, Or.inr ⟨c_433, ⟨q_458, Or.inl ⟨c_466, Or.inr ⟨c_476, ⟨_, em_861, ⟨rfl, rfl⟩⟩⟩⟩⟩⟩⟩⟩)⟩, rfl, (by unfold sv_I; omega), ok_860⟩
        · obtain ⟨lv_871, sl_870, n_872, e_873, hr_874⟩ := iw_iinc xm_258 xd_258_30 (by decide +kernel) (by decide) q2 hr_469
          have l_875 := sl_870.2 0 _ q0 (by decide) (Or.inl rfl)
          have l_876 := sl_870.2 1 _ q1 (by decide) (Or.inl rfl)
          have l_877 := sl_870.1
          obtain ⟨n_878, e_879, hr_880⟩ := iv_goto 2 xm_258 xd_258_33 (by decide) hr_874
          obtain ⟨v, ⟨c, hL⟩, e1, e2, e3⟩ := ih0 _ lv_871 h _ _ (by omega) ok (dc_w_I _) l_875 l_876 l_877 hr_880
          exact ⟨v, ⟨c + 1, lm_258_2.mpr (Or.inr ⟨c_11, ⟨q_425, Or.inr ⟨c_433, ⟨q_458, Or.inr ⟨c_466, hL⟩⟩⟩⟩⟩)⟩, e1, e2, e3⟩
abbrev D_258 (x0 : Int) (m : dc_M) (v : Int) (m' : dc_M) : Prop := ∃ c, LM_258 x0 c 2 0 m v m'
theorem ds_258 (n : Nat) (x0 : Int) {h : ae_H} {r : ae_R} (ok : dc_ok h) (ix0 : sv_I x0) (hr : ae_exe n 258 0 0 0 (ae_args [wk_r 114, wk_i x0] 0) [] h = some r) : ∃ v, D_258 x0 (dc_m h) v (dc_m r.2) ∧ r.1 = some (wk_i v) ∧ sv_I v ∧ dc_ok r.2 := by
  have q0 : ae_lk (ae_args [wk_r 114, wk_i x0] 0) 0 = some (wk_r 114) := rfl
  have q1 : ae_lk (ae_args [wk_r 114, wk_i x0] 0) 1 = some (wk_i x0) := rfl
  obtain ⟨n_881, e_882, hr_883⟩ := iv_iconst xm_258 xd_258_0 (by decide) hr
  obtain ⟨lv_885, sl_884, n_886, e_887, hr_888⟩ := iv_istore_n xm_258 xd_258_1 (by decide +kernel) hr_883
  have l_889 := sl_884.2 0 _ q0 (by decide) (Or.inl rfl)
  have l_890 := sl_884.2 1 _ q1 (by decide) (Or.inl rfl)
  have l_891 := sl_884.1
  obtain ⟨v, ⟨c, hL⟩, e1, e2, e3⟩ := (dl_258 ix0 _) _ lv_885 h _ _ (Nat.le_refl _) ok (by unfold sv_I; omega) l_889 l_890 l_891 hr_888
  exact ⟨v, ⟨_, hL⟩, e1, e2, e3⟩
/-! method 260 -/
theorem xm_260 : ae_m 260 = some (wk_M 260) := rfl
theorem xd_260_0 : decode (wk_M 260).2.2.1 0 = .ok (.aload_n 0, 1) := zd_by (by decide +kernel)
theorem xd_260_1 : decode (wk_M 260).2.2.1 1 = .ok (.getfield 136, 3) := zd_by (by decide +kernel)
theorem xd_260_4 : decode (wk_M 260).2.2.1 4 = .ok (.iload_n 1, 1) := zd_by (by decide +kernel)
theorem xd_260_5 : decode (wk_M 260).2.2.1 5 = .ok (.iaload, 1) := zd_by (by decide +kernel)
theorem xd_260_6 : decode (wk_M 260).2.2.1 6 = .ok (.istore_n 3, 1) := zd_by (by decide +kernel)
theorem xd_260_7 : decode (wk_M 260).2.2.1 7 = .ok (.iload_n 3, 1) := zd_by (by decide +kernel)
theorem xd_260_8 : decode (wk_M 260).2.2.1 8 = .ok (.ifCond .ge 16, 3) := zd_by (by decide +kernel)
theorem xd_260_11 : decode (wk_M 260).2.2.1 11 = .ok (.aload_n 0, 1) := zd_by (by decide +kernel)
theorem xd_260_12 : decode (wk_M 260).2.2.1 12 = .ok (.bipush 60, 2) := zd_by (by decide +kernel)
theorem xd_260_14 : decode (wk_M 260).2.2.1 14 = .ok (.bipush 96, 2) := zd_by (by decide +kernel)
theorem xd_260_16 : decode (wk_M 260).2.2.1 16 = .ok (.bipush 6, 2) := zd_by (by decide +kernel)
theorem xd_260_18 : decode (wk_M 260).2.2.1 18 = .ok (.iload_n 2, 1) := zd_by (by decide +kernel)
theorem xd_260_19 : decode (wk_M 260).2.2.1 19 = .ok (.imul, 1) := zd_by (by decide +kernel)
theorem xd_260_20 : decode (wk_M 260).2.2.1 20 = .ok (.iadd, 1) := zd_by (by decide +kernel)
theorem xd_260_21 : decode (wk_M 260).2.2.1 21 = .ok (.invokevirtual 500, 3) := zd_by (by decide +kernel)
theorem xd_260_24 : decode (wk_M 260).2.2.1 24 = .ok (.iconst 0, 1) := zd_by (by decide +kernel)
theorem xd_260_25 : decode (wk_M 260).2.2.1 25 = .ok (.istore 4, 2) := zd_by (by decide +kernel)
theorem xd_260_27 : decode (wk_M 260).2.2.1 27 = .ok (.iload_n 3, 1) := zd_by (by decide +kernel)
theorem xd_260_28 : decode (wk_M 260).2.2.1 28 = .ok (.ifCond .lt 54, 3) := zd_by (by decide +kernel)
theorem xd_260_31 : decode (wk_M 260).2.2.1 31 = .ok (.iload 4, 2) := zd_by (by decide +kernel)
theorem xd_260_33 : decode (wk_M 260).2.2.1 33 = .ok (.aload_n 0, 1) := zd_by (by decide +kernel)
theorem xd_260_34 : decode (wk_M 260).2.2.1 34 = .ok (.getfield 127, 3) := zd_by (by decide +kernel)
theorem xd_260_37 : decode (wk_M 260).2.2.1 37 = .ok (.iload_n 3, 1) := zd_by (by decide +kernel)
theorem xd_260_38 : decode (wk_M 260).2.2.1 38 = .ok (.iaload, 1) := zd_by (by decide +kernel)
theorem xd_260_39 : decode (wk_M 260).2.2.1 39 = .ok (.aload_n 0, 1) := zd_by (by decide +kernel)
theorem xd_260_40 : decode (wk_M 260).2.2.1 40 = .ok (.getfield 124, 3) := zd_by (by decide +kernel)
theorem xd_260_43 : decode (wk_M 260).2.2.1 43 = .ok (.iload_n 3, 1) := zd_by (by decide +kernel)
theorem xd_260_44 : decode (wk_M 260).2.2.1 44 = .ok (.iaload, 1) := zd_by (by decide +kernel)
theorem xd_260_45 : decode (wk_M 260).2.2.1 45 = .ok (.isub, 1) := zd_by (by decide +kernel)
theorem xd_260_46 : decode (wk_M 260).2.2.1 46 = .ok (.if_icmp .gt 36, 3) := zd_by (by decide +kernel)
theorem xd_260_49 : decode (wk_M 260).2.2.1 49 = .ok (.aload_n 0, 1) := zd_by (by decide +kernel)
theorem xd_260_50 : decode (wk_M 260).2.2.1 50 = .ok (.iconst 0, 1) := zd_by (by decide +kernel)
theorem xd_260_51 : decode (wk_M 260).2.2.1 51 = .ok (.aload_n 0, 1) := zd_by (by decide +kernel)
theorem xd_260_52 : decode (wk_M 260).2.2.1 52 = .ok (.getfield 127, 3) := zd_by (by decide +kernel)
theorem xd_260_55 : decode (wk_M 260).2.2.1 55 = .ok (.iload_n 3, 1) := zd_by (by decide +kernel)
theorem xd_260_56 : decode (wk_M 260).2.2.1 56 = .ok (.iaload, 1) := zd_by (by decide +kernel)
theorem xd_260_57 : decode (wk_M 260).2.2.1 57 = .ok (.iadd, 1) := zd_by (by decide +kernel)
theorem xd_260_58 : decode (wk_M 260).2.2.1 58 = .ok (.iload 4, 2) := zd_by (by decide +kernel)
theorem xd_260_60 : decode (wk_M 260).2.2.1 60 = .ok (.isub, 1) := zd_by (by decide +kernel)
theorem xd_260_61 : decode (wk_M 260).2.2.1 61 = .ok (.iconst 1, 1) := zd_by (by decide +kernel)
theorem xd_260_62 : decode (wk_M 260).2.2.1 62 = .ok (.isub, 1) := zd_by (by decide +kernel)
theorem xd_260_63 : decode (wk_M 260).2.2.1 63 = .ok (.bipush 96, 2) := zd_by (by decide +kernel)
theorem xd_260_65 : decode (wk_M 260).2.2.1 65 = .ok (.bipush 6, 2) := zd_by (by decide +kernel)
theorem xd_260_67 : decode (wk_M 260).2.2.1 67 = .ok (.iload_n 2, 1) := zd_by (by decide +kernel)
theorem xd_260_68 : decode (wk_M 260).2.2.1 68 = .ok (.imul, 1) := zd_by (by decide +kernel)
theorem xd_260_69 : decode (wk_M 260).2.2.1 69 = .ok (.iadd, 1) := zd_by (by decide +kernel)
theorem xd_260_70 : decode (wk_M 260).2.2.1 70 = .ok (.iload 4, 2) := zd_by (by decide +kernel)
theorem xd_260_72 : decode (wk_M 260).2.2.1 72 = .ok (.iadd, 1) := zd_by (by decide +kernel)
theorem xd_260_73 : decode (wk_M 260).2.2.1 73 = .ok (.invokevirtual 500, 3) := zd_by (by decide +kernel)
theorem xd_260_76 : decode (wk_M 260).2.2.1 76 = .ok (.iinc 4 1, 3) := zd_by (by decide +kernel)
theorem xd_260_79 : decode (wk_M 260).2.2.1 79 = .ok (.goto (-52), 3) := zd_by (by decide +kernel)
theorem xd_260_82 : decode (wk_M 260).2.2.1 82 = .ok (.aload_n 0, 1) := zd_by (by decide +kernel)
theorem xd_260_83 : decode (wk_M 260).2.2.1 83 = .ok (.getfield 145, 3) := zd_by (by decide +kernel)
theorem xd_260_86 : decode (wk_M 260).2.2.1 86 = .ok (.iload_n 1, 1) := zd_by (by decide +kernel)
theorem xd_260_87 : decode (wk_M 260).2.2.1 87 = .ok (.iaload, 1) := zd_by (by decide +kernel)
theorem xd_260_88 : decode (wk_M 260).2.2.1 88 = .ok (.ifCond .ne 14, 3) := zd_by (by decide +kernel)
theorem xd_260_91 : decode (wk_M 260).2.2.1 91 = .ok (.aload_n 0, 1) := zd_by (by decide +kernel)
theorem xd_260_92 : decode (wk_M 260).2.2.1 92 = .ok (.bipush 60, 2) := zd_by (by decide +kernel)
theorem xd_260_94 : decode (wk_M 260).2.2.1 94 = .ok (.bipush 120, 2) := zd_by (by decide +kernel)
theorem xd_260_96 : decode (wk_M 260).2.2.1 96 = .ok (.iload_n 2, 1) := zd_by (by decide +kernel)
theorem xd_260_97 : decode (wk_M 260).2.2.1 97 = .ok (.iadd, 1) := zd_by (by decide +kernel)
theorem xd_260_98 : decode (wk_M 260).2.2.1 98 = .ok (.invokevirtual 500, 3) := zd_by (by decide +kernel)
theorem xd_260_101 : decode (wk_M 260).2.2.1 101 = .ok (.return_, 1) := zd_by (by decide +kernel)
theorem xd_260_102 : decode (wk_M 260).2.2.1 102 = .ok (.aload_n 0, 1) := zd_by (by decide +kernel)
theorem xd_260_103 : decode (wk_M 260).2.2.1 103 = .ok (.aload_n 0, 1) := zd_by (by decide +kernel)
theorem xd_260_104 : decode (wk_M 260).2.2.1 104 = .ok (.getfield 145, 3) := zd_by (by decide +kernel)
theorem xd_260_107 : decode (wk_M 260).2.2.1 107 = .ok (.iload_n 1, 1) := zd_by (by decide +kernel)
theorem xd_260_108 : decode (wk_M 260).2.2.1 108 = .ok (.iaload, 1) := zd_by (by decide +kernel)
theorem xd_260_109 : decode (wk_M 260).2.2.1 109 = .ok (.invokevirtual 506, 3) := zd_by (by decide +kernel)
theorem xd_260_112 : decode (wk_M 260).2.2.1 112 = .ok (.istore 4, 2) := zd_by (by decide +kernel)
theorem xd_260_114 : decode (wk_M 260).2.2.1 114 = .ok (.aload_n 0, 1) := zd_by (by decide +kernel)
theorem xd_260_115 : decode (wk_M 260).2.2.1 115 = .ok (.bipush 60, 2) := zd_by (by decide +kernel)
theorem xd_260_117 : decode (wk_M 260).2.2.1 117 = .ok (.sipush 181, 3) := zd_by (by decide +kernel)
theorem xd_260_120 : decode (wk_M 260).2.2.1 120 = .ok (.iload 4, 2) := zd_by (by decide +kernel)
theorem xd_260_122 : decode (wk_M 260).2.2.1 122 = .ok (.iadd, 1) := zd_by (by decide +kernel)
theorem xd_260_123 : decode (wk_M 260).2.2.1 123 = .ok (.invokevirtual 500, 3) := zd_by (by decide +kernel)
theorem xd_260_126 : decode (wk_M 260).2.2.1 126 = .ok (.aload_n 0, 1) := zd_by (by decide +kernel)
theorem xd_260_127 : decode (wk_M 260).2.2.1 127 = .ok (.sipush 193, 3) := zd_by (by decide +kernel)
theorem xd_260_130 : decode (wk_M 260).2.2.1 130 = .ok (.iload 4, 2) := zd_by (by decide +kernel)
theorem xd_260_132 : decode (wk_M 260).2.2.1 132 = .ok (.iadd, 1) := zd_by (by decide +kernel)
theorem xd_260_133 : decode (wk_M 260).2.2.1 133 = .ok (.bipush 120, 2) := zd_by (by decide +kernel)
theorem xd_260_135 : decode (wk_M 260).2.2.1 135 = .ok (.iload_n 2, 1) := zd_by (by decide +kernel)
theorem xd_260_136 : decode (wk_M 260).2.2.1 136 = .ok (.iadd, 1) := zd_by (by decide +kernel)
theorem xd_260_137 : decode (wk_M 260).2.2.1 137 = .ok (.invokevirtual 500, 3) := zd_by (by decide +kernel)
theorem xd_260_140 : decode (wk_M 260).2.2.1 140 = .ok (.aload_n 0, 1) := zd_by (by decide +kernel)
theorem xd_260_141 : decode (wk_M 260).2.2.1 141 = .ok (.sipush 205, 3) := zd_by (by decide +kernel)
theorem xd_260_144 : decode (wk_M 260).2.2.1 144 = .ok (.iload 4, 2) := zd_by (by decide +kernel)
theorem xd_260_146 : decode (wk_M 260).2.2.1 146 = .ok (.iadd, 1) := zd_by (by decide +kernel)
theorem xd_260_147 : decode (wk_M 260).2.2.1 147 = .ok (.bipush 124, 2) := zd_by (by decide +kernel)
theorem xd_260_149 : decode (wk_M 260).2.2.1 149 = .ok (.iload_n 2, 1) := zd_by (by decide +kernel)
theorem xd_260_150 : decode (wk_M 260).2.2.1 150 = .ok (.iadd, 1) := zd_by (by decide +kernel)
theorem xd_260_151 : decode (wk_M 260).2.2.1 151 = .ok (.invokevirtual 500, 3) := zd_by (by decide +kernel)
theorem xd_260_154 : decode (wk_M 260).2.2.1 154 = .ok (.return_, 1) := zd_by (by decide +kernel)
def LM_260 (x0 : Int) (x1 : Int) : Nat → Nat → Int → Int → dc_M → Int → dc_M → Prop
  | 0, _, _, _, _, _, _ => False
  | c + 1, tag, l3, l4, m, v, m' => match tag with
    | _ => (((l3 : Int) < 0 ∧ ((0 ≤ (x0 : Int) ∧ (x0 : Int) < 16) ∧ (((((m 159 x0) : Int) ≠ 0 ∧ ((0 ≤ (x0 : Int) ∧ (x0 : Int) < 16) ∧ (∃ v_47 m_52, D_258 ((m 159 x0)) m v_47 m_52 ∧ (∃ v_85 m_90, D_257 60 ((dc_w (181 + v_47))) m_52 v_85 m_90 ∧ (∃ v_119 m_124, D_257 ((dc_w (193 + v_47))) ((dc_w (120 + x1))) m_90 v_119 m_124 ∧ (∃ v_153 m_158, D_257 ((dc_w (205 + v_47))) ((dc_w (124 + x1))) m_124 v_153 m_158 ∧ (v = 0 ∧ m' = m_158))))))) ∨ (¬ (((m 159 x0) : Int) ≠ 0) ∧ (∃ v_182 m_187, D_257 60 ((dc_w (120 + x1))) m v_182 m_187 ∧ (v = 0 ∧ m' = m_187))))))) ∨ (¬ ((l3 : Int) < 0) ∧ ((0 ≤ (l3 : Int) ∧ (l3 : Int) < 12) ∧ ((0 ≤ (l3 : Int) ∧ (l3 : Int) < 12) ∧ ((((l4 : Int) > (dc_w ((m 153 l3) - (m 152 l3))) ∧ ((0 ≤ (x0 : Int) ∧ (x0 : Int) < 16) ∧ (((((m 159 x0) : Int) ≠ 0 ∧ ((0 ≤ (x0 : Int) ∧ (x0 : Int) < 16) ∧ (∃ v_273 m_278, D_258 ((m 159 x0)) m v_273 m_278 ∧ (∃ v_311 m_316, D_257 60 ((dc_w (181 + v_273))) m_278 v_311 m_316 ∧ (∃ v_345 m_350, D_257 ((dc_w (193 + v_273))) ((dc_w (120 + x1))) m_316 v_345 m_350 ∧ (∃ v_379 m_384, D_257 ((dc_w (205 + v_273))) ((dc_w (124 + x1))) m_350 v_379 m_384 ∧ (v = 0 ∧ m' = m_384))))))) ∨ (¬ (((m 159 x0) : Int) ≠ 0) ∧ (∃ v_408 m_413, D_257 60 ((dc_w (120 + x1))) m v_408 m_413 ∧ (v = 0 ∧ m' = m_413))))))) ∨ (¬ ((l4 : Int) > (dc_w ((m 153 l3) - (m 152 l3)))) ∧ ((0 ≤ (l3 : Int) ∧ (l3 : Int) < 12) ∧ (∃ v_479 m_484, D_257 ((dc_w ((dc_w ((dc_w (0 + (m 153 l3))) - l4)) - 1))) ((dc_w ((dc_w (96 + (dc_w (6 * x1)))) + l4))) m v_479 m_484 ∧ (LM_260 x0 x1 c 27 l3 (dc_w (l4 + 1)) m_484 v m'))))))))))
theorem lm_260_27 {x0 : Int} {x1 : Int} {c : Nat} {l3 : Int} {l4 : Int} {m : dc_M} {v : Int} {m' : dc_M} : LM_260 x0 x1 (c + 1) 27 l3 l4 m v m' ↔ (((l3 : Int) < 0 ∧ ((0 ≤ (x0 : Int) ∧ (x0 : Int) < 16) ∧ (((((m 159 x0) : Int) ≠ 0 ∧ ((0 ≤ (x0 : Int) ∧ (x0 : Int) < 16) ∧ (∃ v_47 m_52, D_258 ((m 159 x0)) m v_47 m_52 ∧ (∃ v_85 m_90, D_257 60 ((dc_w (181 + v_47))) m_52 v_85 m_90 ∧ (∃ v_119 m_124, D_257 ((dc_w (193 + v_47))) ((dc_w (120 + x1))) m_90 v_119 m_124 ∧ (∃ v_153 m_158, D_257 ((dc_w (205 + v_47))) ((dc_w (124 + x1))) m_124 v_153 m_158 ∧ (v = 0 ∧ m' = m_158))))))) ∨ (¬ (((m 159 x0) : Int) ≠ 0) ∧ (∃ v_182 m_187, D_257 60 ((dc_w (120 + x1))) m v_182 m_187 ∧ (v = 0 ∧ m' = m_187))))))) ∨ (¬ ((l3 : Int) < 0) ∧ ((0 ≤ (l3 : Int) ∧ (l3 : Int) < 12) ∧ ((0 ≤ (l3 : Int) ∧ (l3 : Int) < 12) ∧ ((((l4 : Int) > (dc_w ((m 153 l3) - (m 152 l3))) ∧ ((0 ≤ (x0 : Int) ∧ (x0 : Int) < 16) ∧ (((((m 159 x0) : Int) ≠ 0 ∧ ((0 ≤ (x0 : Int) ∧ (x0 : Int) < 16) ∧ (∃ v_273 m_278, D_258 ((m 159 x0)) m v_273 m_278 ∧ (∃ v_311 m_316, D_257 60 ((dc_w (181 + v_273))) m_278 v_311 m_316 ∧ (∃ v_345 m_350, D_257 ((dc_w (193 + v_273))) ((dc_w (120 + x1))) m_316 v_345 m_350 ∧ (∃ v_379 m_384, D_257 ((dc_w (205 + v_273))) ((dc_w (124 + x1))) m_350 v_379 m_384 ∧ (v = 0 ∧ m' = m_384))))))) ∨ (¬ (((m 159 x0) : Int) ≠ 0) ∧ (∃ v_408 m_413, D_257 60 ((dc_w (120 + x1))) m v_408 m_413 ∧ (v = 0 ∧ m' = m_413))))))) ∨ (¬ ((l4 : Int) > (dc_w ((m 153 l3) - (m 152 l3)))) ∧ ((0 ≤ (l3 : Int) ∧ (l3 : Int) < 12) ∧ (∃ v_479 m_484, D_257 ((dc_w ((dc_w ((dc_w (0 + (m 153 l3))) - l4)) - 1))) ((dc_w ((dc_w (96 + (dc_w (6 * x1)))) + l4))) m v_479 m_484 ∧ (LM_260 x0 x1 c 27 l3 (dc_w (l4 + 1)) m_484 v m')))))))))) := Iff.rfl
theorem dl_260 {x0 : Int} {x1 : Int} (ix0 : sv_I x0) (ix1 : sv_I x1) : ∀ N : Nat, (∀ (n : Nat) (lv : ae_L) (h : ae_H) (r : ae_R) (l3 : Int) (l4 : Int), n ≤ N → dc_ok h → sv_I l3 → sv_I l4 → ae_lk lv 0 = some (wk_r 114) → ae_lk lv 1 = some (wk_i x0) → ae_lk lv 2 = some (wk_i x1) → ae_lk lv 3 = some (wk_i l3) → ae_lk lv 4 = some (wk_i l4) → ae_exe n 260 27 0 0 lv [] h = some r → ∃ v, (∃ c, LM_260 x0 x1 c 27 l3 l4 (dc_m h) v (dc_m r.2)) ∧ r.1 = none ∧ sv_I v ∧ dc_ok r.2) := by
  intro N
  induction N with
  | zero =>
    exact fun n lv h r l3 l4 hn ok il3 il4 q0 q1 q2 q3 q4 hr => by
      have e : n = 0 := by omega
      subst e
      cases hr
  | succ N ih =>
    have ih0 := ih
    intro n lv h r l3 l4 hn ok il3 il4 q0 q1 q2 q3 q4 hr
    obtain ⟨n_1, e_2, hr_3⟩ := iv_iload_n xm_260 xd_260_27 q3 hr
    rcases iv_if 82 xm_260 xd_260_28 (by decide) il3 hr_3 with ⟨c_4, n_5, e_6, hr_7⟩ | ⟨c_4, n_5, e_6, hr_7⟩
    · obtain ⟨n_8, e_9, hr_10⟩ := iv_aload_n xm_260 xd_260_82 q0 hr_7
      have f_11 := dc_fr (j := 70) ok (rfl : sv_ty 114 = some 12) dt_12 rfl
      obtain ⟨n_12, e_13, hr_14⟩ := iv_getf (j := 70) xm_260 xd_260_83 (by decide +kernel) ok (rfl : sv_ty 114 = some 12) dt_12 f_11 hr_10
      obtain ⟨n_15, e_16, hr_17⟩ := iv_iload_n xm_260 xd_260_86 q1 hr_14
      obtain ⟨q_18, qi_19, n_20, e_21, hr_22⟩ := iv_iald xm_260 xd_260_87 ok (rfl : sv_ty 159 = some 96) dt_96 (by decide) ix0 hr_17
      rcases iv_if 102 xm_260 xd_260_88 (by decide) qi_19 hr_22 with ⟨c_23, n_24, e_25, hr_26⟩ | ⟨c_23, n_24, e_25, hr_26⟩
      · obtain ⟨n_27, e_28, hr_29⟩ := iv_aload_n xm_260 xd_260_102 q0 hr_26
        obtain ⟨n_30, e_31, hr_32⟩ := iv_aload_n xm_260 xd_260_103 q0 hr_29
        have f_33 := dc_fr (j := 70) ok (rfl : sv_ty 114 = some 12) dt_12 rfl
        obtain ⟨n_34, e_35, hr_36⟩ := iv_getf (j := 70) xm_260 xd_260_104 (by decide +kernel) ok (rfl : sv_ty 114 = some 12) dt_12 f_33 hr_32
        obtain ⟨n_37, e_38, hr_39⟩ := iv_iload_n xm_260 xd_260_107 q1 hr_36
        obtain ⟨q_40, qi_41, n_42, e_43, hr_44⟩ := iv_iald xm_260 xd_260_108 ok (rfl : sv_ty 159 = some 96) dt_96 (by decide) ix0 hr_39
        obtain ⟨n_54, r_45, e_55, hc_46, hr_56⟩ := iv_call (Or.inr ⟨rfl, rfl⟩) xm_260 xd_260_109 (by decide +kernel) xm_258 rfl (by decide +kernel) hr_44
        obtain ⟨v_47, d_48, er_49, iv_50, ok_51⟩ := ds_258 _ _ ok qi_41 hc_46
        obtain ⟨_, h_53⟩ := r_45
        have er_49 : _ = some (wk_i v_47) := er_49
        subst er_49
        have hr_57 : ae_exe n_54 260 (109 + 3) 0 0 lv _ h_53 = some r := hr_56
        obtain ⟨lv_59, sl_58, n_60, e_61, hr_62⟩ := iv_istore xm_260 xd_260_112 (by decide +kernel) hr_57
        have l_63 := sl_58.2 0 _ q0 (by decide) (Or.inl rfl)
        have l_64 := sl_58.2 1 _ q1 (by decide) (Or.inl rfl)
        have l_65 := sl_58.2 2 _ q2 (by decide) (Or.inl rfl)
        have l_66 := sl_58.2 3 _ q3 (by decide) (Or.inl rfl)
        have l_67 := sl_58.1
        obtain ⟨n_68, e_69, hr_70⟩ := iv_aload_n xm_260 xd_260_114 l_63 hr_62
        obtain ⟨n_71, e_72, hr_73⟩ := iv_bipush xm_260 xd_260_115 (by decide) hr_70
        obtain ⟨n_74, e_75, hr_76⟩ := iv_sipush xm_260 xd_260_117 (by decide) hr_73
        obtain ⟨n_77, e_78, hr_79⟩ := iv_iload xm_260 xd_260_120 l_67 hr_76
        obtain ⟨n_80, e_81, hr_82⟩ := iw_iadd xm_260 xd_260_122 hr_79
        obtain ⟨n_92, r_83, e_93, hc_84, hr_94⟩ := iv_call (Or.inr ⟨rfl, rfl⟩) xm_260 xd_260_123 (by decide +kernel) xm_257 rfl (by decide +kernel) hr_82
        obtain ⟨v_85, d_86, er_87, iv_88, ok_89⟩ := ds_257 _ _ _ ok_51 (by unfold sv_I; omega) (dc_w_I _) hc_84
        obtain ⟨_, h_91⟩ := r_83
        have er_87 : _ = none := er_87
        subst er_87
        have hr_95 : ae_exe n_92 260 (123 + 3) 0 0 lv_59 _ h_91 = some r := hr_94
        obtain ⟨n_96, e_97, hr_98⟩ := iv_aload_n xm_260 xd_260_126 l_63 hr_95
        obtain ⟨n_99, e_100, hr_101⟩ := iv_sipush xm_260 xd_260_127 (by decide) hr_98
        obtain ⟨n_102, e_103, hr_104⟩ := iv_iload xm_260 xd_260_130 l_67 hr_101
        obtain ⟨n_105, e_106, hr_107⟩ := iw_iadd xm_260 xd_260_132 hr_104
        obtain ⟨n_108, e_109, hr_110⟩ := iv_bipush xm_260 xd_260_133 (by decide) hr_107
        obtain ⟨n_111, e_112, hr_113⟩ := iv_iload_n xm_260 xd_260_135 l_65 hr_110
        obtain ⟨n_114, e_115, hr_116⟩ := iw_iadd xm_260 xd_260_136 hr_113
        obtain ⟨n_126, r_117, e_127, hc_118, hr_128⟩ := iv_call (Or.inr ⟨rfl, rfl⟩) xm_260 xd_260_137 (by decide +kernel) xm_257 rfl (by decide +kernel) hr_116
        obtain ⟨v_119, d_120, er_121, iv_122, ok_123⟩ := ds_257 _ _ _ ok_89 (dc_w_I _) (dc_w_I _) hc_118
        obtain ⟨_, h_125⟩ := r_117
        have er_121 : _ = none := er_121
        subst er_121
        have hr_129 : ae_exe n_126 260 (137 + 3) 0 0 lv_59 _ h_125 = some r := hr_128
        obtain ⟨n_130, e_131, hr_132⟩ := iv_aload_n xm_260 xd_260_140 l_63 hr_129
        obtain ⟨n_133, e_134, hr_135⟩ := iv_sipush xm_260 xd_260_141 (by decide) hr_132
        obtain ⟨n_136, e_137, hr_138⟩ := iv_iload xm_260 xd_260_144 l_67 hr_135
        obtain ⟨n_139, e_140, hr_141⟩ := iw_iadd xm_260 xd_260_146 hr_138
        obtain ⟨n_142, e_143, hr_144⟩ := iv_bipush xm_260 xd_260_147 (by decide) hr_141
        obtain ⟨n_145, e_146, hr_147⟩ := iv_iload_n xm_260 xd_260_149 l_65 hr_144
        obtain ⟨n_148, e_149, hr_150⟩ := iw_iadd xm_260 xd_260_150 hr_147
        obtain ⟨n_160, r_151, e_161, hc_152, hr_162⟩ := iv_call (Or.inr ⟨rfl, rfl⟩) xm_260 xd_260_151 (by decide +kernel) xm_257 rfl (by decide +kernel) hr_150
        obtain ⟨v_153, d_154, er_155, iv_156, ok_157⟩ := ds_257 _ _ _ ok_123 (dc_w_I _) (dc_w_I _) hc_152
        obtain ⟨_, h_159⟩ := r_151
        have er_155 : _ = none := er_155
        subst er_155
        have hr_163 : ae_exe n_160 260 (151 + 3) 0 0 lv_59 _ h_159 = some r := hr_162
        have rr_164 := iv_return xm_260 xd_260_154 hr_163 rfl
        subst rr_164
        exact ⟨_, ⟨0 + 1, lm_260_27.mpr (Or.inl ⟨c_4, ⟨q_18, Or.inl ⟨c_23, ⟨q_40, ⟨_, _, d_48, ⟨_, _, d_86, ⟨_, _, d_120, ⟨_, _, d_154, ⟨rfl, rfl⟩⟩⟩⟩⟩⟩⟩⟩⟩)⟩, rfl, (by unfold sv_I; omega), ok_157⟩
      · obtain ⟨n_165, e_166, hr_167⟩ := iv_aload_n xm_260 xd_260_91 q0 hr_26
        obtain ⟨n_168, e_169, hr_170⟩ := iv_bipush xm_260 xd_260_92 (by decide) hr_167
        obtain ⟨n_171, e_172, hr_173⟩ := iv_bipush xm_260 xd_260_94 (by decide) hr_170
        obtain ⟨n_174, e_175, hr_176⟩ := iv_iload_n xm_260 xd_260_96 q2 hr_173
        obtain ⟨n_177, e_178, hr_179⟩ := iw_iadd xm_260 xd_260_97 hr_176
        obtain ⟨n_189, r_180, e_190, hc_181, hr_191⟩ := iv_call (Or.inr ⟨rfl, rfl⟩) xm_260 xd_260_98 (by decide +kernel) xm_257 rfl (by decide +kernel) hr_179
        obtain ⟨v_182, d_183, er_184, iv_185, ok_186⟩ := ds_257 _ _ _ ok (by unfold sv_I; omega) (dc_w_I _) hc_181
        obtain ⟨_, h_188⟩ := r_180
        have er_184 : _ = none := er_184
        subst er_184
        have hr_192 : ae_exe n_189 260 (98 + 3) 0 0 lv _ h_188 = some r := hr_191
        have rr_193 := iv_return xm_260 xd_260_101 hr_192 rfl
        subst rr_193
        exact ⟨_, ⟨0 + 1, lm_260_27.mpr (Or.inl ⟨c_4, ⟨q_18, Or.inr ⟨c_23, ⟨_, _, d_183, ⟨rfl, rfl⟩⟩⟩⟩⟩)⟩, rfl, (by unfold sv_I; omega), ok_186⟩
    · obtain ⟨n_194, e_195, hr_196⟩ := iv_iload xm_260 xd_260_31 q4 hr_7
      obtain ⟨n_197, e_198, hr_199⟩ := iv_aload_n xm_260 xd_260_33 q0 hr_196
      have f_200 := dc_fr (j := 64) ok (rfl : sv_ty 114 = some 12) dt_12 rfl
      obtain ⟨n_201, e_202, hr_203⟩ := iv_getf (j := 64) xm_260 xd_260_34 (by decide +kernel) ok (rfl : sv_ty 114 = some 12) dt_12 f_200 hr_199
      obtain ⟨n_204, e_205, hr_206⟩ := iv_iload_n xm_260 xd_260_37 q3 hr_203
      obtain ⟨q_207, qi_208, n_209, e_210, hr_211⟩ := iv_iald xm_260 xd_260_38 ok (rfl : sv_ty 153 = some 90) dt_90 (by decide) il3 hr_206
      obtain ⟨n_212, e_213, hr_214⟩ := iv_aload_n xm_260 xd_260_39 q0 hr_211
      have f_215 := dc_fr (j := 63) ok (rfl : sv_ty 114 = some 12) dt_12 rfl
      obtain ⟨n_216, e_217, hr_218⟩ := iv_getf (j := 63) xm_260 xd_260_40 (by decide +kernel) ok (rfl : sv_ty 114 = some 12) dt_12 f_215 hr_214
      obtain ⟨n_219, e_220, hr_221⟩ := iv_iload_n xm_260 xd_260_43 q3 hr_218
      obtain ⟨q_222, qi_223, n_224, e_225, hr_226⟩ := iv_iald xm_260 xd_260_44 ok (rfl : sv_ty 152 = some 89) dt_89 (by decide) il3 hr_221
      obtain ⟨n_227, e_228, hr_229⟩ := iw_isub xm_260 xd_260_45 hr_226
      rcases iv_icmp 82 xm_260 xd_260_46 (by decide) il4 (dc_w_I _) hr_229 with ⟨c_230, n_231, e_232, hr_233⟩ | ⟨c_230, n_231, e_232, hr_233⟩
      · obtain ⟨n_234, e_235, hr_236⟩ := iv_aload_n xm_260 xd_260_82 q0 hr_233
        have f_237 := dc_fr (j := 70) ok (rfl : sv_ty 114 = some 12) dt_12 rfl
        obtain ⟨n_238, e_239, hr_240⟩ := iv_getf (j := 70) xm_260 xd_260_83 (by decide +kernel) ok (rfl : sv_ty 114 = some 12) dt_12 f_237 hr_236
        obtain ⟨n_241, e_242, hr_243⟩ := iv_iload_n xm_260 xd_260_86 q1 hr_240
        obtain ⟨q_244, qi_245, n_246, e_247, hr_248⟩ := iv_iald xm_260 xd_260_87 ok (rfl : sv_ty 159 = some 96) dt_96 (by decide) ix0 hr_243
        rcases iv_if 102 xm_260 xd_260_88 (by decide) qi_245 hr_248 with ⟨c_249, n_250, e_251, hr_252⟩ | ⟨c_249, n_250, e_251, hr_252⟩
        · obtain ⟨n_253, e_254, hr_255⟩ := iv_aload_n xm_260 xd_260_102 q0 hr_252
          obtain ⟨n_256, e_257, hr_258⟩ := iv_aload_n xm_260 xd_260_103 q0 hr_255
          have f_259 := dc_fr (j := 70) ok (rfl : sv_ty 114 = some 12) dt_12 rfl
          obtain ⟨n_260, e_261, hr_262⟩ := iv_getf (j := 70) xm_260 xd_260_104 (by decide +kernel) ok (rfl : sv_ty 114 = some 12) dt_12 f_259 hr_258
          obtain ⟨n_263, e_264, hr_265⟩ := iv_iload_n xm_260 xd_260_107 q1 hr_262
          obtain ⟨q_266, qi_267, n_268, e_269, hr_270⟩ := iv_iald xm_260 xd_260_108 ok (rfl : sv_ty 159 = some 96) dt_96 (by decide) ix0 hr_265
          obtain ⟨n_280, r_271, e_281, hc_272, hr_282⟩ := iv_call (Or.inr ⟨rfl, rfl⟩) xm_260 xd_260_109 (by decide +kernel) xm_258 rfl (by decide +kernel) hr_270
          obtain ⟨v_273, d_274, er_275, iv_276, ok_277⟩ := ds_258 _ _ ok qi_267 hc_272
          obtain ⟨_, h_279⟩ := r_271
          have er_275 : _ = some (wk_i v_273) := er_275
          subst er_275
          have hr_283 : ae_exe n_280 260 (109 + 3) 0 0 lv _ h_279 = some r := hr_282
          obtain ⟨lv_285, sl_284, n_286, e_287, hr_288⟩ := iv_istore xm_260 xd_260_112 (by decide +kernel) hr_283
          have l_289 := sl_284.2 0 _ q0 (by decide) (Or.inl rfl)
          have l_290 := sl_284.2 1 _ q1 (by decide) (Or.inl rfl)
          have l_291 := sl_284.2 2 _ q2 (by decide) (Or.inl rfl)
          have l_292 := sl_284.2 3 _ q3 (by decide) (Or.inl rfl)
          have l_293 := sl_284.1
          obtain ⟨n_294, e_295, hr_296⟩ := iv_aload_n xm_260 xd_260_114 l_289 hr_288
          obtain ⟨n_297, e_298, hr_299⟩ := iv_bipush xm_260 xd_260_115 (by decide) hr_296
          obtain ⟨n_300, e_301, hr_302⟩ := iv_sipush xm_260 xd_260_117 (by decide) hr_299
          obtain ⟨n_303, e_304, hr_305⟩ := iv_iload xm_260 xd_260_120 l_293 hr_302
          obtain ⟨n_306, e_307, hr_308⟩ := iw_iadd xm_260 xd_260_122 hr_305
          obtain ⟨n_318, r_309, e_319, hc_310, hr_320⟩ := iv_call (Or.inr ⟨rfl, rfl⟩) xm_260 xd_260_123 (by decide +kernel) xm_257 rfl (by decide +kernel) hr_308
          obtain ⟨v_311, d_312, er_313, iv_314, ok_315⟩ := ds_257 _ _ _ ok_277 (by unfold sv_I; omega) (dc_w_I _) hc_310
          obtain ⟨_, h_317⟩ := r_309
          have er_313 : _ = none := er_313
          subst er_313
          have hr_321 : ae_exe n_318 260 (123 + 3) 0 0 lv_285 _ h_317 = some r := hr_320
          obtain ⟨n_322, e_323, hr_324⟩ := iv_aload_n xm_260 xd_260_126 l_289 hr_321
          obtain ⟨n_325, e_326, hr_327⟩ := iv_sipush xm_260 xd_260_127 (by decide) hr_324
          obtain ⟨n_328, e_329, hr_330⟩ := iv_iload xm_260 xd_260_130 l_293 hr_327
          obtain ⟨n_331, e_332, hr_333⟩ := iw_iadd xm_260 xd_260_132 hr_330
          obtain ⟨n_334, e_335, hr_336⟩ := iv_bipush xm_260 xd_260_133 (by decide) hr_333
          obtain ⟨n_337, e_338, hr_339⟩ := iv_iload_n xm_260 xd_260_135 l_291 hr_336
          obtain ⟨n_340, e_341, hr_342⟩ := iw_iadd xm_260 xd_260_136 hr_339
          obtain ⟨n_352, r_343, e_353, hc_344, hr_354⟩ := iv_call (Or.inr ⟨rfl, rfl⟩) xm_260 xd_260_137 (by decide +kernel) xm_257 rfl (by decide +kernel) hr_342
          obtain ⟨v_345, d_346, er_347, iv_348, ok_349⟩ := ds_257 _ _ _ ok_315 (dc_w_I _) (dc_w_I _) hc_344
          obtain ⟨_, h_351⟩ := r_343
          have er_347 : _ = none := er_347
          subst er_347
          have hr_355 : ae_exe n_352 260 (137 + 3) 0 0 lv_285 _ h_351 = some r := hr_354
          obtain ⟨n_356, e_357, hr_358⟩ := iv_aload_n xm_260 xd_260_140 l_289 hr_355
          obtain ⟨n_359, e_360, hr_361⟩ := iv_sipush xm_260 xd_260_141 (by decide) hr_358
          obtain ⟨n_362, e_363, hr_364⟩ := iv_iload xm_260 xd_260_144 l_293 hr_361
          obtain ⟨n_365, e_366, hr_367⟩ := iw_iadd xm_260 xd_260_146 hr_364
          obtain ⟨n_368, e_369, hr_370⟩ := iv_bipush xm_260 xd_260_147 (by decide) hr_367
          obtain ⟨n_371, e_372, hr_373⟩ := iv_iload_n xm_260 xd_260_149 l_291 hr_370
          obtain ⟨n_374, e_375, hr_376⟩ := iw_iadd xm_260 xd_260_150 hr_373
          obtain ⟨n_386, r_377, e_387, hc_378, hr_388⟩ := iv_call (Or.inr ⟨rfl, rfl⟩) xm_260 xd_260_151 (by decide +kernel) xm_257 rfl (by decide +kernel) hr_376
          obtain ⟨v_379, d_380, er_381, iv_382, ok_383⟩ := ds_257 _ _ _ ok_349 (dc_w_I _) (dc_w_I _) hc_378
          obtain ⟨_, h_385⟩ := r_377
          have er_381 : _ = none := er_381
          subst er_381
          have hr_389 : ae_exe n_386 260 (151 + 3) 0 0 lv_285 _ h_385 = some r := hr_388
          have rr_390 := iv_return xm_260 xd_260_154 hr_389 rfl
          subst rr_390
          exact ⟨_, ⟨0 + 1, lm_260_27.mpr (Or.inr ⟨c_4, ⟨q_207, ⟨q_222, Or.inl ⟨c_230, ⟨q_244, Or.inl ⟨c_249, ⟨q_266, ⟨_, _, d_274, ⟨_, _, d_312, ⟨_, _, d_346, ⟨_, _, d_380, ⟨rfl, rfl⟩⟩⟩⟩⟩⟩⟩⟩⟩⟩⟩⟩)⟩, rfl, (by unfold sv_I; omega), ok_383⟩
        · obtain ⟨n_391, e_392, hr_393⟩ := iv_aload_n xm_260 xd_260_91 q0 hr_252
          obtain ⟨n_394, e_395, hr_396⟩ := iv_bipush xm_260 xd_260_92 (by decide) hr_393
          obtain ⟨n_397, e_398, hr_399⟩ := iv_bipush xm_260 xd_260_94 (by decide) hr_396
          obtain ⟨n_400, e_401, hr_402⟩ := iv_iload_n xm_260 xd_260_96 q2 hr_399
          obtain ⟨n_403, e_404, hr_405⟩ := iw_iadd xm_260 xd_260_97 hr_402
          obtain ⟨n_415, r_406, e_416, hc_407, hr_417⟩ := iv_call (Or.inr ⟨rfl, rfl⟩) xm_260 xd_260_98 (by decide +kernel) xm_257 rfl (by decide +kernel) hr_405
          obtain ⟨v_408, d_409, er_410, iv_411, ok_412⟩ := ds_257 _ _ _ ok (by unfold sv_I; omega) (dc_w_I _) hc_407
          obtain ⟨_, h_414⟩ := r_406
          have er_410 : _ = none := er_410
          subst er_410
          have hr_418 : ae_exe n_415 260 (98 + 3) 0 0 lv _ h_414 = some r := hr_417
          have rr_419 := iv_return xm_260 xd_260_101 hr_418 rfl
          subst rr_419
          exact ⟨_, ⟨0 + 1, lm_260_27.mpr (Or.inr ⟨c_4, ⟨q_207, ⟨q_222, Or.inl ⟨c_230, ⟨q_244, Or.inr ⟨c_249, ⟨_, _, d_409, ⟨rfl, rfl⟩⟩⟩⟩⟩⟩⟩⟩)⟩, rfl, (by unfold sv_I; omega), ok_412⟩
      · obtain ⟨n_420, e_421, hr_422⟩ := iv_aload_n xm_260 xd_260_49 q0 hr_233
        obtain ⟨n_423, e_424, hr_425⟩ := iv_iconst xm_260 xd_260_50 (by decide) hr_422
        obtain ⟨n_426, e_427, hr_428⟩ := iv_aload_n xm_260 xd_260_51 q0 hr_425
        have f_429 := dc_fr (j := 64) ok (rfl : sv_ty 114 = some 12) dt_12 rfl
        obtain ⟨n_430, e_431, hr_432⟩ := iv_getf (j := 64) xm_260 xd_260_52 (by decide +kernel) ok (rfl : sv_ty 114 = some 12) dt_12 f_429 hr_428
        obtain ⟨n_433, e_434, hr_435⟩ := iv_iload_n xm_260 xd_260_55 q3 hr_432
        obtain ⟨q_436, qi_437, n_438, e_439, hr_440⟩ := iv_iald xm_260 xd_260_56 ok (rfl : sv_ty 153 = some 90) dt_90 (by decide) il3 hr_435
        obtain ⟨n_441, e_442, hr_443⟩ := iw_iadd xm_260 xd_260_57 hr_440
        obtain ⟨n_444, e_445, hr_446⟩ := iv_iload xm_260 xd_260_58 q4 hr_443
        obtain ⟨n_447, e_448, hr_449⟩ := iw_isub xm_260 xd_260_60 hr_446
        obtain ⟨n_450, e_451, hr_452⟩ := iv_iconst xm_260 xd_260_61 (by decide) hr_449
        obtain ⟨n_453, e_454, hr_455⟩ := iw_isub xm_260 xd_260_62 hr_452
        obtain ⟨n_456, e_457, hr_458⟩ := iv_bipush xm_260 xd_260_63 (by decide) hr_455
        obtain ⟨n_459, e_460, hr_461⟩ := iv_bipush xm_260 xd_260_65 (by decide) hr_458
        obtain ⟨n_462, e_463, hr_464⟩ := iv_iload_n xm_260 xd_260_67 q2 hr_461
        obtain ⟨n_465, e_466, hr_467⟩ := iw_imul xm_260 xd_260_68 hr_464
        obtain ⟨n_468, e_469, hr_470⟩ := iw_iadd xm_260 xd_260_69 hr_467
        obtain ⟨n_471, e_472, hr_473⟩ := iv_iload xm_260 xd_260_70 q4 hr_470
        obtain ⟨n_474, e_475, hr_476⟩ := iw_iadd xm_260 xd_260_72 hr_473
        obtain ⟨n_486, r_477, e_487, hc_478, hr_488⟩ := iv_call (Or.inr ⟨rfl, rfl⟩) xm_260 xd_260_73 (by decide +kernel) xm_257 rfl (by decide +kernel) hr_476
        obtain ⟨v_479, d_480, er_481, iv_482, ok_483⟩ := ds_257 _ _ _ ok (dc_w_I _) (dc_w_I _) hc_478
        obtain ⟨_, h_485⟩ := r_477
        have er_481 : _ = none := er_481
        subst er_481
        have hr_489 : ae_exe n_486 260 (73 + 3) 0 0 lv _ h_485 = some r := hr_488
        obtain ⟨lv_491, sl_490, n_492, e_493, hr_494⟩ := iw_iinc xm_260 xd_260_76 (by decide +kernel) (by decide) q4 hr_489
        have l_495 := sl_490.2 0 _ q0 (by decide) (Or.inl rfl)
        have l_496 := sl_490.2 1 _ q1 (by decide) (Or.inl rfl)
        have l_497 := sl_490.2 2 _ q2 (by decide) (Or.inl rfl)
        have l_498 := sl_490.2 3 _ q3 (by decide) (Or.inl rfl)
        have l_499 := sl_490.1
        obtain ⟨n_500, e_501, hr_502⟩ := iv_goto 27 xm_260 xd_260_79 (by decide) hr_494
        obtain ⟨v, ⟨c, hL⟩, e1, e2, e3⟩ := ih0 _ lv_491 h_485 _ _ _ (by omega) ok_483 il3 (dc_w_I _) l_495 l_496 l_497 l_498 l_499 hr_502
        exact ⟨v, ⟨c + 1, lm_260_27.mpr (Or.inr ⟨c_4, ⟨q_207, ⟨q_222, Or.inr ⟨c_230, ⟨q_436, ⟨_, _, d_480, hL⟩⟩⟩⟩⟩⟩)⟩, e1, e2, e3⟩
abbrev D_260 (x0 : Int) (x1 : Int) (m : dc_M) (v : Int) (m' : dc_M) : Prop := (0 ≤ (x0 : Int) ∧ (x0 : Int) < 16) ∧ (((((m 156 x0) : Int) ≥ 0 ∧ (∃ c, LM_260 x0 x1 c 27 (m 156 x0) 0 m v m')) ∨ (¬ (((m 156 x0) : Int) ≥ 0) ∧ (∃ v_570 m_575, D_257 60 ((dc_w (96 + (dc_w (6 * x1))))) m v_570 m_575 ∧ (∃ c, LM_260 x0 x1 c 27 (m 156 x0) 0 m_575 v m')))))
theorem ds_260 (n : Nat) (x0 : Int) (x1 : Int) {h : ae_H} {r : ae_R} (ok : dc_ok h) (ix0 : sv_I x0) (ix1 : sv_I x1) (hr : ae_exe n 260 0 0 0 (ae_args [wk_r 114, wk_i x0, wk_i x1] 0) [] h = some r) : ∃ v, D_260 x0 x1 (dc_m h) v (dc_m r.2) ∧ r.1 = none ∧ sv_I v ∧ dc_ok r.2 := by
  have q0 : ae_lk (ae_args [wk_r 114, wk_i x0, wk_i x1] 0) 0 = some (wk_r 114) := rfl
  have q1 : ae_lk (ae_args [wk_r 114, wk_i x0, wk_i x1] 0) 1 = some (wk_i x0) := rfl
  have q2 : ae_lk (ae_args [wk_r 114, wk_i x0, wk_i x1] 0) 2 = some (wk_i x1) := rfl
  obtain ⟨n_503, e_504, hr_505⟩ := iv_aload_n xm_260 xd_260_0 q0 hr
  have f_506 := dc_fr (j := 67) ok (rfl : sv_ty 114 = some 12) dt_12 rfl
  obtain ⟨n_507, e_508, hr_509⟩ := iv_getf (j := 67) xm_260 xd_260_1 (by decide +kernel) ok (rfl : sv_ty 114 = some 12) dt_12 f_506 hr_505
  obtain ⟨n_510, e_511, hr_512⟩ := iv_iload_n xm_260 xd_260_4 q1 hr_509
  obtain ⟨q_513, qi_514, n_515, e_516, hr_517⟩ := iv_iald xm_260 xd_260_5 ok (rfl : sv_ty 156 = some 93) dt_93 (by decide) ix0 hr_512
  obtain ⟨lv_519, sl_518, n_520, e_521, hr_522⟩ := iv_istore_n xm_260 xd_260_6 (by decide +kernel) hr_517
  have l_523 := sl_518.2 0 _ q0 (by decide) (Or.inl rfl)
  have l_524 := sl_518.2 1 _ q1 (by decide) (Or.inl rfl)
  have l_525 := sl_518.2 2 _ q2 (by decide) (Or.inl rfl)
  have l_526 := sl_518.1
  obtain ⟨n_527, e_528, hr_529⟩ := iv_iload_n xm_260 xd_260_7 l_526 hr_522
  rcases iv_if 24 xm_260 xd_260_8 (by decide) qi_514 hr_529 with ⟨c_530, n_531, e_532, hr_533⟩ | ⟨c_530, n_531, e_532, hr_533⟩
  · obtain ⟨n_534, e_535, hr_536⟩ := iv_iconst xm_260 xd_260_24 (by decide) hr_533
    obtain ⟨lv_538, sl_537, n_539, e_540, hr_541⟩ := iv_istore xm_260 xd_260_25 (by decide +kernel) hr_536
    have l_542 := sl_537.2 0 _ l_523 (by decide) (Or.inl rfl)
    have l_543 := sl_537.2 1 _ l_524 (by decide) (Or.inl rfl)
    have l_544 := sl_537.2 2 _ l_525 (by decide) (Or.inl rfl)
    have l_545 := sl_537.2 3 _ l_526 (by decide) (Or.inl rfl)
    have l_546 := sl_537.1
    obtain ⟨v, ⟨c, hL⟩, e1, e2, e3⟩ := (dl_260 ix0 ix1 _) _ lv_538 h _ _ _ (Nat.le_refl _) ok qi_514 (by unfold sv_I; omega) l_542 l_543 l_544 l_545 l_546 hr_541
    exact ⟨v, ⟨q_513, Or.inl ⟨c_530, ⟨_, hL⟩⟩⟩, e1, e2, e3⟩
  · obtain ⟨n_547, e_548, hr_549⟩ := iv_aload_n xm_260 xd_260_11 l_523 hr_533
    obtain ⟨n_550, e_551, hr_552⟩ := iv_bipush xm_260 xd_260_12 (by decide) hr_549
    obtain ⟨n_553, e_554, hr_555⟩ := iv_bipush xm_260 xd_260_14 (by decide) hr_552
    obtain ⟨n_556, e_557, hr_558⟩ := iv_bipush xm_260 xd_260_16 (by decide) hr_555
    obtain ⟨n_559, e_560, hr_561⟩ := iv_iload_n xm_260 xd_260_18 l_525 hr_558
    obtain ⟨n_562, e_563, hr_564⟩ := iw_imul xm_260 xd_260_19 hr_561
    obtain ⟨n_565, e_566, hr_567⟩ := iw_iadd xm_260 xd_260_20 hr_564
    obtain ⟨n_577, r_568, e_578, hc_569, hr_579⟩ := iv_call (Or.inr ⟨rfl, rfl⟩) xm_260 xd_260_21 (by decide +kernel) xm_257 rfl (by decide +kernel) hr_567
    obtain ⟨v_570, d_571, er_572, iv_573, ok_574⟩ := ds_257 _ _ _ ok (by unfold sv_I; omega) (dc_w_I _) hc_569
    obtain ⟨_, h_576⟩ := r_568
    have er_572 : _ = none := er_572
    subst er_572
    have hr_580 : ae_exe n_577 260 (21 + 3) 0 0 lv_519 _ h_576 = some r := hr_579
    obtain ⟨n_581, e_582, hr_583⟩ := iv_iconst xm_260 xd_260_24 (by decide) hr_580
    obtain ⟨lv_585, sl_584, n_586, e_587, hr_588⟩ := iv_istore xm_260 xd_260_25 (by decide +kernel) hr_583
    have l_589 := sl_584.2 0 _ l_523 (by decide) (Or.inl rfl)
    have l_590 := sl_584.2 1 _ l_524 (by decide) (Or.inl rfl)
    have l_591 := sl_584.2 2 _ l_525 (by decide) (Or.inl rfl)
    have l_592 := sl_584.2 3 _ l_526 (by decide) (Or.inl rfl)
    have l_593 := sl_584.1
    obtain ⟨v, ⟨c, hL⟩, e1, e2, e3⟩ := (dl_260 ix0 ix1 _) _ lv_585 h_576 _ _ _ (Nat.le_refl _) ok_574 qi_514 (by unfold sv_I; omega) l_589 l_590 l_591 l_592 l_593 hr_588
    exact ⟨v, ⟨q_513, Or.inr ⟨c_530, ⟨_, _, d_571, ⟨_, hL⟩⟩⟩⟩, e1, e2, e3⟩
/-! method 259 -/
theorem xm_259 : ae_m 259 = some (wk_M 259) := rfl
theorem xd_259_0 : decode (wk_M 259).2.2.1 0 = .ok (.aload_n 0, 1) := zd_by (by decide +kernel)
theorem xd_259_1 : decode (wk_M 259).2.2.1 1 = .ok (.iconst 0, 1) := zd_by (by decide +kernel)
theorem xd_259_2 : decode (wk_M 259).2.2.1 2 = .ok (.putfield 491, 3) := zd_by (by decide +kernel)
theorem xd_259_5 : decode (wk_M 259).2.2.1 5 = .ok (.aload_n 0, 1) := zd_by (by decide +kernel)
theorem xd_259_6 : decode (wk_M 259).2.2.1 6 = .ok (.iconst 0, 1) := zd_by (by decide +kernel)
theorem xd_259_7 : decode (wk_M 259).2.2.1 7 = .ok (.putfield 494, 3) := zd_by (by decide +kernel)
theorem xd_259_10 : decode (wk_M 259).2.2.1 10 = .ok (.aload_n 0, 1) := zd_by (by decide +kernel)
theorem xd_259_11 : decode (wk_M 259).2.2.1 11 = .ok (.iconst 0, 1) := zd_by (by decide +kernel)
theorem xd_259_12 : decode (wk_M 259).2.2.1 12 = .ok (.putfield 497, 3) := zd_by (by decide +kernel)
theorem xd_259_15 : decode (wk_M 259).2.2.1 15 = .ok (.iconst 0, 1) := zd_by (by decide +kernel)
theorem xd_259_16 : decode (wk_M 259).2.2.1 16 = .ok (.istore_n 2, 1) := zd_by (by decide +kernel)
theorem xd_259_17 : decode (wk_M 259).2.2.1 17 = .ok (.iconst 0, 1) := zd_by (by decide +kernel)
theorem xd_259_18 : decode (wk_M 259).2.2.1 18 = .ok (.istore_n 3, 1) := zd_by (by decide +kernel)
theorem xd_259_19 : decode (wk_M 259).2.2.1 19 = .ok (.iload_n 3, 1) := zd_by (by decide +kernel)
theorem xd_259_20 : decode (wk_M 259).2.2.1 20 = .ok (.aload_n 0, 1) := zd_by (by decide +kernel)
theorem xd_259_21 : decode (wk_M 259).2.2.1 21 = .ok (.getfield 133, 3) := zd_by (by decide +kernel)
theorem xd_259_24 : decode (wk_M 259).2.2.1 24 = .ok (.iconst 0, 1) := zd_by (by decide +kernel)
theorem xd_259_25 : decode (wk_M 259).2.2.1 25 = .ok (.iaload, 1) := zd_by (by decide +kernel)
theorem xd_259_26 : decode (wk_M 259).2.2.1 26 = .ok (.if_icmp .ge 31, 3) := zd_by (by decide +kernel)
theorem xd_259_29 : decode (wk_M 259).2.2.1 29 = .ok (.iload_n 2, 1) := zd_by (by decide +kernel)
theorem xd_259_30 : decode (wk_M 259).2.2.1 30 = .ok (.iload_n 1, 1) := zd_by (by decide +kernel)
theorem xd_259_31 : decode (wk_M 259).2.2.1 31 = .ok (.iload_n 3, 1) := zd_by (by decide +kernel)
theorem xd_259_32 : decode (wk_M 259).2.2.1 32 = .ok (.ishr, 1) := zd_by (by decide +kernel)
theorem xd_259_33 : decode (wk_M 259).2.2.1 33 = .ok (.iconst 1, 1) := zd_by (by decide +kernel)
theorem xd_259_34 : decode (wk_M 259).2.2.1 34 = .ok (.iand, 1) := zd_by (by decide +kernel)
theorem xd_259_35 : decode (wk_M 259).2.2.1 35 = .ok (.iconst 1, 1) := zd_by (by decide +kernel)
theorem xd_259_36 : decode (wk_M 259).2.2.1 36 = .ok (.if_icmp .ne 12, 3) := zd_by (by decide +kernel)
theorem xd_259_39 : decode (wk_M 259).2.2.1 39 = .ok (.aload_n 0, 1) := zd_by (by decide +kernel)
theorem xd_259_40 : decode (wk_M 259).2.2.1 40 = .ok (.getfield 139, 3) := zd_by (by decide +kernel)
theorem xd_259_43 : decode (wk_M 259).2.2.1 43 = .ok (.iload_n 3, 1) := zd_by (by decide +kernel)
theorem xd_259_44 : decode (wk_M 259).2.2.1 44 = .ok (.iaload, 1) := zd_by (by decide +kernel)
theorem xd_259_45 : decode (wk_M 259).2.2.1 45 = .ok (.goto 4, 3) := zd_by (by decide +kernel)
theorem xd_259_48 : decode (wk_M 259).2.2.1 48 = .ok (.iconst 0, 1) := zd_by (by decide +kernel)
theorem xd_259_49 : decode (wk_M 259).2.2.1 49 = .ok (.iadd, 1) := zd_by (by decide +kernel)
theorem xd_259_50 : decode (wk_M 259).2.2.1 50 = .ok (.istore_n 2, 1) := zd_by (by decide +kernel)
theorem xd_259_51 : decode (wk_M 259).2.2.1 51 = .ok (.iinc 3 1, 3) := zd_by (by decide +kernel)
theorem xd_259_54 : decode (wk_M 259).2.2.1 54 = .ok (.goto (-35), 3) := zd_by (by decide +kernel)
theorem xd_259_57 : decode (wk_M 259).2.2.1 57 = .ok (.iload_n 1, 1) := zd_by (by decide +kernel)
theorem xd_259_58 : decode (wk_M 259).2.2.1 58 = .ok (.i2l, 1) := zd_by (by decide +kernel)
theorem xd_259_59 : decode (wk_M 259).2.2.1 59 = .ok (.invokestatic 416, 3) := zd_by (by decide +kernel)
theorem xd_259_62 : decode (wk_M 259).2.2.1 62 = .ok (.iconst 4, 1) := zd_by (by decide +kernel)
theorem xd_259_63 : decode (wk_M 259).2.2.1 63 = .ok (.if_icmp .gt 9, 3) := zd_by (by decide +kernel)
theorem xd_259_66 : decode (wk_M 259).2.2.1 66 = .ok (.iload_n 2, 1) := zd_by (by decide +kernel)
theorem xd_259_67 : decode (wk_M 259).2.2.1 67 = .ok (.bipush 12, 2) := zd_by (by decide +kernel)
theorem xd_259_69 : decode (wk_M 259).2.2.1 69 = .ok (.if_icmp .le 5, 3) := zd_by (by decide +kernel)
theorem xd_259_72 : decode (wk_M 259).2.2.1 72 = .ok (.iconst 0, 1) := zd_by (by decide +kernel)
theorem xd_259_73 : decode (wk_M 259).2.2.1 73 = .ok (.ireturn, 1) := zd_by (by decide +kernel)
theorem xd_259_74 : decode (wk_M 259).2.2.1 74 = .ok (.iconst 0, 1) := zd_by (by decide +kernel)
theorem xd_259_75 : decode (wk_M 259).2.2.1 75 = .ok (.istore_n 3, 1) := zd_by (by decide +kernel)
theorem xd_259_76 : decode (wk_M 259).2.2.1 76 = .ok (.iconst 0, 1) := zd_by (by decide +kernel)
theorem xd_259_77 : decode (wk_M 259).2.2.1 77 = .ok (.istore 4, 2) := zd_by (by decide +kernel)
theorem xd_259_79 : decode (wk_M 259).2.2.1 79 = .ok (.iload 4, 2) := zd_by (by decide +kernel)
theorem xd_259_81 : decode (wk_M 259).2.2.1 81 = .ok (.iconst 3, 1) := zd_by (by decide +kernel)
theorem xd_259_82 : decode (wk_M 259).2.2.1 82 = .ok (.if_icmp .ge 80, 3) := zd_by (by decide +kernel)
theorem xd_259_85 : decode (wk_M 259).2.2.1 85 = .ok (.aload_n 0, 1) := zd_by (by decide +kernel)
theorem xd_259_86 : decode (wk_M 259).2.2.1 86 = .ok (.getfield 130, 3) := zd_by (by decide +kernel)
theorem xd_259_89 : decode (wk_M 259).2.2.1 89 = .ok (.iload 4, 2) := zd_by (by decide +kernel)
theorem xd_259_91 : decode (wk_M 259).2.2.1 91 = .ok (.iaload, 1) := zd_by (by decide +kernel)
theorem xd_259_92 : decode (wk_M 259).2.2.1 92 = .ok (.ifCond .ne 6, 3) := zd_by (by decide +kernel)
theorem xd_259_95 : decode (wk_M 259).2.2.1 95 = .ok (.goto 61, 3) := zd_by (by decide +kernel)
theorem xd_259_98 : decode (wk_M 259).2.2.1 98 = .ok (.aload_n 0, 1) := zd_by (by decide +kernel)
theorem xd_259_99 : decode (wk_M 259).2.2.1 99 = .ok (.iconst 0, 1) := zd_by (by decide +kernel)
theorem xd_259_100 : decode (wk_M 259).2.2.1 100 = .ok (.aload_n 0, 1) := zd_by (by decide +kernel)
theorem xd_259_101 : decode (wk_M 259).2.2.1 101 = .ok (.getfield 130, 3) := zd_by (by decide +kernel)
theorem xd_259_104 : decode (wk_M 259).2.2.1 104 = .ok (.iload 4, 2) := zd_by (by decide +kernel)
theorem xd_259_106 : decode (wk_M 259).2.2.1 106 = .ok (.iaload, 1) := zd_by (by decide +kernel)
theorem xd_259_107 : decode (wk_M 259).2.2.1 107 = .ok (.iadd, 1) := zd_by (by decide +kernel)
theorem xd_259_108 : decode (wk_M 259).2.2.1 108 = .ok (.iconst 1, 1) := zd_by (by decide +kernel)
theorem xd_259_109 : decode (wk_M 259).2.2.1 109 = .ok (.isub, 1) := zd_by (by decide +kernel)
theorem xd_259_110 : decode (wk_M 259).2.2.1 110 = .ok (.sipush 148, 3) := zd_by (by decide +kernel)
theorem xd_259_113 : decode (wk_M 259).2.2.1 113 = .ok (.iload_n 3, 1) := zd_by (by decide +kernel)
theorem xd_259_114 : decode (wk_M 259).2.2.1 114 = .ok (.iadd, 1) := zd_by (by decide +kernel)
theorem xd_259_115 : decode (wk_M 259).2.2.1 115 = .ok (.invokevirtual 500, 3) := zd_by (by decide +kernel)
theorem xd_259_118 : decode (wk_M 259).2.2.1 118 = .ok (.aload_n 0, 1) := zd_by (by decide +kernel)
theorem xd_259_119 : decode (wk_M 259).2.2.1 119 = .ok (.bipush 20, 2) := zd_by (by decide +kernel)
theorem xd_259_121 : decode (wk_M 259).2.2.1 121 = .ok (.aload_n 0, 1) := zd_by (by decide +kernel)
theorem xd_259_122 : decode (wk_M 259).2.2.1 122 = .ok (.getfield 130, 3) := zd_by (by decide +kernel)
theorem xd_259_125 : decode (wk_M 259).2.2.1 125 = .ok (.iload 4, 2) := zd_by (by decide +kernel)
theorem xd_259_127 : decode (wk_M 259).2.2.1 127 = .ok (.iaload, 1) := zd_by (by decide +kernel)
theorem xd_259_128 : decode (wk_M 259).2.2.1 128 = .ok (.iadd, 1) := zd_by (by decide +kernel)
theorem xd_259_129 : decode (wk_M 259).2.2.1 129 = .ok (.iconst 1, 1) := zd_by (by decide +kernel)
theorem xd_259_130 : decode (wk_M 259).2.2.1 130 = .ok (.isub, 1) := zd_by (by decide +kernel)
theorem xd_259_131 : decode (wk_M 259).2.2.1 131 = .ok (.sipush 152, 3) := zd_by (by decide +kernel)
theorem xd_259_134 : decode (wk_M 259).2.2.1 134 = .ok (.iload_n 3, 1) := zd_by (by decide +kernel)
theorem xd_259_135 : decode (wk_M 259).2.2.1 135 = .ok (.iadd, 1) := zd_by (by decide +kernel)
theorem xd_259_136 : decode (wk_M 259).2.2.1 136 = .ok (.invokevirtual 500, 3) := zd_by (by decide +kernel)
theorem xd_259_139 : decode (wk_M 259).2.2.1 139 = .ok (.aload_n 0, 1) := zd_by (by decide +kernel)
theorem xd_259_140 : decode (wk_M 259).2.2.1 140 = .ok (.bipush 61, 2) := zd_by (by decide +kernel)
theorem xd_259_142 : decode (wk_M 259).2.2.1 142 = .ok (.iload_n 3, 1) := zd_by (by decide +kernel)
theorem xd_259_143 : decode (wk_M 259).2.2.1 143 = .ok (.iadd, 1) := zd_by (by decide +kernel)
theorem xd_259_144 : decode (wk_M 259).2.2.1 144 = .ok (.sipush 156, 3) := zd_by (by decide +kernel)
theorem xd_259_147 : decode (wk_M 259).2.2.1 147 = .ok (.iload 4, 2) := zd_by (by decide +kernel)
theorem xd_259_149 : decode (wk_M 259).2.2.1 149 = .ok (.iadd, 1) := zd_by (by decide +kernel)
theorem xd_259_150 : decode (wk_M 259).2.2.1 150 = .ok (.invokevirtual 500, 3) := zd_by (by decide +kernel)
theorem xd_259_153 : decode (wk_M 259).2.2.1 153 = .ok (.iinc 3 1, 3) := zd_by (by decide +kernel)
theorem xd_259_156 : decode (wk_M 259).2.2.1 156 = .ok (.iinc 4 1, 3) := zd_by (by decide +kernel)
theorem xd_259_159 : decode (wk_M 259).2.2.1 159 = .ok (.goto (-80), 3) := zd_by (by decide +kernel)
theorem xd_259_162 : decode (wk_M 259).2.2.1 162 = .ok (.iconst 0, 1) := zd_by (by decide +kernel)
theorem xd_259_163 : decode (wk_M 259).2.2.1 163 = .ok (.istore 4, 2) := zd_by (by decide +kernel)
theorem xd_259_165 : decode (wk_M 259).2.2.1 165 = .ok (.iconst 0, 1) := zd_by (by decide +kernel)
theorem xd_259_166 : decode (wk_M 259).2.2.1 166 = .ok (.istore 5, 2) := zd_by (by decide +kernel)
theorem xd_259_168 : decode (wk_M 259).2.2.1 168 = .ok (.iload 5, 2) := zd_by (by decide +kernel)
theorem xd_259_170 : decode (wk_M 259).2.2.1 170 = .ok (.aload_n 0, 1) := zd_by (by decide +kernel)
theorem xd_259_171 : decode (wk_M 259).2.2.1 171 = .ok (.getfield 133, 3) := zd_by (by decide +kernel)
theorem xd_259_174 : decode (wk_M 259).2.2.1 174 = .ok (.iconst 0, 1) := zd_by (by decide +kernel)
theorem xd_259_175 : decode (wk_M 259).2.2.1 175 = .ok (.iaload, 1) := zd_by (by decide +kernel)
theorem xd_259_176 : decode (wk_M 259).2.2.1 176 = .ok (.if_icmp .ge 32, 3) := zd_by (by decide +kernel)
theorem xd_259_179 : decode (wk_M 259).2.2.1 179 = .ok (.iload_n 1, 1) := zd_by (by decide +kernel)
theorem xd_259_180 : decode (wk_M 259).2.2.1 180 = .ok (.iload 5, 2) := zd_by (by decide +kernel)
theorem xd_259_182 : decode (wk_M 259).2.2.1 182 = .ok (.ishr, 1) := zd_by (by decide +kernel)
theorem xd_259_183 : decode (wk_M 259).2.2.1 183 = .ok (.iconst 1, 1) := zd_by (by decide +kernel)
theorem xd_259_184 : decode (wk_M 259).2.2.1 184 = .ok (.iand, 1) := zd_by (by decide +kernel)
theorem xd_259_185 : decode (wk_M 259).2.2.1 185 = .ok (.ifCond .ne 6, 3) := zd_by (by decide +kernel)
theorem xd_259_188 : decode (wk_M 259).2.2.1 188 = .ok (.goto 14, 3) := zd_by (by decide +kernel)
theorem xd_259_191 : decode (wk_M 259).2.2.1 191 = .ok (.aload_n 0, 1) := zd_by (by decide +kernel)
theorem xd_259_192 : decode (wk_M 259).2.2.1 192 = .ok (.iload 5, 2) := zd_by (by decide +kernel)
theorem xd_259_194 : decode (wk_M 259).2.2.1 194 = .ok (.iload 4, 2) := zd_by (by decide +kernel)
theorem xd_259_196 : decode (wk_M 259).2.2.1 196 = .ok (.invokevirtual 503, 3) := zd_by (by decide +kernel)
theorem xd_259_199 : decode (wk_M 259).2.2.1 199 = .ok (.iinc 4 1, 3) := zd_by (by decide +kernel)
theorem xd_259_202 : decode (wk_M 259).2.2.1 202 = .ok (.iinc 5 1, 3) := zd_by (by decide +kernel)
theorem xd_259_205 : decode (wk_M 259).2.2.1 205 = .ok (.goto (-37), 3) := zd_by (by decide +kernel)
theorem xd_259_208 : decode (wk_M 259).2.2.1 208 = .ok (.iconst 0, 1) := zd_by (by decide +kernel)
theorem xd_259_209 : decode (wk_M 259).2.2.1 209 = .ok (.istore 4, 2) := zd_by (by decide +kernel)
theorem xd_259_211 : decode (wk_M 259).2.2.1 211 = .ok (.iconst 0, 1) := zd_by (by decide +kernel)
theorem xd_259_212 : decode (wk_M 259).2.2.1 212 = .ok (.istore 5, 2) := zd_by (by decide +kernel)
theorem xd_259_214 : decode (wk_M 259).2.2.1 214 = .ok (.iconst 0, 1) := zd_by (by decide +kernel)
theorem xd_259_215 : decode (wk_M 259).2.2.1 215 = .ok (.istore 6, 2) := zd_by (by decide +kernel)
theorem xd_259_217 : decode (wk_M 259).2.2.1 217 = .ok (.iload 6, 2) := zd_by (by decide +kernel)
theorem xd_259_219 : decode (wk_M 259).2.2.1 219 = .ok (.aload_n 0, 1) := zd_by (by decide +kernel)
theorem xd_259_220 : decode (wk_M 259).2.2.1 220 = .ok (.getfield 133, 3) := zd_by (by decide +kernel)
theorem xd_259_223 : decode (wk_M 259).2.2.1 223 = .ok (.iconst 0, 1) := zd_by (by decide +kernel)
theorem xd_259_224 : decode (wk_M 259).2.2.1 224 = .ok (.iaload, 1) := zd_by (by decide +kernel)
theorem xd_259_225 : decode (wk_M 259).2.2.1 225 = .ok (.if_icmp .ge 124, 3) := zd_by (by decide +kernel)
theorem xd_259_228 : decode (wk_M 259).2.2.1 228 = .ok (.iload_n 1, 1) := zd_by (by decide +kernel)
theorem xd_259_229 : decode (wk_M 259).2.2.1 229 = .ok (.iload 6, 2) := zd_by (by decide +kernel)
theorem xd_259_231 : decode (wk_M 259).2.2.1 231 = .ok (.ishr, 1) := zd_by (by decide +kernel)
theorem xd_259_232 : decode (wk_M 259).2.2.1 232 = .ok (.iconst 1, 1) := zd_by (by decide +kernel)
theorem xd_259_233 : decode (wk_M 259).2.2.1 233 = .ok (.iand, 1) := zd_by (by decide +kernel)
theorem xd_259_234 : decode (wk_M 259).2.2.1 234 = .ok (.ifCond .ne 6, 3) := zd_by (by decide +kernel)
theorem xd_259_237 : decode (wk_M 259).2.2.1 237 = .ok (.goto 106, 3) := zd_by (by decide +kernel)
theorem xd_259_240 : decode (wk_M 259).2.2.1 240 = .ok (.aload_n 0, 1) := zd_by (by decide +kernel)
theorem xd_259_241 : decode (wk_M 259).2.2.1 241 = .ok (.getfield 139, 3) := zd_by (by decide +kernel)
theorem xd_259_244 : decode (wk_M 259).2.2.1 244 = .ok (.iload 6, 2) := zd_by (by decide +kernel)
theorem xd_259_246 : decode (wk_M 259).2.2.1 246 = .ok (.iaload, 1) := zd_by (by decide +kernel)
theorem xd_259_247 : decode (wk_M 259).2.2.1 247 = .ok (.iconst 1, 1) := zd_by (by decide +kernel)
theorem xd_259_248 : decode (wk_M 259).2.2.1 248 = .ok (.isub, 1) := zd_by (by decide +kernel)
theorem xd_259_249 : decode (wk_M 259).2.2.1 249 = .ok (.istore 7, 2) := zd_by (by decide +kernel)
theorem xd_259_251 : decode (wk_M 259).2.2.1 251 = .ok (.iload 7, 2) := zd_by (by decide +kernel)
theorem xd_259_253 : decode (wk_M 259).2.2.1 253 = .ok (.ifCond .lt 65, 3) := zd_by (by decide +kernel)
theorem xd_259_256 : decode (wk_M 259).2.2.1 256 = .ok (.aload_n 0, 1) := zd_by (by decide +kernel)
theorem xd_259_257 : decode (wk_M 259).2.2.1 257 = .ok (.bipush 20, 2) := zd_by (by decide +kernel)
theorem xd_259_259 : decode (wk_M 259).2.2.1 259 = .ok (.aload_n 0, 1) := zd_by (by decide +kernel)
theorem xd_259_260 : decode (wk_M 259).2.2.1 260 = .ok (.getfield 142, 3) := zd_by (by decide +kernel)
theorem xd_259_263 : decode (wk_M 259).2.2.1 263 = .ok (.iload 6, 2) := zd_by (by decide +kernel)
theorem xd_259_265 : decode (wk_M 259).2.2.1 265 = .ok (.iaload, 1) := zd_by (by decide +kernel)
theorem xd_259_266 : decode (wk_M 259).2.2.1 266 = .ok (.iadd, 1) := zd_by (by decide +kernel)
theorem xd_259_267 : decode (wk_M 259).2.2.1 267 = .ok (.invokevirtual 506, 3) := zd_by (by decide +kernel)
theorem xd_259_270 : decode (wk_M 259).2.2.1 270 = .ok (.istore 8, 2) := zd_by (by decide +kernel)
theorem xd_259_272 : decode (wk_M 259).2.2.1 272 = .ok (.aload_n 0, 1) := zd_by (by decide +kernel)
theorem xd_259_273 : decode (wk_M 259).2.2.1 273 = .ok (.bipush 68, 2) := zd_by (by decide +kernel)
theorem xd_259_275 : decode (wk_M 259).2.2.1 275 = .ok (.bipush 6, 2) := zd_by (by decide +kernel)
theorem xd_259_277 : decode (wk_M 259).2.2.1 277 = .ok (.iload 4, 2) := zd_by (by decide +kernel)
theorem xd_259_279 : decode (wk_M 259).2.2.1 279 = .ok (.imul, 1) := zd_by (by decide +kernel)
theorem xd_259_280 : decode (wk_M 259).2.2.1 280 = .ok (.iadd, 1) := zd_by (by decide +kernel)
theorem xd_259_281 : decode (wk_M 259).2.2.1 281 = .ok (.iload 7, 2) := zd_by (by decide +kernel)
theorem xd_259_283 : decode (wk_M 259).2.2.1 283 = .ok (.iadd, 1) := zd_by (by decide +kernel)
theorem xd_259_284 : decode (wk_M 259).2.2.1 284 = .ok (.sipush 181, 3) := zd_by (by decide +kernel)
theorem xd_259_287 : decode (wk_M 259).2.2.1 287 = .ok (.iload 8, 2) := zd_by (by decide +kernel)
theorem xd_259_289 : decode (wk_M 259).2.2.1 289 = .ok (.iadd, 1) := zd_by (by decide +kernel)
theorem xd_259_290 : decode (wk_M 259).2.2.1 290 = .ok (.invokevirtual 500, 3) := zd_by (by decide +kernel)
theorem xd_259_293 : decode (wk_M 259).2.2.1 293 = .ok (.aload_n 0, 1) := zd_by (by decide +kernel)
theorem xd_259_294 : decode (wk_M 259).2.2.1 294 = .ok (.sipush 205, 3) := zd_by (by decide +kernel)
theorem xd_259_297 : decode (wk_M 259).2.2.1 297 = .ok (.iload 8, 2) := zd_by (by decide +kernel)
theorem xd_259_299 : decode (wk_M 259).2.2.1 299 = .ok (.iadd, 1) := zd_by (by decide +kernel)
theorem xd_259_300 : decode (wk_M 259).2.2.1 300 = .ok (.sipush 132, 3) := zd_by (by decide +kernel)
theorem xd_259_303 : decode (wk_M 259).2.2.1 303 = .ok (.iload 5, 2) := zd_by (by decide +kernel)
theorem xd_259_305 : decode (wk_M 259).2.2.1 305 = .ok (.iadd, 1) := zd_by (by decide +kernel)
theorem xd_259_306 : decode (wk_M 259).2.2.1 306 = .ok (.invokevirtual 500, 3) := zd_by (by decide +kernel)
theorem xd_259_309 : decode (wk_M 259).2.2.1 309 = .ok (.iinc 5 1, 3) := zd_by (by decide +kernel)
theorem xd_259_312 : decode (wk_M 259).2.2.1 312 = .ok (.iinc 7 (-1), 3) := zd_by (by decide +kernel)
theorem xd_259_315 : decode (wk_M 259).2.2.1 315 = .ok (.goto (-64), 3) := zd_by (by decide +kernel)
theorem xd_259_318 : decode (wk_M 259).2.2.1 318 = .ok (.aload_n 0, 1) := zd_by (by decide +kernel)
theorem xd_259_319 : decode (wk_M 259).2.2.1 319 = .ok (.bipush 65, 2) := zd_by (by decide +kernel)
theorem xd_259_321 : decode (wk_M 259).2.2.1 321 = .ok (.aload_n 0, 1) := zd_by (by decide +kernel)
theorem xd_259_322 : decode (wk_M 259).2.2.1 322 = .ok (.getfield 142, 3) := zd_by (by decide +kernel)
theorem xd_259_325 : decode (wk_M 259).2.2.1 325 = .ok (.iload 6, 2) := zd_by (by decide +kernel)
theorem xd_259_327 : decode (wk_M 259).2.2.1 327 = .ok (.iaload, 1) := zd_by (by decide +kernel)
theorem xd_259_328 : decode (wk_M 259).2.2.1 328 = .ok (.iadd, 1) := zd_by (by decide +kernel)
theorem xd_259_329 : decode (wk_M 259).2.2.1 329 = .ok (.iconst 1, 1) := zd_by (by decide +kernel)
theorem xd_259_330 : decode (wk_M 259).2.2.1 330 = .ok (.isub, 1) := zd_by (by decide +kernel)
theorem xd_259_331 : decode (wk_M 259).2.2.1 331 = .ok (.sipush 128, 3) := zd_by (by decide +kernel)
theorem xd_259_334 : decode (wk_M 259).2.2.1 334 = .ok (.iload 4, 2) := zd_by (by decide +kernel)
theorem xd_259_336 : decode (wk_M 259).2.2.1 336 = .ok (.iadd, 1) := zd_by (by decide +kernel)
theorem xd_259_337 : decode (wk_M 259).2.2.1 337 = .ok (.invokevirtual 500, 3) := zd_by (by decide +kernel)
theorem xd_259_340 : decode (wk_M 259).2.2.1 340 = .ok (.iinc 4 1, 3) := zd_by (by decide +kernel)
theorem xd_259_343 : decode (wk_M 259).2.2.1 343 = .ok (.iinc 6 1, 3) := zd_by (by decide +kernel)
theorem xd_259_346 : decode (wk_M 259).2.2.1 346 = .ok (.goto (-129), 3) := zd_by (by decide +kernel)
theorem xd_259_349 : decode (wk_M 259).2.2.1 349 = .ok (.aload_n 0, 1) := zd_by (by decide +kernel)
theorem xd_259_350 : decode (wk_M 259).2.2.1 350 = .ok (.getfield 497, 3) := zd_by (by decide +kernel)
theorem xd_259_353 : decode (wk_M 259).2.2.1 353 = .ok (.ifCond .ne 16, 3) := zd_by (by decide +kernel)
theorem xd_259_356 : decode (wk_M 259).2.2.1 356 = .ok (.aload_n 0, 1) := zd_by (by decide +kernel)
theorem xd_259_357 : decode (wk_M 259).2.2.1 357 = .ok (.getfield 491, 3) := zd_by (by decide +kernel)
theorem xd_259_360 : decode (wk_M 259).2.2.1 360 = .ok (.bipush 60, 2) := zd_by (by decide +kernel)
theorem xd_259_362 : decode (wk_M 259).2.2.1 362 = .ok (.if_icmp .gt 7, 3) := zd_by (by decide +kernel)
theorem xd_259_365 : decode (wk_M 259).2.2.1 365 = .ok (.iconst 1, 1) := zd_by (by decide +kernel)
theorem xd_259_366 : decode (wk_M 259).2.2.1 366 = .ok (.goto 4, 3) := zd_by (by decide +kernel)
theorem xd_259_369 : decode (wk_M 259).2.2.1 369 = .ok (.iconst 0, 1) := zd_by (by decide +kernel)
theorem xd_259_370 : decode (wk_M 259).2.2.1 370 = .ok (.ireturn, 1) := zd_by (by decide +kernel)
def LM_259 (x0 : Int) : Nat → Nat → Int → Int → Int → Int → Int → Int → dc_M → Int → dc_M → Prop
  | 0, _, _, _, _, _, _, _, _, _, _ => False
  | c + 1, tag, l2, l3, l4, l5, l6, l7, m, v, m' => match tag with
    | 19 => (0 ≤ (0 : Int) ∧ (0 : Int) < 2) ∧ ((((l3 : Int) ≥ (m 155 0) ∧ (∃ v_31 m_36, D_232 ((ae_i2l (sv_u x0))) m v_31 m_36 ∧ ((((v_31 : Int) > 4 ∧ (v = 0 ∧ m' = m_36)) ∨ (¬ ((v_31 : Int) > 4) ∧ ((((l2 : Int) ≤ 12 ∧ (LM_259 x0 c 79 l2 0 0 0 0 0 m_36 v m')) ∨ (¬ ((l2 : Int) ≤ 12) ∧ (v = 0 ∧ m' = m_36))))))))) ∨ (¬ ((l3 : Int) ≥ (m 155 0)) ∧ (((((sv_g (sv_u (sv_g (ae_shr (sv_u x0) (sv_u l3))) &&& sv_u 1)) : Int) ≠ 1 ∧ (LM_259 x0 c 19 (dc_w (l2 + 0)) (dc_w (l3 + 1)) 0 0 0 0 m v m')) ∨ (¬ (((sv_g (sv_u (sv_g (ae_shr (sv_u x0) (sv_u l3))) &&& sv_u 1)) : Int) ≠ 1) ∧ ((0 ≤ (l3 : Int) ∧ (l3 : Int) < 16) ∧ (LM_259 x0 c 19 (dc_w (l2 + (m 157 l3))) (dc_w (l3 + 1)) 0 0 0 0 m v m'))))))))
    | 79 => (((l4 : Int) ≥ 3 ∧ (LM_259 x0 c 168 l2 l3 0 0 0 0 m v m')) ∨ (¬ ((l4 : Int) ≥ 3) ∧ ((0 ≤ (l4 : Int) ∧ (l4 : Int) < 6) ∧ (((((m 154 l4) : Int) ≠ 0 ∧ ((0 ≤ (l4 : Int) ∧ (l4 : Int) < 6) ∧ (∃ v_283 m_288, D_257 ((dc_w ((dc_w (0 + (m 154 l4))) - 1))) ((dc_w (148 + l3))) m v_283 m_288 ∧ ((0 ≤ (l4 : Int) ∧ (l4 : Int) < 6) ∧ (∃ v_335 m_340, D_257 ((dc_w ((dc_w (20 + (m_288 154 l4))) - 1))) ((dc_w (152 + l3))) m_288 v_335 m_340 ∧ (∃ v_369 m_374, D_257 ((dc_w (61 + l3))) ((dc_w (156 + l4))) m_340 v_369 m_374 ∧ (LM_259 x0 c 79 l2 (dc_w (l3 + 1)) (dc_w (l4 + 1)) 0 0 0 m_374 v m'))))))) ∨ (¬ (((m 154 l4) : Int) ≠ 0) ∧ (LM_259 x0 c 79 l2 l3 (dc_w (l4 + 1)) 0 0 0 m v m')))))))
    | 168 => (0 ≤ (0 : Int) ∧ (0 : Int) < 2) ∧ ((((l5 : Int) ≥ (m 155 0) ∧ (LM_259 x0 c 217 l2 l3 0 0 0 0 m v m')) ∨ (¬ ((l5 : Int) ≥ (m 155 0)) ∧ (((((sv_g (sv_u (sv_g (ae_shr (sv_u x0) (sv_u l5))) &&& sv_u 1)) : Int) ≠ 0 ∧ (∃ v_514 m_519, D_260 l5 l4 m v_514 m_519 ∧ (LM_259 x0 c 168 l2 l3 (dc_w (l4 + 1)) (dc_w (l5 + 1)) 0 0 m_519 v m'))) ∨ (¬ (((sv_g (sv_u (sv_g (ae_shr (sv_u x0) (sv_u l5))) &&& sv_u 1)) : Int) ≠ 0) ∧ (LM_259 x0 c 168 l2 l3 l4 (dc_w (l5 + 1)) 0 0 m v m')))))))
    | 217 => (0 ≤ (0 : Int) ∧ (0 : Int) < 2) ∧ ((((l6 : Int) ≥ (m 155 0) ∧ (((((m 114 81) : Int) ≠ 0 ∧ (v = 0 ∧ m' = m)) ∨ (¬ (((m 114 81) : Int) ≠ 0) ∧ (((((m 114 79) : Int) > 60 ∧ (v = 0 ∧ m' = m)) ∨ (¬ (((m 114 79) : Int) > 60) ∧ (v = 1 ∧ m' = m)))))))) ∨ (¬ ((l6 : Int) ≥ (m 155 0)) ∧ (((((sv_g (sv_u (sv_g (ae_shr (sv_u x0) (sv_u l6))) &&& sv_u 1)) : Int) ≠ 0 ∧ ((0 ≤ (l6 : Int) ∧ (l6 : Int) < 16) ∧ (LM_259 x0 c 251 l2 l3 l4 l5 l6 (dc_w ((m 157 l6) - 1)) m v m'))) ∨ (¬ (((sv_g (sv_u (sv_g (ae_shr (sv_u x0) (sv_u l6))) &&& sv_u 1)) : Int) ≠ 0) ∧ (LM_259 x0 c 217 l2 l3 l4 l5 (dc_w (l6 + 1)) 0 m v m')))))))
    | _ => (((l7 : Int) < 0 ∧ ((0 ≤ (l6 : Int) ∧ (l6 : Int) < 16) ∧ (∃ v_748 m_753, D_257 ((dc_w ((dc_w (65 + (m 158 l6))) - 1))) ((dc_w (128 + l4))) m v_748 m_753 ∧ (LM_259 x0 c 217 l2 l3 (dc_w (l4 + 1)) l5 (dc_w (l6 + 1)) 0 m_753 v m')))) ∨ (¬ ((l7 : Int) < 0) ∧ ((0 ≤ (l6 : Int) ∧ (l6 : Int) < 16) ∧ (∃ v_814 m_819, D_258 ((dc_w (20 + (m 158 l6)))) m v_814 m_819 ∧ (∃ v_874 m_879, D_257 ((dc_w ((dc_w (68 + (dc_w (6 * l4)))) + l7))) ((dc_w (181 + v_814))) m_819 v_874 m_879 ∧ (∃ v_908 m_913, D_257 ((dc_w (205 + v_814))) ((dc_w (132 + l5))) m_879 v_908 m_913 ∧ (LM_259 x0 c 251 l2 l3 l4 (dc_w (l5 + 1)) l6 (dc_w (l7 + (-1))) m_913 v m')))))))
theorem lm_259_19 {x0 : Int} {c : Nat} {l2 : Int} {l3 : Int} {l4 : Int} {l5 : Int} {l6 : Int} {l7 : Int} {m : dc_M} {v : Int} {m' : dc_M} : LM_259 x0 (c + 1) 19 l2 l3 l4 l5 l6 l7 m v m' ↔ (0 ≤ (0 : Int) ∧ (0 : Int) < 2) ∧ ((((l3 : Int) ≥ (m 155 0) ∧ (∃ v_31 m_36, D_232 ((ae_i2l (sv_u x0))) m v_31 m_36 ∧ ((((v_31 : Int) > 4 ∧ (v = 0 ∧ m' = m_36)) ∨ (¬ ((v_31 : Int) > 4) ∧ ((((l2 : Int) ≤ 12 ∧ (LM_259 x0 c 79 l2 0 0 0 0 0 m_36 v m')) ∨ (¬ ((l2 : Int) ≤ 12) ∧ (v = 0 ∧ m' = m_36))))))))) ∨ (¬ ((l3 : Int) ≥ (m 155 0)) ∧ (((((sv_g (sv_u (sv_g (ae_shr (sv_u x0) (sv_u l3))) &&& sv_u 1)) : Int) ≠ 1 ∧ (LM_259 x0 c 19 (dc_w (l2 + 0)) (dc_w (l3 + 1)) 0 0 0 0 m v m')) ∨ (¬ (((sv_g (sv_u (sv_g (ae_shr (sv_u x0) (sv_u l3))) &&& sv_u 1)) : Int) ≠ 1) ∧ ((0 ≤ (l3 : Int) ∧ (l3 : Int) < 16) ∧ (LM_259 x0 c 19 (dc_w (l2 + (m 157 l3))) (dc_w (l3 + 1)) 0 0 0 0 m v m')))))))) := Iff.rfl
theorem lm_259_79 {x0 : Int} {c : Nat} {l2 : Int} {l3 : Int} {l4 : Int} {l5 : Int} {l6 : Int} {l7 : Int} {m : dc_M} {v : Int} {m' : dc_M} : LM_259 x0 (c + 1) 79 l2 l3 l4 l5 l6 l7 m v m' ↔ (((l4 : Int) ≥ 3 ∧ (LM_259 x0 c 168 l2 l3 0 0 0 0 m v m')) ∨ (¬ ((l4 : Int) ≥ 3) ∧ ((0 ≤ (l4 : Int) ∧ (l4 : Int) < 6) ∧ (((((m 154 l4) : Int) ≠ 0 ∧ ((0 ≤ (l4 : Int) ∧ (l4 : Int) < 6) ∧ (∃ v_283 m_288, D_257 ((dc_w ((dc_w (0 + (m 154 l4))) - 1))) ((dc_w (148 + l3))) m v_283 m_288 ∧ ((0 ≤ (l4 : Int) ∧ (l4 : Int) < 6) ∧ (∃ v_335 m_340, D_257 ((dc_w ((dc_w (20 + (m_288 154 l4))) - 1))) ((dc_w (152 + l3))) m_288 v_335 m_340 ∧ (∃ v_369 m_374, D_257 ((dc_w (61 + l3))) ((dc_w (156 + l4))) m_340 v_369 m_374 ∧ (LM_259 x0 c 79 l2 (dc_w (l3 + 1)) (dc_w (l4 + 1)) 0 0 0 m_374 v m'))))))) ∨ (¬ (((m 154 l4) : Int) ≠ 0) ∧ (LM_259 x0 c 79 l2 l3 (dc_w (l4 + 1)) 0 0 0 m v m'))))))) := Iff.rfl
theorem lm_259_168 {x0 : Int} {c : Nat} {l2 : Int} {l3 : Int} {l4 : Int} {l5 : Int} {l6 : Int} {l7 : Int} {m : dc_M} {v : Int} {m' : dc_M} : LM_259 x0 (c + 1) 168 l2 l3 l4 l5 l6 l7 m v m' ↔ (0 ≤ (0 : Int) ∧ (0 : Int) < 2) ∧ ((((l5 : Int) ≥ (m 155 0) ∧ (LM_259 x0 c 217 l2 l3 0 0 0 0 m v m')) ∨ (¬ ((l5 : Int) ≥ (m 155 0)) ∧ (((((sv_g (sv_u (sv_g (ae_shr (sv_u x0) (sv_u l5))) &&& sv_u 1)) : Int) ≠ 0 ∧ (∃ v_514 m_519, D_260 l5 l4 m v_514 m_519 ∧ (LM_259 x0 c 168 l2 l3 (dc_w (l4 + 1)) (dc_w (l5 + 1)) 0 0 m_519 v m'))) ∨ (¬ (((sv_g (sv_u (sv_g (ae_shr (sv_u x0) (sv_u l5))) &&& sv_u 1)) : Int) ≠ 0) ∧ (LM_259 x0 c 168 l2 l3 l4 (dc_w (l5 + 1)) 0 0 m v m'))))))) := Iff.rfl
theorem lm_259_217 {x0 : Int} {c : Nat} {l2 : Int} {l3 : Int} {l4 : Int} {l5 : Int} {l6 : Int} {l7 : Int} {m : dc_M} {v : Int} {m' : dc_M} : LM_259 x0 (c + 1) 217 l2 l3 l4 l5 l6 l7 m v m' ↔ (0 ≤ (0 : Int) ∧ (0 : Int) < 2) ∧ ((((l6 : Int) ≥ (m 155 0) ∧ (((((m 114 81) : Int) ≠ 0 ∧ (v = 0 ∧ m' = m)) ∨ (¬ (((m 114 81) : Int) ≠ 0) ∧ (((((m 114 79) : Int) > 60 ∧ (v = 0 ∧ m' = m)) ∨ (¬ (((m 114 79) : Int) > 60) ∧ (v = 1 ∧ m' = m)))))))) ∨ (¬ ((l6 : Int) ≥ (m 155 0)) ∧ (((((sv_g (sv_u (sv_g (ae_shr (sv_u x0) (sv_u l6))) &&& sv_u 1)) : Int) ≠ 0 ∧ ((0 ≤ (l6 : Int) ∧ (l6 : Int) < 16) ∧ (LM_259 x0 c 251 l2 l3 l4 l5 l6 (dc_w ((m 157 l6) - 1)) m v m'))) ∨ (¬ (((sv_g (sv_u (sv_g (ae_shr (sv_u x0) (sv_u l6))) &&& sv_u 1)) : Int) ≠ 0) ∧ (LM_259 x0 c 217 l2 l3 l4 l5 (dc_w (l6 + 1)) 0 m v m'))))))) := Iff.rfl
theorem lm_259_251 {x0 : Int} {c : Nat} {l2 : Int} {l3 : Int} {l4 : Int} {l5 : Int} {l6 : Int} {l7 : Int} {m : dc_M} {v : Int} {m' : dc_M} : LM_259 x0 (c + 1) 251 l2 l3 l4 l5 l6 l7 m v m' ↔ (((l7 : Int) < 0 ∧ ((0 ≤ (l6 : Int) ∧ (l6 : Int) < 16) ∧ (∃ v_748 m_753, D_257 ((dc_w ((dc_w (65 + (m 158 l6))) - 1))) ((dc_w (128 + l4))) m v_748 m_753 ∧ (LM_259 x0 c 217 l2 l3 (dc_w (l4 + 1)) l5 (dc_w (l6 + 1)) 0 m_753 v m')))) ∨ (¬ ((l7 : Int) < 0) ∧ ((0 ≤ (l6 : Int) ∧ (l6 : Int) < 16) ∧ (∃ v_814 m_819, D_258 ((dc_w (20 + (m 158 l6)))) m v_814 m_819 ∧ (∃ v_874 m_879, D_257 ((dc_w ((dc_w (68 + (dc_w (6 * l4)))) + l7))) ((dc_w (181 + v_814))) m_819 v_874 m_879 ∧ (∃ v_908 m_913, D_257 ((dc_w (205 + v_814))) ((dc_w (132 + l5))) m_879 v_908 m_913 ∧ (LM_259 x0 c 251 l2 l3 l4 (dc_w (l5 + 1)) l6 (dc_w (l7 + (-1))) m_913 v m'))))))) := Iff.rfl
theorem dl_259 {x0 : Int} (ix0 : sv_I x0) : ∀ N : Nat, (∀ (n : Nat) (lv : ae_L) (h : ae_H) (r : ae_R) (l2 : Int) (l3 : Int), n ≤ N → dc_ok h → sv_I l2 → sv_I l3 → ae_lk lv 0 = some (wk_r 114) → ae_lk lv 1 = some (wk_i x0) → ae_lk lv 2 = some (wk_i l2) → ae_lk lv 3 = some (wk_i l3) → ae_exe n 259 19 0 0 lv [] h = some r → ∃ v, (∃ c, LM_259 x0 c 19 l2 l3 0 0 0 0 (dc_m h) v (dc_m r.2)) ∧ r.1 = some (wk_i v) ∧ sv_I v ∧ dc_ok r.2) ∧ (∀ (n : Nat) (lv : ae_L) (h : ae_H) (r : ae_R) (l2 : Int) (l3 : Int) (l4 : Int), n ≤ N → dc_ok h → sv_I l2 → sv_I l3 → sv_I l4 → ae_lk lv 0 = some (wk_r 114) → ae_lk lv 1 = some (wk_i x0) → ae_lk lv 2 = some (wk_i l2) → ae_lk lv 3 = some (wk_i l3) → ae_lk lv 4 = some (wk_i l4) → ae_exe n 259 79 0 0 lv [] h = some r → ∃ v, (∃ c, LM_259 x0 c 79 l2 l3 l4 0 0 0 (dc_m h) v (dc_m r.2)) ∧ r.1 = some (wk_i v) ∧ sv_I v ∧ dc_ok r.2) ∧ (∀ (n : Nat) (lv : ae_L) (h : ae_H) (r : ae_R) (l2 : Int) (l3 : Int) (l4 : Int) (l5 : Int), n ≤ N → dc_ok h → sv_I l2 → sv_I l3 → sv_I l4 → sv_I l5 → ae_lk lv 0 = some (wk_r 114) → ae_lk lv 1 = some (wk_i x0) → ae_lk lv 2 = some (wk_i l2) → ae_lk lv 3 = some (wk_i l3) → ae_lk lv 4 = some (wk_i l4) → ae_lk lv 5 = some (wk_i l5) → ae_exe n 259 168 0 0 lv [] h = some r → ∃ v, (∃ c, LM_259 x0 c 168 l2 l3 l4 l5 0 0 (dc_m h) v (dc_m r.2)) ∧ r.1 = some (wk_i v) ∧ sv_I v ∧ dc_ok r.2) ∧ (∀ (n : Nat) (lv : ae_L) (h : ae_H) (r : ae_R) (l2 : Int) (l3 : Int) (l4 : Int) (l5 : Int) (l6 : Int), n ≤ N → dc_ok h → sv_I l2 → sv_I l3 → sv_I l4 → sv_I l5 → sv_I l6 → ae_lk lv 0 = some (wk_r 114) → ae_lk lv 1 = some (wk_i x0) → ae_lk lv 2 = some (wk_i l2) → ae_lk lv 3 = some (wk_i l3) → ae_lk lv 4 = some (wk_i l4) → ae_lk lv 5 = some (wk_i l5) → ae_lk lv 6 = some (wk_i l6) → ae_exe n 259 217 0 0 lv [] h = some r → ∃ v, (∃ c, LM_259 x0 c 217 l2 l3 l4 l5 l6 0 (dc_m h) v (dc_m r.2)) ∧ r.1 = some (wk_i v) ∧ sv_I v ∧ dc_ok r.2) ∧ (∀ (n : Nat) (lv : ae_L) (h : ae_H) (r : ae_R) (l2 : Int) (l3 : Int) (l4 : Int) (l5 : Int) (l6 : Int) (l7 : Int), n ≤ N → dc_ok h → sv_I l2 → sv_I l3 → sv_I l4 → sv_I l5 → sv_I l6 → sv_I l7 → ae_lk lv 0 = some (wk_r 114) → ae_lk lv 1 = some (wk_i x0) → ae_lk lv 2 = some (wk_i l2) → ae_lk lv 3 = some (wk_i l3) → ae_lk lv 4 = some (wk_i l4) → ae_lk lv 5 = some (wk_i l5) → ae_lk lv 6 = some (wk_i l6) → ae_lk lv 7 = some (wk_i l7) → ae_exe n 259 251 0 0 lv [] h = some r → ∃ v, (∃ c, LM_259 x0 c 251 l2 l3 l4 l5 l6 l7 (dc_m h) v (dc_m r.2)) ∧ r.1 = some (wk_i v) ∧ sv_I v ∧ dc_ok r.2) := by
  intro N
  induction N with
  | zero =>
    refine ⟨?_, ?_, ?_, ?_, ?_⟩
    · intro n lv h r l2 l3 hn ok il2 il3 q0 q1 q2 q3 hr
      have e : n = 0 := by omega
      subst e
      cases hr
    · intro n lv h r l2 l3 l4 hn ok il2 il3 il4 q0 q1 q2 q3 q4 hr
      have e : n = 0 := by omega
      subst e
      cases hr
    · intro n lv h r l2 l3 l4 l5 hn ok il2 il3 il4 il5 q0 q1 q2 q3 q4 q5 hr
      have e : n = 0 := by omega
      subst e
      cases hr
    · intro n lv h r l2 l3 l4 l5 l6 hn ok il2 il3 il4 il5 il6 q0 q1 q2 q3 q4 q5 q6 hr
      have e : n = 0 := by omega
      subst e
      cases hr
    · intro n lv h r l2 l3 l4 l5 l6 l7 hn ok il2 il3 il4 il5 il6 il7 q0 q1 q2 q3 q4 q5 q6 q7 hr
      have e : n = 0 := by omega
      subst e
      cases hr
  | succ N ih =>
    obtain ⟨ih0, ih1, ih2, ih3, ih4⟩ := ih
    refine ⟨?_, ?_, ?_, ?_, ?_⟩
    · intro n lv h r l2 l3 hn ok il2 il3 q0 q1 q2 q3 hr
      obtain ⟨n_1, e_2, hr_3⟩ := iv_iload_n xm_259 xd_259_19 q3 hr
      obtain ⟨n_4, e_5, hr_6⟩ := iv_aload_n xm_259 xd_259_20 q0 hr_3
      have f_7 := dc_fr (j := 66) ok (rfl : sv_ty 114 = some 12) dt_12 rfl
      obtain ⟨n_8, e_9, hr_10⟩ := iv_getf (j := 66) xm_259 xd_259_21 (by decide +kernel) ok (rfl : sv_ty 114 = some 12) dt_12 f_7 hr_6
      obtain ⟨n_11, e_12, hr_13⟩ := iv_iconst xm_259 xd_259_24 (by decide) hr_10
      obtain ⟨q_14, qi_15, n_16, e_17, hr_18⟩ := iv_iald xm_259 xd_259_25 ok (rfl : sv_ty 155 = some 92) dt_92 (by decide) (by unfold sv_I; omega) hr_13
      rcases iv_icmp 57 xm_259 xd_259_26 (by decide) il3 qi_15 hr_18 with ⟨c_19, n_20, e_21, hr_22⟩ | ⟨c_19, n_20, e_21, hr_22⟩
      · obtain ⟨n_23, e_24, hr_25⟩ := iv_iload_n xm_259 xd_259_57 q1 hr_22
        obtain ⟨n_26, e_27, hr_28⟩ := iv_i2l xm_259 xd_259_58 hr_25
        obtain ⟨n_38, r_29, e_39, hc_30, hr_40⟩ := iv_call (Or.inl ⟨rfl, rfl⟩) xm_259 xd_259_59 (by decide +kernel) xm_232 rfl (by decide +kernel) hr_28
        obtain ⟨v_31, d_32, er_33, iv_34, ok_35⟩ := ds_232 _ _ ok (ae_i2l_lt (sv_u_lt _)) hc_30
        obtain ⟨_, h_37⟩ := r_29
        have er_33 : _ = some (wk_i v_31) := er_33
        subst er_33
        have hr_41 : ae_exe n_38 259 (59 + 3) 0 0 lv _ h_37 = some r := hr_40
        obtain ⟨n_42, e_43, hr_44⟩ := iv_iconst xm_259 xd_259_62 (by decide) hr_41
        rcases iv_icmp 72 xm_259 xd_259_63 (by decide) iv_34 (by unfold sv_I; omega) hr_44 with ⟨c_45, n_46, e_47, hr_48⟩ | ⟨c_45, n_46, e_47, hr_48⟩
        · obtain ⟨n_49, e_50, hr_51⟩ := iv_iconst xm_259 xd_259_72 (by decide) hr_48
          have rr_52 := iv_ireturn xm_259 xd_259_73 hr_51
          subst rr_52
          exact ⟨_, ⟨0 + 1, lm_259_19.mpr (⟨q_14, Or.inl ⟨c_19, ⟨_, _, d_32, Or.inl ⟨c_45, ⟨rfl, rfl⟩⟩⟩⟩⟩)⟩, rfl, (by unfold sv_I; omega), ok_35⟩
        · obtain ⟨n_53, e_54, hr_55⟩ := iv_iload_n xm_259 xd_259_66 q2 hr_48
          obtain ⟨n_56, e_57, hr_58⟩ := iv_bipush xm_259 xd_259_67 (by decide) hr_55
          rcases iv_icmp 74 xm_259 xd_259_69 (by decide) il2 (by unfold sv_I; omega) hr_58 with ⟨c_59, n_60, e_61, hr_62⟩ | ⟨c_59, n_60, e_61, hr_62⟩
          · obtain ⟨n_63, e_64, hr_65⟩ := iv_iconst xm_259 xd_259_74 (by decide) hr_62
            obtain ⟨lv_67, sl_66, n_68, e_69, hr_70⟩ := iv_istore_n xm_259 xd_259_75 (by decide +kernel) hr_65
            have l_71 := sl_66.2 0 _ q0 (by decide) (Or.inl rfl)
            have l_72 := sl_66.2 1 _ q1 (by decide) (Or.inl rfl)
            have l_73 := sl_66.2 2 _ q2 (by decide) (Or.inl rfl)
            have l_74 := sl_66.1
            obtain ⟨n_75, e_76, hr_77⟩ := iv_iconst xm_259 xd_259_76 (by decide) hr_70
            obtain ⟨lv_79, sl_78, n_80, e_81, hr_82⟩ := iv_istore xm_259 xd_259_77 (by decide +kernel) hr_77
            have l_83 := sl_78.2 0 _ l_71 (by decide) (Or.inl rfl)
            have l_84 := sl_78.2 1 _ l_72 (by decide) (Or.inl rfl)
            have l_85 := sl_78.2 2 _ l_73 (by decide) (Or.inl rfl)
            have l_86 := sl_78.2 3 _ l_74 (by decide) (Or.inl rfl)
            have l_87 := sl_78.1
            obtain ⟨v, ⟨c, hL⟩, e1, e2, e3⟩ := ih1 _ lv_79 h_37 _ _ _ _ (by omega) ok_35 il2 (by unfold sv_I; omega) (by unfold sv_I; omega) l_83 l_84 l_85 l_86 l_87 hr_82
            exact ⟨v, ⟨c + 1, lm_259_19.mpr (⟨q_14, Or.inl ⟨c_19, ⟨_, _, d_32, Or.inr ⟨c_45, Or.inl ⟨c_59, hL⟩⟩⟩⟩⟩)⟩, e1, e2, e3⟩
          · obtain ⟨n_88, e_89, hr_90⟩ := iv_iconst xm_259 xd_259_72 (by decide) hr_62
            have rr_91 := iv_ireturn xm_259 xd_259_73 hr_90
            subst rr_91
            exact ⟨_, ⟨0 + 1, lm_259_19.mpr (⟨q_14, Or.inl ⟨c_19, ⟨_, _, d_32, Or.inr ⟨c_45, Or.inr ⟨c_59, ⟨rfl, rfl⟩⟩⟩⟩⟩⟩)⟩, rfl, (by unfold sv_I; omega), ok_35⟩
      · obtain ⟨n_92, e_93, hr_94⟩ := iv_iload_n xm_259 xd_259_29 q2 hr_22
        obtain ⟨n_95, e_96, hr_97⟩ := iv_iload_n xm_259 xd_259_30 q1 hr_94
        obtain ⟨n_98, e_99, hr_100⟩ := iv_iload_n xm_259 xd_259_31 q3 hr_97
        obtain ⟨n_101, e_102, hr_103⟩ := iv_ibin (f := ae_shr) (Or.inl ⟨rfl, rfl⟩) (ae_shr_lt (sv_u_lt _)) xm_259 xd_259_32 hr_100
        obtain ⟨n_104, e_105, hr_106⟩ := iv_iconst xm_259 xd_259_33 (by decide) hr_103
        obtain ⟨n_107, e_108, hr_109⟩ := iv_iand xm_259 xd_259_34 hr_106
        obtain ⟨n_110, e_111, hr_112⟩ := iv_iconst xm_259 xd_259_35 (by decide) hr_109
        rcases iv_icmp 48 xm_259 xd_259_36 (by decide) (sv_g_I (Nat.lt_of_le_of_lt Nat.and_le_right (sv_u_lt _))) (by unfold sv_I; omega) hr_112 with ⟨c_113, n_114, e_115, hr_116⟩ | ⟨c_113, n_114, e_115, hr_116⟩
        · obtain ⟨n_117, e_118, hr_119⟩ := iv_iconst xm_259 xd_259_48 (by decide) hr_116
          obtain ⟨n_120, e_121, hr_122⟩ := iw_iadd xm_259 xd_259_49 hr_119
          obtain ⟨lv_124, sl_123, n_125, e_126, hr_127⟩ := iv_istore_n xm_259 xd_259_50 (by decide +kernel) hr_122
          have l_128 := sl_123.2 0 _ q0 (by decide) (Or.inl rfl)
          have l_129 := sl_123.2 1 _ q1 (by decide) (Or.inl rfl)
          have l_130 := sl_123.2 3 _ q3 (by decide) (Or.inl rfl)
          have l_131 := sl_123.1
          obtain ⟨lv_133, sl_132, n_134, e_135, hr_136⟩ := iw_iinc xm_259 xd_259_51 (by decide +kernel) (by decide) l_130 hr_127
          have l_137 := sl_132.2 0 _ l_128 (by decide) (Or.inl rfl)
          have l_138 := sl_132.2 1 _ l_129 (by decide) (Or.inl rfl)
          have l_139 := sl_132.2 2 _ l_131 (by decide) (Or.inl rfl)
          have l_140 := sl_132.1
          obtain ⟨n_141, e_142, hr_143⟩ := iv_goto 19 xm_259 xd_259_54 (by decide) hr_136
          obtain ⟨v, ⟨c, hL⟩, e1, e2, e3⟩ := ih0 _ lv_133 h _ _ _ (by omega) ok (dc_w_I _) (dc_w_I _) l_137 l_138 l_139 l_140 hr_143
          exact ⟨v, ⟨c + 1, lm_259_19.mpr (⟨q_14, Or.inr ⟨c_19, Or.inl ⟨c_113, hL⟩⟩⟩)⟩, e1, e2, e3⟩
        · obtain ⟨n_144, e_145, hr_146⟩ := iv_aload_n xm_259 xd_259_39 q0 hr_116
          have f_147 := dc_fr (j := 68) ok (rfl : sv_ty 114 = some 12) dt_12 rfl
          obtain ⟨n_148, e_149, hr_150⟩ := iv_getf (j := 68) xm_259 xd_259_40 (by decide +kernel) ok (rfl : sv_ty 114 = some 12) dt_12 f_147 hr_146
          obtain ⟨n_151, e_152, hr_153⟩ := iv_iload_n xm_259 xd_259_43 q3 hr_150
          obtain ⟨q_154, qi_155, n_156, e_157, hr_158⟩ := iv_iald xm_259 xd_259_44 ok (rfl : sv_ty 157 = some 94) dt_94 (by decide) il3 hr_153
          obtain ⟨n_159, e_160, hr_161⟩ := iv_goto 49 xm_259 xd_259_45 (by decide) hr_158
          obtain ⟨n_162, e_163, hr_164⟩ := iw_iadd xm_259 xd_259_49 hr_161
          obtain ⟨lv_166, sl_165, n_167, e_168, hr_169⟩ := iv_istore_n xm_259 xd_259_50 (by decide +kernel) hr_164
          have l_170 := sl_165.2 0 _ q0 (by decide) (Or.inl rfl)
          have l_171 := sl_165.2 1 _ q1 (by decide) (Or.inl rfl)
          have l_172 := sl_165.2 3 _ q3 (by decide) (Or.inl rfl)
          have l_173 := sl_165.1
          obtain ⟨lv_175, sl_174, n_176, e_177, hr_178⟩ := iw_iinc xm_259 xd_259_51 (by decide +kernel) (by decide) l_172 hr_169
          have l_179 := sl_174.2 0 _ l_170 (by decide) (Or.inl rfl)
          have l_180 := sl_174.2 1 _ l_171 (by decide) (Or.inl rfl)
          have l_181 := sl_174.2 2 _ l_173 (by decide) (Or.inl rfl)
          have l_182 := sl_174.1
          obtain ⟨n_183, e_184, hr_185⟩ := iv_goto 19 xm_259 xd_259_54 (by decide) hr_178
          obtain ⟨v, ⟨c, hL⟩, e1, e2, e3⟩ := ih0 _ lv_175 h _ _ _ (by omega) ok (dc_w_I _) (dc_w_I _) l_179 l_180 l_181 l_182 hr_185
          exact ⟨v, ⟨c + 1, lm_259_19.mpr (⟨q_14, Or.inr ⟨c_19, Or.inr ⟨c_113, ⟨q_154, hL⟩⟩⟩⟩)⟩, e1, e2, e3⟩
    · intro n lv h r l2 l3 l4 hn ok il2 il3 il4 q0 q1 q2 q3 q4 hr
      obtain ⟨n_186, e_187, hr_188⟩ := iv_iload xm_259 xd_259_79 q4 hr
      obtain ⟨n_189, e_190, hr_191⟩ := iv_iconst xm_259 xd_259_81 (by decide) hr_188
      rcases iv_icmp 162 xm_259 xd_259_82 (by decide) il4 (by unfold sv_I; omega) hr_191 with ⟨c_192, n_193, e_194, hr_195⟩ | ⟨c_192, n_193, e_194, hr_195⟩
      · obtain ⟨n_196, e_197, hr_198⟩ := iv_iconst xm_259 xd_259_162 (by decide) hr_195
        obtain ⟨lv_200, sl_199, n_201, e_202, hr_203⟩ := iv_istore xm_259 xd_259_163 (by decide +kernel) hr_198
        have l_204 := sl_199.2 0 _ q0 (by decide) (Or.inl rfl)
        have l_205 := sl_199.2 1 _ q1 (by decide) (Or.inl rfl)
        have l_206 := sl_199.2 2 _ q2 (by decide) (Or.inl rfl)
        have l_207 := sl_199.2 3 _ q3 (by decide) (Or.inl rfl)
        have l_208 := sl_199.1
        obtain ⟨n_209, e_210, hr_211⟩ := iv_iconst xm_259 xd_259_165 (by decide) hr_203
        obtain ⟨lv_213, sl_212, n_214, e_215, hr_216⟩ := iv_istore xm_259 xd_259_166 (by decide +kernel) hr_211
        have l_217 := sl_212.2 0 _ l_204 (by decide) (Or.inl rfl)
        have l_218 := sl_212.2 1 _ l_205 (by decide) (Or.inl rfl)
        have l_219 := sl_212.2 2 _ l_206 (by decide) (Or.inl rfl)
        have l_220 := sl_212.2 3 _ l_207 (by decide) (Or.inl rfl)
        have l_221 := sl_212.2 4 _ l_208 (by decide) (Or.inl rfl)
        have l_222 := sl_212.1
        obtain ⟨v, ⟨c, hL⟩, e1, e2, e3⟩ := ih2 _ lv_213 h _ _ _ _ _ (by omega) ok il2 il3 (by unfold sv_I; omega) (by unfold sv_I; omega) l_217 l_218 l_219 l_220 l_221 l_222 hr_216
        exact ⟨v, ⟨c + 1, lm_259_79.mpr (Or.inl ⟨c_192, hL⟩)⟩, e1, e2, e3⟩
      · obtain ⟨n_223, e_224, hr_225⟩ := iv_aload_n xm_259 xd_259_85 q0 hr_195
        have f_226 := dc_fr (j := 65) ok (rfl : sv_ty 114 = some 12) dt_12 rfl
        obtain ⟨n_227, e_228, hr_229⟩ := iv_getf (j := 65) xm_259 xd_259_86 (by decide +kernel) ok (rfl : sv_ty 114 = some 12) dt_12 f_226 hr_225
        obtain ⟨n_230, e_231, hr_232⟩ := iv_iload xm_259 xd_259_89 q4 hr_229
        obtain ⟨q_233, qi_234, n_235, e_236, hr_237⟩ := iv_iald xm_259 xd_259_91 ok (rfl : sv_ty 154 = some 91) dt_91 (by decide) il4 hr_232
        rcases iv_if 98 xm_259 xd_259_92 (by decide) qi_234 hr_237 with ⟨c_238, n_239, e_240, hr_241⟩ | ⟨c_238, n_239, e_240, hr_241⟩
        · obtain ⟨n_242, e_243, hr_244⟩ := iv_aload_n xm_259 xd_259_98 q0 hr_241
          obtain ⟨n_245, e_246, hr_247⟩ := iv_iconst xm_259 xd_259_99 (by decide) hr_244
          obtain ⟨n_248, e_249, hr_250⟩ := iv_aload_n xm_259 xd_259_100 q0 hr_247
          have f_251 := dc_fr (j := 65) ok (rfl : sv_ty 114 = some 12) dt_12 rfl
          obtain ⟨n_252, e_253, hr_254⟩ := iv_getf (j := 65) xm_259 xd_259_101 (by decide +kernel) ok (rfl : sv_ty 114 = some 12) dt_12 f_251 hr_250
          obtain ⟨n_255, e_256, hr_257⟩ := iv_iload xm_259 xd_259_104 q4 hr_254
          obtain ⟨q_258, qi_259, n_260, e_261, hr_262⟩ := iv_iald xm_259 xd_259_106 ok (rfl : sv_ty 154 = some 91) dt_91 (by decide) il4 hr_257
          obtain ⟨n_263, e_264, hr_265⟩ := iw_iadd xm_259 xd_259_107 hr_262
          obtain ⟨n_266, e_267, hr_268⟩ := iv_iconst xm_259 xd_259_108 (by decide) hr_265
          obtain ⟨n_269, e_270, hr_271⟩ := iw_isub xm_259 xd_259_109 hr_268
          obtain ⟨n_272, e_273, hr_274⟩ := iv_sipush xm_259 xd_259_110 (by decide) hr_271
          obtain ⟨n_275, e_276, hr_277⟩ := iv_iload_n xm_259 xd_259_113 q3 hr_274
          obtain ⟨n_278, e_279, hr_280⟩ := iw_iadd xm_259 xd_259_114 hr_277
          obtain ⟨n_290, r_281, e_291, hc_282, hr_292⟩ := iv_call (Or.inr ⟨rfl, rfl⟩) xm_259 xd_259_115 (by decide +kernel) xm_257 rfl (by decide +kernel) hr_280
          obtain ⟨v_283, d_284, er_285, iv_286, ok_287⟩ := ds_257 _ _ _ ok (dc_w_I _) (dc_w_I _) hc_282
          obtain ⟨_, h_289⟩ := r_281
          have er_285 : _ = none := er_285
          subst er_285
          have hr_293 : ae_exe n_290 259 (115 + 3) 0 0 lv _ h_289 = some r := hr_292
          obtain ⟨n_294, e_295, hr_296⟩ := iv_aload_n xm_259 xd_259_118 q0 hr_293
          obtain ⟨n_297, e_298, hr_299⟩ := iv_bipush xm_259 xd_259_119 (by decide) hr_296
          obtain ⟨n_300, e_301, hr_302⟩ := iv_aload_n xm_259 xd_259_121 q0 hr_299
          have f_303 := dc_fr (j := 65) ok_287 (rfl : sv_ty 114 = some 12) dt_12 rfl
          obtain ⟨n_304, e_305, hr_306⟩ := iv_getf (j := 65) xm_259 xd_259_122 (by decide +kernel) ok_287 (rfl : sv_ty 114 = some 12) dt_12 f_303 hr_302
          obtain ⟨n_307, e_308, hr_309⟩ := iv_iload xm_259 xd_259_125 q4 hr_306
          obtain ⟨q_310, qi_311, n_312, e_313, hr_314⟩ := iv_iald xm_259 xd_259_127 ok_287 (rfl : sv_ty 154 = some 91) dt_91 (by decide) il4 hr_309
          obtain ⟨n_315, e_316, hr_317⟩ := iw_iadd xm_259 xd_259_128 hr_314
          obtain ⟨n_318, e_319, hr_320⟩ := iv_iconst xm_259 xd_259_129 (by decide) hr_317
          obtain ⟨n_321, e_322, hr_323⟩ := iw_isub xm_259 xd_259_130 hr_320
          obtain ⟨n_324, e_325, hr_326⟩ := iv_sipush xm_259 xd_259_131 (by decide) hr_323
          obtain ⟨n_327, e_328, hr_329⟩ := iv_iload_n xm_259 xd_259_134 q3 hr_326
          obtain ⟨n_330, e_331, hr_332⟩ := iw_iadd xm_259 xd_259_135 hr_329
          obtain ⟨n_342, r_333, e_343, hc_334, hr_344⟩ := iv_call (Or.inr ⟨rfl, rfl⟩) xm_259 xd_259_136 (by decide +kernel) xm_257 rfl (by decide +kernel) hr_332
          obtain ⟨v_335, d_336, er_337, iv_338, ok_339⟩ := ds_257 _ _ _ ok_287 (dc_w_I _) (dc_w_I _) hc_334
          obtain ⟨_, h_341⟩ := r_333
          have er_337 : _ = none := er_337
          subst er_337
          have hr_345 : ae_exe n_342 259 (136 + 3) 0 0 lv _ h_341 = some r := hr_344
          obtain ⟨n_346, e_347, hr_348⟩ := iv_aload_n xm_259 xd_259_139 q0 hr_345
          obtain ⟨n_349, e_350, hr_351⟩ := iv_bipush xm_259 xd_259_140 (by decide) hr_348
          obtain ⟨n_352, e_353, hr_354⟩ := iv_iload_n xm_259 xd_259_142 q3 hr_351
          obtain ⟨n_355, e_356, hr_357⟩ := iw_iadd xm_259 xd_259_143 hr_354
          obtain ⟨n_358, e_359, hr_360⟩ := iv_sipush xm_259 xd_259_144 (by decide) hr_357
          obtain ⟨n_361, e_362, hr_363⟩ := iv_iload xm_259 xd_259_147 q4 hr_360
          obtain ⟨n_364, e_365, hr_366⟩ := iw_iadd xm_259 xd_259_149 hr_363
          obtain ⟨n_376, r_367, e_377, hc_368, hr_378⟩ := iv_call (Or.inr ⟨rfl, rfl⟩) xm_259 xd_259_150 (by decide +kernel) xm_257 rfl (by decide +kernel) hr_366
          obtain ⟨v_369, d_370, er_371, iv_372, ok_373⟩ := ds_257 _ _ _ ok_339 (dc_w_I _) (dc_w_I _) hc_368
          obtain ⟨_, h_375⟩ := r_367
          have er_371 : _ = none := er_371
          subst er_371
          have hr_379 : ae_exe n_376 259 (150 + 3) 0 0 lv _ h_375 = some r := hr_378
          obtain ⟨lv_381, sl_380, n_382, e_383, hr_384⟩ := iw_iinc xm_259 xd_259_153 (by decide +kernel) (by decide) q3 hr_379
          have l_385 := sl_380.2 0 _ q0 (by decide) (Or.inl rfl)
          have l_386 := sl_380.2 1 _ q1 (by decide) (Or.inl rfl)
          have l_387 := sl_380.2 2 _ q2 (by decide) (Or.inl rfl)
          have l_388 := sl_380.2 4 _ q4 (by decide) (Or.inl rfl)
          have l_389 := sl_380.1
          obtain ⟨lv_391, sl_390, n_392, e_393, hr_394⟩ := iw_iinc xm_259 xd_259_156 (by decide +kernel) (by decide) l_388 hr_384
          have l_395 := sl_390.2 0 _ l_385 (by decide) (Or.inl rfl)
          have l_396 := sl_390.2 1 _ l_386 (by decide) (Or.inl rfl)
          have l_397 := sl_390.2 2 _ l_387 (by decide) (Or.inl rfl)
          have l_398 := sl_390.2 3 _ l_389 (by decide) (Or.inl rfl)
          have l_399 := sl_390.1
          obtain ⟨n_400, e_401, hr_402⟩ := iv_goto 79 xm_259 xd_259_159 (by decide) hr_394
          obtain ⟨v, ⟨c, hL⟩, e1, e2, e3⟩ := ih1 _ lv_391 h_375 _ _ _ _ (by omega) ok_373 il2 (dc_w_I _) (dc_w_I _) l_395 l_396 l_397 l_398 l_399 hr_402
          exact ⟨v, ⟨c + 1, lm_259_79.mpr (Or.inr ⟨c_192, ⟨q_233, Or.inl ⟨c_238, ⟨q_258, ⟨_, _, d_284, ⟨q_310, ⟨_, _, d_336, ⟨_, _, d_370, hL⟩⟩⟩⟩⟩⟩⟩⟩)⟩, e1, e2, e3⟩
        · obtain ⟨n_403, e_404, hr_405⟩ := iv_goto 156 xm_259 xd_259_95 (by decide) hr_241
          obtain ⟨lv_407, sl_406, n_408, e_409, hr_410⟩ := iw_iinc xm_259 xd_259_156 (by decide +kernel) (by decide) q4 hr_405
          have l_411 := sl_406.2 0 _ q0 (by decide) (Or.inl rfl)
          have l_412 := sl_406.2 1 _ q1 (by decide) (Or.inl rfl)
          have l_413 := sl_406.2 2 _ q2 (by decide) (Or.inl rfl)
          have l_414 := sl_406.2 3 _ q3 (by decide) (Or.inl rfl)
          have l_415 := sl_406.1
          obtain ⟨n_416, e_417, hr_418⟩ := iv_goto 79 xm_259 xd_259_159 (by decide) hr_410
          obtain ⟨v, ⟨c, hL⟩, e1, e2, e3⟩ := ih1 _ lv_407 h _ _ _ _ (by omega) ok il2 il3 (dc_w_I _) l_411 l_412 l_413 l_414 l_415 hr_418
          exact ⟨v, ⟨c + 1, lm_259_79.mpr (Or.inr ⟨c_192, ⟨q_233, Or.inr ⟨c_238, hL⟩⟩⟩)⟩, e1, e2, e3⟩
    · intro n lv h r l2 l3 l4 l5 hn ok il2 il3 il4 il5 q0 q1 q2 q3 q4 q5 hr
      obtain ⟨n_419, e_420, hr_421⟩ := iv_iload xm_259 xd_259_168 q5 hr
      obtain ⟨n_422, e_423, hr_424⟩ := iv_aload_n xm_259 xd_259_170 q0 hr_421
      have f_425 := dc_fr (j := 66) ok (rfl : sv_ty 114 = some 12) dt_12 rfl
      obtain ⟨n_426, e_427, hr_428⟩ := iv_getf (j := 66) xm_259 xd_259_171 (by decide +kernel) ok (rfl : sv_ty 114 = some 12) dt_12 f_425 hr_424
      obtain ⟨n_429, e_430, hr_431⟩ := iv_iconst xm_259 xd_259_174 (by decide) hr_428
      obtain ⟨q_432, qi_433, n_434, e_435, hr_436⟩ := iv_iald xm_259 xd_259_175 ok (rfl : sv_ty 155 = some 92) dt_92 (by decide) (by unfold sv_I; omega) hr_431
      rcases iv_icmp 208 xm_259 xd_259_176 (by decide) il5 qi_433 hr_436 with ⟨c_437, n_438, e_439, hr_440⟩ | ⟨c_437, n_438, e_439, hr_440⟩
      · obtain ⟨n_441, e_442, hr_443⟩ := iv_iconst xm_259 xd_259_208 (by decide) hr_440
        obtain ⟨lv_445, sl_444, n_446, e_447, hr_448⟩ := iv_istore xm_259 xd_259_209 (by decide +kernel) hr_443
        have l_449 := sl_444.2 0 _ q0 (by decide) (Or.inl rfl)
        have l_450 := sl_444.2 1 _ q1 (by decide) (Or.inl rfl)
        have l_451 := sl_444.2 2 _ q2 (by decide) (Or.inl rfl)
        have l_452 := sl_444.2 3 _ q3 (by decide) (Or.inl rfl)
        have l_453 := sl_444.2 5 _ q5 (by decide) (Or.inl rfl)
        have l_454 := sl_444.1
        obtain ⟨n_455, e_456, hr_457⟩ := iv_iconst xm_259 xd_259_211 (by decide) hr_448
        obtain ⟨lv_459, sl_458, n_460, e_461, hr_462⟩ := iv_istore xm_259 xd_259_212 (by decide +kernel) hr_457
        have l_463 := sl_458.2 0 _ l_449 (by decide) (Or.inl rfl)
        have l_464 := sl_458.2 1 _ l_450 (by decide) (Or.inl rfl)
        have l_465 := sl_458.2 2 _ l_451 (by decide) (Or.inl rfl)
        have l_466 := sl_458.2 3 _ l_452 (by decide) (Or.inl rfl)
        have l_467 := sl_458.2 4 _ l_454 (by decide) (Or.inl rfl)
        have l_468 := sl_458.1
        obtain ⟨n_469, e_470, hr_471⟩ := iv_iconst xm_259 xd_259_214 (by decide) hr_462
        obtain ⟨lv_473, sl_472, n_474, e_475, hr_476⟩ := iv_istore xm_259 xd_259_215 (by decide +kernel) hr_471
        have l_477 := sl_472.2 0 _ l_463 (by decide) (Or.inl rfl)
        have l_478 := sl_472.2 1 _ l_464 (by decide) (Or.inl rfl)
        have l_479 := sl_472.2 2 _ l_465 (by decide) (Or.inl rfl)
        have l_480 := sl_472.2 3 _ l_466 (by decide) (Or.inl rfl)
        have l_481 := sl_472.2 4 _ l_467 (by decide) (Or.inl rfl)
        have l_482 := sl_472.2 5 _ l_468 (by decide) (Or.inl rfl)
        have l_483 := sl_472.1
        obtain ⟨v, ⟨c, hL⟩, e1, e2, e3⟩ := ih3 _ lv_473 h _ _ _ _ _ _ (by omega) ok il2 il3 (by unfold sv_I; omega) (by unfold sv_I; omega) (by unfold sv_I; omega) l_477 l_478 l_479 l_480 l_481 l_482 l_483 hr_476
        exact ⟨v, ⟨c + 1, lm_259_168.mpr (⟨q_432, Or.inl ⟨c_437, hL⟩⟩)⟩, e1, e2, e3⟩
      · obtain ⟨n_484, e_485, hr_486⟩ := iv_iload_n xm_259 xd_259_179 q1 hr_440
        obtain ⟨n_487, e_488, hr_489⟩ := iv_iload xm_259 xd_259_180 q5 hr_486
        obtain ⟨n_490, e_491, hr_492⟩ := iv_ibin (f := ae_shr) (Or.inl ⟨rfl, rfl⟩) (ae_shr_lt (sv_u_lt _)) xm_259 xd_259_182 hr_489
        obtain ⟨n_493, e_494, hr_495⟩ := iv_iconst xm_259 xd_259_183 (by decide) hr_492
        obtain ⟨n_496, e_497, hr_498⟩ := iv_iand xm_259 xd_259_184 hr_495
        rcases iv_if 191 xm_259 xd_259_185 (by decide) (sv_g_I (Nat.lt_of_le_of_lt Nat.and_le_right (sv_u_lt _))) hr_498 with ⟨c_499, n_500, e_501, hr_502⟩ | ⟨c_499, n_500, e_501, hr_502⟩
        · obtain ⟨n_503, e_504, hr_505⟩ := iv_aload_n xm_259 xd_259_191 q0 hr_502
          obtain ⟨n_506, e_507, hr_508⟩ := iv_iload xm_259 xd_259_192 q5 hr_505
          obtain ⟨n_509, e_510, hr_511⟩ := iv_iload xm_259 xd_259_194 q4 hr_508
          obtain ⟨n_521, r_512, e_522, hc_513, hr_523⟩ := iv_call (Or.inr ⟨rfl, rfl⟩) xm_259 xd_259_196 (by decide +kernel) xm_260 rfl (by decide +kernel) hr_511
          obtain ⟨v_514, d_515, er_516, iv_517, ok_518⟩ := ds_260 _ _ _ ok il5 il4 hc_513
          obtain ⟨_, h_520⟩ := r_512
          have er_516 : _ = none := er_516
          subst er_516
          have hr_524 : ae_exe n_521 259 (196 + 3) 0 0 lv _ h_520 = some r := hr_523
          obtain ⟨lv_526, sl_525, n_527, e_528, hr_529⟩ := iw_iinc xm_259 xd_259_199 (by decide +kernel) (by decide) q4 hr_524
          have l_530 := sl_525.2 0 _ q0 (by decide) (Or.inl rfl)
          have l_531 := sl_525.2 1 _ q1 (by decide) (Or.inl rfl)
          have l_532 := sl_525.2 2 _ q2 (by decide) (Or.inl rfl)
          have l_533 := sl_525.2 3 _ q3 (by decide) (Or.inl rfl)
          have l_534 := sl_525.2 5 _ q5 (by decide) (Or.inl rfl)
          have l_535 := sl_525.1
          obtain ⟨lv_537, sl_536, n_538, e_539, hr_540⟩ := iw_iinc xm_259 xd_259_202 (by decide +kernel) (by decide) l_534 hr_529
          have l_541 := sl_536.2 0 _ l_530 (by decide) (Or.inl rfl)
          have l_542 := sl_536.2 1 _ l_531 (by decide) (Or.inl rfl)
          have l_543 := sl_536.2 2 _ l_532 (by decide) (Or.inl rfl)
          have l_544 := sl_536.2 3 _ l_533 (by decide) (Or.inl rfl)
          have l_545 := sl_536.2 4 _ l_535 (by decide) (Or.inl rfl)
          have l_546 := sl_536.1
          obtain ⟨n_547, e_548, hr_549⟩ := iv_goto 168 xm_259 xd_259_205 (by decide) hr_540
          obtain ⟨v, ⟨c, hL⟩, e1, e2, e3⟩ := ih2 _ lv_537 h_520 _ _ _ _ _ (by omega) ok_518 il2 il3 (dc_w_I _) (dc_w_I _) l_541 l_542 l_543 l_544 l_545 l_546 hr_549
          exact ⟨v, ⟨c + 1, lm_259_168.mpr (⟨q_432, Or.inr ⟨c_437, Or.inl ⟨c_499, ⟨_, _, d_515, hL⟩⟩⟩⟩)⟩, e1, e2, e3⟩
        · obtain ⟨n_550, e_551, hr_552⟩ := iv_goto 202 xm_259 xd_259_188 (by decide) hr_502
          obtain ⟨lv_554, sl_553, n_555, e_556, hr_557⟩ := iw_iinc xm_259 xd_259_202 (by decide +kernel) (by decide) q5 hr_552
          have l_558 := sl_553.2 0 _ q0 (by decide) (Or.inl rfl)
          have l_559 := sl_553.2 1 _ q1 (by decide) (Or.inl rfl)
          have l_560 := sl_553.2 2 _ q2 (by decide) (Or.inl rfl)
          have l_561 := sl_553.2 3 _ q3 (by decide) (Or.inl rfl)
          have l_562 := sl_553.2 4 _ q4 (by decide) (Or.inl rfl)
          have l_563 := sl_553.1
          obtain ⟨n_564, e_565, hr_566⟩ := iv_goto 168 xm_259 xd_259_205 (by decide) hr_557
          obtain ⟨v, ⟨c, hL⟩, e1, e2, e3⟩ := ih2 _ lv_554 h _ _ _ _ _ (by omega) ok il2 il3 il4 (dc_w_I _) l_558 l_559 l_560 l_561 l_562 l_563 hr_566
          exact ⟨v, ⟨c + 1, lm_259_168.mpr (⟨q_432, Or.inr ⟨c_437, Or.inr ⟨c_499, hL⟩⟩⟩)⟩, e1, e2, e3⟩
    · intro n lv h r l2 l3 l4 l5 l6 hn ok il2 il3 il4 il5 il6 q0 q1 q2 q3 q4 q5 q6 hr
      obtain ⟨n_567, e_568, hr_569⟩ := iv_iload xm_259 xd_259_217 q6 hr
      obtain ⟨n_570, e_571, hr_572⟩ := iv_aload_n xm_259 xd_259_219 q0 hr_569
      have f_573 := dc_fr (j := 66) ok (rfl : sv_ty 114 = some 12) dt_12 rfl
      obtain ⟨n_574, e_575, hr_576⟩ := iv_getf (j := 66) xm_259 xd_259_220 (by decide +kernel) ok (rfl : sv_ty 114 = some 12) dt_12 f_573 hr_572
      obtain ⟨n_577, e_578, hr_579⟩ := iv_iconst xm_259 xd_259_223 (by decide) hr_576
      obtain ⟨q_580, qi_581, n_582, e_583, hr_584⟩ := iv_iald xm_259 xd_259_224 ok (rfl : sv_ty 155 = some 92) dt_92 (by decide) (by unfold sv_I; omega) hr_579
      rcases iv_icmp 349 xm_259 xd_259_225 (by decide) il6 qi_581 hr_584 with ⟨c_585, n_586, e_587, hr_588⟩ | ⟨c_585, n_586, e_587, hr_588⟩
      · obtain ⟨n_589, e_590, hr_591⟩ := iv_aload_n xm_259 xd_259_349 q0 hr_588
        have f_592 := dc_fi (j := 81) ok (rfl : sv_ty 114 = some 12) dt_12 rfl
        obtain ⟨n_593, e_594, hr_595⟩ := iv_getf (j := 81) xm_259 xd_259_350 (by decide +kernel) ok (rfl : sv_ty 114 = some 12) dt_12 f_592.1 hr_591
        rcases iv_if 369 xm_259 xd_259_353 (by decide) f_592.2 hr_595 with ⟨c_596, n_597, e_598, hr_599⟩ | ⟨c_596, n_597, e_598, hr_599⟩
        · obtain ⟨n_600, e_601, hr_602⟩ := iv_iconst xm_259 xd_259_369 (by decide) hr_599
          have rr_603 := iv_ireturn xm_259 xd_259_370 hr_602
          subst rr_603
          exact ⟨_, ⟨0 + 1, lm_259_217.mpr (⟨q_580, Or.inl ⟨c_585, Or.inl ⟨c_596, ⟨rfl, rfl⟩⟩⟩⟩)⟩, rfl, (by unfold sv_I; omega), ok⟩
        · obtain ⟨n_604, e_605, hr_606⟩ := iv_aload_n xm_259 xd_259_356 q0 hr_599
          have f_607 := dc_fi (j := 79) ok (rfl : sv_ty 114 = some 12) dt_12 rfl
          obtain ⟨n_608, e_609, hr_610⟩ := iv_getf (j := 79) xm_259 xd_259_357 (by decide +kernel) ok (rfl : sv_ty 114 = some 12) dt_12 f_607.1 hr_606
          obtain ⟨n_611, e_612, hr_613⟩ := iv_bipush xm_259 xd_259_360 (by decide) hr_610
          rcases iv_icmp 369 xm_259 xd_259_362 (by decide) f_607.2 (by unfold sv_I; omega) hr_613 with ⟨c_614, n_615, e_616, hr_617⟩ | ⟨c_614, n_615, e_616, hr_617⟩
          · obtain ⟨n_618, e_619, hr_620⟩ := iv_iconst xm_259 xd_259_369 (by decide) hr_617
            have rr_621 := iv_ireturn xm_259 xd_259_370 hr_620
            subst rr_621
            exact ⟨_, ⟨0 + 1, lm_259_217.mpr (⟨q_580, Or.inl ⟨c_585, Or.inr ⟨c_596, Or.inl ⟨c_614, ⟨rfl, rfl⟩⟩⟩⟩⟩)⟩, rfl, (by unfold sv_I; omega), ok⟩
          · obtain ⟨n_622, e_623, hr_624⟩ := iv_iconst xm_259 xd_259_365 (by decide) hr_617
            obtain ⟨n_625, e_626, hr_627⟩ := iv_goto 370 xm_259 xd_259_366 (by decide) hr_624
            have rr_628 := iv_ireturn xm_259 xd_259_370 hr_627
            subst rr_628
            exact ⟨_, ⟨0 + 1, lm_259_217.mpr (⟨q_580, Or.inl ⟨c_585, Or.inr ⟨c_596, Or.inr ⟨c_614, ⟨rfl, rfl⟩⟩⟩⟩⟩)⟩, rfl, (by unfold sv_I; omega), ok⟩
      · obtain ⟨n_629, e_630, hr_631⟩ := iv_iload_n xm_259 xd_259_228 q1 hr_588
        obtain ⟨n_632, e_633, hr_634⟩ := iv_iload xm_259 xd_259_229 q6 hr_631
        obtain ⟨n_635, e_636, hr_637⟩ := iv_ibin (f := ae_shr) (Or.inl ⟨rfl, rfl⟩) (ae_shr_lt (sv_u_lt _)) xm_259 xd_259_231 hr_634
        obtain ⟨n_638, e_639, hr_640⟩ := iv_iconst xm_259 xd_259_232 (by decide) hr_637
        obtain ⟨n_641, e_642, hr_643⟩ := iv_iand xm_259 xd_259_233 hr_640
        rcases iv_if 240 xm_259 xd_259_234 (by decide) (sv_g_I (Nat.lt_of_le_of_lt Nat.and_le_right (sv_u_lt _))) hr_643 with ⟨c_644, n_645, e_646, hr_647⟩ | ⟨c_644, n_645, e_646, hr_647⟩
        · obtain ⟨n_648, e_649, hr_650⟩ := iv_aload_n xm_259 xd_259_240 q0 hr_647
          have f_651 := dc_fr (j := 68) ok (rfl : sv_ty 114 = some 12) dt_12 rfl
          obtain ⟨n_652, e_653, hr_654⟩ := iv_getf (j := 68) xm_259 xd_259_241 (by decide +kernel) ok (rfl : sv_ty 114 = some 12) dt_12 f_651 hr_650
          obtain ⟨n_655, e_656, hr_657⟩ := iv_iload xm_259 xd_259_244 q6 hr_654
          obtain ⟨q_658, qi_659, n_660, e_661, hr_662⟩ := iv_iald xm_259 xd_259_246 ok (rfl : sv_ty 157 = some 94) dt_94 (by decide) il6 hr_657
          obtain ⟨n_663, e_664, hr_665⟩ := iv_iconst xm_259 xd_259_247 (by decide) hr_662
          obtain ⟨n_666, e_667, hr_668⟩ := iw_isub xm_259 xd_259_248 hr_665
          obtain ⟨lv_670, sl_669, n_671, e_672, hr_673⟩ := iv_istore xm_259 xd_259_249 (by decide +kernel) hr_668
          have l_674 := sl_669.2 0 _ q0 (by decide) (Or.inl rfl)
          have l_675 := sl_669.2 1 _ q1 (by decide) (Or.inl rfl)
          have l_676 := sl_669.2 2 _ q2 (by decide) (Or.inl rfl)
          have l_677 := sl_669.2 3 _ q3 (by decide) (Or.inl rfl)
          have l_678 := sl_669.2 4 _ q4 (by decide) (Or.inl rfl)
          have l_679 := sl_669.2 5 _ q5 (by decide) (Or.inl rfl)
          have l_680 := sl_669.2 6 _ q6 (by decide) (Or.inl rfl)
          have l_681 := sl_669.1
          obtain ⟨v, ⟨c, hL⟩, e1, e2, e3⟩ := ih4 _ lv_670 h _ _ _ _ _ _ _ (by omega) ok il2 il3 il4 il5 il6 (dc_w_I _) l_674 l_675 l_676 l_677 l_678 l_679 l_680 l_681 hr_673
          exact ⟨v, ⟨c + 1, lm_259_217.mpr (⟨q_580, Or.inr ⟨c_585, Or.inl ⟨c_644, ⟨q_658, hL⟩⟩⟩⟩)⟩, e1, e2, e3⟩
        · obtain ⟨n_682, e_683, hr_684⟩ := iv_goto 343 xm_259 xd_259_237 (by decide) hr_647
          obtain ⟨lv_686, sl_685, n_687, e_688, hr_689⟩ := iw_iinc xm_259 xd_259_343 (by decide +kernel) (by decide) q6 hr_684
          have l_690 := sl_685.2 0 _ q0 (by decide) (Or.inl rfl)
          have l_691 := sl_685.2 1 _ q1 (by decide) (Or.inl rfl)
          have l_692 := sl_685.2 2 _ q2 (by decide) (Or.inl rfl)
          have l_693 := sl_685.2 3 _ q3 (by decide) (Or.inl rfl)
          have l_694 := sl_685.2 4 _ q4 (by decide) (Or.inl rfl)
          have l_695 := sl_685.2 5 _ q5 (by decide) (Or.inl rfl)
          have l_696 := sl_685.1
          obtain ⟨n_697, e_698, hr_699⟩ := iv_goto 217 xm_259 xd_259_346 (by decide) hr_689
          obtain ⟨v, ⟨c, hL⟩, e1, e2, e3⟩ := ih3 _ lv_686 h _ _ _ _ _ _ (by omega) ok il2 il3 il4 il5 (dc_w_I _) l_690 l_691 l_692 l_693 l_694 l_695 l_696 hr_699
          exact ⟨v, ⟨c + 1, lm_259_217.mpr (⟨q_580, Or.inr ⟨c_585, Or.inr ⟨c_644, hL⟩⟩⟩)⟩, e1, e2, e3⟩
    · intro n lv h r l2 l3 l4 l5 l6 l7 hn ok il2 il3 il4 il5 il6 il7 q0 q1 q2 q3 q4 q5 q6 q7 hr
      obtain ⟨n_700, e_701, hr_702⟩ := iv_iload xm_259 xd_259_251 q7 hr
      rcases iv_if 318 xm_259 xd_259_253 (by decide) il7 hr_702 with ⟨c_703, n_704, e_705, hr_706⟩ | ⟨c_703, n_704, e_705, hr_706⟩
      · obtain ⟨n_707, e_708, hr_709⟩ := iv_aload_n xm_259 xd_259_318 q0 hr_706
        obtain ⟨n_710, e_711, hr_712⟩ := iv_bipush xm_259 xd_259_319 (by decide) hr_709
        obtain ⟨n_713, e_714, hr_715⟩ := iv_aload_n xm_259 xd_259_321 q0 hr_712
        have f_716 := dc_fr (j := 69) ok (rfl : sv_ty 114 = some 12) dt_12 rfl
        obtain ⟨n_717, e_718, hr_719⟩ := iv_getf (j := 69) xm_259 xd_259_322 (by decide +kernel) ok (rfl : sv_ty 114 = some 12) dt_12 f_716 hr_715
        obtain ⟨n_720, e_721, hr_722⟩ := iv_iload xm_259 xd_259_325 q6 hr_719
        obtain ⟨q_723, qi_724, n_725, e_726, hr_727⟩ := iv_iald xm_259 xd_259_327 ok (rfl : sv_ty 158 = some 95) dt_95 (by decide) il6 hr_722
        obtain ⟨n_728, e_729, hr_730⟩ := iw_iadd xm_259 xd_259_328 hr_727
        obtain ⟨n_731, e_732, hr_733⟩ := iv_iconst xm_259 xd_259_329 (by decide) hr_730
        obtain ⟨n_734, e_735, hr_736⟩ := iw_isub xm_259 xd_259_330 hr_733
        obtain ⟨n_737, e_738, hr_739⟩ := iv_sipush xm_259 xd_259_331 (by decide) hr_736
        obtain ⟨n_740, e_741, hr_742⟩ := iv_iload xm_259 xd_259_334 q4 hr_739
        obtain ⟨n_743, e_744, hr_745⟩ := iw_iadd xm_259 xd_259_336 hr_742
        obtain ⟨n_755, r_746, e_756, hc_747, hr_757⟩ := iv_call (Or.inr ⟨rfl, rfl⟩) xm_259 xd_259_337 (by decide +kernel) xm_257 rfl (by decide +kernel) hr_745
        obtain ⟨v_748, d_749, er_750, iv_751, ok_752⟩ := ds_257 _ _ _ ok (dc_w_I _) (dc_w_I _) hc_747
        obtain ⟨_, h_754⟩ := r_746
        have er_750 : _ = none := er_750
        subst er_750
        have hr_758 : ae_exe n_755 259 (337 + 3) 0 0 lv _ h_754 = some r := hr_757
        obtain ⟨lv_760, sl_759, n_761, e_762, hr_763⟩ := iw_iinc xm_259 xd_259_340 (by decide +kernel) (by decide) q4 hr_758
        have l_764 := sl_759.2 0 _ q0 (by decide) (Or.inl rfl)
        have l_765 := sl_759.2 1 _ q1 (by decide) (Or.inl rfl)
        have l_766 := sl_759.2 2 _ q2 (by decide) (Or.inl rfl)
        have l_767 := sl_759.2 3 _ q3 (by decide) (Or.inl rfl)
        have l_768 := sl_759.2 5 _ q5 (by decide) (Or.inl rfl)
        have l_769 := sl_759.2 6 _ q6 (by decide) (Or.inl rfl)
        have l_770 := sl_759.2 7 _ q7 (by decide) (Or.inl rfl)
        have l_771 := sl_759.1
        obtain ⟨lv_773, sl_772, n_774, e_775, hr_776⟩ := iw_iinc xm_259 xd_259_343 (by decide +kernel) (by decide) l_769 hr_763
        have l_777 := sl_772.2 0 _ l_764 (by decide) (Or.inl rfl)
        have l_778 := sl_772.2 1 _ l_765 (by decide) (Or.inl rfl)
        have l_779 := sl_772.2 2 _ l_766 (by decide) (Or.inl rfl)
        have l_780 := sl_772.2 3 _ l_767 (by decide) (Or.inl rfl)
        have l_781 := sl_772.2 4 _ l_771 (by decide) (Or.inl rfl)
        have l_782 := sl_772.2 5 _ l_768 (by decide) (Or.inl rfl)
        have l_783 := sl_772.2 7 _ l_770 (by decide) (Or.inl rfl)
        have l_784 := sl_772.1
        obtain ⟨n_785, e_786, hr_787⟩ := iv_goto 217 xm_259 xd_259_346 (by decide) hr_776
        obtain ⟨v, ⟨c, hL⟩, e1, e2, e3⟩ := ih3 _ lv_773 h_754 _ _ _ _ _ _ (by omega) ok_752 il2 il3 (dc_w_I _) il5 (dc_w_I _) l_777 l_778 l_779 l_780 l_781 l_782 l_784 hr_787
        exact ⟨v, ⟨c + 1, lm_259_251.mpr (Or.inl ⟨c_703, ⟨q_723, ⟨_, _, d_749, hL⟩⟩⟩)⟩, e1, e2, e3⟩
      · obtain ⟨n_788, e_789, hr_790⟩ := iv_aload_n xm_259 xd_259_256 q0 hr_706
        obtain ⟨n_791, e_792, hr_793⟩ := iv_bipush xm_259 xd_259_257 (by decide) hr_790
        obtain ⟨n_794, e_795, hr_796⟩ := iv_aload_n xm_259 xd_259_259 q0 hr_793
        have f_797 := dc_fr (j := 69) ok (rfl : sv_ty 114 = some 12) dt_12 rfl
        obtain ⟨n_798, e_799, hr_800⟩ := iv_getf (j := 69) xm_259 xd_259_260 (by decide +kernel) ok (rfl : sv_ty 114 = some 12) dt_12 f_797 hr_796
        obtain ⟨n_801, e_802, hr_803⟩ := iv_iload xm_259 xd_259_263 q6 hr_800
        obtain ⟨q_804, qi_805, n_806, e_807, hr_808⟩ := iv_iald xm_259 xd_259_265 ok (rfl : sv_ty 158 = some 95) dt_95 (by decide) il6 hr_803
        obtain ⟨n_809, e_810, hr_811⟩ := iw_iadd xm_259 xd_259_266 hr_808
        obtain ⟨n_821, r_812, e_822, hc_813, hr_823⟩ := iv_call (Or.inr ⟨rfl, rfl⟩) xm_259 xd_259_267 (by decide +kernel) xm_258 rfl (by decide +kernel) hr_811
        obtain ⟨v_814, d_815, er_816, iv_817, ok_818⟩ := ds_258 _ _ ok (dc_w_I _) hc_813
        obtain ⟨_, h_820⟩ := r_812
        have er_816 : _ = some (wk_i v_814) := er_816
        subst er_816
        have hr_824 : ae_exe n_821 259 (267 + 3) 0 0 lv _ h_820 = some r := hr_823
        obtain ⟨lv_826, sl_825, n_827, e_828, hr_829⟩ := iv_istore xm_259 xd_259_270 (by decide +kernel) hr_824
        have l_830 := sl_825.2 0 _ q0 (by decide) (Or.inl rfl)
        have l_831 := sl_825.2 1 _ q1 (by decide) (Or.inl rfl)
        have l_832 := sl_825.2 2 _ q2 (by decide) (Or.inl rfl)
        have l_833 := sl_825.2 3 _ q3 (by decide) (Or.inl rfl)
        have l_834 := sl_825.2 4 _ q4 (by decide) (Or.inl rfl)
        have l_835 := sl_825.2 5 _ q5 (by decide) (Or.inl rfl)
        have l_836 := sl_825.2 6 _ q6 (by decide) (Or.inl rfl)
        have l_837 := sl_825.2 7 _ q7 (by decide) (Or.inl rfl)
        have l_838 := sl_825.1
        obtain ⟨n_839, e_840, hr_841⟩ := iv_aload_n xm_259 xd_259_272 l_830 hr_829
        obtain ⟨n_842, e_843, hr_844⟩ := iv_bipush xm_259 xd_259_273 (by decide) hr_841
        obtain ⟨n_845, e_846, hr_847⟩ := iv_bipush xm_259 xd_259_275 (by decide) hr_844
        obtain ⟨n_848, e_849, hr_850⟩ := iv_iload xm_259 xd_259_277 l_834 hr_847
        obtain ⟨n_851, e_852, hr_853⟩ := iw_imul xm_259 xd_259_279 hr_850
        obtain ⟨n_854, e_855, hr_856⟩ := iw_iadd xm_259 xd_259_280 hr_853
        obtain ⟨n_857, e_858, hr_859⟩ := iv_iload xm_259 xd_259_281 l_837 hr_856
        obtain ⟨n_860, e_861, hr_862⟩ := iw_iadd xm_259 xd_259_283 hr_859
        obtain ⟨n_863, e_864, hr_865⟩ := iv_sipush xm_259 xd_259_284 (by decide) hr_862
        obtain ⟨n_866, e_867, hr_868⟩ := iv_iload xm_259 xd_259_287 l_838 hr_865
        obtain ⟨n_869, e_870, hr_871⟩ := iw_iadd xm_259 xd_259_289 hr_868
        obtain ⟨n_881, r_872, e_882, hc_873, hr_883⟩ := iv_call (Or.inr ⟨rfl, rfl⟩) xm_259 xd_259_290 (by decide +kernel) xm_257 rfl (by decide +kernel) hr_871
        obtain ⟨v_874, d_875, er_876, iv_877, ok_878⟩ := ds_257 _ _ _ ok_818 (dc_w_I _) (dc_w_I _) hc_873
        obtain ⟨_, h_880⟩ := r_872
        have er_876 : _ = none := er_876
        subst er_876
        have hr_884 : ae_exe n_881 259 (290 + 3) 0 0 lv_826 _ h_880 = some r := hr_883
        obtain ⟨n_885, e_886, hr_887⟩ := iv_aload_n xm_259 xd_259_293 l_830 hr_884
        obtain ⟨n_888, e_889, hr_890⟩ := iv_sipush xm_259 xd_259_294 (by decide) hr_887
        obtain ⟨n_891, e_892, hr_893⟩ := iv_iload xm_259 xd_259_297 l_838 hr_890
        obtain ⟨n_894, e_895, hr_896⟩ := iw_iadd xm_259 xd_259_299 hr_893
        obtain ⟨n_897, e_898, hr_899⟩ := iv_sipush xm_259 xd_259_300 (by decide) hr_896
        obtain ⟨n_900, e_901, hr_902⟩ := iv_iload xm_259 xd_259_303 l_835 hr_899
        obtain ⟨n_903, e_904, hr_905⟩ := iw_iadd xm_259 xd_259_305 hr_902
        obtain ⟨n_915, r_906, e_916, hc_907, hr_917⟩ := iv_call (Or.inr ⟨rfl, rfl⟩) xm_259 xd_259_306 (by decide +kernel) xm_257 rfl (by decide +kernel) hr_905
        obtain ⟨v_908, d_909, er_910, iv_911, ok_912⟩ := ds_257 _ _ _ ok_878 (dc_w_I _) (dc_w_I _) hc_907
        obtain ⟨_, h_914⟩ := r_906
        have er_910 : _ = none := er_910
        subst er_910
        have hr_918 : ae_exe n_915 259 (306 + 3) 0 0 lv_826 _ h_914 = some r := hr_917
        obtain ⟨lv_920, sl_919, n_921, e_922, hr_923⟩ := iw_iinc xm_259 xd_259_309 (by decide +kernel) (by decide) l_835 hr_918
        have l_924 := sl_919.2 0 _ l_830 (by decide) (Or.inl rfl)
        have l_925 := sl_919.2 1 _ l_831 (by decide) (Or.inl rfl)
        have l_926 := sl_919.2 2 _ l_832 (by decide) (Or.inl rfl)
        have l_927 := sl_919.2 3 _ l_833 (by decide) (Or.inl rfl)
        have l_928 := sl_919.2 4 _ l_834 (by decide) (Or.inl rfl)
        have l_929 := sl_919.2 6 _ l_836 (by decide) (Or.inl rfl)
        have l_930 := sl_919.2 7 _ l_837 (by decide) (Or.inl rfl)
        have l_931 := sl_919.2 8 _ l_838 (by decide) (Or.inl rfl)
        have l_932 := sl_919.1
        obtain ⟨lv_934, sl_933, n_935, e_936, hr_937⟩ := iw_iinc xm_259 xd_259_312 (by decide +kernel) (by decide) l_930 hr_923
        have l_938 := sl_933.2 0 _ l_924 (by decide) (Or.inl rfl)
        have l_939 := sl_933.2 1 _ l_925 (by decide) (Or.inl rfl)
        have l_940 := sl_933.2 2 _ l_926 (by decide) (Or.inl rfl)
        have l_941 := sl_933.2 3 _ l_927 (by decide) (Or.inl rfl)
        have l_942 := sl_933.2 4 _ l_928 (by decide) (Or.inl rfl)
        have l_943 := sl_933.2 5 _ l_932 (by decide) (Or.inl rfl)
        have l_944 := sl_933.2 6 _ l_929 (by decide) (Or.inl rfl)
        have l_945 := sl_933.2 8 _ l_931 (by decide) (Or.inl rfl)
        have l_946 := sl_933.1
        obtain ⟨n_947, e_948, hr_949⟩ := iv_goto 251 xm_259 xd_259_315 (by decide) hr_937
        obtain ⟨v, ⟨c, hL⟩, e1, e2, e3⟩ := ih4 _ lv_934 h_914 _ _ _ _ _ _ _ (by omega) ok_912 il2 il3 il4 (dc_w_I _) il6 (dc_w_I _) l_938 l_939 l_940 l_941 l_942 l_943 l_944 l_946 hr_949
        exact ⟨v, ⟨c + 1, lm_259_251.mpr (Or.inr ⟨c_703, ⟨q_804, ⟨_, _, d_815, ⟨_, _, d_875, ⟨_, _, d_909, hL⟩⟩⟩⟩⟩)⟩, e1, e2, e3⟩
abbrev D_259 (x0 : Int) (m : dc_M) (v : Int) (m' : dc_M) : Prop := ∃ m_959, m_959 = dc_up m 114 79 0 ∧ (∃ m_972, m_972 = dc_up m_959 114 80 0 ∧ (∃ m_985, m_985 = dc_up m_972 114 81 0 ∧ (∃ c, LM_259 x0 c 19 0 0 0 0 0 0 m_985 v m')))
theorem ds_259 (n : Nat) (x0 : Int) {h : ae_H} {r : ae_R} (ok : dc_ok h) (ix0 : sv_I x0) (hr : ae_exe n 259 0 0 0 (ae_args [wk_r 114, wk_i x0] 0) [] h = some r) : ∃ v, D_259 x0 (dc_m h) v (dc_m r.2) ∧ r.1 = some (wk_i v) ∧ sv_I v ∧ dc_ok r.2 := by
  have q0 : ae_lk (ae_args [wk_r 114, wk_i x0] 0) 0 = some (wk_r 114) := rfl
  have q1 : ae_lk (ae_args [wk_r 114, wk_i x0] 0) 1 = some (wk_i x0) := rfl
  obtain ⟨n_950, e_951, hr_952⟩ := iv_aload_n xm_259 xd_259_0 q0 hr
  obtain ⟨n_953, e_954, hr_955⟩ := iv_iconst xm_259 xd_259_1 (by decide) hr_952
  obtain ⟨h_956, ok_957, em_958, n_960, e_961, hr_962⟩ := iv_puti (j := 79) (fk := 0) xm_259 xd_259_2 (by decide +kernel) ok (rfl : sv_ty 114 = some 12) dt_12 rfl (by decide +kernel) rfl (by unfold sv_I; omega) hr_955
  obtain ⟨n_963, e_964, hr_965⟩ := iv_aload_n xm_259 xd_259_5 q0 hr_962
  obtain ⟨n_966, e_967, hr_968⟩ := iv_iconst xm_259 xd_259_6 (by decide) hr_965
  obtain ⟨h_969, ok_970, em_971, n_973, e_974, hr_975⟩ := iv_puti (j := 80) (fk := 0) xm_259 xd_259_7 (by decide +kernel) ok_957 (rfl : sv_ty 114 = some 12) dt_12 rfl (by decide +kernel) rfl (by unfold sv_I; omega) hr_968
  obtain ⟨n_976, e_977, hr_978⟩ := iv_aload_n xm_259 xd_259_10 q0 hr_975
  obtain ⟨n_979, e_980, hr_981⟩ := iv_iconst xm_259 xd_259_11 (by decide) hr_978
  obtain ⟨h_982, ok_983, em_984, n_986, e_987, hr_988⟩ := iv_puti (j := 81) (fk := 1) xm_259 xd_259_12 (by decide +kernel) ok_970 (rfl : sv_ty 114 = some 12) dt_12 rfl (by decide +kernel) rfl (by unfold sv_I; omega) hr_981
  obtain ⟨n_989, e_990, hr_991⟩ := iv_iconst xm_259 xd_259_15 (by decide) hr_988
  obtain ⟨lv_993, sl_992, n_994, e_995, hr_996⟩ := iv_istore_n xm_259 xd_259_16 (by decide +kernel) hr_991
  have l_997 := sl_992.2 0 _ q0 (by decide) (Or.inl rfl)
  have l_998 := sl_992.2 1 _ q1 (by decide) (Or.inl rfl)
  have l_999 := sl_992.1
  obtain ⟨n_1000, e_1001, hr_1002⟩ := iv_iconst xm_259 xd_259_17 (by decide) hr_996
  obtain ⟨lv_1004, sl_1003, n_1005, e_1006, hr_1007⟩ := iv_istore_n xm_259 xd_259_18 (by decide +kernel) hr_1002
  have l_1008 := sl_1003.2 0 _ l_997 (by decide) (Or.inl rfl)
  have l_1009 := sl_1003.2 1 _ l_998 (by decide) (Or.inl rfl)
  have l_1010 := sl_1003.2 2 _ l_999 (by decide) (Or.inl rfl)
  have l_1011 := sl_1003.1
  obtain ⟨v, ⟨c, hL⟩, e1, e2, e3⟩ := (dl_259 ix0 _).1 _ lv_1004 h_982 _ _ _ (Nat.le_refl _) ok_983 (by unfold sv_I; omega) (by unfold sv_I; omega) l_1008 l_1009 l_1010 l_1011 hr_1007
  exact ⟨v, ⟨_, em_958, ⟨_, em_971, ⟨_, em_984, ⟨_, hL⟩⟩⟩⟩, e1, e2, e3⟩
/-! method 261 -/
theorem xm_261 : ae_m 261 = some (wk_M 261) := rfl
theorem xd_261_0 : decode (wk_M 261).2.2.1 0 = .ok (.iconst 1, 1) := zd_by (by decide +kernel)
theorem xd_261_1 : decode (wk_M 261).2.2.1 1 = .ok (.aload_n 0, 1) := zd_by (by decide +kernel)
theorem xd_261_2 : decode (wk_M 261).2.2.1 2 = .ok (.getfield 133, 3) := zd_by (by decide +kernel)
theorem xd_261_5 : decode (wk_M 261).2.2.1 5 = .ok (.iconst 0, 1) := zd_by (by decide +kernel)
theorem xd_261_6 : decode (wk_M 261).2.2.1 6 = .ok (.iaload, 1) := zd_by (by decide +kernel)
theorem xd_261_7 : decode (wk_M 261).2.2.1 7 = .ok (.ishl, 1) := zd_by (by decide +kernel)
theorem xd_261_8 : decode (wk_M 261).2.2.1 8 = .ok (.iconst 1, 1) := zd_by (by decide +kernel)
theorem xd_261_9 : decode (wk_M 261).2.2.1 9 = .ok (.isub, 1) := zd_by (by decide +kernel)
theorem xd_261_10 : decode (wk_M 261).2.2.1 10 = .ok (.istore_n 1, 1) := zd_by (by decide +kernel)
theorem xd_261_11 : decode (wk_M 261).2.2.1 11 = .ok (.aload_n 0, 1) := zd_by (by decide +kernel)
theorem xd_261_12 : decode (wk_M 261).2.2.1 12 = .ok (.getfield 163, 3) := zd_by (by decide +kernel)
theorem xd_261_15 : decode (wk_M 261).2.2.1 15 = .ok (.iconst 0, 1) := zd_by (by decide +kernel)
theorem xd_261_16 : decode (wk_M 261).2.2.1 16 = .ok (.iconst 0, 1) := zd_by (by decide +kernel)
theorem xd_261_17 : decode (wk_M 261).2.2.1 17 = .ok (.iastore, 1) := zd_by (by decide +kernel)
theorem xd_261_18 : decode (wk_M 261).2.2.1 18 = .ok (.iconst 1, 1) := zd_by (by decide +kernel)
theorem xd_261_19 : decode (wk_M 261).2.2.1 19 = .ok (.istore_n 2, 1) := zd_by (by decide +kernel)
theorem xd_261_20 : decode (wk_M 261).2.2.1 20 = .ok (.iload_n 2, 1) := zd_by (by decide +kernel)
theorem xd_261_21 : decode (wk_M 261).2.2.1 21 = .ok (.iload_n 1, 1) := zd_by (by decide +kernel)
theorem xd_261_22 : decode (wk_M 261).2.2.1 22 = .ok (.if_icmp .gt 126, 3) := zd_by (by decide +kernel)
theorem xd_261_25 : decode (wk_M 261).2.2.1 25 = .ok (.aload_n 0, 1) := zd_by (by decide +kernel)
theorem xd_261_26 : decode (wk_M 261).2.2.1 26 = .ok (.getfield 169, 3) := zd_by (by decide +kernel)
theorem xd_261_29 : decode (wk_M 261).2.2.1 29 = .ok (.iload_n 2, 1) := zd_by (by decide +kernel)
theorem xd_261_30 : decode (wk_M 261).2.2.1 30 = .ok (.aload_n 0, 1) := zd_by (by decide +kernel)
theorem xd_261_31 : decode (wk_M 261).2.2.1 31 = .ok (.iload_n 2, 1) := zd_by (by decide +kernel)
theorem xd_261_32 : decode (wk_M 261).2.2.1 32 = .ok (.invokevirtual 509, 3) := zd_by (by decide +kernel)
theorem xd_261_35 : decode (wk_M 261).2.2.1 35 = .ok (.bastore, 1) := zd_by (by decide +kernel)
theorem xd_261_36 : decode (wk_M 261).2.2.1 36 = .ok (.aload_n 0, 1) := zd_by (by decide +kernel)
theorem xd_261_37 : decode (wk_M 261).2.2.1 37 = .ok (.getfield 163, 3) := zd_by (by decide +kernel)
theorem xd_261_40 : decode (wk_M 261).2.2.1 40 = .ok (.iload_n 2, 1) := zd_by (by decide +kernel)
theorem xd_261_41 : decode (wk_M 261).2.2.1 41 = .ok (.bipush 100, 2) := zd_by (by decide +kernel)
theorem xd_261_43 : decode (wk_M 261).2.2.1 43 = .ok (.iastore, 1) := zd_by (by decide +kernel)
theorem xd_261_44 : decode (wk_M 261).2.2.1 44 = .ok (.iload_n 2, 1) := zd_by (by decide +kernel)
theorem xd_261_45 : decode (wk_M 261).2.2.1 45 = .ok (.iload_n 2, 1) := zd_by (by decide +kernel)
theorem xd_261_46 : decode (wk_M 261).2.2.1 46 = .ok (.ineg, 1) := zd_by (by decide +kernel)
theorem xd_261_47 : decode (wk_M 261).2.2.1 47 = .ok (.iand, 1) := zd_by (by decide +kernel)
theorem xd_261_48 : decode (wk_M 261).2.2.1 48 = .ok (.istore_n 3, 1) := zd_by (by decide +kernel)
theorem xd_261_49 : decode (wk_M 261).2.2.1 49 = .ok (.iload_n 3, 1) := zd_by (by decide +kernel)
theorem xd_261_50 : decode (wk_M 261).2.2.1 50 = .ok (.istore 4, 2) := zd_by (by decide +kernel)
theorem xd_261_52 : decode (wk_M 261).2.2.1 52 = .ok (.iload 4, 2) := zd_by (by decide +kernel)
theorem xd_261_54 : decode (wk_M 261).2.2.1 54 = .ok (.iload_n 2, 1) := zd_by (by decide +kernel)
theorem xd_261_55 : decode (wk_M 261).2.2.1 55 = .ok (.if_icmp .gt 87, 3) := zd_by (by decide +kernel)
theorem xd_261_58 : decode (wk_M 261).2.2.1 58 = .ok (.iload 4, 2) := zd_by (by decide +kernel)
theorem xd_261_60 : decode (wk_M 261).2.2.1 60 = .ok (.iload_n 2, 1) := zd_by (by decide +kernel)
theorem xd_261_61 : decode (wk_M 261).2.2.1 61 = .ok (.iconst (-1), 1) := zd_by (by decide +kernel)
theorem xd_261_62 : decode (wk_M 261).2.2.1 62 = .ok (.ixor, 1) := zd_by (by decide +kernel)
theorem xd_261_63 : decode (wk_M 261).2.2.1 63 = .ok (.iand, 1) := zd_by (by decide +kernel)
theorem xd_261_64 : decode (wk_M 261).2.2.1 64 = .ok (.ifCond .ne 72, 3) := zd_by (by decide +kernel)
theorem xd_261_67 : decode (wk_M 261).2.2.1 67 = .ok (.iload 4, 2) := zd_by (by decide +kernel)
theorem xd_261_69 : decode (wk_M 261).2.2.1 69 = .ok (.iload_n 3, 1) := zd_by (by decide +kernel)
theorem xd_261_70 : decode (wk_M 261).2.2.1 70 = .ok (.iand, 1) := zd_by (by decide +kernel)
theorem xd_261_71 : decode (wk_M 261).2.2.1 71 = .ok (.ifCond .eq 65, 3) := zd_by (by decide +kernel)
theorem xd_261_74 : decode (wk_M 261).2.2.1 74 = .ok (.aload_n 0, 1) := zd_by (by decide +kernel)
theorem xd_261_75 : decode (wk_M 261).2.2.1 75 = .ok (.getfield 169, 3) := zd_by (by decide +kernel)
theorem xd_261_78 : decode (wk_M 261).2.2.1 78 = .ok (.iload 4, 2) := zd_by (by decide +kernel)
theorem xd_261_80 : decode (wk_M 261).2.2.1 80 = .ok (.baload, 1) := zd_by (by decide +kernel)
theorem xd_261_81 : decode (wk_M 261).2.2.1 81 = .ok (.ifCond .eq 55, 3) := zd_by (by decide +kernel)
theorem xd_261_84 : decode (wk_M 261).2.2.1 84 = .ok (.aload_n 0, 1) := zd_by (by decide +kernel)
theorem xd_261_85 : decode (wk_M 261).2.2.1 85 = .ok (.getfield 163, 3) := zd_by (by decide +kernel)
theorem xd_261_88 : decode (wk_M 261).2.2.1 88 = .ok (.iload_n 2, 1) := zd_by (by decide +kernel)
theorem xd_261_89 : decode (wk_M 261).2.2.1 89 = .ok (.iload 4, 2) := zd_by (by decide +kernel)
theorem xd_261_91 : decode (wk_M 261).2.2.1 91 = .ok (.iconst (-1), 1) := zd_by (by decide +kernel)
theorem xd_261_92 : decode (wk_M 261).2.2.1 92 = .ok (.ixor, 1) := zd_by (by decide +kernel)
theorem xd_261_93 : decode (wk_M 261).2.2.1 93 = .ok (.iand, 1) := zd_by (by decide +kernel)
theorem xd_261_94 : decode (wk_M 261).2.2.1 94 = .ok (.iaload, 1) := zd_by (by decide +kernel)
theorem xd_261_95 : decode (wk_M 261).2.2.1 95 = .ok (.iconst 1, 1) := zd_by (by decide +kernel)
theorem xd_261_96 : decode (wk_M 261).2.2.1 96 = .ok (.iadd, 1) := zd_by (by decide +kernel)
theorem xd_261_97 : decode (wk_M 261).2.2.1 97 = .ok (.aload_n 0, 1) := zd_by (by decide +kernel)
theorem xd_261_98 : decode (wk_M 261).2.2.1 98 = .ok (.getfield 163, 3) := zd_by (by decide +kernel)
theorem xd_261_101 : decode (wk_M 261).2.2.1 101 = .ok (.iload_n 2, 1) := zd_by (by decide +kernel)
theorem xd_261_102 : decode (wk_M 261).2.2.1 102 = .ok (.iaload, 1) := zd_by (by decide +kernel)
theorem xd_261_103 : decode (wk_M 261).2.2.1 103 = .ok (.if_icmp .lt 6, 3) := zd_by (by decide +kernel)
theorem xd_261_106 : decode (wk_M 261).2.2.1 106 = .ok (.goto 30, 3) := zd_by (by decide +kernel)
theorem xd_261_109 : decode (wk_M 261).2.2.1 109 = .ok (.aload_n 0, 1) := zd_by (by decide +kernel)
theorem xd_261_110 : decode (wk_M 261).2.2.1 110 = .ok (.getfield 163, 3) := zd_by (by decide +kernel)
theorem xd_261_113 : decode (wk_M 261).2.2.1 113 = .ok (.iload_n 2, 1) := zd_by (by decide +kernel)
theorem xd_261_114 : decode (wk_M 261).2.2.1 114 = .ok (.aload_n 0, 1) := zd_by (by decide +kernel)
theorem xd_261_115 : decode (wk_M 261).2.2.1 115 = .ok (.getfield 163, 3) := zd_by (by decide +kernel)
theorem xd_261_118 : decode (wk_M 261).2.2.1 118 = .ok (.iload_n 2, 1) := zd_by (by decide +kernel)
theorem xd_261_119 : decode (wk_M 261).2.2.1 119 = .ok (.iload 4, 2) := zd_by (by decide +kernel)
theorem xd_261_121 : decode (wk_M 261).2.2.1 121 = .ok (.iconst (-1), 1) := zd_by (by decide +kernel)
theorem xd_261_122 : decode (wk_M 261).2.2.1 122 = .ok (.ixor, 1) := zd_by (by decide +kernel)
theorem xd_261_123 : decode (wk_M 261).2.2.1 123 = .ok (.iand, 1) := zd_by (by decide +kernel)
theorem xd_261_124 : decode (wk_M 261).2.2.1 124 = .ok (.iaload, 1) := zd_by (by decide +kernel)
theorem xd_261_125 : decode (wk_M 261).2.2.1 125 = .ok (.iconst 1, 1) := zd_by (by decide +kernel)
theorem xd_261_126 : decode (wk_M 261).2.2.1 126 = .ok (.iadd, 1) := zd_by (by decide +kernel)
theorem xd_261_127 : decode (wk_M 261).2.2.1 127 = .ok (.iastore, 1) := zd_by (by decide +kernel)
theorem xd_261_128 : decode (wk_M 261).2.2.1 128 = .ok (.aload_n 0, 1) := zd_by (by decide +kernel)
theorem xd_261_129 : decode (wk_M 261).2.2.1 129 = .ok (.getfield 166, 3) := zd_by (by decide +kernel)
theorem xd_261_132 : decode (wk_M 261).2.2.1 132 = .ok (.iload_n 2, 1) := zd_by (by decide +kernel)
theorem xd_261_133 : decode (wk_M 261).2.2.1 133 = .ok (.iload 4, 2) := zd_by (by decide +kernel)
theorem xd_261_135 : decode (wk_M 261).2.2.1 135 = .ok (.iastore, 1) := zd_by (by decide +kernel)
theorem xd_261_136 : decode (wk_M 261).2.2.1 136 = .ok (.iinc 4 1, 3) := zd_by (by decide +kernel)
theorem xd_261_139 : decode (wk_M 261).2.2.1 139 = .ok (.goto (-87), 3) := zd_by (by decide +kernel)
theorem xd_261_142 : decode (wk_M 261).2.2.1 142 = .ok (.iinc 2 1, 3) := zd_by (by decide +kernel)
theorem xd_261_145 : decode (wk_M 261).2.2.1 145 = .ok (.goto (-125), 3) := zd_by (by decide +kernel)
theorem xd_261_148 : decode (wk_M 261).2.2.1 148 = .ok (.aload_n 0, 1) := zd_by (by decide +kernel)
theorem xd_261_149 : decode (wk_M 261).2.2.1 149 = .ok (.getfield 163, 3) := zd_by (by decide +kernel)
theorem xd_261_152 : decode (wk_M 261).2.2.1 152 = .ok (.iload_n 1, 1) := zd_by (by decide +kernel)
theorem xd_261_153 : decode (wk_M 261).2.2.1 153 = .ok (.iaload, 1) := zd_by (by decide +kernel)
theorem xd_261_154 : decode (wk_M 261).2.2.1 154 = .ok (.bipush 100, 2) := zd_by (by decide +kernel)
theorem xd_261_156 : decode (wk_M 261).2.2.1 156 = .ok (.if_icmp .lt 7, 3) := zd_by (by decide +kernel)
theorem xd_261_159 : decode (wk_M 261).2.2.1 159 = .ok (.iconst (-1), 1) := zd_by (by decide +kernel)
theorem xd_261_160 : decode (wk_M 261).2.2.1 160 = .ok (.goto 9, 3) := zd_by (by decide +kernel)
theorem xd_261_163 : decode (wk_M 261).2.2.1 163 = .ok (.aload_n 0, 1) := zd_by (by decide +kernel)
theorem xd_261_164 : decode (wk_M 261).2.2.1 164 = .ok (.getfield 163, 3) := zd_by (by decide +kernel)
theorem xd_261_167 : decode (wk_M 261).2.2.1 167 = .ok (.iload_n 1, 1) := zd_by (by decide +kernel)
theorem xd_261_168 : decode (wk_M 261).2.2.1 168 = .ok (.iaload, 1) := zd_by (by decide +kernel)
theorem xd_261_169 : decode (wk_M 261).2.2.1 169 = .ok (.ireturn, 1) := zd_by (by decide +kernel)
def LM_261  : Nat → Nat → Int → Int → Int → Int → dc_M → Int → dc_M → Prop
  | 0, _, _, _, _, _, _, _, _ => False
  | c + 1, tag, l1, l2, l3, l4, m, v, m' => match tag with
    | 20 => (((l2 : Int) > l1 ∧ ((0 ≤ (l1 : Int) ∧ (l1 : Int) < 256) ∧ (((((m 165 l1) : Int) < 100 ∧ ((0 ≤ (l1 : Int) ∧ (l1 : Int) < 256) ∧ (v = (m 165 l1) ∧ m' = m))) ∨ (¬ (((m 165 l1) : Int) < 100) ∧ (v = (-1) ∧ m' = m)))))) ∨ (¬ ((l2 : Int) > l1) ∧ (∃ v_74 m_79, D_259 l2 m v_74 m_79 ∧ ((0 ≤ (l2 : Int) ∧ (l2 : Int) < 256) ∧ ∃ m_89, m_89 = dc_up m_79 167 l2 (dc_z v_74) ∧ ((0 ≤ (l2 : Int) ∧ (l2 : Int) < 256) ∧ ∃ m_110, m_110 = dc_up m_89 165 l2 100 ∧ (LM_261  c 52 l1 l2 (sv_g (sv_u l2 &&& sv_u (dc_w (-l2)))) (sv_g (sv_u l2 &&& sv_u (dc_w (-l2)))) m_110 v m'))))))
    | _ => (((l4 : Int) > l2 ∧ (LM_261  c 20 l1 (dc_w (l2 + 1)) 0 0 m v m')) ∨ (¬ ((l4 : Int) > l2) ∧ (((((sv_g (sv_u l4 &&& sv_u (-l2 - 1))) : Int) ≠ 0 ∧ (LM_261  c 52 l1 l2 l3 (dc_w (l4 + 1)) m v m')) ∨ (¬ (((sv_g (sv_u l4 &&& sv_u (-l2 - 1))) : Int) ≠ 0) ∧ (((((sv_g (sv_u l4 &&& sv_u l3)) : Int) = 0 ∧ (LM_261  c 52 l1 l2 l3 (dc_w (l4 + 1)) m v m')) ∨ (¬ (((sv_g (sv_u l4 &&& sv_u l3)) : Int) = 0) ∧ ((0 ≤ (l4 : Int) ∧ (l4 : Int) < 256) ∧ (((((m 167 l4) : Int) = 0 ∧ (LM_261  c 52 l1 l2 l3 (dc_w (l4 + 1)) m v m')) ∨ (¬ (((m 167 l4) : Int) = 0) ∧ ((0 ≤ ((sv_g (sv_u l2 &&& sv_u (-l4 - 1))) : Int) ∧ ((sv_g (sv_u l2 &&& sv_u (-l4 - 1))) : Int) < 256) ∧ ((0 ≤ (l2 : Int) ∧ (l2 : Int) < 256) ∧ (((((dc_w ((m 165 (sv_g (sv_u l2 &&& sv_u (-l4 - 1)))) + 1)) : Int) < (m 165 l2) ∧ ((0 ≤ ((sv_g (sv_u l2 &&& sv_u (-l4 - 1))) : Int) ∧ ((sv_g (sv_u l2 &&& sv_u (-l4 - 1))) : Int) < 256) ∧ ((0 ≤ (l2 : Int) ∧ (l2 : Int) < 256) ∧ ∃ m_360, m_360 = dc_up m 165 l2 (dc_w ((m 165 (sv_g (sv_u l2 &&& sv_u (-l4 - 1)))) + 1)) ∧ ((0 ≤ (l2 : Int) ∧ (l2 : Int) < 256) ∧ ∃ m_381, m_381 = dc_up m_360 166 l2 l4 ∧ (LM_261  c 52 l1 l2 l3 (dc_w (l4 + 1)) m_381 v m'))))) ∨ (¬ (((dc_w ((m 165 (sv_g (sv_u l2 &&& sv_u (-l4 - 1)))) + 1)) : Int) < (m 165 l2)) ∧ (LM_261  c 52 l1 l2 l3 (dc_w (l4 + 1)) m v m'))))))))))))))))))
theorem lm_261_20  {c : Nat} {l1 : Int} {l2 : Int} {l3 : Int} {l4 : Int} {m : dc_M} {v : Int} {m' : dc_M} : LM_261  (c + 1) 20 l1 l2 l3 l4 m v m' ↔ (((l2 : Int) > l1 ∧ ((0 ≤ (l1 : Int) ∧ (l1 : Int) < 256) ∧ (((((m 165 l1) : Int) < 100 ∧ ((0 ≤ (l1 : Int) ∧ (l1 : Int) < 256) ∧ (v = (m 165 l1) ∧ m' = m))) ∨ (¬ (((m 165 l1) : Int) < 100) ∧ (v = (-1) ∧ m' = m)))))) ∨ (¬ ((l2 : Int) > l1) ∧ (∃ v_74 m_79, D_259 l2 m v_74 m_79 ∧ ((0 ≤ (l2 : Int) ∧ (l2 : Int) < 256) ∧ ∃ m_89, m_89 = dc_up m_79 167 l2 (dc_z v_74) ∧ ((0 ≤ (l2 : Int) ∧ (l2 : Int) < 256) ∧ ∃ m_110, m_110 = dc_up m_89 165 l2 100 ∧ (LM_261  c 52 l1 l2 (sv_g (sv_u l2 &&& sv_u (dc_w (-l2)))) (sv_g (sv_u l2 &&& sv_u (dc_w (-l2)))) m_110 v m')))))) := Iff.rfl
theorem lm_261_52  {c : Nat} {l1 : Int} {l2 : Int} {l3 : Int} {l4 : Int} {m : dc_M} {v : Int} {m' : dc_M} : LM_261  (c + 1) 52 l1 l2 l3 l4 m v m' ↔ (((l4 : Int) > l2 ∧ (LM_261  c 20 l1 (dc_w (l2 + 1)) 0 0 m v m')) ∨ (¬ ((l4 : Int) > l2) ∧ (((((sv_g (sv_u l4 &&& sv_u (-l2 - 1))) : Int) ≠ 0 ∧ (LM_261  c 52 l1 l2 l3 (dc_w (l4 + 1)) m v m')) ∨ (¬ (((sv_g (sv_u l4 &&& sv_u (-l2 - 1))) : Int) ≠ 0) ∧ (((((sv_g (sv_u l4 &&& sv_u l3)) : Int) = 0 ∧ (LM_261  c 52 l1 l2 l3 (dc_w (l4 + 1)) m v m')) ∨ (¬ (((sv_g (sv_u l4 &&& sv_u l3)) : Int) = 0) ∧ ((0 ≤ (l4 : Int) ∧ (l4 : Int) < 256) ∧ (((((m 167 l4) : Int) = 0 ∧ (LM_261  c 52 l1 l2 l3 (dc_w (l4 + 1)) m v m')) ∨ (¬ (((m 167 l4) : Int) = 0) ∧ ((0 ≤ ((sv_g (sv_u l2 &&& sv_u (-l4 - 1))) : Int) ∧ ((sv_g (sv_u l2 &&& sv_u (-l4 - 1))) : Int) < 256) ∧ ((0 ≤ (l2 : Int) ∧ (l2 : Int) < 256) ∧ (((((dc_w ((m 165 (sv_g (sv_u l2 &&& sv_u (-l4 - 1)))) + 1)) : Int) < (m 165 l2) ∧ ((0 ≤ ((sv_g (sv_u l2 &&& sv_u (-l4 - 1))) : Int) ∧ ((sv_g (sv_u l2 &&& sv_u (-l4 - 1))) : Int) < 256) ∧ ((0 ≤ (l2 : Int) ∧ (l2 : Int) < 256) ∧ ∃ m_360, m_360 = dc_up m 165 l2 (dc_w ((m 165 (sv_g (sv_u l2 &&& sv_u (-l4 - 1)))) + 1)) ∧ ((0 ≤ (l2 : Int) ∧ (l2 : Int) < 256) ∧ ∃ m_381, m_381 = dc_up m_360 166 l2 l4 ∧ (LM_261  c 52 l1 l2 l3 (dc_w (l4 + 1)) m_381 v m'))))) ∨ (¬ (((dc_w ((m 165 (sv_g (sv_u l2 &&& sv_u (-l4 - 1)))) + 1)) : Int) < (m 165 l2)) ∧ (LM_261  c 52 l1 l2 l3 (dc_w (l4 + 1)) m v m')))))))))))))))))) := Iff.rfl
theorem dl_261   : ∀ N : Nat, (∀ (n : Nat) (lv : ae_L) (h : ae_H) (r : ae_R) (l1 : Int) (l2 : Int), n ≤ N → dc_ok h → sv_I l1 → sv_I l2 → ae_lk lv 0 = some (wk_r 114) → ae_lk lv 1 = some (wk_i l1) → ae_lk lv 2 = some (wk_i l2) → ae_exe n 261 20 0 0 lv [] h = some r → ∃ v, (∃ c, LM_261  c 20 l1 l2 0 0 (dc_m h) v (dc_m r.2)) ∧ r.1 = some (wk_i v) ∧ sv_I v ∧ dc_ok r.2) ∧ (∀ (n : Nat) (lv : ae_L) (h : ae_H) (r : ae_R) (l1 : Int) (l2 : Int) (l3 : Int) (l4 : Int), n ≤ N → dc_ok h → sv_I l1 → sv_I l2 → sv_I l3 → sv_I l4 → ae_lk lv 0 = some (wk_r 114) → ae_lk lv 1 = some (wk_i l1) → ae_lk lv 2 = some (wk_i l2) → ae_lk lv 3 = some (wk_i l3) → ae_lk lv 4 = some (wk_i l4) → ae_exe n 261 52 0 0 lv [] h = some r → ∃ v, (∃ c, LM_261  c 52 l1 l2 l3 l4 (dc_m h) v (dc_m r.2)) ∧ r.1 = some (wk_i v) ∧ sv_I v ∧ dc_ok r.2) := by
  intro N
  induction N with
  | zero =>
    refine ⟨?_, ?_⟩
    · intro n lv h r l1 l2 hn ok il1 il2 q0 q1 q2 hr
      have e : n = 0 := by omega
      subst e
      cases hr
    · intro n lv h r l1 l2 l3 l4 hn ok il1 il2 il3 il4 q0 q1 q2 q3 q4 hr
      have e : n = 0 := by omega
      subst e
      cases hr
  | succ N ih =>
    obtain ⟨ih0, ih1⟩ := ih
    refine ⟨?_, ?_⟩
    · intro n lv h r l1 l2 hn ok il1 il2 q0 q1 q2 hr
      obtain ⟨n_1, e_2, hr_3⟩ := iv_iload_n xm_261 xd_261_20 q2 hr
      obtain ⟨n_4, e_5, hr_6⟩ := iv_iload_n xm_261 xd_261_21 q1 hr_3
      rcases iv_icmp 148 xm_261 xd_261_22 (by decide) il2 il1 hr_6 with ⟨c_7, n_8, e_9, hr_10⟩ | ⟨c_7, n_8, e_9, hr_10⟩
      · obtain ⟨n_11, e_12, hr_13⟩ := iv_aload_n xm_261 xd_261_148 q0 hr_10
        have f_14 := dc_fr (j := 76) ok (rfl : sv_ty 114 = some 12) dt_12 rfl
        obtain ⟨n_15, e_16, hr_17⟩ := iv_getf (j := 76) xm_261 xd_261_149 (by decide +kernel) ok (rfl : sv_ty 114 = some 12) dt_12 f_14 hr_13
        obtain ⟨n_18, e_19, hr_20⟩ := iv_iload_n xm_261 xd_261_152 q1 hr_17
        obtain ⟨q_21, qi_22, n_23, e_24, hr_25⟩ := iv_iald xm_261 xd_261_153 ok (rfl : sv_ty 165 = some 101) dt_101 (by decide) il1 hr_20
        obtain ⟨n_26, e_27, hr_28⟩ := iv_bipush xm_261 xd_261_154 (by decide) hr_25
        rcases iv_icmp 163 xm_261 xd_261_156 (by decide) qi_22 (by unfold sv_I; omega) hr_28 with ⟨c_29, n_30, e_31, hr_32⟩ | ⟨c_29, n_30, e_31, hr_32⟩
        · obtain ⟨n_33, e_34, hr_35⟩ := iv_aload_n xm_261 xd_261_163 q0 hr_32
          have f_36 := dc_fr (j := 76) ok (rfl : sv_ty 114 = some 12) dt_12 rfl
          obtain ⟨n_37, e_38, hr_39⟩ := iv_getf (j := 76) xm_261 xd_261_164 (by decide +kernel) ok (rfl : sv_ty 114 = some 12) dt_12 f_36 hr_35
          obtain ⟨n_40, e_41, hr_42⟩ := iv_iload_n xm_261 xd_261_167 q1 hr_39
          obtain ⟨q_43, qi_44, n_45, e_46, hr_47⟩ := iv_iald xm_261 xd_261_168 ok (rfl : sv_ty 165 = some 101) dt_101 (by decide) il1 hr_42
          have rr_48 := iv_ireturn xm_261 xd_261_169 hr_47
          subst rr_48
          exact ⟨_, ⟨0 + 1, lm_261_20.mpr (Or.inl ⟨c_7, ⟨q_21, Or.inl ⟨c_29, ⟨q_43, ⟨rfl, rfl⟩⟩⟩⟩⟩)⟩, rfl, qi_44, ok⟩
        · obtain ⟨n_49, e_50, hr_51⟩ := iv_iconst xm_261 xd_261_159 (by decide) hr_32
          obtain ⟨n_52, e_53, hr_54⟩ := iv_goto 169 xm_261 xd_261_160 (by decide) hr_51
          have rr_55 := iv_ireturn xm_261 xd_261_169 hr_54
          subst rr_55
          exact ⟨_, ⟨0 + 1, lm_261_20.mpr (Or.inl ⟨c_7, ⟨q_21, Or.inr ⟨c_29, ⟨rfl, rfl⟩⟩⟩⟩)⟩, rfl, (by unfold sv_I; omega), ok⟩
      · obtain ⟨n_56, e_57, hr_58⟩ := iv_aload_n xm_261 xd_261_25 q0 hr_10
        have f_59 := dc_fr (j := 78) ok (rfl : sv_ty 114 = some 12) dt_12 rfl
        obtain ⟨n_60, e_61, hr_62⟩ := iv_getf (j := 78) xm_261 xd_261_26 (by decide +kernel) ok (rfl : sv_ty 114 = some 12) dt_12 f_59 hr_58
        obtain ⟨n_63, e_64, hr_65⟩ := iv_iload_n xm_261 xd_261_29 q2 hr_62
        obtain ⟨n_66, e_67, hr_68⟩ := iv_aload_n xm_261 xd_261_30 q0 hr_65
        obtain ⟨n_69, e_70, hr_71⟩ := iv_iload_n xm_261 xd_261_31 q2 hr_68
        obtain ⟨n_81, r_72, e_82, hc_73, hr_83⟩ := iv_call (Or.inr ⟨rfl, rfl⟩) xm_261 xd_261_32 (by decide +kernel) xm_259 rfl (by decide +kernel) hr_71
        obtain ⟨v_74, d_75, er_76, iv_77, ok_78⟩ := ds_259 _ _ ok il2 hc_73
        obtain ⟨_, h_80⟩ := r_72
        have er_76 : _ = some (wk_i v_74) := er_76
        subst er_76
        have hr_84 : ae_exe n_81 261 (32 + 3) 0 0 lv _ h_80 = some r := hr_83
        obtain ⟨q_85, h_86, ok_87, em_88, n_90, e_91, hr_92⟩ := iv_bastz xm_261 xd_261_35 ok_78 (rfl : sv_ty 167 = some 103) dt_103 (by decide) il2 hr_84
        obtain ⟨n_93, e_94, hr_95⟩ := iv_aload_n xm_261 xd_261_36 q0 hr_92
        have f_96 := dc_fr (j := 76) ok_87 (rfl : sv_ty 114 = some 12) dt_12 rfl
        obtain ⟨n_97, e_98, hr_99⟩ := iv_getf (j := 76) xm_261 xd_261_37 (by decide +kernel) ok_87 (rfl : sv_ty 114 = some 12) dt_12 f_96 hr_95
        obtain ⟨n_100, e_101, hr_102⟩ := iv_iload_n xm_261 xd_261_40 q2 hr_99
        obtain ⟨n_103, e_104, hr_105⟩ := iv_bipush xm_261 xd_261_41 (by decide) hr_102
        obtain ⟨q_106, h_107, ok_108, em_109, n_111, e_112, hr_113⟩ := iv_iast xm_261 xd_261_43 ok_87 (rfl : sv_ty 165 = some 101) dt_101 (by decide) il2 (by unfold sv_I; omega) hr_105
        obtain ⟨n_114, e_115, hr_116⟩ := iv_iload_n xm_261 xd_261_44 q2 hr_113
        obtain ⟨n_117, e_118, hr_119⟩ := iv_iload_n xm_261 xd_261_45 q2 hr_116
        obtain ⟨n_120, e_121, hr_122⟩ := iw_ineg xm_261 xd_261_46 hr_119
        obtain ⟨n_123, e_124, hr_125⟩ := iv_iand xm_261 xd_261_47 hr_122
        obtain ⟨lv_127, sl_126, n_128, e_129, hr_130⟩ := iv_istore_n xm_261 xd_261_48 (by decide +kernel) hr_125
        have l_131 := sl_126.2 0 _ q0 (by decide) (Or.inl rfl)
        have l_132 := sl_126.2 1 _ q1 (by decide) (Or.inl rfl)
        have l_133 := sl_126.2 2 _ q2 (by decide) (Or.inl rfl)
        have l_134 := sl_126.1
        obtain ⟨n_135, e_136, hr_137⟩ := iv_iload_n xm_261 xd_261_49 l_134 hr_130
        obtain ⟨lv_139, sl_138, n_140, e_141, hr_142⟩ := iv_istore xm_261 xd_261_50 (by decide +kernel) hr_137
        have l_143 := sl_138.2 0 _ l_131 (by decide) (Or.inl rfl)
        have l_144 := sl_138.2 1 _ l_132 (by decide) (Or.inl rfl)
        have l_145 := sl_138.2 2 _ l_133 (by decide) (Or.inl rfl)
        have l_146 := sl_138.2 3 _ l_134 (by decide) (Or.inl rfl)
        have l_147 := sl_138.1
        obtain ⟨v, ⟨c, hL⟩, e1, e2, e3⟩ := ih1 _ lv_139 h_107 _ _ _ _ _ (by omega) ok_108 il1 il2 (sv_g_I (Nat.lt_of_le_of_lt Nat.and_le_right (sv_u_lt _))) (sv_g_I (Nat.lt_of_le_of_lt Nat.and_le_right (sv_u_lt _))) l_143 l_144 l_145 l_146 l_147 hr_142
        exact ⟨v, ⟨c + 1, lm_261_20.mpr (Or.inr ⟨c_7, ⟨_, _, d_75, ⟨q_85, _, em_88, ⟨q_106, _, em_109, hL⟩⟩⟩⟩)⟩, e1, e2, e3⟩
    · intro n lv h r l1 l2 l3 l4 hn ok il1 il2 il3 il4 q0 q1 q2 q3 q4 hr
      obtain ⟨n_148, e_149, hr_150⟩ := iv_iload xm_261 xd_261_52 q4 hr
      obtain ⟨n_151, e_152, hr_153⟩ := iv_iload_n xm_261 xd_261_54 q2 hr_150
      rcases iv_icmp 142 xm_261 xd_261_55 (by decide) il4 il2 hr_153 with ⟨c_154, n_155, e_156, hr_157⟩ | ⟨c_154, n_155, e_156, hr_157⟩
      · obtain ⟨lv_159, sl_158, n_160, e_161, hr_162⟩ := iw_iinc xm_261 xd_261_142 (by decide +kernel) (by decide) q2 hr_157
        have l_163 := sl_158.2 0 _ q0 (by decide) (Or.inl rfl)
        have l_164 := sl_158.2 1 _ q1 (by decide) (Or.inl rfl)
        have l_165 := sl_158.2 3 _ q3 (by decide) (Or.inl rfl)
        have l_166 := sl_158.2 4 _ q4 (by decide) (Or.inl rfl)
        have l_167 := sl_158.1
        obtain ⟨n_168, e_169, hr_170⟩ := iv_goto 20 xm_261 xd_261_145 (by decide) hr_162
        obtain ⟨v, ⟨c, hL⟩, e1, e2, e3⟩ := ih0 _ lv_159 h _ _ _ (by omega) ok il1 (dc_w_I _) l_163 l_164 l_167 hr_170
        exact ⟨v, ⟨c + 1, lm_261_52.mpr (Or.inl ⟨c_154, hL⟩)⟩, e1, e2, e3⟩
      · obtain ⟨n_171, e_172, hr_173⟩ := iv_iload xm_261 xd_261_58 q4 hr_157
        obtain ⟨n_174, e_175, hr_176⟩ := iv_iload_n xm_261 xd_261_60 q2 hr_173
        obtain ⟨n_177, e_178, hr_179⟩ := iv_iconst xm_261 xd_261_61 (by decide) hr_176
        obtain ⟨n_180, e_181, hr_182⟩ := iv_inot xm_261 xd_261_62 hr_179
        obtain ⟨n_183, e_184, hr_185⟩ := iv_iand xm_261 xd_261_63 hr_182
        rcases iv_if 136 xm_261 xd_261_64 (by decide) (sv_g_I (Nat.lt_of_le_of_lt Nat.and_le_right (sv_u_lt _))) hr_185 with ⟨c_186, n_187, e_188, hr_189⟩ | ⟨c_186, n_187, e_188, hr_189⟩
        · obtain ⟨lv_191, sl_190, n_192, e_193, hr_194⟩ := iw_iinc xm_261 xd_261_136 (by decide +kernel) (by decide) q4 hr_189
          have l_195 := sl_190.2 0 _ q0 (by decide) (Or.inl rfl)
          have l_196 := sl_190.2 1 _ q1 (by decide) (Or.inl rfl)
          have l_197 := sl_190.2 2 _ q2 (by decide) (Or.inl rfl)
          have l_198 := sl_190.2 3 _ q3 (by decide) (Or.inl rfl)
          have l_199 := sl_190.1
          obtain ⟨n_200, e_201, hr_202⟩ := iv_goto 52 xm_261 xd_261_139 (by decide) hr_194
          obtain ⟨v, ⟨c, hL⟩, e1, e2, e3⟩ := ih1 _ lv_191 h _ _ _ _ _ (by omega) ok il1 il2 il3 (dc_w_I _) l_195 l_196 l_197 l_198 l_199 hr_202
          exact ⟨v, ⟨c + 1, lm_261_52.mpr (Or.inr ⟨c_154, Or.inl ⟨c_186, hL⟩⟩)⟩, e1, e2, e3⟩
        · obtain ⟨n_203, e_204, hr_205⟩ := iv_iload xm_261 xd_261_67 q4 hr_189
          obtain ⟨n_206, e_207, hr_208⟩ := iv_iload_n xm_261 xd_261_69 q3 hr_205
          obtain ⟨n_209, e_210, hr_211⟩ := iv_iand xm_261 xd_261_70 hr_208
          rcases iv_if 136 xm_261 xd_261_71 (by decide) (sv_g_I (Nat.lt_of_le_of_lt Nat.and_le_right (sv_u_lt _))) hr_211 with ⟨c_212, n_213, e_214, hr_215⟩ | ⟨c_212, n_213, e_214, hr_215⟩
          · obtain ⟨lv_217, sl_216, n_218, e_219, hr_220⟩ := iw_iinc xm_261 xd_261_136 (by decide +kernel) (by decide) q4 hr_215
            have l_221 := sl_216.2 0 _ q0 (by decide) (Or.inl rfl)
            have l_222 := sl_216.2 1 _ q1 (by decide) (Or.inl rfl)
            have l_223 := sl_216.2 2 _ q2 (by decide) (Or.inl rfl)
            have l_224 := sl_216.2 3 _ q3 (by decide) (Or.inl rfl)
            have l_225 := sl_216.1
            obtain ⟨n_226, e_227, hr_228⟩ := iv_goto 52 xm_261 xd_261_139 (by decide) hr_220
            obtain ⟨v, ⟨c, hL⟩, e1, e2, e3⟩ := ih1 _ lv_217 h _ _ _ _ _ (by omega) ok il1 il2 il3 (dc_w_I _) l_221 l_222 l_223 l_224 l_225 hr_228
            exact ⟨v, ⟨c + 1, lm_261_52.mpr (Or.inr ⟨c_154, Or.inr ⟨c_186, Or.inl ⟨c_212, hL⟩⟩⟩)⟩, e1, e2, e3⟩
          · obtain ⟨n_229, e_230, hr_231⟩ := iv_aload_n xm_261 xd_261_74 q0 hr_215
            have f_232 := dc_fr (j := 78) ok (rfl : sv_ty 114 = some 12) dt_12 rfl
            obtain ⟨n_233, e_234, hr_235⟩ := iv_getf (j := 78) xm_261 xd_261_75 (by decide +kernel) ok (rfl : sv_ty 114 = some 12) dt_12 f_232 hr_231
            obtain ⟨n_236, e_237, hr_238⟩ := iv_iload xm_261 xd_261_78 q4 hr_235
            obtain ⟨q_239, qi_240, n_241, e_242, hr_243⟩ := iv_bald xm_261 xd_261_80 ok (rfl : sv_ty 167 = some 103) dt_103 (Or.inr rfl) (by decide) il4 hr_238
            rcases iv_if 136 xm_261 xd_261_81 (by decide) qi_240 hr_243 with ⟨c_244, n_245, e_246, hr_247⟩ | ⟨c_244, n_245, e_246, hr_247⟩
            · obtain ⟨lv_249, sl_248, n_250, e_251, hr_252⟩ := iw_iinc xm_261 xd_261_136 (by decide +kernel) (by decide) q4 hr_247
              have l_253 := sl_248.2 0 _ q0 (by decide) (Or.inl rfl)
              have l_254 := sl_248.2 1 _ q1 (by decide) (Or.inl rfl)
              have l_255 := sl_248.2 2 _ q2 (by decide) (Or.inl rfl)
              have l_256 := sl_248.2 3 _ q3 (by decide) (Or.inl rfl)
              have l_257 := sl_248.1
              obtain ⟨n_258, e_259, hr_260⟩ := iv_goto 52 xm_261 xd_261_139 (by decide) hr_252
              obtain ⟨v, ⟨c, hL⟩, e1, e2, e3⟩ := ih1 _ lv_249 h _ _ _ _ _ (by omega) ok il1 il2 il3 (dc_w_I _) l_253 l_254 l_255 l_256 l_257 hr_260
              exact ⟨v, ⟨c + 1, lm_261_52.mpr (Or.inr ⟨c_154, Or.inr ⟨c_186, Or.inr ⟨c_212, ⟨q_239, Or.inl ⟨c_244, hL⟩⟩⟩⟩⟩)⟩, e1, e2, e3⟩
            · obtain ⟨n_261, e_262, hr_263⟩ := iv_aload_n xm_261 xd_261_84 q0 hr_247
              have f_264 := dc_fr (j := 76) ok (rfl : sv_ty 114 = some 12) dt_12 rfl
              obtain ⟨n_265, e_266, hr_267⟩ := iv_getf (j := 76) xm_261 xd_261_85 (by decide +kernel) ok (rfl : sv_ty 114 = some 12) dt_12 f_264 hr_263
              obtain ⟨n_268, e_269, hr_270⟩ := iv_iload_n xm_261 xd_261_88 q2 hr_267
              obtain ⟨n_271, e_272, hr_273⟩ := iv_iload xm_261 xd_261_89 q4 hr_270
              obtain ⟨n_274, e_275, hr_276⟩ := iv_iconst xm_261 xd_261_91 (by decide) hr_273
              obtain ⟨n_277, e_278, hr_279⟩ := iv_inot xm_261 xd_261_92 hr_276
              obtain ⟨n_280, e_281, hr_282⟩ := iv_iand xm_261 xd_261_93 hr_279
              obtain ⟨q_283, qi_284, n_285, e_286, hr_287⟩ := iv_iald xm_261 xd_261_94 ok (rfl : sv_ty 165 = some 101) dt_101 (by decide) (sv_g_I (Nat.lt_of_le_of_lt Nat.and_le_right (sv_u_lt _))) hr_282
              obtain ⟨n_288, e_289, hr_290⟩ := iv_iconst xm_261 xd_261_95 (by decide) hr_287
              obtain ⟨n_291, e_292, hr_293⟩ := iw_iadd xm_261 xd_261_96 hr_290
              obtain ⟨n_294, e_295, hr_296⟩ := iv_aload_n xm_261 xd_261_97 q0 hr_293
              have f_297 := dc_fr (j := 76) ok (rfl : sv_ty 114 = some 12) dt_12 rfl
              obtain ⟨n_298, e_299, hr_300⟩ := iv_getf (j := 76) xm_261 xd_261_98 (by decide +kernel) ok (rfl : sv_ty 114 = some 12) dt_12 f_297 hr_296
              obtain ⟨n_301, e_302, hr_303⟩ := iv_iload_n xm_261 xd_261_101 q2 hr_300
              obtain ⟨q_304, qi_305, n_306, e_307, hr_308⟩ := iv_iald xm_261 xd_261_102 ok (rfl : sv_ty 165 = some 101) dt_101 (by decide) il2 hr_303
              rcases iv_icmp 109 xm_261 xd_261_103 (by decide) (dc_w_I _) qi_305 hr_308 with ⟨c_309, n_310, e_311, hr_312⟩ | ⟨c_309, n_310, e_311, hr_312⟩
              · obtain ⟨n_313, e_314, hr_315⟩ := iv_aload_n xm_261 xd_261_109 q0 hr_312
                have f_316 := dc_fr (j := 76) ok (rfl : sv_ty 114 = some 12) dt_12 rfl
                obtain ⟨n_317, e_318, hr_319⟩ := iv_getf (j := 76) xm_261 xd_261_110 (by decide +kernel) ok (rfl : sv_ty 114 = some 12) dt_12 f_316 hr_315
                obtain ⟨n_320, e_321, hr_322⟩ := iv_iload_n xm_261 xd_261_113 q2 hr_319
                obtain ⟨n_323, e_324, hr_325⟩ := iv_aload_n xm_261 xd_261_114 q0 hr_322
                have f_326 := dc_fr (j := 76) ok (rfl : sv_ty 114 = some 12) dt_12 rfl
                obtain ⟨n_327, e_328, hr_329⟩ := iv_getf (j := 76) xm_261 xd_261_115 (by decide +kernel) ok (rfl : sv_ty 114 = some 12) dt_12 f_326 hr_325
                obtain ⟨n_330, e_331, hr_332⟩ := iv_iload_n xm_261 xd_261_118 q2 hr_329
                obtain ⟨n_333, e_334, hr_335⟩ := iv_iload xm_261 xd_261_119 q4 hr_332
                obtain ⟨n_336, e_337, hr_338⟩ := iv_iconst xm_261 xd_261_121 (by decide) hr_335
                obtain ⟨n_339, e_340, hr_341⟩ := iv_inot xm_261 xd_261_122 hr_338
                obtain ⟨n_342, e_343, hr_344⟩ := iv_iand xm_261 xd_261_123 hr_341
                obtain ⟨q_345, qi_346, n_347, e_348, hr_349⟩ := iv_iald xm_261 xd_261_124 ok (rfl : sv_ty 165 = some 101) dt_101 (by decide) (sv_g_I (Nat.lt_of_le_of_lt Nat.and_le_right (sv_u_lt _))) hr_344
                obtain ⟨n_350, e_351, hr_352⟩ := iv_iconst xm_261 xd_261_125 (by decide) hr_349
                obtain ⟨n_353, e_354, hr_355⟩ := iw_iadd xm_261 xd_261_126 hr_352
                obtain ⟨q_356, h_357, ok_358, em_359, n_361, e_362, hr_363⟩ := iv_iast xm_261 xd_261_127 ok (rfl : sv_ty 165 = some 101) dt_101 (by decide) il2 (dc_w_I _) hr_355
                obtain ⟨n_364, e_365, hr_366⟩ := iv_aload_n xm_261 xd_261_128 q0 hr_363
                have f_367 := dc_fr (j := 77) ok_358 (rfl : sv_ty 114 = some 12) dt_12 rfl
                obtain ⟨n_368, e_369, hr_370⟩ := iv_getf (j := 77) xm_261 xd_261_129 (by decide +kernel) ok_358 (rfl : sv_ty 114 = some 12) dt_12 f_367 hr_366
                obtain ⟨n_371, e_372, hr_373⟩ := iv_iload_n xm_261 xd_261_132 q2 hr_370
                obtain ⟨n_374, e_375, hr_376⟩ := iv_iload xm_261 xd_261_133 q4 hr_373
                obtain ⟨q_377, h_378, ok_379, em_380, n_382, e_383, hr_384⟩ := iv_iast xm_261 xd_261_135 ok_358 (rfl : sv_ty 166 = some 102) dt_102 (by decide) il2 il4 hr_376
                obtain ⟨lv_386, sl_385, n_387, e_388, hr_389⟩ := iw_iinc xm_261 xd_261_136 (by decide +kernel) (by decide) q4 hr_384
                have l_390 := sl_385.2 0 _ q0 (by decide) (Or.inl rfl)
                have l_391 := sl_385.2 1 _ q1 (by decide) (Or.inl rfl)
                have l_392 := sl_385.2 2 _ q2 (by decide) (Or.inl rfl)
                have l_393 := sl_385.2 3 _ q3 (by decide) (Or.inl rfl)
                have l_394 := sl_385.1
                obtain ⟨n_395, e_396, hr_397⟩ := iv_goto 52 xm_261 xd_261_139 (by decide) hr_389
                obtain ⟨v, ⟨c, hL⟩, e1, e2, e3⟩ := ih1 _ lv_386 h_378 _ _ _ _ _ (by omega) ok_379 il1 il2 il3 (dc_w_I _) l_390 l_391 l_392 l_393 l_394 hr_397
                exact ⟨v, ⟨c + 1, lm_261_52.mpr (Or.inr ⟨c_154, Or.inr ⟨c_186, Or.inr ⟨c_212, ⟨q_239, Or.inr ⟨c_244, ⟨q_283, ⟨q_304, Or.inl ⟨c_309, ⟨q_345, ⟨q_356, _, em_359, ⟨q_377, _, em_380, hL⟩⟩⟩⟩⟩⟩⟩⟩⟩⟩⟩)⟩, e1, e2, e3⟩
              · obtain ⟨n_398, e_399, hr_400⟩ := iv_goto 136 xm_261 xd_261_106 (by decide) hr_312
                obtain ⟨lv_402, sl_401, n_403, e_404, hr_405⟩ := iw_iinc xm_261 xd_261_136 (by decide +kernel) (by decide) q4 hr_400
                have l_406 := sl_401.2 0 _ q0 (by decide) (Or.inl rfl)
                have l_407 := sl_401.2 1 _ q1 (by decide) (Or.inl rfl)
                have l_408 := sl_401.2 2 _ q2 (by decide) (Or.inl rfl)
                have l_409 := sl_401.2 3 _ q3 (by decide) (Or.inl rfl)
                have l_410 := sl_401.1
                obtain ⟨n_411, e_412, hr_413⟩ := iv_goto 52 xm_261 xd_261_139 (by decide) hr_405
                obtain ⟨v, ⟨c, hL⟩, e1, e2, e3⟩ := ih1 _ lv_402 h _ _ _ _ _ (by omega) ok il1 il2 il3 (dc_w_I _) l_406 l_407 l_408 l_409 l_410 hr_413
                exact ⟨v, ⟨c + 1, lm_261_52.mpr (Or.inr ⟨c_154, Or.inr ⟨c_186, Or.inr ⟨c_212, ⟨q_239, Or.inr ⟨c_244, ⟨q_283, ⟨q_304, Or.inr ⟨c_309, hL⟩⟩⟩⟩⟩⟩⟩⟩)⟩, e1, e2, e3⟩
abbrev D_261  (m : dc_M) (v : Int) (m' : dc_M) : Prop := (0 ≤ (0 : Int) ∧ (0 : Int) < 2) ∧ ((0 ≤ (0 : Int) ∧ (0 : Int) < 256) ∧ ∃ m_465, m_465 = dc_up m 165 0 0 ∧ (∃ c, LM_261  c 20 (dc_w ((sv_g (ae_shl (sv_u 1) (sv_u (m 155 0)))) - 1)) 1 0 0 m_465 v m'))
theorem ds_261 (n : Nat)  {h : ae_H} {r : ae_R} (ok : dc_ok h)  (hr : ae_exe n 261 0 0 0 (ae_args [wk_r 114] 0) [] h = some r) : ∃ v, D_261  (dc_m h) v (dc_m r.2) ∧ r.1 = some (wk_i v) ∧ sv_I v ∧ dc_ok r.2 := by
  have q0 : ae_lk (ae_args [wk_r 114] 0) 0 = some (wk_r 114) := rfl
  obtain ⟨n_414, e_415, hr_416⟩ := iv_iconst xm_261 xd_261_0 (by decide) hr
  obtain ⟨n_417, e_418, hr_419⟩ := iv_aload_n xm_261 xd_261_1 q0 hr_416
  have f_420 := dc_fr (j := 66) ok (rfl : sv_ty 114 = some 12) dt_12 rfl
  obtain ⟨n_421, e_422, hr_423⟩ := iv_getf (j := 66) xm_261 xd_261_2 (by decide +kernel) ok (rfl : sv_ty 114 = some 12) dt_12 f_420 hr_419
  obtain ⟨n_424, e_425, hr_426⟩ := iv_iconst xm_261 xd_261_5 (by decide) hr_423
  obtain ⟨q_427, qi_428, n_429, e_430, hr_431⟩ := iv_iald xm_261 xd_261_6 ok (rfl : sv_ty 155 = some 92) dt_92 (by decide) (by unfold sv_I; omega) hr_426
  obtain ⟨n_432, e_433, hr_434⟩ := iv_ibin (f := ae_shl) (Or.inr (Or.inl ⟨rfl, rfl⟩)) (Nat.mod_lt _ (by decide)) xm_261 xd_261_7 hr_431
  obtain ⟨n_435, e_436, hr_437⟩ := iv_iconst xm_261 xd_261_8 (by decide) hr_434
  obtain ⟨n_438, e_439, hr_440⟩ := iw_isub xm_261 xd_261_9 hr_437
  obtain ⟨lv_442, sl_441, n_443, e_444, hr_445⟩ := iv_istore_n xm_261 xd_261_10 (by decide +kernel) hr_440
  have l_446 := sl_441.2 0 _ q0 (by decide) (Or.inl rfl)
  have l_447 := sl_441.1
  obtain ⟨n_448, e_449, hr_450⟩ := iv_aload_n xm_261 xd_261_11 l_446 hr_445
  have f_451 := dc_fr (j := 76) ok (rfl : sv_ty 114 = some 12) dt_12 rfl
  obtain ⟨n_452, e_453, hr_454⟩ := iv_getf (j := 76) xm_261 xd_261_12 (by decide +kernel) ok (rfl : sv_ty 114 = some 12) dt_12 f_451 hr_450
  obtain ⟨n_455, e_456, hr_457⟩ := iv_iconst xm_261 xd_261_15 (by decide) hr_454
  obtain ⟨n_458, e_459, hr_460⟩ := iv_iconst xm_261 xd_261_16 (by decide) hr_457
  obtain ⟨q_461, h_462, ok_463, em_464, n_466, e_467, hr_468⟩ := iv_iast xm_261 xd_261_17 ok (rfl : sv_ty 165 = some 101) dt_101 (by decide) (by unfold sv_I; omega) (by unfold sv_I; omega) hr_460
  obtain ⟨n_469, e_470, hr_471⟩ := iv_iconst xm_261 xd_261_18 (by decide) hr_468
  obtain ⟨lv_473, sl_472, n_474, e_475, hr_476⟩ := iv_istore_n xm_261 xd_261_19 (by decide +kernel) hr_471
  have l_477 := sl_472.2 0 _ l_446 (by decide) (Or.inl rfl)
  have l_478 := sl_472.2 1 _ l_447 (by decide) (Or.inl rfl)
  have l_479 := sl_472.1
  obtain ⟨v, ⟨c, hL⟩, e1, e2, e3⟩ := (dl_261  _).1 _ lv_473 h_462 _ _ _ (Nat.le_refl _) ok_463 (dc_w_I _) (by unfold sv_I; omega) l_477 l_478 l_479 hr_476
  exact ⟨v, ⟨q_427, ⟨q_461, _, em_464, ⟨_, hL⟩⟩⟩, e1, e2, e3⟩
/-! method 262 -/
theorem xm_262 : ae_m 262 = some (wk_M 262) := rfl
theorem xd_262_0 : decode (wk_M 262).2.2.1 0 = .ok (.aload_n 0, 1) := zd_by (by decide +kernel)
theorem xd_262_1 : decode (wk_M 262).2.2.1 1 = .ok (.iconst 0, 1) := zd_by (by decide +kernel)
theorem xd_262_2 : decode (wk_M 262).2.2.1 2 = .ok (.putfield 190, 3) := zd_by (by decide +kernel)
theorem xd_262_5 : decode (wk_M 262).2.2.1 5 = .ok (.aload_n 0, 1) := zd_by (by decide +kernel)
theorem xd_262_6 : decode (wk_M 262).2.2.1 6 = .ok (.invokevirtual 512, 3) := zd_by (by decide +kernel)
theorem xd_262_9 : decode (wk_M 262).2.2.1 9 = .ok (.ireturn, 1) := zd_by (by decide +kernel)
abbrev D_262  (m : dc_M) (v : Int) (m' : dc_M) : Prop := ∃ m_10, m_10 = dc_up m 114 0 0 ∧ (∃ v_19 m_24, D_261 m_10 v_19 m_24 ∧ (v = v_19 ∧ m' = m_24))
theorem ds_262 (n : Nat)  {h : ae_H} {r : ae_R} (ok : dc_ok h)  (hr : ae_exe n 262 0 0 0 (ae_args [wk_r 114] 0) [] h = some r) : ∃ v, D_262  (dc_m h) v (dc_m r.2) ∧ r.1 = some (wk_i v) ∧ sv_I v ∧ dc_ok r.2 := by
  have q0 : ae_lk (ae_args [wk_r 114] 0) 0 = some (wk_r 114) := rfl
  obtain ⟨n_1, e_2, hr_3⟩ := iv_aload_n xm_262 xd_262_0 q0 hr
  obtain ⟨n_4, e_5, hr_6⟩ := iv_iconst xm_262 xd_262_1 (by decide) hr_3
  obtain ⟨h_7, ok_8, em_9, n_11, e_12, hr_13⟩ := iv_puti (j := 0) (fk := 0) xm_262 xd_262_2 (by decide +kernel) ok (rfl : sv_ty 114 = some 12) dt_12 rfl (by decide +kernel) rfl (by unfold sv_I; omega) hr_6
  obtain ⟨n_14, e_15, hr_16⟩ := iv_aload_n xm_262 xd_262_5 q0 hr_13
  obtain ⟨n_26, r_17, e_27, hc_18, hr_28⟩ := iv_call (Or.inr ⟨rfl, rfl⟩) xm_262 xd_262_6 (by decide +kernel) xm_261 rfl (by decide +kernel) hr_16
  obtain ⟨v_19, d_20, er_21, iv_22, ok_23⟩ := ds_261 _  ok_8 hc_18
  obtain ⟨_, h_25⟩ := r_17
  have er_21 : _ = some (wk_i v_19) := er_21
  subst er_21
  have hr_29 : ae_exe n_26 262 (6 + 3) 0 0 (ae_args [wk_r 114] 0) _ h_25 = some r := hr_28
  have rr_30 := iv_ireturn xm_262 xd_262_9 hr_29
  subst rr_30
  exact ⟨_, ⟨_, em_9, ⟨_, _, d_20, ⟨rfl, rfl⟩⟩⟩, rfl, iv_22, ok_23⟩
/-! method 263 -/
theorem xm_263 : ae_m 263 = some (wk_M 263) := rfl
theorem xd_263_0 : decode (wk_M 263).2.2.1 0 = .ok (.aload_n 0, 1) := zd_by (by decide +kernel)
theorem xd_263_1 : decode (wk_M 263).2.2.1 1 = .ok (.invokevirtual 512, 3) := zd_by (by decide +kernel)
theorem xd_263_4 : decode (wk_M 263).2.2.1 4 = .ok (.istore_n 2, 1) := zd_by (by decide +kernel)
theorem xd_263_5 : decode (wk_M 263).2.2.1 5 = .ok (.iload_n 1, 1) := zd_by (by decide +kernel)
theorem xd_263_6 : decode (wk_M 263).2.2.1 6 = .ok (.iconst 0, 1) := zd_by (by decide +kernel)
theorem xd_263_7 : decode (wk_M 263).2.2.1 7 = .ok (.iload_n 2, 1) := zd_by (by decide +kernel)
theorem xd_263_8 : decode (wk_M 263).2.2.1 8 = .ok (.iconst 1, 1) := zd_by (by decide +kernel)
theorem xd_263_9 : decode (wk_M 263).2.2.1 9 = .ok (.isub, 1) := zd_by (by decide +kernel)
theorem xd_263_10 : decode (wk_M 263).2.2.1 10 = .ok (.invokestatic 207, 3) := zd_by (by decide +kernel)
theorem xd_263_13 : decode (wk_M 263).2.2.1 13 = .ok (.ifCond .ne 5, 3) := zd_by (by decide +kernel)
theorem xd_263_16 : decode (wk_M 263).2.2.1 16 = .ok (.iconst (-1), 1) := zd_by (by decide +kernel)
theorem xd_263_17 : decode (wk_M 263).2.2.1 17 = .ok (.ireturn, 1) := zd_by (by decide +kernel)
theorem xd_263_18 : decode (wk_M 263).2.2.1 18 = .ok (.iconst 1, 1) := zd_by (by decide +kernel)
theorem xd_263_19 : decode (wk_M 263).2.2.1 19 = .ok (.aload_n 0, 1) := zd_by (by decide +kernel)
theorem xd_263_20 : decode (wk_M 263).2.2.1 20 = .ok (.getfield 133, 3) := zd_by (by decide +kernel)
theorem xd_263_23 : decode (wk_M 263).2.2.1 23 = .ok (.iconst 0, 1) := zd_by (by decide +kernel)
theorem xd_263_24 : decode (wk_M 263).2.2.1 24 = .ok (.iaload, 1) := zd_by (by decide +kernel)
theorem xd_263_25 : decode (wk_M 263).2.2.1 25 = .ok (.ishl, 1) := zd_by (by decide +kernel)
theorem xd_263_26 : decode (wk_M 263).2.2.1 26 = .ok (.iconst 1, 1) := zd_by (by decide +kernel)
theorem xd_263_27 : decode (wk_M 263).2.2.1 27 = .ok (.isub, 1) := zd_by (by decide +kernel)
theorem xd_263_28 : decode (wk_M 263).2.2.1 28 = .ok (.istore_n 3, 1) := zd_by (by decide +kernel)
theorem xd_263_29 : decode (wk_M 263).2.2.1 29 = .ok (.iconst 0, 1) := zd_by (by decide +kernel)
theorem xd_263_30 : decode (wk_M 263).2.2.1 30 = .ok (.istore 4, 2) := zd_by (by decide +kernel)
theorem xd_263_32 : decode (wk_M 263).2.2.1 32 = .ok (.iload 4, 2) := zd_by (by decide +kernel)
theorem xd_263_34 : decode (wk_M 263).2.2.1 34 = .ok (.iload_n 1, 1) := zd_by (by decide +kernel)
theorem xd_263_35 : decode (wk_M 263).2.2.1 35 = .ok (.if_icmp .ge 20, 3) := zd_by (by decide +kernel)
theorem xd_263_38 : decode (wk_M 263).2.2.1 38 = .ok (.iload_n 3, 1) := zd_by (by decide +kernel)
theorem xd_263_39 : decode (wk_M 263).2.2.1 39 = .ok (.aload_n 0, 1) := zd_by (by decide +kernel)
theorem xd_263_40 : decode (wk_M 263).2.2.1 40 = .ok (.getfield 166, 3) := zd_by (by decide +kernel)
theorem xd_263_43 : decode (wk_M 263).2.2.1 43 = .ok (.iload_n 3, 1) := zd_by (by decide +kernel)
theorem xd_263_44 : decode (wk_M 263).2.2.1 44 = .ok (.iaload, 1) := zd_by (by decide +kernel)
theorem xd_263_45 : decode (wk_M 263).2.2.1 45 = .ok (.iconst (-1), 1) := zd_by (by decide +kernel)
theorem xd_263_46 : decode (wk_M 263).2.2.1 46 = .ok (.ixor, 1) := zd_by (by decide +kernel)
theorem xd_263_47 : decode (wk_M 263).2.2.1 47 = .ok (.iand, 1) := zd_by (by decide +kernel)
theorem xd_263_48 : decode (wk_M 263).2.2.1 48 = .ok (.istore_n 3, 1) := zd_by (by decide +kernel)
theorem xd_263_49 : decode (wk_M 263).2.2.1 49 = .ok (.iinc 4 1, 3) := zd_by (by decide +kernel)
theorem xd_263_52 : decode (wk_M 263).2.2.1 52 = .ok (.goto (-20), 3) := zd_by (by decide +kernel)
theorem xd_263_55 : decode (wk_M 263).2.2.1 55 = .ok (.aload_n 0, 1) := zd_by (by decide +kernel)
theorem xd_263_56 : decode (wk_M 263).2.2.1 56 = .ok (.getfield 166, 3) := zd_by (by decide +kernel)
theorem xd_263_59 : decode (wk_M 263).2.2.1 59 = .ok (.iload_n 3, 1) := zd_by (by decide +kernel)
theorem xd_263_60 : decode (wk_M 263).2.2.1 60 = .ok (.iaload, 1) := zd_by (by decide +kernel)
theorem xd_263_61 : decode (wk_M 263).2.2.1 61 = .ok (.ireturn, 1) := zd_by (by decide +kernel)
def LM_263 (x0 : Int) : Nat → Nat → Int → Int → Int → dc_M → Int → dc_M → Prop
  | 0, _, _, _, _, _, _, _ => False
  | c + 1, tag, l2, l3, l4, m, v, m' => match tag with
    | _ => (((l4 : Int) ≥ x0 ∧ ((0 ≤ (l3 : Int) ∧ (l3 : Int) < 256) ∧ (v = (m 166 l3) ∧ m' = m))) ∨ (¬ ((l4 : Int) ≥ x0) ∧ ((0 ≤ (l3 : Int) ∧ (l3 : Int) < 256) ∧ (LM_263 x0 c 32 l2 (sv_g (sv_u l3 &&& sv_u (-(m 166 l3) - 1))) (dc_w (l4 + 1)) m v m'))))
theorem lm_263_32 {x0 : Int} {c : Nat} {l2 : Int} {l3 : Int} {l4 : Int} {m : dc_M} {v : Int} {m' : dc_M} : LM_263 x0 (c + 1) 32 l2 l3 l4 m v m' ↔ (((l4 : Int) ≥ x0 ∧ ((0 ≤ (l3 : Int) ∧ (l3 : Int) < 256) ∧ (v = (m 166 l3) ∧ m' = m))) ∨ (¬ ((l4 : Int) ≥ x0) ∧ ((0 ≤ (l3 : Int) ∧ (l3 : Int) < 256) ∧ (LM_263 x0 c 32 l2 (sv_g (sv_u l3 &&& sv_u (-(m 166 l3) - 1))) (dc_w (l4 + 1)) m v m')))) := Iff.rfl
theorem dl_263 {x0 : Int} (ix0 : sv_I x0) : ∀ N : Nat, (∀ (n : Nat) (lv : ae_L) (h : ae_H) (r : ae_R) (l2 : Int) (l3 : Int) (l4 : Int), n ≤ N → dc_ok h → sv_I l2 → sv_I l3 → sv_I l4 → ae_lk lv 0 = some (wk_r 114) → ae_lk lv 1 = some (wk_i x0) → ae_lk lv 2 = some (wk_i l2) → ae_lk lv 3 = some (wk_i l3) → ae_lk lv 4 = some (wk_i l4) → ae_exe n 263 32 0 0 lv [] h = some r → ∃ v, (∃ c, LM_263 x0 c 32 l2 l3 l4 (dc_m h) v (dc_m r.2)) ∧ r.1 = some (wk_i v) ∧ sv_I v ∧ dc_ok r.2) := by
  intro N
  induction N with
  | zero =>
    exact fun n lv h r l2 l3 l4 hn ok il2 il3 il4 q0 q1 q2 q3 q4 hr => by
      have e : n = 0 := by omega
      subst e
      cases hr
  | succ N ih =>
    have ih0 := ih
    intro n lv h r l2 l3 l4 hn ok il2 il3 il4 q0 q1 q2 q3 q4 hr
    obtain ⟨n_1, e_2, hr_3⟩ := iv_iload xm_263 xd_263_32 q4 hr
    obtain ⟨n_4, e_5, hr_6⟩ := iv_iload_n xm_263 xd_263_34 q1 hr_3
    rcases iv_icmp 55 xm_263 xd_263_35 (by decide) il4 ix0 hr_6 with ⟨c_7, n_8, e_9, hr_10⟩ | ⟨c_7, n_8, e_9, hr_10⟩
    · obtain ⟨n_11, e_12, hr_13⟩ := iv_aload_n xm_263 xd_263_55 q0 hr_10
      have f_14 := dc_fr (j := 77) ok (rfl : sv_ty 114 = some 12) dt_12 rfl
      obtain ⟨n_15, e_16, hr_17⟩ := iv_getf (j := 77) xm_263 xd_263_56 (by decide +kernel) ok (rfl : sv_ty 114 = some 12) dt_12 f_14 hr_13
      obtain ⟨n_18, e_19, hr_20⟩ := iv_iload_n xm_263 xd_263_59 q3 hr_17
      obtain ⟨q_21, qi_22, n_23, e_24, hr_25⟩ := iv_iald xm_263 xd_263_60 ok (rfl : sv_ty 166 = some 102) dt_102 (by decide) il3 hr_20
      have rr_26 := iv_ireturn xm_263 xd_263_61 hr_25
      subst rr_26
      exact ⟨_, ⟨0 + 1, lm_263_32.mpr (Or.inl ⟨c_7, ⟨q_21, ⟨rfl, rfl⟩⟩⟩)⟩, rfl, qi_22, ok⟩
    · obtain ⟨n_27, e_28, hr_29⟩ := iv_iload_n xm_263 xd_263_38 q3 hr_10
      obtain ⟨n_30, e_31, hr_32⟩ := iv_aload_n xm_263 xd_263_39 q0 hr_29
      have f_33 := dc_fr (j := 77) ok (rfl : sv_ty 114 = some 12) dt_12 rfl
      obtain ⟨n_34, e_35, hr_36⟩ := iv_getf (j := 77) xm_263 xd_263_40 (by decide +kernel) ok (rfl : sv_ty 114 = some 12) dt_12 f_33 hr_32
      obtain ⟨n_37, e_38, hr_39⟩ := iv_iload_n xm_263 xd_263_43 q3 hr_36
      obtain ⟨q_40, qi_41, n_42, e_43, hr_44⟩ := iv_iald xm_263 xd_263_44 ok (rfl : sv_ty 166 = some 102) dt_102 (by decide) il3 hr_39
      obtain ⟨n_45, e_46, hr_47⟩ := iv_iconst xm_263 xd_263_45 (by decide) hr_44
      obtain ⟨n_48, e_49, hr_50⟩ := iv_inot xm_263 xd_263_46 hr_47
      obtain ⟨n_51, e_52, hr_53⟩ := iv_iand xm_263 xd_263_47 hr_50
      obtain ⟨lv_55, sl_54, n_56, e_57, hr_58⟩ := iv_istore_n xm_263 xd_263_48 (by decide +kernel) hr_53
      have l_59 := sl_54.2 0 _ q0 (by decide) (Or.inl rfl)
      have l_60 := sl_54.2 1 _ q1 (by decide) (Or.inl rfl)
      have l_61 := sl_54.2 2 _ q2 (by decide) (Or.inl rfl)
      have l_62 := sl_54.2 4 _ q4 (by decide) (Or.inl rfl)
      have l_63 := sl_54.1
      obtain ⟨lv_65, sl_64, n_66, e_67, hr_68⟩ := iw_iinc xm_263 xd_263_49 (by decide +kernel) (by decide) l_62 hr_58
      have l_69 := sl_64.2 0 _ l_59 (by decide) (Or.inl rfl)
      have l_70 := sl_64.2 1 _ l_60 (by decide) (Or.inl rfl)
      have l_71 := sl_64.2 2 _ l_61 (by decide) (Or.inl rfl)
      have l_72 := sl_64.2 3 _ l_63 (by decide) (Or.inl rfl)
      have l_73 := sl_64.1
      obtain ⟨n_74, e_75, hr_76⟩ := iv_goto 32 xm_263 xd_263_52 (by decide) hr_68
      obtain ⟨v, ⟨c, hL⟩, e1, e2, e3⟩ := ih0 _ lv_65 h _ _ _ _ (by omega) ok il2 (sv_g_I (Nat.lt_of_le_of_lt Nat.and_le_right (sv_u_lt _))) (dc_w_I _) l_69 l_70 l_71 l_72 l_73 hr_76
      exact ⟨v, ⟨c + 1, lm_263_32.mpr (Or.inr ⟨c_7, ⟨q_40, hL⟩⟩)⟩, e1, e2, e3⟩
abbrev D_263 (x0 : Int) (m : dc_M) (v : Int) (m' : dc_M) : Prop := ∃ v_82 m_87, D_261 m v_82 m_87 ∧ (∃ v_118 m_123, D_188 x0 0 ((dc_w (v_82 - 1))) m_87 v_118 m_123 ∧ ((((v_118 : Int) ≠ 0 ∧ ((0 ≤ (0 : Int) ∧ (0 : Int) < 2) ∧ (∃ c, LM_263 x0 c 32 v_82 (dc_w ((sv_g (ae_shl (sv_u 1) (sv_u (m_123 155 0)))) - 1)) 0 m_123 v m'))) ∨ (¬ ((v_118 : Int) ≠ 0) ∧ (v = (-1) ∧ m' = m_123)))))
theorem ds_263 (n : Nat) (x0 : Int) {h : ae_H} {r : ae_R} (ok : dc_ok h) (ix0 : sv_I x0) (hr : ae_exe n 263 0 0 0 (ae_args [wk_r 114, wk_i x0] 0) [] h = some r) : ∃ v, D_263 x0 (dc_m h) v (dc_m r.2) ∧ r.1 = some (wk_i v) ∧ sv_I v ∧ dc_ok r.2 := by
  have q0 : ae_lk (ae_args [wk_r 114, wk_i x0] 0) 0 = some (wk_r 114) := rfl
  have q1 : ae_lk (ae_args [wk_r 114, wk_i x0] 0) 1 = some (wk_i x0) := rfl
  obtain ⟨n_77, e_78, hr_79⟩ := iv_aload_n xm_263 xd_263_0 q0 hr
  obtain ⟨n_89, r_80, e_90, hc_81, hr_91⟩ := iv_call (Or.inr ⟨rfl, rfl⟩) xm_263 xd_263_1 (by decide +kernel) xm_261 rfl (by decide +kernel) hr_79
  obtain ⟨v_82, d_83, er_84, iv_85, ok_86⟩ := ds_261 _  ok hc_81
  obtain ⟨_, h_88⟩ := r_80
  have er_84 : _ = some (wk_i v_82) := er_84
  subst er_84
  have hr_92 : ae_exe n_89 263 (1 + 3) 0 0 (ae_args [wk_r 114, wk_i x0] 0) _ h_88 = some r := hr_91
  obtain ⟨lv_94, sl_93, n_95, e_96, hr_97⟩ := iv_istore_n xm_263 xd_263_4 (by decide +kernel) hr_92
  have l_98 := sl_93.2 0 _ q0 (by decide) (Or.inl rfl)
  have l_99 := sl_93.2 1 _ q1 (by decide) (Or.inl rfl)
  have l_100 := sl_93.1
  obtain ⟨n_101, e_102, hr_103⟩ := iv_iload_n xm_263 xd_263_5 l_99 hr_97
  obtain ⟨n_104, e_105, hr_106⟩ := iv_iconst xm_263 xd_263_6 (by decide) hr_103
  obtain ⟨n_107, e_108, hr_109⟩ := iv_iload_n xm_263 xd_263_7 l_100 hr_106
  obtain ⟨n_110, e_111, hr_112⟩ := iv_iconst xm_263 xd_263_8 (by decide) hr_109
  obtain ⟨n_113, e_114, hr_115⟩ := iw_isub xm_263 xd_263_9 hr_112
  obtain ⟨n_125, r_116, e_126, hc_117, hr_127⟩ := iv_call (Or.inl ⟨rfl, rfl⟩) xm_263 xd_263_10 (by decide +kernel) xm_188 rfl (by decide +kernel) hr_115
  obtain ⟨v_118, d_119, er_120, iv_121, ok_122⟩ := ds_188 _ _ _ _ ok_86 ix0 (by unfold sv_I; omega) (dc_w_I _) hc_117
  obtain ⟨_, h_124⟩ := r_116
  have er_120 : _ = some (wk_i v_118) := er_120
  subst er_120
  have hr_128 : ae_exe n_125 263 (10 + 3) 0 0 lv_94 _ h_124 = some r := hr_127
  rcases iv_if 18 xm_263 xd_263_13 (by decide) iv_121 hr_128 with ⟨c_129, n_130, e_131, hr_132⟩ | ⟨c_129, n_130, e_131, hr_132⟩
  · obtain ⟨n_133, e_134, hr_135⟩ := iv_iconst xm_263 xd_263_18 (by decide) hr_132
    obtain ⟨n_136, e_137, hr_138⟩ := iv_aload_n xm_263 xd_263_19 l_98 hr_135
    have f_139 := dc_fr (j := 66) ok_122 (rfl : sv_ty 114 = some 12) dt_12 rfl
    obtain ⟨n_140, e_141, hr_142⟩ := iv_getf (j := 66) xm_263 xd_263_20 (by decide +kernel) ok_122 (rfl : sv_ty 114 = some 12) dt_12 f_139 hr_138
    obtain ⟨n_143, e_144, hr_145⟩ := iv_iconst xm_263 xd_263_23 (by decide) hr_142
    obtain ⟨q_146, qi_147, n_148, e_149, hr_150⟩ := iv_iald xm_263 xd_263_24 ok_122 (rfl : sv_ty 155 = some 92) dt_92 (by decide) (by unfold sv_I; omega) hr_145
    obtain ⟨n_151, e_152, hr_153⟩ := iv_ibin (f := ae_shl) (Or.inr (Or.inl ⟨rfl, rfl⟩)) (Nat.mod_lt _ (by decide)) xm_263 xd_263_25 hr_150
    obtain ⟨n_154, e_155, hr_156⟩ := iv_iconst xm_263 xd_263_26 (by decide) hr_153
    obtain ⟨n_157, e_158, hr_159⟩ := iw_isub xm_263 xd_263_27 hr_156
    obtain ⟨lv_161, sl_160, n_162, e_163, hr_164⟩ := iv_istore_n xm_263 xd_263_28 (by decide +kernel) hr_159
    have l_165 := sl_160.2 0 _ l_98 (by decide) (Or.inl rfl)
    have l_166 := sl_160.2 1 _ l_99 (by decide) (Or.inl rfl)
    have l_167 := sl_160.2 2 _ l_100 (by decide) (Or.inl rfl)
    have l_168 := sl_160.1
    obtain ⟨n_169, e_170, hr_171⟩ := iv_iconst xm_263 xd_263_29 (by decide) hr_164
    obtain ⟨lv_173, sl_172, n_174, e_175, hr_176⟩ := iv_istore xm_263 xd_263_30 (by decide +kernel) hr_171
    have l_177 := sl_172.2 0 _ l_165 (by decide) (Or.inl rfl)
    have l_178 := sl_172.2 1 _ l_166 (by decide) (Or.inl rfl)
    have l_179 := sl_172.2 2 _ l_167 (by decide) (Or.inl rfl)
    have l_180 := sl_172.2 3 _ l_168 (by decide) (Or.inl rfl)
    have l_181 := sl_172.1
    obtain ⟨v, ⟨c, hL⟩, e1, e2, e3⟩ := (dl_263 ix0 _) _ lv_173 h_124 _ _ _ _ (Nat.le_refl _) ok_122 iv_85 (dc_w_I _) (by unfold sv_I; omega) l_177 l_178 l_179 l_180 l_181 hr_176
    exact ⟨v, ⟨_, _, d_83, ⟨_, _, d_119, Or.inl ⟨c_129, ⟨q_146, ⟨_, hL⟩⟩⟩⟩⟩, e1, e2, e3⟩
  · obtain ⟨n_182, e_183, hr_184⟩ := iv_iconst xm_263 xd_263_16 (by decide) hr_132
    have rr_185 := iv_ireturn xm_263 xd_263_17 hr_184
    subst rr_185
    exact ⟨_, ⟨_, _, d_83, ⟨_, _, d_119, Or.inr ⟨c_129, ⟨rfl, rfl⟩⟩⟩⟩, rfl, (by unfold sv_I; omega), ok_122⟩
/-! method 264 -/
theorem xm_264 : ae_m 264 = some (wk_M 264) := rfl
theorem xd_264_0 : decode (wk_M 264).2.2.1 0 = .ok (.aload_n 0, 1) := zd_by (by decide +kernel)
theorem xd_264_1 : decode (wk_M 264).2.2.1 1 = .ok (.iconst 0, 1) := zd_by (by decide +kernel)
theorem xd_264_2 : decode (wk_M 264).2.2.1 2 = .ok (.putfield 190, 3) := zd_by (by decide +kernel)
theorem xd_264_5 : decode (wk_M 264).2.2.1 5 = .ok (.aload_n 0, 1) := zd_by (by decide +kernel)
theorem xd_264_6 : decode (wk_M 264).2.2.1 6 = .ok (.iload_n 1, 1) := zd_by (by decide +kernel)
theorem xd_264_7 : decode (wk_M 264).2.2.1 7 = .ok (.invokevirtual 515, 3) := zd_by (by decide +kernel)
theorem xd_264_10 : decode (wk_M 264).2.2.1 10 = .ok (.ireturn, 1) := zd_by (by decide +kernel)
abbrev D_264 (x0 : Int) (m : dc_M) (v : Int) (m' : dc_M) : Prop := ∃ m_10, m_10 = dc_up m 114 0 0 ∧ (∃ v_22 m_27, D_263 x0 m_10 v_22 m_27 ∧ (v = v_22 ∧ m' = m_27))
theorem ds_264 (n : Nat) (x0 : Int) {h : ae_H} {r : ae_R} (ok : dc_ok h) (ix0 : sv_I x0) (hr : ae_exe n 264 0 0 0 (ae_args [wk_r 114, wk_i x0] 0) [] h = some r) : ∃ v, D_264 x0 (dc_m h) v (dc_m r.2) ∧ r.1 = some (wk_i v) ∧ sv_I v ∧ dc_ok r.2 := by
  have q0 : ae_lk (ae_args [wk_r 114, wk_i x0] 0) 0 = some (wk_r 114) := rfl
  have q1 : ae_lk (ae_args [wk_r 114, wk_i x0] 0) 1 = some (wk_i x0) := rfl
  obtain ⟨n_1, e_2, hr_3⟩ := iv_aload_n xm_264 xd_264_0 q0 hr
  obtain ⟨n_4, e_5, hr_6⟩ := iv_iconst xm_264 xd_264_1 (by decide) hr_3
  obtain ⟨h_7, ok_8, em_9, n_11, e_12, hr_13⟩ := iv_puti (j := 0) (fk := 0) xm_264 xd_264_2 (by decide +kernel) ok (rfl : sv_ty 114 = some 12) dt_12 rfl (by decide +kernel) rfl (by unfold sv_I; omega) hr_6
  obtain ⟨n_14, e_15, hr_16⟩ := iv_aload_n xm_264 xd_264_5 q0 hr_13
  obtain ⟨n_17, e_18, hr_19⟩ := iv_iload_n xm_264 xd_264_6 q1 hr_16
  obtain ⟨n_29, r_20, e_30, hc_21, hr_31⟩ := iv_call (Or.inr ⟨rfl, rfl⟩) xm_264 xd_264_7 (by decide +kernel) xm_263 rfl (by decide +kernel) hr_19
  obtain ⟨v_22, d_23, er_24, iv_25, ok_26⟩ := ds_263 _ _ ok_8 ix0 hc_21
  obtain ⟨_, h_28⟩ := r_20
  have er_24 : _ = some (wk_i v_22) := er_24
  subst er_24
  have hr_32 : ae_exe n_29 264 (7 + 3) 0 0 (ae_args [wk_r 114, wk_i x0] 0) _ h_28 = some r := hr_31
  have rr_33 := iv_ireturn xm_264 xd_264_10 hr_32
  subst rr_33
  exact ⟨_, ⟨_, em_9, ⟨_, _, d_23, ⟨rfl, rfl⟩⟩⟩, rfl, iv_25, ok_26⟩
/-! method 265 -/
theorem xm_265 : ae_m 265 = some (wk_M 265) := rfl
theorem xd_265_0 : decode (wk_M 265).2.2.1 0 = .ok (.aload_n 0, 1) := zd_by (by decide +kernel)
theorem xd_265_1 : decode (wk_M 265).2.2.1 1 = .ok (.iconst 0, 1) := zd_by (by decide +kernel)
theorem xd_265_2 : decode (wk_M 265).2.2.1 2 = .ok (.putfield 190, 3) := zd_by (by decide +kernel)
theorem xd_265_5 : decode (wk_M 265).2.2.1 5 = .ok (.aload_n 0, 1) := zd_by (by decide +kernel)
theorem xd_265_6 : decode (wk_M 265).2.2.1 6 = .ok (.iload_n 1, 1) := zd_by (by decide +kernel)
theorem xd_265_7 : decode (wk_M 265).2.2.1 7 = .ok (.invokevirtual 515, 3) := zd_by (by decide +kernel)
theorem xd_265_10 : decode (wk_M 265).2.2.1 10 = .ok (.istore_n 2, 1) := zd_by (by decide +kernel)
theorem xd_265_11 : decode (wk_M 265).2.2.1 11 = .ok (.iload_n 2, 1) := zd_by (by decide +kernel)
theorem xd_265_12 : decode (wk_M 265).2.2.1 12 = .ok (.ifCond .ge 5, 3) := zd_by (by decide +kernel)
theorem xd_265_15 : decode (wk_M 265).2.2.1 15 = .ok (.iconst (-1), 1) := zd_by (by decide +kernel)
theorem xd_265_16 : decode (wk_M 265).2.2.1 16 = .ok (.ireturn, 1) := zd_by (by decide +kernel)
theorem xd_265_17 : decode (wk_M 265).2.2.1 17 = .ok (.aload_n 0, 1) := zd_by (by decide +kernel)
theorem xd_265_18 : decode (wk_M 265).2.2.1 18 = .ok (.iload_n 2, 1) := zd_by (by decide +kernel)
theorem xd_265_19 : decode (wk_M 265).2.2.1 19 = .ok (.invokevirtual 509, 3) := zd_by (by decide +kernel)
theorem xd_265_22 : decode (wk_M 265).2.2.1 22 = .ok (.pop, 1) := zd_by (by decide +kernel)
theorem xd_265_23 : decode (wk_M 265).2.2.1 23 = .ok (.aload_n 0, 1) := zd_by (by decide +kernel)
theorem xd_265_24 : decode (wk_M 265).2.2.1 24 = .ok (.getfield 26, 3) := zd_by (by decide +kernel)
theorem xd_265_27 : decode (wk_M 265).2.2.1 27 = .ok (.iconst 0, 1) := zd_by (by decide +kernel)
theorem xd_265_28 : decode (wk_M 265).2.2.1 28 = .ok (.aload_n 0, 1) := zd_by (by decide +kernel)
theorem xd_265_29 : decode (wk_M 265).2.2.1 29 = .ok (.getfield 491, 3) := zd_by (by decide +kernel)
theorem xd_265_32 : decode (wk_M 265).2.2.1 32 = .ok (.iastore, 1) := zd_by (by decide +kernel)
theorem xd_265_33 : decode (wk_M 265).2.2.1 33 = .ok (.iconst 0, 1) := zd_by (by decide +kernel)
theorem xd_265_34 : decode (wk_M 265).2.2.1 34 = .ok (.istore_n 3, 1) := zd_by (by decide +kernel)
theorem xd_265_35 : decode (wk_M 265).2.2.1 35 = .ok (.iload_n 3, 1) := zd_by (by decide +kernel)
theorem xd_265_36 : decode (wk_M 265).2.2.1 36 = .ok (.aload_n 0, 1) := zd_by (by decide +kernel)
theorem xd_265_37 : decode (wk_M 265).2.2.1 37 = .ok (.getfield 491, 3) := zd_by (by decide +kernel)
theorem xd_265_40 : decode (wk_M 265).2.2.1 40 = .ok (.if_icmp .ge 33, 3) := zd_by (by decide +kernel)
theorem xd_265_43 : decode (wk_M 265).2.2.1 43 = .ok (.aload_n 0, 1) := zd_by (by decide +kernel)
theorem xd_265_44 : decode (wk_M 265).2.2.1 44 = .ok (.getfield 20, 3) := zd_by (by decide +kernel)
theorem xd_265_47 : decode (wk_M 265).2.2.1 47 = .ok (.iload_n 3, 1) := zd_by (by decide +kernel)
theorem xd_265_48 : decode (wk_M 265).2.2.1 48 = .ok (.aload_n 0, 1) := zd_by (by decide +kernel)
theorem xd_265_49 : decode (wk_M 265).2.2.1 49 = .ok (.getfield 151, 3) := zd_by (by decide +kernel)
theorem xd_265_52 : decode (wk_M 265).2.2.1 52 = .ok (.iload_n 3, 1) := zd_by (by decide +kernel)
theorem xd_265_53 : decode (wk_M 265).2.2.1 53 = .ok (.iaload, 1) := zd_by (by decide +kernel)
theorem xd_265_54 : decode (wk_M 265).2.2.1 54 = .ok (.iastore, 1) := zd_by (by decide +kernel)
theorem xd_265_55 : decode (wk_M 265).2.2.1 55 = .ok (.aload_n 0, 1) := zd_by (by decide +kernel)
theorem xd_265_56 : decode (wk_M 265).2.2.1 56 = .ok (.getfield 23, 3) := zd_by (by decide +kernel)
theorem xd_265_59 : decode (wk_M 265).2.2.1 59 = .ok (.iload_n 3, 1) := zd_by (by decide +kernel)
theorem xd_265_60 : decode (wk_M 265).2.2.1 60 = .ok (.aload_n 0, 1) := zd_by (by decide +kernel)
theorem xd_265_61 : decode (wk_M 265).2.2.1 61 = .ok (.getfield 154, 3) := zd_by (by decide +kernel)
theorem xd_265_64 : decode (wk_M 265).2.2.1 64 = .ok (.iload_n 3, 1) := zd_by (by decide +kernel)
theorem xd_265_65 : decode (wk_M 265).2.2.1 65 = .ok (.iaload, 1) := zd_by (by decide +kernel)
theorem xd_265_66 : decode (wk_M 265).2.2.1 66 = .ok (.iastore, 1) := zd_by (by decide +kernel)
theorem xd_265_67 : decode (wk_M 265).2.2.1 67 = .ok (.iinc 3 1, 3) := zd_by (by decide +kernel)
theorem xd_265_70 : decode (wk_M 265).2.2.1 70 = .ok (.goto (-35), 3) := zd_by (by decide +kernel)
theorem xd_265_73 : decode (wk_M 265).2.2.1 73 = .ok (.aload_n 0, 1) := zd_by (by decide +kernel)
theorem xd_265_74 : decode (wk_M 265).2.2.1 74 = .ok (.getfield 491, 3) := zd_by (by decide +kernel)
theorem xd_265_77 : decode (wk_M 265).2.2.1 77 = .ok (.ireturn, 1) := zd_by (by decide +kernel)
def LM_265 (x0 : Int) : Nat → Nat → Int → Int → dc_M → Int → dc_M → Prop
  | 0, _, _, _, _, _, _ => False
  | c + 1, tag, l2, l3, m, v, m' => match tag with
    | _ => (((l3 : Int) ≥ (m 114 79) ∧ (v = (m 114 79) ∧ m' = m)) ∨ (¬ ((l3 : Int) ≥ (m 114 79)) ∧ ((0 ≤ (l3 : Int) ∧ (l3 : Int) < 200) ∧ ((0 ≤ (l3 : Int) ∧ (l3 : Int) < 600) ∧ ∃ m_52, m_52 = dc_up m 118 l3 (m 161 l3) ∧ ((0 ≤ (l3 : Int) ∧ (l3 : Int) < 200) ∧ ((0 ≤ (l3 : Int) ∧ (l3 : Int) < 600) ∧ ∃ m_85, m_85 = dc_up m_52 119 l3 (m_52 162 l3) ∧ (LM_265 x0 c 35 l2 (dc_w (l3 + 1)) m_85 v m')))))))
theorem lm_265_35 {x0 : Int} {c : Nat} {l2 : Int} {l3 : Int} {m : dc_M} {v : Int} {m' : dc_M} : LM_265 x0 (c + 1) 35 l2 l3 m v m' ↔ (((l3 : Int) ≥ (m 114 79) ∧ (v = (m 114 79) ∧ m' = m)) ∨ (¬ ((l3 : Int) ≥ (m 114 79)) ∧ ((0 ≤ (l3 : Int) ∧ (l3 : Int) < 200) ∧ ((0 ≤ (l3 : Int) ∧ (l3 : Int) < 600) ∧ ∃ m_52, m_52 = dc_up m 118 l3 (m 161 l3) ∧ ((0 ≤ (l3 : Int) ∧ (l3 : Int) < 200) ∧ ((0 ≤ (l3 : Int) ∧ (l3 : Int) < 600) ∧ ∃ m_85, m_85 = dc_up m_52 119 l3 (m_52 162 l3) ∧ (LM_265 x0 c 35 l2 (dc_w (l3 + 1)) m_85 v m'))))))) := Iff.rfl
theorem dl_265 {x0 : Int} (ix0 : sv_I x0) : ∀ N : Nat, (∀ (n : Nat) (lv : ae_L) (h : ae_H) (r : ae_R) (l2 : Int) (l3 : Int), n ≤ N → dc_ok h → sv_I l2 → sv_I l3 → ae_lk lv 0 = some (wk_r 114) → ae_lk lv 1 = some (wk_i x0) → ae_lk lv 2 = some (wk_i l2) → ae_lk lv 3 = some (wk_i l3) → ae_exe n 265 35 0 0 lv [] h = some r → ∃ v, (∃ c, LM_265 x0 c 35 l2 l3 (dc_m h) v (dc_m r.2)) ∧ r.1 = some (wk_i v) ∧ sv_I v ∧ dc_ok r.2) := by
  intro N
  induction N with
  | zero =>
    exact fun n lv h r l2 l3 hn ok il2 il3 q0 q1 q2 q3 hr => by
      have e : n = 0 := by omega
      subst e
      cases hr
  | succ N ih =>
    have ih0 := ih
    intro n lv h r l2 l3 hn ok il2 il3 q0 q1 q2 q3 hr
    obtain ⟨n_1, e_2, hr_3⟩ := iv_iload_n xm_265 xd_265_35 q3 hr
    obtain ⟨n_4, e_5, hr_6⟩ := iv_aload_n xm_265 xd_265_36 q0 hr_3
    have f_7 := dc_fi (j := 79) ok (rfl : sv_ty 114 = some 12) dt_12 rfl
    obtain ⟨n_8, e_9, hr_10⟩ := iv_getf (j := 79) xm_265 xd_265_37 (by decide +kernel) ok (rfl : sv_ty 114 = some 12) dt_12 f_7.1 hr_6
    rcases iv_icmp 73 xm_265 xd_265_40 (by decide) il3 f_7.2 hr_10 with ⟨c_11, n_12, e_13, hr_14⟩ | ⟨c_11, n_12, e_13, hr_14⟩
    · obtain ⟨n_15, e_16, hr_17⟩ := iv_aload_n xm_265 xd_265_73 q0 hr_14
      have f_18 := dc_fi (j := 79) ok (rfl : sv_ty 114 = some 12) dt_12 rfl
      obtain ⟨n_19, e_20, hr_21⟩ := iv_getf (j := 79) xm_265 xd_265_74 (by decide +kernel) ok (rfl : sv_ty 114 = some 12) dt_12 f_18.1 hr_17
      have rr_22 := iv_ireturn xm_265 xd_265_77 hr_21
      subst rr_22
      exact ⟨_, ⟨0 + 1, lm_265_35.mpr (Or.inl ⟨c_11, ⟨rfl, rfl⟩⟩)⟩, rfl, f_18.2, ok⟩
    · obtain ⟨n_23, e_24, hr_25⟩ := iv_aload_n xm_265 xd_265_43 q0 hr_14
      have f_26 := dc_fr (j := 15) ok (rfl : sv_ty 114 = some 12) dt_12 rfl
      obtain ⟨n_27, e_28, hr_29⟩ := iv_getf (j := 15) xm_265 xd_265_44 (by decide +kernel) ok (rfl : sv_ty 114 = some 12) dt_12 f_26 hr_25
      obtain ⟨n_30, e_31, hr_32⟩ := iv_iload_n xm_265 xd_265_47 q3 hr_29
      obtain ⟨n_33, e_34, hr_35⟩ := iv_aload_n xm_265 xd_265_48 q0 hr_32
      have f_36 := dc_fr (j := 72) ok (rfl : sv_ty 114 = some 12) dt_12 rfl
      obtain ⟨n_37, e_38, hr_39⟩ := iv_getf (j := 72) xm_265 xd_265_49 (by decide +kernel) ok (rfl : sv_ty 114 = some 12) dt_12 f_36 hr_35
      obtain ⟨n_40, e_41, hr_42⟩ := iv_iload_n xm_265 xd_265_52 q3 hr_39
      obtain ⟨q_43, qi_44, n_45, e_46, hr_47⟩ := iv_iald xm_265 xd_265_53 ok (rfl : sv_ty 161 = some 98) dt_98 (by decide) il3 hr_42
      obtain ⟨q_48, h_49, ok_50, em_51, n_53, e_54, hr_55⟩ := iv_iast xm_265 xd_265_54 ok (rfl : sv_ty 118 = some 63) dt_63 (by decide) il3 qi_44 hr_47
      obtain ⟨n_56, e_57, hr_58⟩ := iv_aload_n xm_265 xd_265_55 q0 hr_55
      have f_59 := dc_fr (j := 16) ok_50 (rfl : sv_ty 114 = some 12) dt_12 rfl
      obtain ⟨n_60, e_61, hr_62⟩ := iv_getf (j := 16) xm_265 xd_265_56 (by decide +kernel) ok_50 (rfl : sv_ty 114 = some 12) dt_12 f_59 hr_58
      obtain ⟨n_63, e_64, hr_65⟩ := iv_iload_n xm_265 xd_265_59 q3 hr_62
      obtain ⟨n_66, e_67, hr_68⟩ := iv_aload_n xm_265 xd_265_60 q0 hr_65
      have f_69 := dc_fr (j := 73) ok_50 (rfl : sv_ty 114 = some 12) dt_12 rfl
      obtain ⟨n_70, e_71, hr_72⟩ := iv_getf (j := 73) xm_265 xd_265_61 (by decide +kernel) ok_50 (rfl : sv_ty 114 = some 12) dt_12 f_69 hr_68
      obtain ⟨n_73, e_74, hr_75⟩ := iv_iload_n xm_265 xd_265_64 q3 hr_72
      obtain ⟨q_76, qi_77, n_78, e_79, hr_80⟩ := iv_iald xm_265 xd_265_65 ok_50 (rfl : sv_ty 162 = some 98) dt_98 (by decide) il3 hr_75
      obtain ⟨q_81, h_82, ok_83, em_84, n_86, e_87, hr_88⟩ := iv_iast xm_265 xd_265_66 ok_50 (rfl : sv_ty 119 = some 63) dt_63 (by decide) il3 qi_77 hr_80
      obtain ⟨lv_90, sl_89, n_91, e_92, hr_93⟩ := iw_iinc xm_265 xd_265_67 (by decide +kernel) (by decide) q3 hr_88
      have l_94 := sl_89.2 0 _ q0 (by decide) (Or.inl rfl)
      have l_95 := sl_89.2 1 _ q1 (by decide) (Or.inl rfl)
      have l_96 := sl_89.2 2 _ q2 (by decide) (Or.inl rfl)
      have l_97 := sl_89.1
      obtain ⟨n_98, e_99, hr_100⟩ := iv_goto 35 xm_265 xd_265_70 (by decide) hr_93
      obtain ⟨v, ⟨c, hL⟩, e1, e2, e3⟩ := ih0 _ lv_90 h_82 _ _ _ (by omega) ok_83 il2 (dc_w_I _) l_94 l_95 l_96 l_97 hr_100
      exact ⟨v, ⟨c + 1, lm_265_35.mpr (Or.inr ⟨c_11, ⟨q_43, ⟨q_48, _, em_51, ⟨q_76, ⟨q_81, _, em_84, hL⟩⟩⟩⟩⟩)⟩, e1, e2, e3⟩
abbrev D_265 (x0 : Int) (m : dc_M) (v : Int) (m' : dc_M) : Prop := ∃ m_110, m_110 = dc_up m 114 0 0 ∧ (∃ v_122 m_127, D_263 x0 m_110 v_122 m_127 ∧ ((((v_122 : Int) ≥ 0 ∧ (∃ v_156 m_161, D_259 v_122 m_127 v_156 m_161 ∧ ((0 ≤ (0 : Int) ∧ (0 : Int) < 10) ∧ ∃ m_191, m_191 = dc_up m_161 120 0 (m_161 114 79) ∧ (∃ c, LM_265 x0 c 35 v_122 0 m_191 v m')))) ∨ (¬ ((v_122 : Int) ≥ 0) ∧ (v = (-1) ∧ m' = m_127)))))
theorem ds_265 (n : Nat) (x0 : Int) {h : ae_H} {r : ae_R} (ok : dc_ok h) (ix0 : sv_I x0) (hr : ae_exe n 265 0 0 0 (ae_args [wk_r 114, wk_i x0] 0) [] h = some r) : ∃ v, D_265 x0 (dc_m h) v (dc_m r.2) ∧ r.1 = some (wk_i v) ∧ sv_I v ∧ dc_ok r.2 := by
  have q0 : ae_lk (ae_args [wk_r 114, wk_i x0] 0) 0 = some (wk_r 114) := rfl
  have q1 : ae_lk (ae_args [wk_r 114, wk_i x0] 0) 1 = some (wk_i x0) := rfl
  obtain ⟨n_101, e_102, hr_103⟩ := iv_aload_n xm_265 xd_265_0 q0 hr
  obtain ⟨n_104, e_105, hr_106⟩ := iv_iconst xm_265 xd_265_1 (by decide) hr_103
  obtain ⟨h_107, ok_108, em_109, n_111, e_112, hr_113⟩ := iv_puti (j := 0) (fk := 0) xm_265 xd_265_2 (by decide +kernel) ok (rfl : sv_ty 114 = some 12) dt_12 rfl (by decide +kernel) rfl (by unfold sv_I; omega) hr_106
  obtain ⟨n_114, e_115, hr_116⟩ := iv_aload_n xm_265 xd_265_5 q0 hr_113
  obtain ⟨n_117, e_118, hr_119⟩ := iv_iload_n xm_265 xd_265_6 q1 hr_116
  obtain ⟨n_129, r_120, e_130, hc_121, hr_131⟩ := iv_call (Or.inr ⟨rfl, rfl⟩) xm_265 xd_265_7 (by decide +kernel) xm_263 rfl (by decide +kernel) hr_119
  obtain ⟨v_122, d_123, er_124, iv_125, ok_126⟩ := ds_263 _ _ ok_108 ix0 hc_121
  obtain ⟨_, h_128⟩ := r_120
  have er_124 : _ = some (wk_i v_122) := er_124
  subst er_124
  have hr_132 : ae_exe n_129 265 (7 + 3) 0 0 (ae_args [wk_r 114, wk_i x0] 0) _ h_128 = some r := hr_131
  obtain ⟨lv_134, sl_133, n_135, e_136, hr_137⟩ := iv_istore_n xm_265 xd_265_10 (by decide +kernel) hr_132
  have l_138 := sl_133.2 0 _ q0 (by decide) (Or.inl rfl)
  have l_139 := sl_133.2 1 _ q1 (by decide) (Or.inl rfl)
  have l_140 := sl_133.1
  obtain ⟨n_141, e_142, hr_143⟩ := iv_iload_n xm_265 xd_265_11 l_140 hr_137
  rcases iv_if 17 xm_265 xd_265_12 (by decide) iv_125 hr_143 with ⟨c_144, n_145, e_146, hr_147⟩ | ⟨c_144, n_145, e_146, hr_147⟩
  · obtain ⟨n_148, e_149, hr_150⟩ := iv_aload_n xm_265 xd_265_17 l_138 hr_147
    obtain ⟨n_151, e_152, hr_153⟩ := iv_iload_n xm_265 xd_265_18 l_140 hr_150
    obtain ⟨n_163, r_154, e_164, hc_155, hr_165⟩ := iv_call (Or.inr ⟨rfl, rfl⟩) xm_265 xd_265_19 (by decide +kernel) xm_259 rfl (by decide +kernel) hr_153
    obtain ⟨v_156, d_157, er_158, iv_159, ok_160⟩ := ds_259 _ _ ok_126 iv_125 hc_155
    obtain ⟨_, h_162⟩ := r_154
    have er_158 : _ = some (wk_i v_156) := er_158
    subst er_158
    have hr_166 : ae_exe n_163 265 (19 + 3) 0 0 lv_134 _ h_162 = some r := hr_165
    obtain ⟨n_167, e_168, hr_169⟩ := iv_pop xm_265 xd_265_22 rfl hr_166
    obtain ⟨n_170, e_171, hr_172⟩ := iv_aload_n xm_265 xd_265_23 l_138 hr_169
    have f_173 := dc_fr (j := 17) ok_160 (rfl : sv_ty 114 = some 12) dt_12 rfl
    obtain ⟨n_174, e_175, hr_176⟩ := iv_getf (j := 17) xm_265 xd_265_24 (by decide +kernel) ok_160 (rfl : sv_ty 114 = some 12) dt_12 f_173 hr_172
    obtain ⟨n_177, e_178, hr_179⟩ := iv_iconst xm_265 xd_265_27 (by decide) hr_176
    obtain ⟨n_180, e_181, hr_182⟩ := iv_aload_n xm_265 xd_265_28 l_138 hr_179
    have f_183 := dc_fi (j := 79) ok_160 (rfl : sv_ty 114 = some 12) dt_12 rfl
    obtain ⟨n_184, e_185, hr_186⟩ := iv_getf (j := 79) xm_265 xd_265_29 (by decide +kernel) ok_160 (rfl : sv_ty 114 = some 12) dt_12 f_183.1 hr_182
    obtain ⟨q_187, h_188, ok_189, em_190, n_192, e_193, hr_194⟩ := iv_iast xm_265 xd_265_32 ok_160 (rfl : sv_ty 120 = some 64) dt_64 (by decide) (by unfold sv_I; omega) f_183.2 hr_186
    obtain ⟨n_195, e_196, hr_197⟩ := iv_iconst xm_265 xd_265_33 (by decide) hr_194
    obtain ⟨lv_199, sl_198, n_200, e_201, hr_202⟩ := iv_istore_n xm_265 xd_265_34 (by decide +kernel) hr_197
    have l_203 := sl_198.2 0 _ l_138 (by decide) (Or.inl rfl)
    have l_204 := sl_198.2 1 _ l_139 (by decide) (Or.inl rfl)
    have l_205 := sl_198.2 2 _ l_140 (by decide) (Or.inl rfl)
    have l_206 := sl_198.1
    obtain ⟨v, ⟨c, hL⟩, e1, e2, e3⟩ := (dl_265 ix0 _) _ lv_199 h_188 _ _ _ (Nat.le_refl _) ok_189 iv_125 (by unfold sv_I; omega) l_203 l_204 l_205 l_206 hr_202
    exact ⟨v, ⟨_, em_109, ⟨_, _, d_123, Or.inl ⟨c_144, ⟨_, _, d_157, ⟨q_187, _, em_190, ⟨_, hL⟩⟩⟩⟩⟩⟩, e1, e2, e3⟩
  · obtain ⟨n_207, e_208, hr_209⟩ := iv_iconst xm_265 xd_265_15 (by decide) hr_147
    have rr_210 := iv_ireturn xm_265 xd_265_16 hr_209
    subst rr_210
    exact ⟨_, ⟨_, em_109, ⟨_, _, d_123, Or.inr ⟨c_144, ⟨rfl, rfl⟩⟩⟩⟩, rfl, (by unfold sv_I; omega), ok_126⟩
